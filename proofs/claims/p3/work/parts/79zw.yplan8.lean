/-- the covers' and the table's rows alone may be others -/
def yC8 (τ τ' : yS) : Prop := ∀ a b : Nat, ¬ a = 10 → ¬ a = 11 → τ'.1 a b = τ.1 a b
theorem yC8_r {τ : yS} : yC8 τ τ := fun _ _ _ _ => rfl
theorem yC8_t {τ1 τ2 τ3 : yS} (h : yC8 τ1 τ2) (k : yC8 τ2 τ3) : yC8 τ1 τ3 := fun a b x y => by rw [k a b x y, h a b x y]
theorem yC8_w {τ1 τ2 : yS} {i k : Nat} {z : Int} (h : yC8 τ1 τ2) (hi : i = 10 ∨ i = 11) : yC8 τ1 (yw τ2 i k z) := fun a b x y => by rw [yw_n (by omega), h a b x y]
theorem yRR_c8 {σ τ τ' : yS} (H : yRR σ τ) (C : yC8 τ τ') : yRR σ τ' :=
  yRR_scr H (fun a b _ => rfl) H.2.2.2.2.2.2 (fun a b _ => rfl) (fun a b _ _ h3 h4 _ => C a b h3 h4)
theorem yor16 : ∀ A : Fin 16, ∀ i : Fin 4, ∀ b : Fin 2, 0 ≤ yor ((A.val : Nat) : Int) (ysl ((b.val : Nat) : Int) ((i.val : Nat) : Int)) ∧ yor ((A.val : Nat) : Int) (ysl ((b.val : Nat) : Int) ((i.val : Nat) : Int)) < 16 := by decide +kernel
theorem yor16n {A : Int} {i : Nat} {b : Int} (hA : 0 ≤ A ∧ A < 16) (hi : i < 4) (hb : b = 0 ∨ b = 1) : 0 ≤ yor A (ysl b (i : Int)) ∧ yor A (ysl b (i : Int)) < 16 := by
  obtain ⟨A, rfl⟩ : ∃ n : Nat, A = (n : Int) := ⟨A.toNat, by omega⟩
  rcases hb with rfl | rfl
  · exact yor16 ⟨A, by omega⟩ ⟨i, hi⟩ ⟨0, by decide⟩
  · exact yor16 ⟨A, by omega⟩ ⟨i, hi⟩ ⟨1, by decide⟩
theorem x8_fc28 {N : Nat} (hN : 1000 ≤ N) {σ : yS} {H W v : Nat} (k2 : yS → Int → Option (Int × yS)) (hv : v < 700) (W4 : W ≤ 4) : ∀ (c m i : Nat) (τ : yS), i + c = W → yRR σ τ → τ.1 0 3 = (H : Int) → τ.1 1 118 = (W : Int) → (0 ≤ τ.1 10 v ∧ τ.1 10 v < 16) → ∃ τ' : yS, f_X8_findCovers_b28 N k2 (m + c + 1) τ v ((v / 100 : Nat) : Int) ((v % 5 : Nat) : Int) i = k2 τ' ((v + 1 : Nat) : Int) ∧ (∀ a b : Nat, ¬ (a = 10 ∧ b = v) → τ'.1 a b = τ.1 a b) ∧ (0 ≤ τ'.1 10 v ∧ τ'.1 10 v < 16)
  | 0, m, i, τ, hi, HR, hH, hW, hc => ⟨τ, by
      rw [q_X8_findCovers_b28, ycP_ge, hW, decide_eq_true (by omega), cond_true, yad_e (by omega) (by omega)]; rfl, fun _ _ _ => rfl, hc⟩
  | c + 1, m, i, τ, hi, HR, hH, hW, hc => by
    have ei : yad (i : Int) 1 = ((i + 1 : Nat) : Int) := by rw [yad_e (by omega) (by omega)]; omega
    have iv : yin (v : Int) 700 = true := by rw [yin_d]; exact decide_eq_true (by omega)
    have st : ∀ z : Int, z = 0 ∨ z = 1 → ∃ τ' : yS, f_X8_findCovers_b111 N k2 (f_X8_findCovers_b28 N k2 (m + c + 1)) τ v ((v / 100 : Nat) : Int) ((v % 5 : Nat) : Int) i z = k2 τ' ((v + 1 : Nat) : Int) ∧ (∀ a b : Nat, ¬ (a = 10 ∧ b = v) → τ'.1 a b = τ.1 a b) ∧ (0 ≤ τ'.1 10 v ∧ τ'.1 10 v < 16) := fun z hz => by
      have q := yor16n hc (show i < 4 by omega) hz
      have C1 : yC8 τ (yw τ 10 v (yor (τ.1 10 v) (ysl z (i : Int)))) := yC8_w yC8_r (by omega)
      obtain ⟨τ', g, w, b⟩ := x8_fc28 hN k2 hv W4 c m (i + 1) (yw τ 10 v (yor (τ.1 10 v) (ysl z (i : Int)))) (by omega) (yRR_c8 HR C1) (by rw [yw_n (by omega)]; exact hH) (by rw [yw_n (by omega)]; exact hW) (by rw [yw_p]; exact q)
      refine ⟨τ', ?_, fun a b h => ?_, b⟩
      · unfold f_X8_findCovers_b111
        rw [iv, cond_true, x8_flag (show 0 ≤ z ∧ z ≤ 1 by omega)]
        dsimp only
        rw [Int.toNat_natCast, ei]
        exact g
      · rw [w a b h, yw_n (by omega)]
    have e2 : ymu 2 (i : Int) = 2 * (i : Int) := ymu_e (by omega) (by omega)
    have e3 : yad 119 (2 * (i : Int)) = ((119 + 2 * i : Nat) : Int) := by rw [yad_e (by omega) (by omega)]; omega
    have e4 : yad ((119 + 2 * i : Nat) : Int) 1 = ((120 + 2 * i : Nat) : Int) := by rw [yad_e (by omega) (by omega)]; omega
    have i3 : yin ((119 + 2 * i : Nat) : Int) 393 = true := by rw [yin_d]; exact decide_eq_true (by omega)
    have i4 : yin ((120 + 2 * i : Nat) : Int) 393 = true := by rw [yin_d]; exact decide_eq_true (by omega)
    rw [show m + (c + 1) + 1 = (m + c + 1) + 1 from rfl, q_X8_findCovers_b28, ycP_ge, hW, decide_eq_false (by omega), cond_false, e2, e3, e4, i3, i4, cond_true, cond_true, hH]
    by_cases h1 : (H : Int) ≤ ((v / 100 : Nat) : Int)
    · rw [ycP_ge, decide_eq_true h1, cond_true]
      exact st 0 (Or.inl rfl)
    · rw [ycP_ge, decide_eq_false h1, cond_false]
      cases ycP .ge ((v % 5 : Nat) : Int) (τ.1 0 5) with
      | true => rw [cond_true]; exact st 0 (Or.inl rfl)
      | false =>
        rw [cond_false]
        cases ycP .ne (τ.1 1 ((120 + 2 * i : Nat) : Int).toNat) ((v % 5 : Nat) : Int) with
        | true => rw [cond_true]; exact st 0 (Or.inl rfl)
        | false =>
          rw [cond_false]
          have gw : 0 ≤ τ.1 1 (119 + 2 * i) ∧ τ.1 1 (119 + 2 * i) < τ.1 0 3 := (HR.1.2.2.2.2.2.2.2.2.2.1 i (by show (i : Int) < τ.1 1 118; rw [hW]; omega)).1
          rw [hH] at gw
          obtain ⟨h, eh⟩ : ∃ h : Nat, τ.1 1 (119 + 2 * i) = (h : Int) := ⟨(τ.1 1 (119 + 2 * i)).toNat, by omega⟩
          obtain ⟨S, hS, -, g8⟩ := p_bring (N := N) (by omega) (x := v / 100) (k := v / 20 % 5) (p := v / 5 % 4) (d := v % 5) HR hH (by omega) (by omega) (by omega) (by omega)
          have g9 := g8 h (by omega)
          have ek : yrm (ydv (v : Int) 20) 5 = ((v / 20 % 5 : Nat) : Int) := by
            rw [ydv_e (by omega) (by omega) (by omega) (by omega), yrm_e (by omega) (by omega) (by omega) (by omega)]; omega
          have ep : yrm (ydv (v : Int) 5) 4 = ((v / 5 % 4 : Nat) : Int) := by
            rw [ydv_e (by omega) (by omega) (by omega) (by omega), yrm_e (by omega) (by omega) (by omega) (by omega)]; omega
          rw [ek, ep, Int.toNat_natCast, eh, g9]
          dsimp only
          cases ycP .eq (yan (ysr (S : Int) (h : Int)) 1) 0 with
          | true => rw [cond_true]; exact st 0 (Or.inl rfl)
          | false => rw [cond_false]; exact st 1 (Or.inr rfl)
/-- the covers -/
theorem x8_fc2 {N : Nat} (hN : 1000 ≤ N) {σ : yS} {H W : Nat} (W4 : W ≤ 4) : ∀ (c m v : Nat) (τ : yS), v + c = 700 → yRR σ τ → τ.1 0 3 = (H : Int) → τ.1 1 118 = (W : Int) → (∀ u : Nat, u < v → 0 ≤ τ.1 10 u ∧ τ.1 10 u < 16) → ∃ τ' : yS, f_X8_findCovers_b2 N (m + c + 1) τ v = some (0, τ') ∧ yC8 τ τ' ∧ (∀ u : Nat, u < 700 → 0 ≤ τ'.1 10 u ∧ τ'.1 10 u < 16)
  | 0, m, v, τ, hv, HR, hH, hW, hc => ⟨τ, by rw [q_X8_findCovers_b2, ycP_ge, decide_eq_true (by omega), cond_true], yC8_r, fun u hu => hc u (by omega)⟩
  | c + 1, m, v, τ, hv, HR, hH, hW, hc => by
    have iv : yin (v : Int) 700 = true := by rw [yin_d]; exact decide_eq_true (by omega)
    have C1 : yC8 τ (yw τ 10 v 0) := yC8_w yC8_r (by omega)
    obtain ⟨τ1, g1, w1, b1⟩ := x8_fc28 (N := N) (H := H) hN (f_X8_findCovers_b2 N (m + c + 1)) (show v < 700 by omega) W4 W (N - W - 1) 0 (yw τ 10 v 0) (by omega) (yRR_c8 HR C1) (by rw [yw_n (by omega)]; exact hH) (by rw [yw_n (by omega)]; exact hW) (by rw [yw_p]; decide)
    rw [show N - W - 1 + W + 1 = N by omega] at g1
    have C2 : yC8 τ τ1 := yC8_t C1 (fun a b h _ => w1 a b (by omega))
    obtain ⟨τ', g, C, b⟩ := x8_fc2 hN W4 c m (v + 1) τ1 (by omega) (yRR_c8 HR C2) (by rw [C2 _ _ (by omega) (by omega)]; exact hH) (by rw [C2 _ _ (by omega) (by omega)]; exact hW) (fun u hu => by
      by_cases e : u = v
      · subst e; exact b1
      · rw [w1 10 u (by omega), yw_n (by omega)]; exact hc u (by omega))
    refine ⟨τ', ?_, yC8_t C2 C, b⟩
    have ex : ydv (v : Int) 100 = ((v / 100 : Nat) : Int) := by
      rw [ydv_e (by omega) (by omega) (by omega) (by omega)]; omega
    have ed : yrm (v : Int) 5 = ((v % 5 : Nat) : Int) := by
      rw [yrm_e (by omega) (by omega) (by omega) (by omega)]; omega
    rw [show m + (c + 1) + 1 = (m + c + 1) + 1 from rfl, q_X8_findCovers_b2, ycP_ge, decide_eq_false (by omega), cond_false, iv, cond_true, Int.toNat_natCast, ex, ed]
    exact g1.trans g
/-- a place of the table is as its rule says -/
def yFe (τ : yS) (v l : Nat) : Prop := (0 ≤ τ.1 11 (16 * v + l) ∧ τ.1 11 (16 * v + l) ≤ 1000000) ∧ (v = 700 → τ.1 11 (16 * v + l) = 0 ∨ τ.1 11 (16 * v + l) = 1000000) ∧ (v < 700 → τ.1 11 (16 * v + l) = 1000000 ∨ τ.1 11 (16 * v + l) = τ.1 11 (16 * (v + 1) + l) ∨ (¬ τ.1 10 v = 0 ∧ τ.1 11 (16 * v + l) = τ.1 11 (16 * (v + 1) + (yan (l : Int) (yxo (τ.1 10 v) (-1))).toNat) + 1))
theorem yFe_fr {τ τ' : yS} {v l : Nat} (hl : l < 16) (c : ∀ b : Nat, τ'.1 10 b = τ.1 10 b) (b16 : v < 700 → 0 ≤ τ.1 10 v ∧ τ.1 10 v < 16) (h : ∀ b : Nat, 16 * v + l ≤ b → τ'.1 11 b = τ.1 11 b) (F : yFe τ v l) : yFe τ' v l := by
  unfold yFe at F ⊢
  rw [h _ (Nat.le_refl _), h (16 * (v + 1) + l) (by omega), h (16 * (v + 1) + (yan (l : Int) (yxo (τ'.1 10 v) (-1))).toNat) (by omega), c]
  exact F
theorem x8_ff14 {N v : Nat} (hN : 1000 ≤ N) (k8 : yS → Int → Option (Int × yS)) (hv : v ≤ 700) : ∀ (c m l : Nat) (τ : yS), l + c = 16 → (∀ u : Nat, u < 700 → 0 ≤ τ.1 10 u ∧ τ.1 10 u < 16) → (∀ u j : Nat, v < u → u ≤ 700 → j < 16 → yFe τ u j) → (∀ j : Nat, j < l → yFe τ v j) → ∃ τ' : yS, f_X8_findFewest_b14 N k8 (m + c + 1) τ v l = k8 τ' ((v : Int) - 1) ∧ (∀ a b : Nat, ¬ a = 11 → τ'.1 a b = τ.1 a b) ∧ (∀ u j : Nat, v ≤ u → u ≤ 700 → j < 16 → yFe τ' u j)
  | 0, m, l, τ, hl, hc, hu, hj => ⟨τ, by
      rw [q_X8_findFewest_b14, ycP_ge, decide_eq_true (by omega), cond_true, yad_e (by omega) (by omega)]; rfl, fun _ _ _ => rfl, fun u j h1 h2 h3 => by
      by_cases e : u = v
      · subst e; exact hj j (by omega)
      · exact hu u j (by omega) h2 h3⟩
  | c + 1, m, l, τ, hl, hc, hu, hj => by
    have el : yad (l : Int) 1 = ((l + 1 : Nat) : Int) := by rw [yad_e (by omega) (by omega)]; omega
    have e1 : ymu 16 (v : Int) = 16 * (v : Int) := ymu_e (by omega) (by omega)
    have e2 : yad (16 * (v : Int)) (l : Int) = ((16 * v + l : Nat) : Int) := by rw [yad_e (by omega) (by omega)]; omega
    have i2 : yin ((16 * v + l : Nat) : Int) 11216 = true := by rw [yin_d]; exact decide_eq_true (by omega)
    -- a number that is as the rule says is written
    have st : ∀ z : Int, (0 ≤ z ∧ z ≤ 1000001) → (v = 700 → z = 0 ∨ z = 1000000) → (v < 700 → z = 1000000 ∨ z = τ.1 11 (16 * (v + 1) + l) ∨ (¬ τ.1 10 v = 0 ∧ z = τ.1 11 (16 * (v + 1) + (yan (l : Int) (yxo (τ.1 10 v) (-1))).toNat) + 1)) → ∃ τ' : yS, f_X8_findFewest_b104 N k8 (f_X8_findFewest_b14 N k8 (m + c + 1)) τ v l z = k8 τ' ((v : Int) - 1) ∧ (∀ a b : Nat, ¬ a = 11 → τ'.1 a b = τ.1 a b) ∧ (∀ u j : Nat, v ≤ u → u ≤ 700 → j < 16 → yFe τ' u j) := fun z hz h700 hr => by
      obtain ⟨y, hy, ey⟩ : ∃ y : Int, (y = z ∧ z ≤ 1000000 ∨ y = 1000000 ∧ ¬ z ≤ 1000000) ∧ f_X8_findFewest_b104 N k8 (f_X8_findFewest_b14 N k8 (m + c + 1)) τ v l z = f_X8_findFewest_b128 N k8 (f_X8_findFewest_b14 N k8 (m + c + 1)) τ v l y ((16 * v + l : Nat) : Int) := by
        unfold f_X8_findFewest_b104
        rw [e1, e2]
        by_cases q : z ≤ 1000000
        · exact ⟨z, Or.inl ⟨rfl, q⟩, by rw [ycP_le, decide_eq_true q, cond_true]⟩
        · exact ⟨1000000, Or.inr ⟨rfl, q⟩, by rw [ycP_le, decide_eq_false q, cond_false]⟩
      have w16 : ∀ b : Nat, 16 * v + l < b → (yw τ 11 (16 * v + l) y).1 11 b = τ.1 11 b := fun b h => yw_n (by omega)
      have c10 : ∀ b : Nat, (yw τ 11 (16 * v + l) y).1 10 b = τ.1 10 b := fun b => yw_n (by omega)
      have Fl : yFe (yw τ 11 (16 * v + l) y) v l := by
        unfold yFe
        rw [yw_p, c10, w16 (16 * (v + 1) + l) (by omega), w16 (16 * (v + 1) + (yan (l : Int) (yxo (τ.1 10 v) (-1))).toNat) (by omega)]
        refine ⟨by omega, fun h => by have := h700 h; omega, fun h => ?_⟩
        rcases hy with ⟨a1, a2⟩ | ⟨a1, a2⟩
        · rw [a1]; exact hr h
        · exact Or.inl a1
      obtain ⟨τ', g, w, b⟩ := x8_ff14 hN k8 hv c m (l + 1) (yw τ 11 (16 * v + l) y) (by omega) (fun u h => by rw [c10]; exact hc u h) (fun u j h1 h2 h3 => yFe_fr h3 c10 (fun h => hc u h) (fun b hb => w16 b (by omega)) (hu u j h1 h2 h3)) (fun j h => by
        by_cases e : j = l
        · subst e; exact Fl
        · have hjl : j < l := by omega
          have F := hj j hjl
          unfold yFe at F ⊢
          rw [show (yw τ 11 (16 * v + l) y).1 11 (16 * v + j) = τ.1 11 (16 * v + j) from yw_n (by omega), c10, w16 (16 * (v + 1) + j) (by omega), w16 (16 * (v + 1) + (yan (j : Int) (yxo (τ.1 10 v) (-1))).toNat) (by omega)]
          exact F)
      refine ⟨τ', ?_, fun a b h => ?_, b⟩
      · rw [ey]
        unfold f_X8_findFewest_b128
        rw [i2, cond_true, Int.toNat_natCast, el]
        exact g
      · rw [w a b h, yw_n (by omega)]
    have s31 : ∀ s0 : Int, s0 = 0 ∨ s0 = 1000000 → ∃ τ' : yS, f_X8_findFewest_b31 N k8 (f_X8_findFewest_b14 N k8 (m + c + 1)) τ v l s0 = k8 τ' ((v : Int) - 1) ∧ (∀ a b : Nat, ¬ a = 11 → τ'.1 a b = τ.1 a b) ∧ (∀ u j : Nat, v ≤ u → u ≤ 700 → j < 16 → yFe τ' u j) := fun s0 hs => by
      unfold f_X8_findFewest_b31
      by_cases hv7 : v = 700
      · rw [ycP_ge, decide_eq_true (by omega), cond_true]
        exact st s0 (by omega) (fun _ => hs) (fun h => by omega)
      · have ev : yad (v : Int) 1 = ((v + 1 : Nat) : Int) := by rw [yad_e (by omega) (by omega)]; omega
        have e3 : ymu 16 ((v + 1 : Nat) : Int) = ((16 * (v + 1) : Nat) : Int) := by rw [ymu_e (by omega) (by omega)]; omega
        have e4 : yad ((16 * (v + 1) : Nat) : Int) (l : Int) = ((16 * (v + 1) + l : Nat) : Int) := by rw [yad_e (by omega) (by omega)]; omega
        have i4 : yin ((16 * (v + 1) + l : Nat) : Int) 11216 = true := by rw [yin_d]; exact decide_eq_true (by omega)
        have iv : yin (v : Int) 700 = true := by rw [yin_d]; exact decide_eq_true (by omega)
        have cv := hc v (by omega)
        obtain ⟨C, hC⟩ : ∃ C : Nat, τ.1 10 v = (C : Int) := ⟨(τ.1 10 v).toNat, by omega⟩
        obtain ⟨q, hq, eq⟩ := yan16n (show l < 16 by omega) (show C < 16 by omega)
        have e5 : yad ((16 * (v + 1) : Nat) : Int) (q : Int) = ((16 * (v + 1) + q : Nat) : Int) := by rw [yad_e (by omega) (by omega)]; omega
        have i5 : yin ((16 * (v + 1) + q : Nat) : Int) 11216 = true := by rw [yin_d]; exact decide_eq_true (by omega)
        have f1 := (hu (v + 1) l (by omega) (by omega) (by omega)).1
        have f2 := (hu (v + 1) q (by omega) (by omega) hq).1
        have e6 : yad (τ.1 11 (16 * (v + 1) + q)) 1 = τ.1 11 (16 * (v + 1) + q) + 1 := yad_e (by omega) (by omega)
        rw [ycP_ge, decide_eq_false (by omega), cond_false, ev, e3, e4, i4, cond_true, iv, cond_true, Int.toNat_natCast, hC, eq, e5, i5, cond_true, Int.toNat_natCast, Int.toNat_natCast, e6]
        by_cases hz : (C : Int) = 0
        · rw [ycP_eq, decide_eq_true hz, cond_true]
          exact st _ (by omega) (fun h => absurd h hv7) (fun _ => Or.inr (Or.inl rfl))
        · rw [ycP_eq, decide_eq_false hz, cond_false]
          cases ycP .ge (τ.1 11 (16 * (v + 1) + q) + 1) (τ.1 11 (16 * (v + 1) + l)) with
          | true => exact st _ (by omega) (fun h => absurd h hv7) (fun _ => Or.inr (Or.inl rfl))
          | false => exact st _ (by omega) (fun h => absurd h hv7) (fun _ => Or.inr (Or.inr ⟨by rw [hC]; exact hz, by rw [hC, eq, Int.toNat_natCast]⟩))
    rw [show m + (c + 1) + 1 = (m + c + 1) + 1 from rfl, q_X8_findFewest_b14, ycP_ge, decide_eq_false (by omega), cond_false]
    cases ycP .ne (l : Int) 0 with
    | true => exact s31 1000000 (Or.inr rfl)
    | false => exact s31 0 (Or.inl rfl)
/-- the whole table -/
theorem x8_ff8 {N : Nat} (hN : 1000 ≤ N) : ∀ (c m : Nat) (τ : yS), c ≤ 701 → (∀ u : Nat, u < 700 → 0 ≤ τ.1 10 u ∧ τ.1 10 u < 16) → (∀ u j : Nat, c ≤ u → u ≤ 700 → j < 16 → yFe τ u j) → ∃ τ' : yS, f_X8_findFewest_b8 N (m + c + 1) τ ((c : Int) - 1) = some (0, τ') ∧ (∀ a b : Nat, ¬ a = 11 → τ'.1 a b = τ.1 a b) ∧ (∀ u j : Nat, u ≤ 700 → j < 16 → yFe τ' u j)
  | 0, m, τ, hc, h16, hF => ⟨τ, by rw [q_X8_findFewest_b8, ycP_lt, decide_eq_true (by omega), cond_true], fun _ _ _ => rfl, fun u j h1 h2 => hF u j (Nat.zero_le u) h1 h2⟩
  | c + 1, m, τ, hc, h16, hF => by
    obtain ⟨τ1, g1, w1, F1⟩ := x8_ff14 (N := N) hN (f_X8_findFewest_b8 N (m + c + 1)) (show c ≤ 700 by omega) 16 (N - 17) 0 τ rfl h16 (fun u j h1 h2 h3 => hF u j (by omega) h2 h3) (fun j h => by omega)
    rw [show N - 17 + 16 + 1 = N by omega] at g1
    obtain ⟨τ', g, w, F⟩ := x8_ff8 hN c m τ1 (by omega) (fun u h => by rw [w1 10 u (by omega)]; exact h16 u h) (fun u j h1 h2 h3 => F1 u j h1 h2 h3)
    refine ⟨τ', ?_, fun a b h => by rw [w a b h, w1 a b h], F⟩
    rw [show m + (c + 1) + 1 = (m + c + 1) + 1 from rfl, q_X8_findFewest_b8, show ((c + 1 : Nat) : Int) - 1 = (c : Int) by omega, ycP_lt, decide_eq_false (by omega), cond_false]
    exact g1.trans g
theorem x8_ff {N : Nat} (hN : 1000 ≤ N) {σ τ : yS} (HR : yRR σ τ) : ∃ τ' : yS, f_X8_findFewest N τ = some (0, τ') ∧ yC8 τ τ' ∧ (∀ u : Nat, u < 700 → 0 ≤ τ'.1 10 u ∧ τ'.1 10 u < 16) ∧ (∀ u j : Nat, u ≤ 700 → j < 16 → yFe τ' u j) := by
  have b0 := HR.1.2.2.1.2.2.2.1
  obtain ⟨H, hH⟩ : ∃ m : Nat, τ.1 0 3 = (m : Int) := ⟨(τ.1 0 3).toNat, by omega⟩
  obtain ⟨W, W4, -, hW⟩ := yWm HR
  obtain ⟨τ1, g1, C1, h16⟩ := x8_fc2 (N := N) hN W4 700 (N - 701) 0 τ rfl HR hH hW (fun u h => by omega)
  rw [show N - 701 + 700 + 1 = N by omega] at g1
  obtain ⟨τ2, g2, w2, F2⟩ := x8_ff8 (N := N) hN 701 (N - 702) τ1 (Nat.le_refl _) h16 (fun u j h1 h2 _ => by omega)
  rw [show N - 702 + 701 + 1 = N by omega] at g2
  refine ⟨τ2, ?_, yC8_t C1 (fun a b _ h => w2 a b h), fun u h => by rw [w2 10 u (by omega)]; exact h16 u h, F2⟩
  unfold f_X8_findFewest f_X8_findCovers
  rw [show ((0 : Nat) : Int) = 0 from rfl] at g1
  rw [g1]
  exact g2
