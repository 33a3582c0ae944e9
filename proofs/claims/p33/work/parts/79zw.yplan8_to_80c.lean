section
/-- the covers' and the table's rows alone may be others -/
def yC8 (τ τ' : yS) : Prop := ∀ a b : Nat, ¬ a = 10 → ¬ a = 11 → τ'.1 a b = τ.1 a b
theorem yC8_r {τ : yS} : yC8 τ τ := fun _ _ _ _ => rfl
theorem yC8_t {τ1 τ2 τ3 : yS} (h : yC8 τ1 τ2) (k : yC8 τ2 τ3) : yC8 τ1 τ3 := fun a b x y => by rw [k a b x y, h a b x y]
theorem yC8_w {τ1 τ2 : yS} {i k : Nat} {z : Int} (h : yC8 τ1 τ2) (hi : i = 10 ∨ i = 11) : yC8 τ1 (yw τ2 i k z) := fun a b x y => by rw [yw_n (by omega), h a b x y]
theorem yRR_c8 {σ τ τ' : yS} (H : yRR σ τ) (C : yC8 τ τ') : yRR σ τ' :=
  yRR_scr H (fun a b _ => rfl) H.2.2.2.2.2.2 (fun a b _ => rfl) (fun a b _ _ h3 h4 _ => C a b h3 h4)
theorem yor16 : ∀ A : Fin 16, ∀ i : Fin 4, ∀ b : Fin 2, 0 ≤ yor ((A.val : Nat) : Int) (ysl ((b.val : Nat) : Int) ((i.val : Nat) : Int)) ∧ yor ((A.val : Nat) : Int) (ysl ((b.val : Nat) : Int) ((i.val : Nat) : Int)) < 16 := by decide +kernel
theorem yor16n {A : Int} {i : Nat} {b : Int} (hA : 0 ≤ A ∧ A < 16) (hi : i < 4) (hb : b = 0 ∨ b = 1) : 0 ≤ yor A (ysl b (i : Int)) ∧ yor A (ysl b (i : Int)) < 16 := by
  obtain ⟨A, rfl⟩ : ∃ n : Nat, A = (n : Int) := ⟨A.toNat, by omega⟩
  rcases hb with rfl | rfl
  · exact yor16 ⟨A, by omega⟩ ⟨i, hi⟩ ⟨0, by decide⟩
  · exact yor16 ⟨A, by omega⟩ ⟨i, hi⟩ ⟨1, by decide⟩
theorem x8_fc28 {N : Nat} (hN : 1000 ≤ N) {σ : yS} {H W v : Nat} (k2 : yS → Int → Option (Int × yS)) (hv : v < 700) (W4 : W ≤ 4) : ∀ (c m i : Nat) (τ : yS), i + c = W → yRR σ τ → τ.1 0 3 = (H : Int) → τ.1 1 118 = (W : Int) → (0 ≤ τ.1 10 v ∧ τ.1 10 v < 16) → ∃ τ' : yS, f_X8_findCovers_b28 N k2 (m + c + 1) τ v ((v / 100 : Nat) : Int) ((v % 5 : Nat) : Int) i = k2 τ' ((v + 1 : Nat) : Int) ∧ (∀ a b : Nat, ¬ (a = 10 ∧ b = v) → τ'.1 a b = τ.1 a b) ∧ (0 ≤ τ'.1 10 v ∧ τ'.1 10 v < 16)
  | 0, m, i, τ, hi, HR, hH, hW, hc => ⟨τ, by
      rw [q_X8_findCovers_b28, ycP_ge, hW, decide_eq_true (by omega), cond_true, yad_e (by omega) (by omega)]; rfl, fun _ _ _ => rfl, hc⟩
  | c + 1, m, i, τ, hi, HR, hH, hW, hc => by
    have ei : yad (i : Int) 1 = ((i + 1 : Nat) : Int) := by rw [yad_e (by omega) (by omega)]; omega
    have iv : yin (v : Int) 700 = true := by rw [yin_d]; exact decide_eq_true (by omega)
    have st : ∀ z : Int, z = 0 ∨ z = 1 → ∃ τ' : yS, f_X8_findCovers_b111 N k2 (f_X8_findCovers_b28 N k2 (m + c + 1)) τ v ((v / 100 : Nat) : Int) ((v % 5 : Nat) : Int) i z = k2 τ' ((v + 1 : Nat) : Int) ∧ (∀ a b : Nat, ¬ (a = 10 ∧ b = v) → τ'.1 a b = τ.1 a b) ∧ (0 ≤ τ'.1 10 v ∧ τ'.1 10 v < 16) := fun z hz => by
      have q := yor16n hc (show i < 4 by omega) hz
      have C1 : yC8 τ (yw τ 10 v (yor (τ.1 10 v) (ysl z (i : Int)))) := yC8_w yC8_r (by omega)
      obtain ⟨τ', g, w, b⟩ := x8_fc28 hN k2 hv W4 c m (i + 1) (yw τ 10 v (yor (τ.1 10 v) (ysl z (i : Int)))) (by omega) (yRR_c8 HR C1) (by rw [yw_n (by omega)]; exact hH) (by rw [yw_n (by omega)]; exact hW) (by rw [yw_p]; exact q)
      refine ⟨τ', ?_, fun a b h => ?_, b⟩
      · unfold f_X8_findCovers_b111
        rw [iv, cond_true, x8_flag (show 0 ≤ z ∧ z ≤ 1 by omega)]
        dsimp only
        rw [Int.toNat_natCast, ei]
        exact g
      · rw [w a b h, yw_n (by omega)]
    have e2 : ymu 2 (i : Int) = 2 * (i : Int) := ymu_e (by omega) (by omega)
    have e3 : yad 119 (2 * (i : Int)) = ((119 + 2 * i : Nat) : Int) := by rw [yad_e (by omega) (by omega)]; omega
    have e4 : yad ((119 + 2 * i : Nat) : Int) 1 = ((120 + 2 * i : Nat) : Int) := by rw [yad_e (by omega) (by omega)]; omega
    have i3 : yin ((119 + 2 * i : Nat) : Int) 393 = true := by rw [yin_d]; exact decide_eq_true (by omega)
    have i4 : yin ((120 + 2 * i : Nat) : Int) 393 = true := by rw [yin_d]; exact decide_eq_true (by omega)
    rw [show m + (c + 1) + 1 = (m + c + 1) + 1 from rfl, q_X8_findCovers_b28, ycP_ge, hW, decide_eq_false (by omega), cond_false, e2, e3, e4, i3, i4, cond_true, cond_true, hH]
    by_cases h1 : (H : Int) ≤ ((v / 100 : Nat) : Int)
    · rw [ycP_ge, decide_eq_true h1, cond_true]
      exact st 0 (Or.inl rfl)
    · rw [ycP_ge, decide_eq_false h1, cond_false]
      cases ycP .ge ((v % 5 : Nat) : Int) (τ.1 0 5) with
      | true => rw [cond_true]; exact st 0 (Or.inl rfl)
      | false =>
        rw [cond_false]
        cases ycP .ne (τ.1 1 ((120 + 2 * i : Nat) : Int).toNat) ((v % 5 : Nat) : Int) with
        | true => rw [cond_true]; exact st 0 (Or.inl rfl)
        | false =>
          rw [cond_false]
          have gw : 0 ≤ τ.1 1 (119 + 2 * i) ∧ τ.1 1 (119 + 2 * i) < τ.1 0 3 := (HR.1.2.2.2.2.2.2.2.2.2.1 i (by show (i : Int) < τ.1 1 118; rw [hW]; omega)).1
          rw [hH] at gw
          obtain ⟨h, eh⟩ : ∃ h : Nat, τ.1 1 (119 + 2 * i) = (h : Int) := ⟨(τ.1 1 (119 + 2 * i)).toNat, by omega⟩
          obtain ⟨S, hS, -, g8⟩ := p_bring (N := N) (by omega) (x := v / 100) (k := v / 20 % 5) (p := v / 5 % 4) (d := v % 5) HR hH (by omega) (by omega) (by omega) (by omega)
          have g9 := g8 h (by omega)
          have ek : yrm (ydv (v : Int) 20) 5 = ((v / 20 % 5 : Nat) : Int) := by
            rw [ydv_e (by omega) (by omega) (by omega) (by omega), yrm_e (by omega) (by omega) (by omega) (by omega)]; omega
          have ep : yrm (ydv (v : Int) 5) 4 = ((v / 5 % 4 : Nat) : Int) := by
            rw [ydv_e (by omega) (by omega) (by omega) (by omega), yrm_e (by omega) (by omega) (by omega) (by omega)]; omega
          rw [ek, ep, Int.toNat_natCast, eh, g9]
          dsimp only
          cases ycP .eq (yan (ysr (S : Int) (h : Int)) 1) 0 with
          | true => rw [cond_true]; exact st 0 (Or.inl rfl)
          | false => rw [cond_false]; exact st 1 (Or.inr rfl)
/-- the covers -/
theorem x8_fc2 {N : Nat} (hN : 1000 ≤ N) {σ : yS} {H W : Nat} (W4 : W ≤ 4) : ∀ (c m v : Nat) (τ : yS), v + c = 700 → yRR σ τ → τ.1 0 3 = (H : Int) → τ.1 1 118 = (W : Int) → (∀ u : Nat, u < v → 0 ≤ τ.1 10 u ∧ τ.1 10 u < 16) → ∃ τ' : yS, f_X8_findCovers_b2 N (m + c + 1) τ v = some (0, τ') ∧ yC8 τ τ' ∧ (∀ u : Nat, u < 700 → 0 ≤ τ'.1 10 u ∧ τ'.1 10 u < 16)
  | 0, m, v, τ, hv, HR, hH, hW, hc => ⟨τ, by rw [q_X8_findCovers_b2, ycP_ge, decide_eq_true (by omega), cond_true], yC8_r, fun u hu => hc u (by omega)⟩
  | c + 1, m, v, τ, hv, HR, hH, hW, hc => by
    have iv : yin (v : Int) 700 = true := by rw [yin_d]; exact decide_eq_true (by omega)
    have C1 : yC8 τ (yw τ 10 v 0) := yC8_w yC8_r (by omega)
    obtain ⟨τ1, g1, w1, b1⟩ := x8_fc28 (N := N) (H := H) hN (f_X8_findCovers_b2 N (m + c + 1)) (show v < 700 by omega) W4 W (N - W - 1) 0 (yw τ 10 v 0) (by omega) (yRR_c8 HR C1) (by rw [yw_n (by omega)]; exact hH) (by rw [yw_n (by omega)]; exact hW) (by rw [yw_p]; decide)
    rw [show N - W - 1 + W + 1 = N by omega] at g1
    have C2 : yC8 τ τ1 := yC8_t C1 (fun a b h _ => w1 a b (by omega))
    obtain ⟨τ', g, C, b⟩ := x8_fc2 hN W4 c m (v + 1) τ1 (by omega) (yRR_c8 HR C2) (by rw [C2 _ _ (by omega) (by omega)]; exact hH) (by rw [C2 _ _ (by omega) (by omega)]; exact hW) (fun u hu => by
      by_cases e : u = v
      · subst e; exact b1
      · rw [w1 10 u (by omega), yw_n (by omega)]; exact hc u (by omega))
    refine ⟨τ', ?_, yC8_t C2 C, b⟩
    have ex : ydv (v : Int) 100 = ((v / 100 : Nat) : Int) := by
      rw [ydv_e (by omega) (by omega) (by omega) (by omega)]; omega
    have ed : yrm (v : Int) 5 = ((v % 5 : Nat) : Int) := by
      rw [yrm_e (by omega) (by omega) (by omega) (by omega)]; omega
    rw [show m + (c + 1) + 1 = (m + c + 1) + 1 from rfl, q_X8_findCovers_b2, ycP_ge, decide_eq_false (by omega), cond_false, iv, cond_true, Int.toNat_natCast, ex, ed]
    exact g1.trans g
/-- a place of the table is as its rule says -/
def yFe (τ : yS) (v l : Nat) : Prop := (0 ≤ τ.1 11 (16 * v + l) ∧ τ.1 11 (16 * v + l) ≤ 1000000) ∧ (v = 700 → τ.1 11 (16 * v + l) = 0 ∨ τ.1 11 (16 * v + l) = 1000000) ∧ (v < 700 → τ.1 11 (16 * v + l) = 1000000 ∨ τ.1 11 (16 * v + l) = τ.1 11 (16 * (v + 1) + l) ∨ (¬ τ.1 10 v = 0 ∧ τ.1 11 (16 * v + l) = τ.1 11 (16 * (v + 1) + (yan (l : Int) (yxo (τ.1 10 v) (-1))).toNat) + 1))
theorem yFe_fr {τ τ' : yS} {v l : Nat} (hl : l < 16) (c : ∀ b : Nat, τ'.1 10 b = τ.1 10 b) (b16 : v < 700 → 0 ≤ τ.1 10 v ∧ τ.1 10 v < 16) (h : ∀ b : Nat, 16 * v + l ≤ b → τ'.1 11 b = τ.1 11 b) (F : yFe τ v l) : yFe τ' v l := by
  unfold yFe at F ⊢
  rw [h _ (Nat.le_refl _), h (16 * (v + 1) + l) (by omega), h (16 * (v + 1) + (yan (l : Int) (yxo (τ'.1 10 v) (-1))).toNat) (by omega), c]
  exact F
theorem x8_ff14 {N v : Nat} (hN : 1000 ≤ N) (k8 : yS → Int → Option (Int × yS)) (hv : v ≤ 700) : ∀ (c m l : Nat) (τ : yS), l + c = 16 → (∀ u : Nat, u < 700 → 0 ≤ τ.1 10 u ∧ τ.1 10 u < 16) → (∀ u j : Nat, v < u → u ≤ 700 → j < 16 → yFe τ u j) → (∀ j : Nat, j < l → yFe τ v j) → ∃ τ' : yS, f_X8_findFewest_b14 N k8 (m + c + 1) τ v l = k8 τ' ((v : Int) - 1) ∧ (∀ a b : Nat, ¬ a = 11 → τ'.1 a b = τ.1 a b) ∧ (∀ u j : Nat, v ≤ u → u ≤ 700 → j < 16 → yFe τ' u j)
  | 0, m, l, τ, hl, hc, hu, hj => ⟨τ, by
      rw [q_X8_findFewest_b14, ycP_ge, decide_eq_true (by omega), cond_true, yad_e (by omega) (by omega)]; rfl, fun _ _ _ => rfl, fun u j h1 h2 h3 => by
      by_cases e : u = v
      · subst e; exact hj j (by omega)
      · exact hu u j (by omega) h2 h3⟩
  | c + 1, m, l, τ, hl, hc, hu, hj => by
    have el : yad (l : Int) 1 = ((l + 1 : Nat) : Int) := by rw [yad_e (by omega) (by omega)]; omega
    have e1 : ymu 16 (v : Int) = 16 * (v : Int) := ymu_e (by omega) (by omega)
    have e2 : yad (16 * (v : Int)) (l : Int) = ((16 * v + l : Nat) : Int) := by rw [yad_e (by omega) (by omega)]; omega
    have i2 : yin ((16 * v + l : Nat) : Int) 11216 = true := by rw [yin_d]; exact decide_eq_true (by omega)
    -- a number that is as the rule says is written
    have st : ∀ z : Int, (0 ≤ z ∧ z ≤ 1000001) → (v = 700 → z = 0 ∨ z = 1000000) → (v < 700 → z = 1000000 ∨ z = τ.1 11 (16 * (v + 1) + l) ∨ (¬ τ.1 10 v = 0 ∧ z = τ.1 11 (16 * (v + 1) + (yan (l : Int) (yxo (τ.1 10 v) (-1))).toNat) + 1)) → ∃ τ' : yS, f_X8_findFewest_b104 N k8 (f_X8_findFewest_b14 N k8 (m + c + 1)) τ v l z = k8 τ' ((v : Int) - 1) ∧ (∀ a b : Nat, ¬ a = 11 → τ'.1 a b = τ.1 a b) ∧ (∀ u j : Nat, v ≤ u → u ≤ 700 → j < 16 → yFe τ' u j) := fun z hz h700 hr => by
      obtain ⟨y, hy, ey⟩ : ∃ y : Int, (y = z ∧ z ≤ 1000000 ∨ y = 1000000 ∧ ¬ z ≤ 1000000) ∧ f_X8_findFewest_b104 N k8 (f_X8_findFewest_b14 N k8 (m + c + 1)) τ v l z = f_X8_findFewest_b128 N k8 (f_X8_findFewest_b14 N k8 (m + c + 1)) τ v l y ((16 * v + l : Nat) : Int) := by
        unfold f_X8_findFewest_b104
        rw [e1, e2]
        by_cases q : z ≤ 1000000
        · exact ⟨z, Or.inl ⟨rfl, q⟩, by rw [ycP_le, decide_eq_true q, cond_true]⟩
        · exact ⟨1000000, Or.inr ⟨rfl, q⟩, by rw [ycP_le, decide_eq_false q, cond_false]⟩
      have w16 : ∀ b : Nat, 16 * v + l < b → (yw τ 11 (16 * v + l) y).1 11 b = τ.1 11 b := fun b h => yw_n (by omega)
      have c10 : ∀ b : Nat, (yw τ 11 (16 * v + l) y).1 10 b = τ.1 10 b := fun b => yw_n (by omega)
      have Fl : yFe (yw τ 11 (16 * v + l) y) v l := by
        unfold yFe
        rw [yw_p, c10, w16 (16 * (v + 1) + l) (by omega), w16 (16 * (v + 1) + (yan (l : Int) (yxo (τ.1 10 v) (-1))).toNat) (by omega)]
        refine ⟨by omega, fun h => by have := h700 h; omega, fun h => ?_⟩
        rcases hy with ⟨a1, a2⟩ | ⟨a1, a2⟩
        · rw [a1]; exact hr h
        · exact Or.inl a1
      obtain ⟨τ', g, w, b⟩ := x8_ff14 hN k8 hv c m (l + 1) (yw τ 11 (16 * v + l) y) (by omega) (fun u h => by rw [c10]; exact hc u h) (fun u j h1 h2 h3 => yFe_fr h3 c10 (fun h => hc u h) (fun b hb => w16 b (by omega)) (hu u j h1 h2 h3)) (fun j h => by
        by_cases e : j = l
        · subst e; exact Fl
        · have hjl : j < l := by omega
          have F := hj j hjl
          unfold yFe at F ⊢
          rw [show (yw τ 11 (16 * v + l) y).1 11 (16 * v + j) = τ.1 11 (16 * v + j) from yw_n (by omega), c10, w16 (16 * (v + 1) + j) (by omega), w16 (16 * (v + 1) + (yan (j : Int) (yxo (τ.1 10 v) (-1))).toNat) (by omega)]
          exact F)
      refine ⟨τ', ?_, fun a b h => ?_, b⟩
      · rw [ey]
        unfold f_X8_findFewest_b128
        rw [i2, cond_true, Int.toNat_natCast, el]
        exact g
      · rw [w a b h, yw_n (by omega)]
    have s31 : ∀ s0 : Int, s0 = 0 ∨ s0 = 1000000 → ∃ τ' : yS, f_X8_findFewest_b31 N k8 (f_X8_findFewest_b14 N k8 (m + c + 1)) τ v l s0 = k8 τ' ((v : Int) - 1) ∧ (∀ a b : Nat, ¬ a = 11 → τ'.1 a b = τ.1 a b) ∧ (∀ u j : Nat, v ≤ u → u ≤ 700 → j < 16 → yFe τ' u j) := fun s0 hs => by
      unfold f_X8_findFewest_b31
      by_cases hv7 : v = 700
      · rw [ycP_ge, decide_eq_true (by omega), cond_true]
        exact st s0 (by omega) (fun _ => hs) (fun h => by omega)
      · have ev : yad (v : Int) 1 = ((v + 1 : Nat) : Int) := by rw [yad_e (by omega) (by omega)]; omega
        have e3 : ymu 16 ((v + 1 : Nat) : Int) = ((16 * (v + 1) : Nat) : Int) := by rw [ymu_e (by omega) (by omega)]; omega
        have e4 : yad ((16 * (v + 1) : Nat) : Int) (l : Int) = ((16 * (v + 1) + l : Nat) : Int) := by rw [yad_e (by omega) (by omega)]; omega
        have i4 : yin ((16 * (v + 1) + l : Nat) : Int) 11216 = true := by rw [yin_d]; exact decide_eq_true (by omega)
        have iv : yin (v : Int) 700 = true := by rw [yin_d]; exact decide_eq_true (by omega)
        have cv := hc v (by omega)
        obtain ⟨C, hC⟩ : ∃ C : Nat, τ.1 10 v = (C : Int) := ⟨(τ.1 10 v).toNat, by omega⟩
        obtain ⟨q, hq, eq⟩ := yan16n (show l < 16 by omega) (show C < 16 by omega)
        have e5 : yad ((16 * (v + 1) : Nat) : Int) (q : Int) = ((16 * (v + 1) + q : Nat) : Int) := by rw [yad_e (by omega) (by omega)]; omega
        have i5 : yin ((16 * (v + 1) + q : Nat) : Int) 11216 = true := by rw [yin_d]; exact decide_eq_true (by omega)
        have f1 := (hu (v + 1) l (by omega) (by omega) (by omega)).1
        have f2 := (hu (v + 1) q (by omega) (by omega) hq).1
        have e6 : yad (τ.1 11 (16 * (v + 1) + q)) 1 = τ.1 11 (16 * (v + 1) + q) + 1 := yad_e (by omega) (by omega)
        rw [ycP_ge, decide_eq_false (by omega), cond_false, ev, e3, e4, i4, cond_true, iv, cond_true, Int.toNat_natCast, hC, eq, e5, i5, cond_true, Int.toNat_natCast, Int.toNat_natCast, e6]
        by_cases hz : (C : Int) = 0
        · rw [ycP_eq, decide_eq_true hz, cond_true]
          exact st _ (by omega) (fun h => absurd h hv7) (fun _ => Or.inr (Or.inl rfl))
        · rw [ycP_eq, decide_eq_false hz, cond_false]
          cases ycP .ge (τ.1 11 (16 * (v + 1) + q) + 1) (τ.1 11 (16 * (v + 1) + l)) with
          | true => exact st _ (by omega) (fun h => absurd h hv7) (fun _ => Or.inr (Or.inl rfl))
          | false => exact st _ (by omega) (fun h => absurd h hv7) (fun _ => Or.inr (Or.inr ⟨by rw [hC]; exact hz, by rw [hC, eq, Int.toNat_natCast]⟩))
    rw [show m + (c + 1) + 1 = (m + c + 1) + 1 from rfl, q_X8_findFewest_b14, ycP_ge, decide_eq_false (by omega), cond_false]
    cases ycP .ne (l : Int) 0 with
    | true => exact s31 1000000 (Or.inr rfl)
    | false => exact s31 0 (Or.inl rfl)
/-- the whole table -/
theorem x8_ff8 {N : Nat} (hN : 1000 ≤ N) : ∀ (c m : Nat) (τ : yS), c ≤ 701 → (∀ u : Nat, u < 700 → 0 ≤ τ.1 10 u ∧ τ.1 10 u < 16) → (∀ u j : Nat, c ≤ u → u ≤ 700 → j < 16 → yFe τ u j) → ∃ τ' : yS, f_X8_findFewest_b8 N (m + c + 1) τ ((c : Int) - 1) = some (0, τ') ∧ (∀ a b : Nat, ¬ a = 11 → τ'.1 a b = τ.1 a b) ∧ (∀ u j : Nat, u ≤ 700 → j < 16 → yFe τ' u j)
  | 0, m, τ, hc, h16, hF => ⟨τ, by rw [q_X8_findFewest_b8, ycP_lt, decide_eq_true (by omega), cond_true], fun _ _ _ => rfl, fun u j h1 h2 => hF u j (Nat.zero_le u) h1 h2⟩
  | c + 1, m, τ, hc, h16, hF => by
    obtain ⟨τ1, g1, w1, F1⟩ := x8_ff14 (N := N) hN (f_X8_findFewest_b8 N (m + c + 1)) (show c ≤ 700 by omega) 16 (N - 17) 0 τ rfl h16 (fun u j h1 h2 h3 => hF u j (by omega) h2 h3) (fun j h => by omega)
    rw [show N - 17 + 16 + 1 = N by omega] at g1
    obtain ⟨τ', g, w, F⟩ := x8_ff8 hN c m τ1 (by omega) (fun u h => by rw [w1 10 u (by omega)]; exact h16 u h) (fun u j h1 h2 h3 => F1 u j h1 h2 h3)
    refine ⟨τ', ?_, fun a b h => by rw [w a b h, w1 a b h], F⟩
    rw [show m + (c + 1) + 1 = (m + c + 1) + 1 from rfl, q_X8_findFewest_b8, show ((c + 1 : Nat) : Int) - 1 = (c : Int) by omega, ycP_lt, decide_eq_false (by omega), cond_false]
    exact g1.trans g
theorem x8_ff {N : Nat} (hN : 1000 ≤ N) {σ τ : yS} (HR : yRR σ τ) : ∃ τ' : yS, f_X8_findFewest N τ = some (0, τ') ∧ yC8 τ τ' ∧ (∀ u : Nat, u < 700 → 0 ≤ τ'.1 10 u ∧ τ'.1 10 u < 16) ∧ (∀ u j : Nat, u ≤ 700 → j < 16 → yFe τ' u j) := by
  have b0 := HR.1.2.2.1.2.2.2.1
  obtain ⟨H, hH⟩ : ∃ m : Nat, τ.1 0 3 = (m : Int) := ⟨(τ.1 0 3).toNat, by omega⟩
  obtain ⟨W, W4, -, hW⟩ := yWm HR
  obtain ⟨τ1, g1, C1, h16⟩ := x8_fc2 (N := N) hN W4 700 (N - 701) 0 τ rfl HR hH hW (fun u h => by omega)
  rw [show N - 701 + 700 + 1 = N by omega] at g1
  obtain ⟨τ2, g2, w2, F2⟩ := x8_ff8 (N := N) hN 701 (N - 702) τ1 (Nat.le_refl _) h16 (fun u j h1 h2 _ => by omega)
  rw [show N - 702 + 701 + 1 = N by omega] at g2
  refine ⟨τ2, ?_, yC8_t C1 (fun a b _ h => w2 a b h), fun u h => by rw [w2 10 u (by omega)]; exact h16 u h, F2⟩
  unfold f_X8_findFewest f_X8_findCovers
  rw [show ((0 : Nat) : Int) = 0 from rfl] at g1
  rw [g1]
  exact g2
end
section
/-- where so many are left to find, one of them is ahead -/
theorem yFx {τ : yS} (F : ∀ u j : Nat, u ≤ 700 → j < 16 → yFe τ u j) {l : Nat} (hl : l < 16) {M : Int} (hM : 0 < M ∧ M < 1000000) : ∀ (c v : Nat), v + c = 700 → τ.1 11 (16 * v + l) = M → ∃ d : Nat, v + d < 700 ∧ ¬ τ.1 10 (v + d) = 0 ∧ τ.1 11 (16 * (v + d + 1) + (yan (l : Int) (yxo (τ.1 10 (v + d)) (-1))).toNat) + 1 = M
  | 0, v, hv, h => by
    have q := (F v l (by omega) hl).2.1 (by omega)
    omega
  | c + 1, v, hv, h => by
    rcases (F v l (by omega) hl).2.2 (by omega) with q | q | ⟨q1, q2⟩
    · omega
    · obtain ⟨d, h1, h2, h3⟩ := yFx F hl hM c (v + 1) (by omega) (by rw [← q]; exact h)
      refine ⟨d + 1, by omega, ?_, ?_⟩
      · rw [show v + (d + 1) = v + 1 + d by omega]; exact h2
      · rw [show v + (d + 1) = v + 1 + d by omega]; exact h3
    · exact ⟨0, by omega, q1, (show τ.1 11 (16 * (v + 1) + (yan (l : Int) (yxo (τ.1 10 v) (-1))).toNat) + 1 = M by rw [← q2]; exact h)⟩
theorem x8_p93 {N : Nat} {τ : yS} (k78 : yS → Int → Int → Int → Int → Int → Int → Option (Int × yS)) (h16 : ∀ u : Nat, u < 700 → 0 ≤ τ.1 10 u ∧ τ.1 10 u < 16) (F : ∀ u j : Nat, u ≤ 700 → j < 16 → yFe τ u j) {l i : Nat} {w M : Int} (hl : l < 16) (hM : (i : Int) < M ∧ M < 1000000) : ∀ (c m v : Nat), v + c < 700 → ¬ τ.1 10 (v + c) = 0 → τ.1 11 (16 * (v + c + 1) + (yan (l : Int) (yxo (τ.1 10 (v + c)) (-1))).toNat) + 1 = M - i → ∃ v' l' : Nat, v' < 700 ∧ l' < 16 ∧ τ.1 11 (16 * (v' + 1) + l') = M - i - 1 ∧ f_X8_plan_b93 N k78 (m + c + 1) τ w l M v i = k78 τ w l' M ((v' + 1 : Nat) : Int) v' ((i + 1 : Nat) : Int) := by
  intro c
  induction c with
  | zero =>
    intro m v hv h1 h2
    have iv : yin (v : Int) 700 = true := by rw [yin_d]; exact decide_eq_true (by omega)
    have ev : yad (v : Int) 1 = ((v + 1 : Nat) : Int) := by rw [yad_e (by omega) (by omega)]; omega
    have ei : yad (i : Int) 1 = ((i + 1 : Nat) : Int) := by rw [yad_e (by omega) (by omega)]; omega
    have e3 : ymu 16 ((v + 1 : Nat) : Int) = ((16 * (v + 1) : Nat) : Int) := by rw [ymu_e (by omega) (by omega)]; omega
    have cv := h16 v (by omega)
    obtain ⟨C, hC⟩ : ∃ C : Nat, τ.1 10 v = (C : Int) := ⟨(τ.1 10 v).toNat, by omega⟩
    obtain ⟨q, hq, eq⟩ := yan16n hl (show C < 16 by omega)
    have e5 : yad ((16 * (v + 1) : Nat) : Int) (q : Int) = ((16 * (v + 1) + q : Nat) : Int) := by rw [yad_e (by omega) (by omega)]; omega
    have i5 : yin ((16 * (v + 1) + q : Nat) : Int) 11216 = true := by rw [yin_d]; exact decide_eq_true (by omega)
    have f2 := (F (v + 1) q (by omega) hq).1
    have e6 : yad (τ.1 11 (16 * (v + 1) + q)) 1 = τ.1 11 (16 * (v + 1) + q) + 1 := yad_e (by omega) (by omega)
    have e7 : ysu M (i : Int) = M - i := ysu_e (by omega) (by omega)
    have h1 : ¬ τ.1 10 v = 0 := h1
    have h2 : τ.1 11 (16 * (v + 1) + (yan (l : Int) (yxo (τ.1 10 v) (-1))).toNat) + 1 = M - i := h2
    rw [hC, eq, Int.toNat_natCast] at h2
    refine ⟨v, q, by omega, hq, by omega, ?_⟩
    rw [q_X8_plan_b93, iv, cond_true, Int.toNat_natCast, ycP_eq, decide_eq_false h1, cond_false, ev, e3, hC, eq, e5, i5, cond_true, Int.toNat_natCast, e6, e7, ycP_eq, decide_eq_true h2, cond_true, ei]
  | succ c ih =>
    intro m v hv h1 h2
    have iv : yin (v : Int) 700 = true := by rw [yin_d]; exact decide_eq_true (by omega)
    have ev : yad (v : Int) 1 = ((v + 1 : Nat) : Int) := by rw [yad_e (by omega) (by omega)]; omega
    have ei : yad (i : Int) 1 = ((i + 1 : Nat) : Int) := by rw [yad_e (by omega) (by omega)]; omega
    have e3 : ymu 16 ((v + 1 : Nat) : Int) = ((16 * (v + 1) : Nat) : Int) := by rw [ymu_e (by omega) (by omega)]; omega
    have cv := h16 v (by omega)
    obtain ⟨C, hC⟩ : ∃ C : Nat, τ.1 10 v = (C : Int) := ⟨(τ.1 10 v).toNat, by omega⟩
    obtain ⟨q, hq, eq⟩ := yan16n hl (show C < 16 by omega)
    have e5 : yad ((16 * (v + 1) : Nat) : Int) (q : Int) = ((16 * (v + 1) + q : Nat) : Int) := by rw [yad_e (by omega) (by omega)]; omega
    have i5 : yin ((16 * (v + 1) + q : Nat) : Int) 11216 = true := by rw [yin_d]; exact decide_eq_true (by omega)
    have f2 := (F (v + 1) q (by omega) hq).1
    have e6 : yad (τ.1 11 (16 * (v + 1) + q)) 1 = τ.1 11 (16 * (v + 1) + q) + 1 := yad_e (by omega) (by omega)
    have e7 : ysu M (i : Int) = M - i := ysu_e (by omega) (by omega)
    have nx : ∃ v' l' : Nat, v' < 700 ∧ l' < 16 ∧ τ.1 11 (16 * (v' + 1) + l') = M - i - 1 ∧ f_X8_plan_b136 N k78 (f_X8_plan_b93 N k78 (m + c + 1)) τ w l M v i = k78 τ w l' M ((v' + 1 : Nat) : Int) v' ((i + 1 : Nat) : Int) := by
      obtain ⟨v', l', a1, a2, a3, a4⟩ := ih m (v + 1) (by omega) (by rw [show v + 1 + c = v + (c + 1) by omega]; exact h1) (by rw [show v + 1 + c = v + (c + 1) by omega]; exact h2)
      refine ⟨v', l', a1, a2, a3, ?_⟩
      unfold f_X8_plan_b136
      rw [ev]
      exact a4
    rw [show m + (c + 1) + 1 = (m + c + 1) + 1 from rfl, q_X8_plan_b93, iv, cond_true, Int.toNat_natCast, ev, e3, hC, eq, e5, i5, cond_true, Int.toNat_natCast, e6, e7, ei]
    by_cases z : (C : Int) = 0
    · rw [ycP_eq, decide_eq_true z, cond_true]
      exact nx
    · rw [ycP_eq, decide_eq_false z, cond_false]
      by_cases y : τ.1 11 (16 * (v + 1) + q) + 1 = M - i
      · refine ⟨v, q, by omega, hq, by omega, ?_⟩
        rw [ycP_eq, decide_eq_true y, cond_true]
      · rw [ycP_eq, decide_eq_false y, cond_false]
        exact nx
theorem x8_p78 {N : Nat} (hN : 1000 ≤ N) {τ : yS} (h16 : ∀ u : Nat, u < 700 → 0 ≤ τ.1 10 u ∧ τ.1 10 u < 16) (F : ∀ u j : Nat, u ≤ 700 → j < 16 → yFe τ u j) {e : Nat} {w M : Int} (hw : w = 10 + (e : Int)) (he : e ≤ 3) (hM : 0 ≤ M ∧ M < 1000000) : ∀ (c m i v l : Nat) (x5 : Int), i + c = e + 1 → l < 16 → v ≤ 700 → τ.1 11 (16 * v + l) = M - i → ∃ a : Int, f_X8_plan_b78 N (m + c + 1) τ w l M v x5 i = some (a, τ) := by
  have ew : ysu w 10 = (e : Int) := by rw [ysu_e (by omega) (by omega)]; omega
  have fin : ∀ x5 : Int, ∃ a : Int, f_X8_plan_b167 N τ w M x5 = some (a, τ) := fun x5 => by
    unfold f_X8_plan_b167
    cases ycP .ge (ysu w 10) M with
    | true => exact ⟨_, rfl⟩
    | false => exact ⟨_, rfl⟩
  intro c
  induction c with
  | zero =>
    intro m i v l x5 hi hl hv hT
    rw [q_X8_plan_b78, ew, ycP_gt, decide_eq_true (by omega), cond_true]
    exact fin x5
  | succ c ih =>
    intro m i v l x5 hi hl hv hT
    rw [show m + (c + 1) + 1 = (m + c + 1) + 1 from rfl, q_X8_plan_b78, ew, ycP_gt, decide_eq_false (by omega), cond_false]
    by_cases z : M ≤ (i : Int)
    · rw [ycP_ge, decide_eq_true z, cond_true]
      exact fin x5
    · rw [ycP_ge, decide_eq_false z, cond_false]
      obtain ⟨d, a1, a2, a3⟩ := yFx F hl (M := M - i) (by omega) (700 - v) v (by omega) hT
      obtain ⟨v', l', b1, b2, b3, b4⟩ := x8_p93 (N := N) (w := w) (f_X8_plan_b78 N (m + c + 1)) h16 F hl (show (i : Int) < M ∧ M < 1000000 by omega) d (N - d - 1) v a1 a2 a3
      rw [show N - d - 1 + d + 1 = N by omega] at b4
      obtain ⟨a, g⟩ := ih m (i + 1) (v' + 1) l' v' (by omega) b2 (by omega) (by rw [b3]; omega)
      exact ⟨a, b4.trans g⟩
/-- the reference's plan comes to an end -/
theorem x8_plan {N : Nat} (hN : 1000 ≤ N) {σ τ : yS} {w : Int} (HR : yRR σ τ) : ∃ (a : Int) (τ' : yS), f_X8_plan N τ w = some (a, τ') ∧ yC8 τ τ' := by
  obtain ⟨τ1, g1, C1, h16, F⟩ := x8_ff (N := N) hN HR
  have HR1 := yRR_c8 HR C1
  obtain ⟨W, W4, -, hW⟩ := yWm HR1
  obtain ⟨L, hL, eL⟩ := yall4n W4
  have i1 : yin (L : Int) 11216 = true := by rw [yin_d]; exact decide_eq_true (by omega)
  have f0 := (F 0 L (by omega) hL).1
  rw [Nat.mul_zero, Nat.zero_add] at f0
  have fin : ∀ x : Int, ∃ (a : Int) (τ' : yS), f_X8_plan_b54 N τ1 x = some (a, τ') ∧ yC8 τ τ' := fun x => by
    unfold f_X8_plan_b54
    cases ycP .lt x 1000000 with
    | true => exact ⟨_, τ1, rfl, C1⟩
    | false => exact ⟨_, τ1, rfl, C1⟩
  have st : (w = 0 ∨ (10 ≤ w ∧ w ≤ 13)) → ∃ (a : Int) (τ' : yS), f_X8_plan_b20 N τ w = some (a, τ') ∧ yC8 τ τ' := fun hw => by
    unfold f_X8_plan_b20
    rw [g1]
    dsimp only
    rw [hW, eL, i1, cond_true, Int.toNat_natCast]
    by_cases z : 1000000 ≤ τ1.1 11 L
    · rw [ycP_ge, decide_eq_true z, cond_true]
      exact fin _
    · rw [ycP_ge, decide_eq_false z, cond_false]
      by_cases w0 : w = 0
      · rw [ycP_ne, decide_eq_false (fun q => q w0), cond_false]
        exact fin _
      · rw [ycP_ne, decide_eq_true w0, cond_true]
        obtain ⟨e, he⟩ : ∃ e : Nat, w = 10 + (e : Int) := ⟨(w - 10).toNat, by omega⟩
        obtain ⟨a, g⟩ := x8_p78 (N := N) hN h16 F he (by omega) (show 0 ≤ τ1.1 11 L ∧ τ1.1 11 L < 1000000 by omega) (e + 1) (N - e - 2) 0 0 L (-4) (by omega) hL (by omega) (by rw [Nat.mul_zero, Nat.zero_add]; omega)
        rw [show N - e - 2 + (e + 1) + 1 = N by omega] at g
        exact ⟨a, τ1, g, C1⟩
  unfold f_X8_plan
  by_cases w0 : w = 0
  · rw [ycP_eq, decide_eq_true w0, cond_true]
    exact st (Or.inl w0)
  · rw [ycP_eq, decide_eq_false w0, cond_false, x8_in]
    dsimp only
    by_cases hw : 10 ≤ w ∧ w ≤ 13
    · rw [if_pos hw, ycP_ne, decide_eq_true (by decide), cond_true]
      exact st (Or.inr hw)
    · rw [if_neg hw, ycP_ne, decide_eq_false (by decide), cond_false]
      exact ⟨_, τ, rfl, yC8_r⟩
/-- both plans come to an end, and nothing that is shown changes -/
theorem P_plan {N : Nat} (hN : 1000 ≤ N) {σ τ : yS} {w : Int} (HR : yRR σ τ) : ∃ (a b : Int) (σ' τ' : yS), f_X7_plan N σ w = some (a, σ') ∧ f_X8_plan N τ w = some (b, τ') ∧ yRR σ' τ' := by
  obtain ⟨a, σ', g7, C7⟩ := x7_plan (N := N) (w := w) hN HR
  obtain ⟨b, τ', g8, C8⟩ := x8_plan (N := N) (w := w) hN HR
  exact ⟨a, b, σ', τ', g7, g8, yRR_c8 (yRR_c7 HR C7) C8⟩
end
section
noncomputable def znt (c : Int) : Int := (Int32.ofInt c ^^^ Int32.ofInt (-1)).toInt
noncomputable def zan (a b : Int) : Int := (Int32.ofInt a &&& Int32.ofInt b).toInt
noncomputable def zsh (a b : Int) : Int := (Int32.ofInt a <<< (Int32.ofInt b &&& 31)).toInt
theorem zan_b {a : Int} (b : Int) (h0 : 0 ≤ a) (h1 : a ≤ 2147483647) : 0 ≤ zan a b ∧ zan a b ≤ a := by
  have e := zq_of (z := a) (by omega) h1
  have := zand_l (Int32.ofInt a) (Int32.ofInt b) (by rw [e]; exact h0)
  rw [e] at this
  exact this
section ZHD
variable {p : Program} {l : Launch} {e : Env} {R : Room} {s : State} {m : MethodId} {args : Array Value} {below : List Frame} {meth : Method} {c : Code} {cells slots : Nat} {Q : State → Prop} {cc : ByteArray} {pc : Nat} {ls : Array Slot} {H H0 : Heap} {locs : List Loc} {rest : List Value} {D : va_G} {cl : List vw_C} {kA : Nat → ClassId} {A : Nat → Prop} {r : Nat → Int} {ad : Nat → Nat} {ph : Nat → Nat → Int} {w : zW}
theorem zh_iadd (hx : p.tables.exec = Jvm.exec) (hb : c.code = cc) {a b : Int} (hdg : decode cc pc = .ok (.iadd, 1)) (k : W p l e R s m args below meth c H locs cells slots Q (F0 m (pc + 1) ls (.int (Int32.ofInt (a + b)) :: rest))) : W p l e R s m args below meth c H locs cells slots Q (F0 m pc ls (.int (Int32.ofInt b) :: .int (Int32.ofInt a) :: rest)) := by
  refine lv_iadd hx hb hdg ?_
  rw [← Int32.ofInt_add]
  exact k
theorem zh_isub (hx : p.tables.exec = Jvm.exec) (hb : c.code = cc) {a b : Int} (hdg : decode cc pc = .ok (.isub, 1)) (k : W p l e R s m args below meth c H locs cells slots Q (F0 m (pc + 1) ls (.int (Int32.ofInt (a - b)) :: rest))) : W p l e R s m args below meth c H locs cells slots Q (F0 m pc ls (.int (Int32.ofInt b) :: .int (Int32.ofInt a) :: rest)) := by
  refine lv_isub hx hb hdg ?_
  rw [← Int32.ofInt_sub]
  exact k
theorem zh_imul (hx : p.tables.exec = Jvm.exec) (hb : c.code = cc) {a b : Int} (hdg : decode cc pc = .ok (.imul, 1)) (k : W p l e R s m args below meth c H locs cells slots Q (F0 m (pc + 1) ls (.int (Int32.ofInt (a * b)) :: rest))) : W p l e R s m args below meth c H locs cells slots Q (F0 m pc ls (.int (Int32.ofInt b) :: .int (Int32.ofInt a) :: rest)) := by
  refine lv_imul hx hb hdg ?_
  rw [← Int32.ofInt_mul]
  exact k
theorem zh_iand (hx : p.tables.exec = Jvm.exec) (hb : c.code = cc) {a b : Int} (hdg : decode cc pc = .ok (.iand, 1)) (k : W p l e R s m args below meth c H locs cells slots Q (F0 m (pc + 1) ls (.int (Int32.ofInt (zan a b)) :: rest))) : W p l e R s m args below meth c H locs cells slots Q (F0 m pc ls (.int (Int32.ofInt b) :: .int (Int32.ofInt a) :: rest)) := by
  refine lv_iand hx hb hdg ?_
  unfold zan at k
  rw [Int32.ofInt_toInt] at k
  exact k
theorem zh_ixor (hx : p.tables.exec = Jvm.exec) (hb : c.code = cc) {a : Int} (hdg : decode cc pc = .ok (.ixor, 1)) (k : W p l e R s m args below meth c H locs cells slots Q (F0 m (pc + 1) ls (.int (Int32.ofInt (znt a)) :: rest))) : W p l e R s m args below meth c H locs cells slots Q (F0 m pc ls (.int (Int32.ofInt (-1)) :: .int (Int32.ofInt a) :: rest)) := by
  refine lv_ixor hx hb hdg ?_
  unfold znt at k
  rw [Int32.ofInt_toInt] at k
  exact k
theorem zh_ishl (hx : p.tables.exec = Jvm.exec) (hb : c.code = cc) {a b : Int} (hdg : decode cc pc = .ok (.ishl, 1)) (k : W p l e R s m args below meth c H locs cells slots Q (F0 m (pc + 1) ls (.int (Int32.ofInt (zsh a b)) :: rest))) : W p l e R s m args below meth c H locs cells slots Q (F0 m pc ls (.int (Int32.ofInt b) :: .int (Int32.ofInt a) :: rest)) := by
  refine lv_ishl hx hb hdg ?_
  unfold zsh at k
  rw [Int32.ofInt_toInt] at k
  exact k
theorem zh_ld (hx : p.tables.exec = Jvm.exec) (hb : c.code = cc) (hK : va_K D cl (ztys kA) s) (hP : va_P D cl (zws kA r ad ph w) H) {q i n : Nat} {gs : List zG} {mm : zM} (hc : w[q]? = some (i, .inr (.inl (0, n, gs, mm)))) {x : Int} (h0 : 0 ≤ x) (h1 : x + 1 ≤ (n : Int)) (hn : n ≤ 2000000) (hdg : decode cc pc = .ok (.iaload, 1)) (k : W p l e R s m args below meth c H locs cells slots Q (F0 m (pc + 1) ls (.int (Int32.ofInt (ph i x.toNat)) :: rest))) : W p l e R s m args below meth c H locs cells slots Q (F0 m pc ls (.int (Int32.ofInt x) :: .ref (ad i) :: rest)) := by
  obtain ⟨g1, g2⟩ := zq_idx (k := x) (m := n) h0 h1 hn
  refine va_iald hx hb hK hP q 0 (zws_get kA r ad ph hc) rfl g1 hdg ?_
  rw [g2]
  exact k
theorem zh_st (hx : p.tables.exec = Jvm.exec) (hb : c.code = cc) (hK : va_K D cl (ztys kA) s) (hP : va_P D cl (zws kA r ad ph w) H) (hD : va_D A (zws kA r ad ph w)) (hS : va_S A H0 H locs) (hok : zokW r ph w) {q i n : Nat} {lo hi : Int} (hc : w[q]? = some (i, .inr (.inl (0, n, [(n, .inl (lo, hi))], [])))) {x u : Int} (h0 : 0 ≤ x) (h1 : x + 1 ≤ (n : Int)) (hn : n ≤ 2000000) (u0 : lo ≤ u) (u1 : u ≤ hi) (hdg : decode cc pc = .ok (.iastore, 1))
    (k : ∀ (ph' : Nat → Nat → Int) (H' : Heap) (locs' : List Loc), (∀ j, j ≠ i → ph' j = ph j) → (ph' i = fun j => if j = x.toNat then u else ph i j) → zokW r ph' w → va_P D cl (zws kA r ad ph' w) H' → va_D A (zws kA r ad ph' w) → va_S A H0 H' locs' → W p l e R s m args below meth c H' locs' cells slots Q (F0 m (pc + 1) ls rest)) : W p l e R s m args below meth c H locs cells slots Q (F0 m pc ls (.int (Int32.ofInt u) :: .int (Int32.ofInt x) :: .ref (ad i) :: rest)) := by
  obtain ⟨g1, g2⟩ := zq_idx (k := x) (m := n) h0 h1 hn
  obtain ⟨ph', hph'⟩ : ∃ ph' : Nat → Nat → Int, ph' = fun y => if y = i then (fun j => if j = x.toNat then u else ph i j) else ph y := ⟨_, rfl⟩
  have hp1 : ∀ y, y ≠ i → ph' y = ph y := fun y hy => by rw [hph']; exact if_neg hy
  have hp2 : ph' i = fun j => if j = x.toNat then u else ph i j := by rw [hph']; exact if_pos rfl
  have hset : w.set q (i, .inr (.inl (0, n, [(n, .inl (lo, hi))], []))) = w := by
    obtain ⟨hlt, heq⟩ := List.getElem?_eq_some_iff.mp hc
    rw [← heq]
    exact List.set_getElem_self hlt
  have ews := zws_set (x' := .inr (.inl (0, n, [(n, .inl (lo, hi))], []))) hD hc hp1
  have ef : zce kA r ad (ph' i) (.inr (.inl (0, n, [(n, .inl (lo, hi))], []))) = .inl (kA 0, n, .inl (upd (fun j => Int32.ofInt (ph i j)) x.toNat (Int32.ofInt u))) := by
    rw [hp2]
    show Sum.inl (kA 0, n, Sum.inl _) = _
    congr 4
    funext j
    unfold upd
    dsimp only
    split <;> rfl
  have hc0 : zokC r (ph i) (.inr (.inl (0, n, [(n, .inl (lo, hi))], []))) := hok _ (List.mem_of_getElem? hc)
  have hwok := zokW_set (x' := .inr (.inl (0, n, [(n, .inl (lo, hi))], []))) hD hc hp1 hok ⟨⟨fun j j1 j2 => by
    rw [hp2]
    show lo ≤ (if j = x.toNat then u else ph i j) ∧ (if j = x.toNat then u else ph i j) ≤ hi
    split
    · exact ⟨u0, u1⟩
    · exact hc0.1.1 j j1 j2, trivial⟩, fun y hy => by cases hy⟩
  rw [hset] at ews hwok
  rw [ef] at ews
  refine va_iast hx hb hK hP hD hS q 0 (zws_get kA r ad ph hc) rfl g1 hdg (fun H1 locs1 hP1 hD1 hS1 => ?_)
  rw [g2] at hP1 hD1
  have hP1 : va_P D cl ((zws kA r ad ph w).set q (ad i, .inl (kA 0, n, .inl (upd (fun j => Int32.ofInt (ph i j)) x.toNat (Int32.ofInt u))))) H1 := hP1
  have hD1 : va_D A ((zws kA r ad ph w).set q (ad i, .inl (kA 0, n, .inl (upd (fun j => Int32.ofInt (ph i j)) x.toNat (Int32.ofInt u))))) := hD1
  rw [← ews] at hP1 hD1
  exact k ph' H1 locs1 hp1 hp2 hwok hP1 hD1 hS1
end ZHD
def zFG (C F : Nat → Int) (a b : Int) : Prop := 0 ≤ F (16 * a + b).toNat ∧ F (16 * a + b).toNat ≤ 1000000 ∧ (a = 700 → F (16 * a + b).toNat = 0 ∨ F (16 * a + b).toNat = 1000000) ∧ (a < 700 → F (16 * a + b).toNat < 1000000 → F (16 * a + b).toNat = F (16 * (a + 1) + b).toNat ∨ (C a.toNat ≠ 0 ∧ F (16 * a + b).toNat = F (16 * (a + 1) + zan b (znt (C a.toNat))).toNat + 1))
/-- the table is right behind v, and in row v ahead of L -/
def zFI (C F : Nat → Int) (v L : Int) : Prop := ∀ a b : Int, 0 ≤ a → a ≤ 700 → 0 ≤ b → b < 16 → (v < a ∨ (a = v ∧ b < L)) → zFG C F a b
theorem zFI_row {C F : Nat → Int} {v : Int} (h : zFI C F v 16) : zFI C F (v - 1) 0 := by
  intro a b a0 a1 b0 b1 hd
  exact h a b a0 a1 b0 b1 (by omega)
theorem zFI_step {C F F' : Nat → Int} {v L y : Int} (h : zFI C F v L) (v0 : 0 ≤ v) (v1 : v ≤ 700) (L0 : 0 ≤ L) (L1 : L < 16) (hF : F' = fun j => if j = (16 * v + L).toNat then y else F j) (y0 : 0 ≤ y) (y1 : y ≤ 1000000) (h7 : v = 700 → y = 0 ∨ y = 1000000) (h6 : v < 700 → y < 1000000 → y = F (16 * (v + 1) + L).toNat ∨ (C v.toNat ≠ 0 ∧ y = F (16 * (v + 1) + zan L (znt (C v.toNat))).toNat + 1)) : zFI C F' v (L + 1) := by
  intro a b a0 a1 b0 b1 hd
  have hne : ∀ j : Int, 0 ≤ j → j ≠ 16 * v + L → F' j.toNat = F j.toNat := fun j j0 j1 => by
    rw [hF]
    exact if_neg (by omega)
  have heq : F' (16 * v + L).toNat = y := by
    rw [hF]
    exact if_pos rfl
  have hz := zan_b (znt (C a.toNat)) b0 (by omega)
  unfold zFG
  by_cases hab : a = v ∧ b = L
  · obtain ⟨rfl, rfl⟩ := hab
    rw [heq, hne (16 * (a + 1) + b) (by omega) (by omega), hne (16 * (a + 1) + zan b (znt (C a.toNat))) (by omega) (by omega)]
    exact ⟨y0, y1, h7, h6⟩
  · rw [hne (16 * a + b) (by omega) (by omega), hne (16 * (a + 1) + b) (by omega) (by omega), hne (16 * (a + 1) + zan b (znt (C a.toNat))) (by omega) (by omega)]
    exact h a b a0 a1 b0 b1 (by omega)
end
section
/-- words among others, by pieces -/
theorem yzc {big : List Cond} {C : List (List Cond)} (hC : big = C.flatten) (ws : List Cond) (ps : List Nat) (hp : ws.map some = ps.map (fun p => (C.getD (Nat.div p 1024) [])[Nat.mod p 1024]?)) : ∀ w ∈ ws, w ∈ big := by
  intro w hw
  have h2 : some w ∈ ws.map some := List.mem_map.mpr ⟨w, hw, rfl⟩
  rw [hp] at h2
  obtain ⟨p, -, hq⟩ := List.mem_map.mp h2
  have hm : w ∈ C.getD (Nat.div p 1024) [] := List.mem_of_getElem? hq
  rw [hC]
  cases e : C[Nat.div p 1024]? with
  | none =>
    rw [List.getD_eq_getElem?_getD, e] at hm
    exact absurd hm List.not_mem_nil
  | some c =>
    rw [List.getD_eq_getElem?_getD, e] at hm
    exact List.mem_flatten.mpr ⟨c, List.mem_of_getElem? e, hm⟩
def yC_lw : List (List Cond) := [k2_sels lw_privs, tables_1_1, tables_1_2, tables_1_3, tables_1_4, tables_1_5, tables_1_6]
theorem yCe_lw : lw_tbl = yC_lw.flatten := by
  simp only [lw_tbl, tables_1, yC_lw, List.flatten_cons, List.flatten_nil, List.append_nil]
set_option maxRecDepth 20000 in
theorem in_wsL_law_r1 : ∀ w ∈ wsL_law_r1, w ∈ lw_tbl := yzc yCe_lw _ [1041, 1042, 1025, 4212, 4213, 1033, 1043, 1044, 1045, 1046, 1047, 1048, 1049, 1050, 1026, 2080, 2081, 2082, 1197, 1198, 1029, 2083, 1220, 2084] rfl
set_option maxRecDepth 20000 in
theorem in_wsL_law_r2 : ∀ w ∈ wsL_law_r2, w ∈ lw_tbl := yzc yCe_lw _ [1263, 2048, 1031, 2085, 2061, 2086, 2063, 1032, 1052, 1053, 1054, 1113, 1088, 1124, 1126, 1129, 1135, 1137, 1139, 1141, 1055, 1056, 1027, 1143] rfl
set_option maxRecDepth 20000 in
theorem in_wsL_law_r3 : ∀ w ∈ wsL_law_r3, w ∈ lw_tbl := yzc yCe_lw _ [1146, 1089, 1090, 1028, 1147, 1058, 1059, 1060, 1065, 1068, 1071, 1074, 1092, 1093, 1094, 1100, 1103, 1200, 1201, 1202, 1203, 1204, 1030, 1219] rfl
set_option maxRecDepth 20000 in
theorem in_wsL_law_r4 : ∀ w ∈ wsL_law_r4, w ∈ lw_tbl := yzc yCe_lw _ [1206, 1207, 1208, 1212, 2050, 2051, 2052, 2060, 2053, 2054, 2065, 2066, 2067, 2068, 2071, 4214, 4215, 4216, 4217, 4226, 4227, 4228, 4232, 4233] rfl
set_option maxRecDepth 20000 in
theorem in_wsL_law_r5 : ∀ w ∈ wsL_law_r5, w ∈ lw_tbl := yzc yCe_lw _ [4238, 4239, 4242, 4250, 4253, 4254, 4255, 4256, 4257, 4218, 4220, 25, 4221, 4234, 4235, 4236, 4237, 4240, 4241, 4222, 4224, 26, 4225, 4229] rfl
set_option maxRecDepth 20000 in
theorem in_wsL_law_r6 : ∀ w ∈ wsL_law_r6, w ∈ lw_tbl := yzc yCe_lw _ [4230, 4231, 2108, 2109, 2110, 2111, 1210, 2112, 2113, 2114, 2115, 2116, 2117, 2118, 1209, 4326, 4327, 4328, 4329, 4330, 4243, 4331, 4332, 4333] rfl
set_option maxRecDepth 20000 in
theorem in_wsL_law_r7 : ∀ w ∈ wsL_law_r7, w ∈ lw_tbl := yzc yCe_lw _ [2119, 2120, 2121, 2122, 4334, 4335, 5120, 5121, 2123, 2124, 2125, 2126, 1225, 1227, 2087, 1229, 2127, 2128, 2129, 2130, 1221, 1224, 1226, 1228] rfl
set_option maxRecDepth 20000 in
theorem in_wsL_law_r8 : ∀ w ∈ wsL_law_r8, w ∈ lw_tbl := yzc yCe_lw _ [1230, 1231, 1232, 1233, 1234, 1235, 1222, 1115, 1120, 1211, 2131, 2132, 2133, 2134, 1117, 1121, 1132, 1062, 1097, 1151, 1153, 1155, 1157, 2135] rfl
set_option maxRecDepth 20000 in
theorem in_wsL_law_r9 : ∀ w ∈ wsL_law_r9, w ∈ lw_tbl := yzc yCe_lw _ [2136, 2137, 2138, 2139, 2141, 0, 2142, 1213, 1223, 2143, 2144, 2145, 2146, 2148, 1, 2149, 2150, 2152, 2, 2153, 2155, 2157, 3, 2158] rfl
set_option maxRecDepth 20000 in
theorem in_wsL_law_r10 : ∀ w ∈ wsL_law_r10, w ∈ lw_tbl := yzc yCe_lw _ [2159, 2160, 2161, 1034, 2162, 6259, 2163, 2164, 2165, 2166, 2167, 6260, 2169, 2170, 2171, 2172, 2173, 2174, 2175, 2176, 2177, 2178, 1035, 2179] rfl
set_option maxRecDepth 20000 in
theorem in_wsL_law_r11 : ∀ w ∈ wsL_law_r11, w ∈ lw_tbl := yzc yCe_lw _ [2180, 2181, 2182, 2183, 2185, 2186, 1036, 2187, 2188, 2189, 1037, 2190, 2191, 2192, 2193, 2194, 2195, 2196, 2197, 2198, 2199, 2200, 2201, 2203] rfl
set_option maxRecDepth 20000 in
theorem in_wsL_law_r12 : ∀ w ∈ wsL_law_r12, w ∈ lw_tbl := yzc yCe_lw _ [2205, 2207, 2209, 4, 2210, 1118, 2211, 2213, 5, 2214, 2215, 2217, 6, 2218, 2222, 2224, 7, 2225, 2226, 2227, 2228, 2229, 2231, 2233] rfl
set_option maxRecDepth 20000 in
theorem in_wsL_law_r13 : ∀ w ∈ wsL_law_r13, w ∈ lw_tbl := yzc yCe_lw _ [8, 2234, 1127, 1131, 2235, 2237, 9, 2238, 2239, 2240, 1038, 2241, 2242, 2244, 10, 2245, 2247, 2248, 2250, 2251, 2252, 2254, 11, 2255] rfl
set_option maxRecDepth 20000 in
theorem in_wsL_law_r14 : ∀ w ∈ wsL_law_r14, w ∈ lw_tbl := yzc yCe_lw _ [2257, 2259, 12, 2260, 1134, 2262, 2264, 13, 2265, 2266, 2268, 14, 2269, 2275, 2277, 15, 2278, 2279, 2281, 2283, 16, 2284, 1145, 1064] rfl
set_option maxRecDepth 20000 in
theorem in_wsL_law_r15 : ∀ w ∈ wsL_law_r15, w ∈ lw_tbl := yzc yCe_lw _ [2286, 2287, 3072, 3073, 3074, 3075, 1061, 3077, 3079, 17, 3080, 1150, 1099, 3081, 3082, 3083, 3084, 1095, 3085, 3087, 18, 3088, 3089, 3090] rfl
set_option maxRecDepth 20000 in
theorem in_wsL_law_r16 : ∀ w ∈ wsL_law_r16, w ∈ lw_tbl := yzc yCe_lw _ [3091, 3092, 3093, 3095, 3094, 1039, 3096, 3097, 3098, 3099, 3100, 3101, 3102, 3103, 3104, 3105, 5122, 5123, 5124, 5125, 4248, 4244, 4246, 4249] rfl
set_option maxRecDepth 20000 in
theorem in_wsL_law_r17 : ∀ w ∈ wsL_law_r17, w ∈ lw_tbl := yzc yCe_lw _ [5126, 5128, 27, 5129, 4245, 5134, 5135, 5136, 5137, 4247, 5130, 5132, 28, 5133, 5138, 5140, 29, 5141, 5142, 5144, 30, 5145, 5146, 5148] rfl
set_option maxRecDepth 20000 in
theorem in_wsL_law_r18 : ∀ w ∈ wsL_law_r18, w ∈ lw_tbl := yzc yCe_lw _ [31, 5149, 5150, 5152, 32, 5153, 5154, 5156, 33, 5157, 5158, 5160, 34, 5161, 5162, 5164, 35, 5165, 5166, 5168, 36, 5169, 5170, 5172] rfl
set_option maxRecDepth 20000 in
theorem in_wsL_law_r19 : ∀ w ∈ wsL_law_r19, w ∈ lw_tbl := yzc yCe_lw _ [37, 5173, 5174, 5176, 38, 5177, 5178, 5180, 39, 5181, 5182, 5184, 40, 5185, 5186, 5188, 41, 5189, 5190, 5192, 42, 5193, 5194, 5196] rfl
set_option maxRecDepth 20000 in
theorem in_wsL_law_r20 : ∀ w ∈ wsL_law_r20, w ∈ lw_tbl := yzc yCe_lw _ [43, 5197, 5198, 5200, 44, 5201, 5202, 5204, 45, 5205, 5206, 5208, 46, 5209, 5210, 5212, 47, 5213, 3107, 3108, 3109, 3110, 5214, 5215] rfl
set_option maxRecDepth 20000 in
theorem in_wsL_law_r21 : ∀ w ∈ wsL_law_r21, w ∈ lw_tbl := yzc yCe_lw _ [5216, 5217, 3111, 3112, 3113, 3114, 1116, 1119, 1123, 1144, 1063, 1149, 1098, 1152, 1154, 1156, 1158, 5218, 5219, 5220, 5221, 5225, 5226, 5222] rfl
set_option maxRecDepth 20000 in
theorem in_wsL_law_r22 : ∀ w ∈ wsL_law_r22, w ∈ lw_tbl := yzc yCe_lw _ [5223, 5224, 3115, 3116, 3117, 3118, 1128, 1130, 1133, 1136, 1138, 1140, 1142, 3119, 3120, 3121, 3122, 3124, 3125, 3126, 3127, 5227, 5228, 5229] rfl
set_option maxRecDepth 20000 in
theorem in_wsL_law_r23 : ∀ w ∈ wsL_law_r23, w ∈ lw_tbl := yzc yCe_lw _ [5230, 5231, 5233, 48, 5234, 5235, 5237, 49, 5238, 3128, 3129, 3130, 3131, 1125, 3132, 3133, 3134, 3135, 5239, 5240, 5241, 5242, 3136, 3137] rfl
set_option maxRecDepth 20000 in
theorem in_wsL_law_r24 : ∀ w ∈ wsL_law_r24, w ∈ lw_tbl := yzc yCe_lw _ [3138, 3139, 1066, 1069, 1072, 1075, 5243, 5244, 5245, 5246, 5247, 3140, 3141, 3142, 3143, 1102, 1105, 5248, 5249, 5250, 5251, 3144, 3145, 3146] rfl
set_option maxRecDepth 20000 in
theorem in_wsL_law_r25 : ∀ w ∈ wsL_law_r25, w ∈ lw_tbl := yzc yCe_lw _ [3147, 5252, 5253, 5254, 5255, 5256, 5257, 5259, 50, 5260, 3148, 3149, 3150, 3151, 3152, 5261, 5262, 5263, 5264, 3153, 3154, 3155, 3156, 5265] rfl
set_option maxRecDepth 20000 in
theorem in_wsL_law_r26 : ∀ w ∈ wsL_law_r26, w ∈ lw_tbl := yzc yCe_lw _ [5266, 5267, 5268, 3157, 3158, 3159, 3160, 3161, 3162, 3163, 3164, 5269, 5270, 5271, 5272, 5277, 5273, 5274, 5275, 5276, 3165, 3166, 3167, 3168] rfl
set_option maxRecDepth 20000 in
theorem in_wsL_law_r27 : ∀ w ∈ wsL_law_r27, w ∈ lw_tbl := yzc yCe_lw _ [3169, 3170, 5278, 5279, 5280, 5281, 5282, 5283, 5284, 3171, 3172, 3173, 3174, 3175, 5285, 5286, 5287, 5288, 3176, 3177, 3178, 3179, 5289, 5290] rfl
set_option maxRecDepth 20000 in
theorem in_wsL_law_r28 : ∀ w ∈ wsL_law_r28, w ∈ lw_tbl := yzc yCe_lw _ [5291, 5292, 3180, 3181, 3182, 3183, 3184, 3185, 3186, 3187, 3188, 3189, 1040, 3190, 3191, 3192, 3193, 5293, 5294, 5295, 5296, 5297, 5299, 51] rfl
set_option maxRecDepth 20000 in
theorem in_wsL_law_r29 : ∀ w ∈ wsL_law_r29, w ∈ lw_tbl := yzc yCe_lw _ [5300, 5301, 5303, 52, 5304, 5305, 5306, 5307, 3194, 3195, 3196, 3197, 3198, 3199, 3200, 3201, 3202, 3203, 3204, 3205, 1070, 1067, 3206, 3207] rfl
set_option maxRecDepth 20000 in
theorem in_wsL_law_r30 : ∀ w ∈ wsL_law_r30, w ∈ lw_tbl := yzc yCe_lw _ [3208, 3209, 3210, 3211, 3212, 3213, 3214, 3215, 3216, 3218, 19, 3219, 1073, 1076, 3221, 3222, 3224, 20, 3225, 3227, 3228, 3229, 3230, 5308] rfl
set_option maxRecDepth 20000 in
theorem in_wsL_law_r31 : ∀ w ∈ wsL_law_r31, w ∈ lw_tbl := yzc yCe_lw _ [5309, 5310, 5311, 5312, 4252, 5313, 5315, 53, 5316, 5317, 5319, 54, 5320, 5321, 5323, 55, 5324, 4251, 5325, 5326, 5327, 5328, 5329, 5330] rfl
set_option maxRecDepth 20000 in
theorem in_wsL_law_r32 : ∀ w ∈ wsL_law_r32, w ∈ lw_tbl := yzc yCe_lw _ [5331, 5333, 56, 5334, 5335, 5337, 57, 5338, 5339, 5341, 58, 5342, 5343, 5345, 59, 5346, 3231, 3232, 3233, 3234, 5347, 5348, 5349, 5350] rfl
set_option maxRecDepth 20000 in
theorem in_wsL_law_r33 : ∀ w ∈ wsL_law_r33, w ∈ lw_tbl := yzc yCe_lw _ [3235, 3236, 3237, 3238, 3239, 5351, 5352, 5353, 5354, 3240, 3241, 3242, 3243, 3244, 3245, 3246, 3247, 1114, 3269, 3249, 3250, 3251, 3252, 3253] rfl
set_option maxRecDepth 20000 in
theorem in_wsL_law_r34 : ∀ w ∈ wsL_law_r34, w ∈ lw_tbl := yzc yCe_lw _ [1122, 1148, 1096, 1104, 1101, 3254, 3255, 3256, 3257, 3258, 3260, 21, 3261, 3262, 3264, 22, 3265, 3270, 3271, 3272, 3273, 3274, 3275, 3276] rfl
set_option maxRecDepth 20000 in
theorem in_wsL_law_r35 : ∀ w ∈ wsL_law_r35, w ∈ lw_tbl := yzc yCe_lw _ [5355, 5356, 5357, 5358, 5359, 6168, 6144, 6146, 60, 6147, 6148, 6150, 61, 6151, 6152, 6154, 62, 6155, 6156, 6158, 63, 6159, 6160, 6162] rfl
set_option maxRecDepth 20000 in
theorem in_wsL_law_r36 : ∀ w ∈ wsL_law_r36, w ∈ lw_tbl := yzc yCe_lw _ [64, 6163, 6164, 6166, 65, 6167, 3277, 3278, 3279, 3280, 3281, 3282, 3283, 3284, 6169, 6170, 6171, 6172, 3285, 3286, 3287, 3288, 3289, 6173] rfl
set_option maxRecDepth 20000 in
theorem in_wsL_law_r37 : ∀ w ∈ wsL_law_r37, w ∈ lw_tbl := yzc yCe_lw _ [6174, 6175, 6176, 3290, 3291, 3292, 3293, 3294, 3295, 3296, 3297, 6177, 6178, 6179, 6180, 6181, 6183, 66, 6184, 6185, 6187, 67, 6188, 3298] rfl
set_option maxRecDepth 20000 in
theorem in_wsL_law_r38 : ∀ w ∈ wsL_law_r38, w ∈ lw_tbl := yzc yCe_lw _ [3299, 3300, 3301, 3302, 3303, 3304, 3305, 3306, 6189, 6190, 6191, 6192, 3307, 3308, 3309, 3310, 6193, 6194, 6195, 6196, 6197, 3311, 4096, 4097] rfl
set_option maxRecDepth 20000 in
theorem in_wsL_law_r39 : ∀ w ∈ wsL_law_r39, w ∈ lw_tbl := yzc yCe_lw _ [4098, 4099, 4108, 4100, 4101, 4102, 4103, 4104, 4106, 23, 4107, 4109, 4110, 4111, 6198, 6199, 6200, 6201, 6202, 6203, 6205, 68, 6206, 6207] rfl
set_option maxRecDepth 20000 in
theorem in_wsL_law_r40 : ∀ w ∈ wsL_law_r40, w ∈ lw_tbl := yzc yCe_lw _ [6208, 6209, 6210, 6211, 6212, 4112, 4113, 4114, 4115, 4116, 4117, 4118, 4119, 4120, 4121, 4122, 4123, 4124, 6213, 6214, 6215, 6216, 4125, 4126] rfl
set_option maxRecDepth 20000 in
theorem in_wsL_law_r41 : ∀ w ∈ wsL_law_r41, w ∈ lw_tbl := yzc yCe_lw _ [4127, 4128, 4129, 4130, 4131, 4132, 1038, 4133, 4134, 4135, 4136, 4137, 4138, 6217, 6218, 6219, 6220, 6221, 4139, 4140, 4141, 4142, 6222, 6223] rfl
set_option maxRecDepth 20000 in
theorem in_wsL_law_r42 : ∀ w ∈ wsL_law_r42, w ∈ lw_tbl := yzc yCe_lw _ [6224, 6225, 6226, 6228, 69, 6229, 4143, 4144, 4145, 4146, 6230, 6231, 6232, 6233, 4147, 4148, 4149, 4150, 4151, 4152, 4153, 4154, 4155, 4156] rfl
set_option maxRecDepth 20000 in
theorem in_wsL_law_r43 : ∀ w ∈ wsL_law_r43, w ∈ lw_tbl := yzc yCe_lw _ [4157, 4158, 4159, 4160, 2069, 6234, 6235, 6236, 6237, 6238, 6239, 6240, 6241, 4161, 4162, 4163, 4164, 4165, 4166, 4167, 4168, 4169, 4170, 4171] rfl
set_option maxRecDepth 20000 in
theorem in_wsL_law_r44 : ∀ w ∈ wsL_law_r44, w ∈ lw_tbl := yzc yCe_lw _ [4172, 4174, 4175, 4176, 4177, 6242, 6243, 6244, 6245, 4178, 4179, 4180, 4181, 2072, 2088, 4182, 4183, 4184, 4185, 4186, 4188, 24, 4189, 4190] rfl
set_option maxRecDepth 20000 in
theorem in_wsL_law_r45 : ∀ w ∈ wsL_law_r45, w ∈ lw_tbl := yzc yCe_lw _ [6246, 6247, 6248, 6249, 4258, 6250, 4191, 4192, 4193, 4194, 6251, 6252, 6253, 6254, 4195, 4196, 4197, 4198, 2070, 4199, 4200, 4201, 4202, 4203] rfl
set_option maxRecDepth 20000 in
theorem in_wsL_law_r46 : ∀ w ∈ wsL_law_r46, w ∈ lw_tbl := yzc yCe_lw _ [4204, 4205, 4206, 4207, 4208, 4209, 4210, 4211, 6255, 6256, 6257, 6258] rfl
set_option maxRecDepth 20000 in
theorem inX0 : ∀ w ∈ wsX00, w ∈ lw_tbl := yzc yCe_lw _ [2055, 2057] rfl
set_option maxRecDepth 20000 in
theorem inX1 : ∀ w ∈ wsX10, w ∈ lw_tbl := yzc yCe_lw _ [1236, 1238, 1240, 1242, 1244, 1246, 1248, 1250, 1252, 1254, 1256, 1258, 1260] rfl
set_option maxRecDepth 20000 in
theorem inX2 : ∀ w ∈ wsX20, w ∈ lw_tbl := yzc yCe_lw _ [2073, 2075, 2077] rfl
set_option maxRecDepth 20000 in
theorem inX3 : ∀ w ∈ wsX30, w ∈ lw_tbl := yzc yCe_lw _ [1214, 1216] rfl
set_option maxRecDepth 20000 in
theorem inX4 : ∀ w ∈ wsX40, w ∈ lw_tbl := yzc yCe_lw _ [1159, 1161, 1163, 1165, 1167, 1169, 1171, 1173, 1175, 1177, 1179, 1181, 1183, 1185, 1187, 1189, 1191, 1193] rfl
set_option maxRecDepth 20000 in
theorem inX5 : ∀ w ∈ wsX50, w ∈ lw_tbl := yzc yCe_lw _ [1077, 1079, 1081, 1083, 1085] rfl
set_option maxRecDepth 20000 in
theorem inX6 : ∀ w ∈ wsX60, w ∈ lw_tbl := yzc yCe_lw _ [1106, 1108, 1110] rfl
set_option maxRecDepth 20000 in
theorem inX7 : ∀ w ∈ wsX70, w ∈ lw_tbl := yzc yCe_lw _ [2089, 2091, 2093, 2095, 2097, 2099, 2101, 2103, 2105] rfl
set_option maxRecDepth 20000 in
theorem inX8 : ∀ w ∈ wsX80, w ∈ lw_tbl := yzc yCe_lw _ [4259, 4261, 4263, 4265, 4267, 4269, 4271, 4273, 4275, 4277, 4279, 4281, 4283, 4285, 4287, 4289, 4291, 4293, 4295, 4297, 4299, 4301, 4303, 4305, 4307, 4309, 4311, 4313, 4315, 4317, 4319, 4321, 4323] rfl
theorem wsL_law_in : ∀ w ∈ wsL_law, w ∈ lw_tbl := List.forall_mem_append.mpr ⟨List.forall_mem_append.mpr ⟨List.forall_mem_append.mpr ⟨List.forall_mem_append.mpr ⟨List.forall_mem_append.mpr ⟨List.forall_mem_append.mpr ⟨List.forall_mem_append.mpr ⟨List.forall_mem_append.mpr ⟨List.forall_mem_append.mpr ⟨List.forall_mem_append.mpr ⟨List.forall_mem_append.mpr ⟨in_wsL_law_r1, List.forall_mem_append.mpr ⟨in_wsL_law_r2, List.forall_mem_append.mpr ⟨in_wsL_law_r3, List.forall_mem_append.mpr ⟨in_wsL_law_r4, List.forall_mem_append.mpr ⟨in_wsL_law_r5, List.forall_mem_append.mpr ⟨in_wsL_law_r6, List.forall_mem_append.mpr ⟨in_wsL_law_r7, List.forall_mem_append.mpr ⟨in_wsL_law_r8, List.forall_mem_append.mpr ⟨in_wsL_law_r9, List.forall_mem_append.mpr ⟨in_wsL_law_r10, List.forall_mem_append.mpr ⟨in_wsL_law_r11, List.forall_mem_append.mpr ⟨in_wsL_law_r12, List.forall_mem_append.mpr ⟨in_wsL_law_r13, List.forall_mem_append.mpr ⟨in_wsL_law_r14, List.forall_mem_append.mpr ⟨in_wsL_law_r15, List.forall_mem_append.mpr ⟨in_wsL_law_r16, List.forall_mem_append.mpr ⟨in_wsL_law_r17, List.forall_mem_append.mpr ⟨in_wsL_law_r18, List.forall_mem_append.mpr ⟨in_wsL_law_r19, List.forall_mem_append.mpr ⟨in_wsL_law_r20, List.forall_mem_append.mpr ⟨in_wsL_law_r21, List.forall_mem_append.mpr ⟨in_wsL_law_r22, List.forall_mem_append.mpr ⟨in_wsL_law_r23, List.forall_mem_append.mpr ⟨in_wsL_law_r24, List.forall_mem_append.mpr ⟨in_wsL_law_r25, List.forall_mem_append.mpr ⟨in_wsL_law_r26, List.forall_mem_append.mpr ⟨in_wsL_law_r27, List.forall_mem_append.mpr ⟨in_wsL_law_r28, List.forall_mem_append.mpr ⟨in_wsL_law_r29, List.forall_mem_append.mpr ⟨in_wsL_law_r30, List.forall_mem_append.mpr ⟨in_wsL_law_r31, List.forall_mem_append.mpr ⟨in_wsL_law_r32, List.forall_mem_append.mpr ⟨in_wsL_law_r33, List.forall_mem_append.mpr ⟨in_wsL_law_r34, List.forall_mem_append.mpr ⟨in_wsL_law_r35, List.forall_mem_append.mpr ⟨in_wsL_law_r36, List.forall_mem_append.mpr ⟨in_wsL_law_r37, List.forall_mem_append.mpr ⟨in_wsL_law_r38, List.forall_mem_append.mpr ⟨in_wsL_law_r39, List.forall_mem_append.mpr ⟨in_wsL_law_r40, List.forall_mem_append.mpr ⟨in_wsL_law_r41, List.forall_mem_append.mpr ⟨in_wsL_law_r42, List.forall_mem_append.mpr ⟨in_wsL_law_r43, List.forall_mem_append.mpr ⟨in_wsL_law_r44, List.forall_mem_append.mpr ⟨in_wsL_law_r45, in_wsL_law_r46⟩⟩⟩⟩⟩⟩⟩⟩⟩⟩⟩⟩⟩⟩⟩⟩⟩⟩⟩⟩⟩⟩⟩⟩⟩⟩⟩⟩⟩⟩⟩⟩⟩⟩⟩⟩⟩⟩⟩⟩⟩⟩⟩⟩⟩, inX7⟩, inX8⟩, inX4⟩, inX1⟩, inX0⟩, inX2⟩, inX5⟩, inX6⟩, inX3⟩, fun _ h => absurd h List.not_mem_nil⟩
end
section
noncomputable def zni : List (String × Nat × MethodName × String) := [(RX7, 9, yX4_init, RX7), (RX7, 25, yX1_init, RX7), (RX7, 37, yX0_init, RX7), (RX7, 48, yX2_init, RX7), (RX1, 11, yX3_init, RX7), (RX4, 39, yX5_init, RX7), (RX4, 49, yX6_init, RX7)]
/-- what is known of the start, whatever runs -/
noncomputable def zX : zXT := fun A U H => (∀ q ∈ znst ++ zni, va_Nw (.methodLinkNest q.1 q.2.1 q.2.2.1 q.2.2.2) U) ∧ va_AO RX4 U ∧ va_AO RX2 U ∧ ∀ q ∈ ystrs, ∃ a : Nat, vk_R RX1 q.1 q.2.1 a U ∧ yStr (fun j => q.2.2.1.getD j 0) q.2.2.2.length a A U H
theorem zX_ok : zXok zX := by
  refine ⟨fun A s U H hW h => ?_, fun A u U H hv h => ?_, fun A U H H1 hq h => ?_, fun A B U H hAB h => ?_⟩
  · refine ⟨fun q hq => va_Nw.warmM hW (h.1 q hq), va_AO.moved hW.alike h.2.1, va_AO.moved hW.alike h.2.2.1, fun q hq => ?_⟩
    obtain ⟨a, h1, h2⟩ := h.2.2.2 q hq
    exact ⟨a, h1.warm hW, h2.moved hW.alike⟩
  · have hal : u.vm.Alike U.vm := by rw [hv]; exact Vm.Alike.refl _
    refine ⟨fun q hq => va_Nw.same rfl hv (h.1 q hq), va_AO.moved hal h.2.1, va_AO.moved hal h.2.2.1, fun q hq => ?_⟩
    obtain ⟨a, h1, h2⟩ := h.2.2.2 q hq
    exact ⟨a, h1.same hv.symm, h2.moved hal⟩
  · refine ⟨h.1, h.2.1, h.2.2.1, fun q hq2 => ?_⟩
    obtain ⟨a, h1, h2⟩ := h.2.2.2 q hq2
    exact ⟨a, h1, h2.kept hq⟩
  · refine ⟨h.1, h.2.1, h.2.2.1, fun q hq => ?_⟩
    obtain ⟨a, h1, h2⟩ := h.2.2.2 q hq
    exact ⟨a, h1, h2.narrow hAB⟩
theorem zX_n : zXn zX := fun A U H h a i y ho hm => h.1 (a, i, y, ho) (List.mem_append_left _ hm)
theorem zX_s : yXs zX := fun A U H h => h.2.2.2
theorem zX_i {A : Nat → Prop} {U : State} {H : Heap} (h : zX A U H) {a : String} {i : Nat} {y : MethodName} {ho : String} (hm : (a, i, y, ho) ∈ zni) : va_Nw (.methodLinkNest a i y ho) U := h.1 (a, i, y, ho) (List.mem_append_right _ hm)
noncomputable def zlens : List Nat := [3, 4, 4, 5, 6, 5, 3, 4, 5, 4, 5, 5, 6]
noncomputable def zbyts : List (List Int32) := [[114, 111, 119], [114, 105, 110, 103], [100, 101, 101, 100], [104, 111, 117, 115, 101], [108, 97, 119, 121, 101, 114], [104, 97, 98, 105, 116], [118, 111, 119], [119, 97, 110, 116], [112, 108, 97, 105, 110], [108, 101, 102, 116], [100, 114, 117, 110, 107], [106, 111, 105, 110, 116], [116, 104, 114, 101, 97, 116]]
noncomputable def zsix : List Nat := [81, 91, 93, 98, 103, 108, 113, 118, 214, 216, 218, 220, 222]
/-- one text of the start -/
theorem zstr_of {args : Array Value} {s : State} {A : Nat → Prop} {own tx : String} {x n : Nat} {byt : List Int32} (hn : n < 2147483648) (hr : (Cond.stringRef own x tx).before args s = true) (hex : (Cond.exactly (.string own x) "java/lang/String").before args s = true) (hco : (Cond.eq (.field (.string own x) "java/lang/String" "coder" "B") (.int 0)).before args s = true)
    (har : (Cond.arrayOf (.field (.string own x) "java/lang/String" "value" "[B") .byte).before args s = true) (hle : (Cond.eq (.length (.field (.string own x) "java/lang/String" "value" "[B")) (.int (Int32.ofNat n))).before args s = true)
    (hel : ∀ j : Nat, j < n → (Cond.eq (.elem (.field (.string own x) "java/lang/String" "value" "[B") (.int (Int32.ofNat j))) (.int (byt.getD j 0))).before args s = true) (hA : ∀ a : Nat, a < s.heap.size → ¬ A a) (hz : va_Z "java/lang/String" "COMPACT_STRINGS" "Z" (.int 1) A s s.heap) (hq : va_Zq "jdk/internal/util/Preconditions" "SIOOBE_FORMATTER" "Ljava/util/function/BiFunction;" A s s.heap) : ∃ a : Nat, vk_R own x tx a s ∧ yStr (fun j => byt.getD j 0) n a A s s.heap := by
  obtain ⟨adK, adV, h1, h2⟩ := vk_Sof (N := 1) (tm := fun _ => .string own x) (len := [n]) (byt := [byt]) (A := A) (args := args) (s := s) (fun i hi => by rw [show i = 0 by omega]; show n < 2 ^ 31; omega) (fun i _ => hex) (fun i _ => hco) (fun i _ => har) (fun i hi => by rw [show i = 0 by omega]; exact hle) (fun i hi j hj => by
    have hi : i = 0 := by omega
    subst hi
    exact hel j hj) (fun i j hi hj hij => absurd (show i = j by omega) hij) hA
  obtain ⟨g1, g2, g3, g4⟩ := h1.1 0 (by omega)
  have e := h2 0 (by omega)
  exact ⟨adK 0, vk_R.of hr e, hn, g1, g2, hz, hq, adV 0, g3, g4⟩
noncomputable def zR_law : String := "VowTerraceLaw"
set_option maxRecDepth 20000 in
theorem zst_81 {args : Array Value} {s : State} {A : Nat → Prop} (hgv : (Jvm.Cond.and given_1 narrow_1).before args s = true) (hts : ∀ w ∈ lw_tbl, w.before args s = true) (hA : ∀ a : Nat, a < s.heap.size → ¬ A a) (hz : va_Z "java/lang/String" "COMPACT_STRINGS" "Z" (.int 1) A s s.heap) (hq : va_Zq "jdk/internal/util/Preconditions" "SIOOBE_FORMATTER" "Ljava/util/function/BiFunction;" A s s.heap) : ∃ a : Nat, vk_R RX1 81 "row" a s ∧ yStr (fun j => ([114, 111, 119] : List Int32).getD j 0) 3 a A s s.heap := by
  have hs := flat_of_before _ hgv
  exact zstr_of (byt := [114, 111, 119]) (by omega) (hts (.stringRef RX1 81 "row") (by decide +kernel)) (hs (.exactly (.string RX1 81) "java/lang/String") (by decide +kernel)) (hs (.eq (.field (.string RX1 81) "java/lang/String" "coder" "B") (.int 0)) (by decide +kernel)) (hs (.arrayOf (.field (.string RX1 81) "java/lang/String" "value" "[B") .byte) (by decide +kernel)) (hs (.eq (.length (.field (.string RX1 81) "java/lang/String" "value" "[B")) (.int 3)) (by decide +kernel)) (fun j hj => by
      match j, hj with
      | 0, _ => exact hs (.eq (.elem (.field (.string RX1 81) "java/lang/String" "value" "[B") (.int 0)) (.int 114)) (by decide +kernel)
      | 1, _ => exact hs (.eq (.elem (.field (.string RX1 81) "java/lang/String" "value" "[B") (.int 1)) (.int 111)) (by decide +kernel)
      | 2, _ => exact hs (.eq (.elem (.field (.string RX1 81) "java/lang/String" "value" "[B") (.int 2)) (.int 119)) (by decide +kernel)
      | j + 3, hj => omega) hA hz hq
set_option maxRecDepth 20000 in
theorem zst_91 {args : Array Value} {s : State} {A : Nat → Prop} (hgv : (Jvm.Cond.and given_1 narrow_1).before args s = true) (hts : ∀ w ∈ lw_tbl, w.before args s = true) (hA : ∀ a : Nat, a < s.heap.size → ¬ A a) (hz : va_Z "java/lang/String" "COMPACT_STRINGS" "Z" (.int 1) A s s.heap) (hq : va_Zq "jdk/internal/util/Preconditions" "SIOOBE_FORMATTER" "Ljava/util/function/BiFunction;" A s s.heap) : ∃ a : Nat, vk_R RX1 91 "ring" a s ∧ yStr (fun j => ([114, 105, 110, 103] : List Int32).getD j 0) 4 a A s s.heap := by
  have hs := flat_of_before _ hgv
  exact zstr_of (byt := [114, 105, 110, 103]) (by omega) (hts (.stringRef RX1 91 "ring") (by decide +kernel)) (hs (.exactly (.string RX1 91) "java/lang/String") (by decide +kernel)) (hs (.eq (.field (.string RX1 91) "java/lang/String" "coder" "B") (.int 0)) (by decide +kernel)) (hs (.arrayOf (.field (.string RX1 91) "java/lang/String" "value" "[B") .byte) (by decide +kernel)) (hs (.eq (.length (.field (.string RX1 91) "java/lang/String" "value" "[B")) (.int 4)) (by decide +kernel)) (fun j hj => by
      match j, hj with
      | 0, _ => exact hs (.eq (.elem (.field (.string RX1 91) "java/lang/String" "value" "[B") (.int 0)) (.int 114)) (by decide +kernel)
      | 1, _ => exact hs (.eq (.elem (.field (.string RX1 91) "java/lang/String" "value" "[B") (.int 1)) (.int 105)) (by decide +kernel)
      | 2, _ => exact hs (.eq (.elem (.field (.string RX1 91) "java/lang/String" "value" "[B") (.int 2)) (.int 110)) (by decide +kernel)
      | 3, _ => exact hs (.eq (.elem (.field (.string RX1 91) "java/lang/String" "value" "[B") (.int 3)) (.int 103)) (by decide +kernel)
      | j + 4, hj => omega) hA hz hq
set_option maxRecDepth 20000 in
theorem zst_93 {args : Array Value} {s : State} {A : Nat → Prop} (hgv : (Jvm.Cond.and given_1 narrow_1).before args s = true) (hts : ∀ w ∈ lw_tbl, w.before args s = true) (hA : ∀ a : Nat, a < s.heap.size → ¬ A a) (hz : va_Z "java/lang/String" "COMPACT_STRINGS" "Z" (.int 1) A s s.heap) (hq : va_Zq "jdk/internal/util/Preconditions" "SIOOBE_FORMATTER" "Ljava/util/function/BiFunction;" A s s.heap) : ∃ a : Nat, vk_R RX1 93 "deed" a s ∧ yStr (fun j => ([100, 101, 101, 100] : List Int32).getD j 0) 4 a A s s.heap := by
  have hs := flat_of_before _ hgv
  exact zstr_of (byt := [100, 101, 101, 100]) (by omega) (hts (.stringRef RX1 93 "deed") (by decide +kernel)) (hs (.exactly (.string RX1 93) "java/lang/String") (by decide +kernel)) (hs (.eq (.field (.string RX1 93) "java/lang/String" "coder" "B") (.int 0)) (by decide +kernel)) (hs (.arrayOf (.field (.string RX1 93) "java/lang/String" "value" "[B") .byte) (by decide +kernel)) (hs (.eq (.length (.field (.string RX1 93) "java/lang/String" "value" "[B")) (.int 4)) (by decide +kernel)) (fun j hj => by
      match j, hj with
      | 0, _ => exact hs (.eq (.elem (.field (.string RX1 93) "java/lang/String" "value" "[B") (.int 0)) (.int 100)) (by decide +kernel)
      | 1, _ => exact hs (.eq (.elem (.field (.string RX1 93) "java/lang/String" "value" "[B") (.int 1)) (.int 101)) (by decide +kernel)
      | 2, _ => exact hs (.eq (.elem (.field (.string RX1 93) "java/lang/String" "value" "[B") (.int 2)) (.int 101)) (by decide +kernel)
      | 3, _ => exact hs (.eq (.elem (.field (.string RX1 93) "java/lang/String" "value" "[B") (.int 3)) (.int 100)) (by decide +kernel)
      | j + 4, hj => omega) hA hz hq
set_option maxRecDepth 20000 in
theorem zst_98 {args : Array Value} {s : State} {A : Nat → Prop} (hgv : (Jvm.Cond.and given_1 narrow_1).before args s = true) (hts : ∀ w ∈ lw_tbl, w.before args s = true) (hA : ∀ a : Nat, a < s.heap.size → ¬ A a) (hz : va_Z "java/lang/String" "COMPACT_STRINGS" "Z" (.int 1) A s s.heap) (hq : va_Zq "jdk/internal/util/Preconditions" "SIOOBE_FORMATTER" "Ljava/util/function/BiFunction;" A s s.heap) : ∃ a : Nat, vk_R RX1 98 "house" a s ∧ yStr (fun j => ([104, 111, 117, 115, 101] : List Int32).getD j 0) 5 a A s s.heap := by
  have hs := flat_of_before _ hgv
  exact zstr_of (byt := [104, 111, 117, 115, 101]) (by omega) (hts (.stringRef RX1 98 "house") (by decide +kernel)) (hs (.exactly (.string RX1 98) "java/lang/String") (by decide +kernel)) (hs (.eq (.field (.string RX1 98) "java/lang/String" "coder" "B") (.int 0)) (by decide +kernel)) (hs (.arrayOf (.field (.string RX1 98) "java/lang/String" "value" "[B") .byte) (by decide +kernel)) (hs (.eq (.length (.field (.string RX1 98) "java/lang/String" "value" "[B")) (.int 5)) (by decide +kernel)) (fun j hj => by
      match j, hj with
      | 0, _ => exact hs (.eq (.elem (.field (.string RX1 98) "java/lang/String" "value" "[B") (.int 0)) (.int 104)) (by decide +kernel)
      | 1, _ => exact hs (.eq (.elem (.field (.string RX1 98) "java/lang/String" "value" "[B") (.int 1)) (.int 111)) (by decide +kernel)
      | 2, _ => exact hs (.eq (.elem (.field (.string RX1 98) "java/lang/String" "value" "[B") (.int 2)) (.int 117)) (by decide +kernel)
      | 3, _ => exact hs (.eq (.elem (.field (.string RX1 98) "java/lang/String" "value" "[B") (.int 3)) (.int 115)) (by decide +kernel)
      | 4, _ => exact hs (.eq (.elem (.field (.string RX1 98) "java/lang/String" "value" "[B") (.int 4)) (.int 101)) (by decide +kernel)
      | j + 5, hj => omega) hA hz hq
set_option maxRecDepth 20000 in
theorem zst_103 {args : Array Value} {s : State} {A : Nat → Prop} (hgv : (Jvm.Cond.and given_1 narrow_1).before args s = true) (hts : ∀ w ∈ lw_tbl, w.before args s = true) (hA : ∀ a : Nat, a < s.heap.size → ¬ A a) (hz : va_Z "java/lang/String" "COMPACT_STRINGS" "Z" (.int 1) A s s.heap) (hq : va_Zq "jdk/internal/util/Preconditions" "SIOOBE_FORMATTER" "Ljava/util/function/BiFunction;" A s s.heap) : ∃ a : Nat, vk_R RX1 103 "lawyer" a s ∧ yStr (fun j => ([108, 97, 119, 121, 101, 114] : List Int32).getD j 0) 6 a A s s.heap := by
  have hs := flat_of_before _ hgv
  exact zstr_of (byt := [108, 97, 119, 121, 101, 114]) (by omega) (hts (.stringRef RX1 103 "lawyer") (by decide +kernel)) (hs (.exactly (.string RX1 103) "java/lang/String") (by decide +kernel)) (hs (.eq (.field (.string RX1 103) "java/lang/String" "coder" "B") (.int 0)) (by decide +kernel)) (hs (.arrayOf (.field (.string RX1 103) "java/lang/String" "value" "[B") .byte) (by decide +kernel)) (hs (.eq (.length (.field (.string RX1 103) "java/lang/String" "value" "[B")) (.int 6)) (by decide +kernel)) (fun j hj => by
      match j, hj with
      | 0, _ => exact hs (.eq (.elem (.field (.string RX1 103) "java/lang/String" "value" "[B") (.int 0)) (.int 108)) (by decide +kernel)
      | 1, _ => exact hs (.eq (.elem (.field (.string RX1 103) "java/lang/String" "value" "[B") (.int 1)) (.int 97)) (by decide +kernel)
      | 2, _ => exact hs (.eq (.elem (.field (.string RX1 103) "java/lang/String" "value" "[B") (.int 2)) (.int 119)) (by decide +kernel)
      | 3, _ => exact hs (.eq (.elem (.field (.string RX1 103) "java/lang/String" "value" "[B") (.int 3)) (.int 121)) (by decide +kernel)
      | 4, _ => exact hs (.eq (.elem (.field (.string RX1 103) "java/lang/String" "value" "[B") (.int 4)) (.int 101)) (by decide +kernel)
      | 5, _ => exact hs (.eq (.elem (.field (.string RX1 103) "java/lang/String" "value" "[B") (.int 5)) (.int 114)) (by decide +kernel)
      | j + 6, hj => omega) hA hz hq
set_option maxRecDepth 20000 in
theorem zst_108 {args : Array Value} {s : State} {A : Nat → Prop} (hgv : (Jvm.Cond.and given_1 narrow_1).before args s = true) (hts : ∀ w ∈ lw_tbl, w.before args s = true) (hA : ∀ a : Nat, a < s.heap.size → ¬ A a) (hz : va_Z "java/lang/String" "COMPACT_STRINGS" "Z" (.int 1) A s s.heap) (hq : va_Zq "jdk/internal/util/Preconditions" "SIOOBE_FORMATTER" "Ljava/util/function/BiFunction;" A s s.heap) : ∃ a : Nat, vk_R RX1 108 "habit" a s ∧ yStr (fun j => ([104, 97, 98, 105, 116] : List Int32).getD j 0) 5 a A s s.heap := by
  have hs := flat_of_before _ hgv
  exact zstr_of (byt := [104, 97, 98, 105, 116]) (by omega) (hts (.stringRef RX1 108 "habit") (by decide +kernel)) (hs (.exactly (.string RX1 108) "java/lang/String") (by decide +kernel)) (hs (.eq (.field (.string RX1 108) "java/lang/String" "coder" "B") (.int 0)) (by decide +kernel)) (hs (.arrayOf (.field (.string RX1 108) "java/lang/String" "value" "[B") .byte) (by decide +kernel)) (hs (.eq (.length (.field (.string RX1 108) "java/lang/String" "value" "[B")) (.int 5)) (by decide +kernel)) (fun j hj => by
      match j, hj with
      | 0, _ => exact hs (.eq (.elem (.field (.string RX1 108) "java/lang/String" "value" "[B") (.int 0)) (.int 104)) (by decide +kernel)
      | 1, _ => exact hs (.eq (.elem (.field (.string RX1 108) "java/lang/String" "value" "[B") (.int 1)) (.int 97)) (by decide +kernel)
      | 2, _ => exact hs (.eq (.elem (.field (.string RX1 108) "java/lang/String" "value" "[B") (.int 2)) (.int 98)) (by decide +kernel)
      | 3, _ => exact hs (.eq (.elem (.field (.string RX1 108) "java/lang/String" "value" "[B") (.int 3)) (.int 105)) (by decide +kernel)
      | 4, _ => exact hs (.eq (.elem (.field (.string RX1 108) "java/lang/String" "value" "[B") (.int 4)) (.int 116)) (by decide +kernel)
      | j + 5, hj => omega) hA hz hq
set_option maxRecDepth 20000 in
theorem zst_113 {args : Array Value} {s : State} {A : Nat → Prop} (hgv : (Jvm.Cond.and given_1 narrow_1).before args s = true) (hts : ∀ w ∈ lw_tbl, w.before args s = true) (hA : ∀ a : Nat, a < s.heap.size → ¬ A a) (hz : va_Z "java/lang/String" "COMPACT_STRINGS" "Z" (.int 1) A s s.heap) (hq : va_Zq "jdk/internal/util/Preconditions" "SIOOBE_FORMATTER" "Ljava/util/function/BiFunction;" A s s.heap) : ∃ a : Nat, vk_R RX1 113 "vow" a s ∧ yStr (fun j => ([118, 111, 119] : List Int32).getD j 0) 3 a A s s.heap := by
  have hs := flat_of_before _ hgv
  exact zstr_of (byt := [118, 111, 119]) (by omega) (hts (.stringRef RX1 113 "vow") (by decide +kernel)) (hs (.exactly (.string RX1 113) "java/lang/String") (by decide +kernel)) (hs (.eq (.field (.string RX1 113) "java/lang/String" "coder" "B") (.int 0)) (by decide +kernel)) (hs (.arrayOf (.field (.string RX1 113) "java/lang/String" "value" "[B") .byte) (by decide +kernel)) (hs (.eq (.length (.field (.string RX1 113) "java/lang/String" "value" "[B")) (.int 3)) (by decide +kernel)) (fun j hj => by
      match j, hj with
      | 0, _ => exact hs (.eq (.elem (.field (.string RX1 113) "java/lang/String" "value" "[B") (.int 0)) (.int 118)) (by decide +kernel)
      | 1, _ => exact hs (.eq (.elem (.field (.string RX1 113) "java/lang/String" "value" "[B") (.int 1)) (.int 111)) (by decide +kernel)
      | 2, _ => exact hs (.eq (.elem (.field (.string RX1 113) "java/lang/String" "value" "[B") (.int 2)) (.int 119)) (by decide +kernel)
      | j + 3, hj => omega) hA hz hq
set_option maxRecDepth 20000 in
theorem zst_118 {args : Array Value} {s : State} {A : Nat → Prop} (hgv : (Jvm.Cond.and given_1 narrow_1).before args s = true) (hts : ∀ w ∈ lw_tbl, w.before args s = true) (hA : ∀ a : Nat, a < s.heap.size → ¬ A a) (hz : va_Z "java/lang/String" "COMPACT_STRINGS" "Z" (.int 1) A s s.heap) (hq : va_Zq "jdk/internal/util/Preconditions" "SIOOBE_FORMATTER" "Ljava/util/function/BiFunction;" A s s.heap) : ∃ a : Nat, vk_R RX1 118 "want" a s ∧ yStr (fun j => ([119, 97, 110, 116] : List Int32).getD j 0) 4 a A s s.heap := by
  have hs := flat_of_before _ hgv
  exact zstr_of (byt := [119, 97, 110, 116]) (by omega) (hts (.stringRef RX1 118 "want") (by decide +kernel)) (hs (.exactly (.string RX1 118) "java/lang/String") (by decide +kernel)) (hs (.eq (.field (.string RX1 118) "java/lang/String" "coder" "B") (.int 0)) (by decide +kernel)) (hs (.arrayOf (.field (.string RX1 118) "java/lang/String" "value" "[B") .byte) (by decide +kernel)) (hs (.eq (.length (.field (.string RX1 118) "java/lang/String" "value" "[B")) (.int 4)) (by decide +kernel)) (fun j hj => by
      match j, hj with
      | 0, _ => exact hs (.eq (.elem (.field (.string RX1 118) "java/lang/String" "value" "[B") (.int 0)) (.int 119)) (by decide +kernel)
      | 1, _ => exact hs (.eq (.elem (.field (.string RX1 118) "java/lang/String" "value" "[B") (.int 1)) (.int 97)) (by decide +kernel)
      | 2, _ => exact hs (.eq (.elem (.field (.string RX1 118) "java/lang/String" "value" "[B") (.int 2)) (.int 110)) (by decide +kernel)
      | 3, _ => exact hs (.eq (.elem (.field (.string RX1 118) "java/lang/String" "value" "[B") (.int 3)) (.int 116)) (by decide +kernel)
      | j + 4, hj => omega) hA hz hq
set_option maxRecDepth 20000 in
theorem zst_214 {args : Array Value} {s : State} {A : Nat → Prop} (hgv : (Jvm.Cond.and given_1 narrow_1).before args s = true) (hts : ∀ w ∈ lw_tbl, w.before args s = true) (hA : ∀ a : Nat, a < s.heap.size → ¬ A a) (hz : va_Z "java/lang/String" "COMPACT_STRINGS" "Z" (.int 1) A s s.heap) (hq : va_Zq "jdk/internal/util/Preconditions" "SIOOBE_FORMATTER" "Ljava/util/function/BiFunction;" A s s.heap) : ∃ a : Nat, vk_R RX1 214 "plain" a s ∧ yStr (fun j => ([112, 108, 97, 105, 110] : List Int32).getD j 0) 5 a A s s.heap := by
  have hs := flat_of_before _ hgv
  exact zstr_of (byt := [112, 108, 97, 105, 110]) (by omega) (hts (.stringRef RX1 214 "plain") (by decide +kernel)) (hs (.exactly (.string RX1 214) "java/lang/String") (by decide +kernel)) (hs (.eq (.field (.string RX1 214) "java/lang/String" "coder" "B") (.int 0)) (by decide +kernel)) (hs (.arrayOf (.field (.string RX1 214) "java/lang/String" "value" "[B") .byte) (by decide +kernel)) (hs (.eq (.length (.field (.string RX1 214) "java/lang/String" "value" "[B")) (.int 5)) (by decide +kernel)) (fun j hj => by
      match j, hj with
      | 0, _ => exact hs (.eq (.elem (.field (.string RX1 214) "java/lang/String" "value" "[B") (.int 0)) (.int 112)) (by decide +kernel)
      | 1, _ => exact hs (.eq (.elem (.field (.string RX1 214) "java/lang/String" "value" "[B") (.int 1)) (.int 108)) (by decide +kernel)
      | 2, _ => exact hs (.eq (.elem (.field (.string RX1 214) "java/lang/String" "value" "[B") (.int 2)) (.int 97)) (by decide +kernel)
      | 3, _ => exact hs (.eq (.elem (.field (.string RX1 214) "java/lang/String" "value" "[B") (.int 3)) (.int 105)) (by decide +kernel)
      | 4, _ => exact hs (.eq (.elem (.field (.string RX1 214) "java/lang/String" "value" "[B") (.int 4)) (.int 110)) (by decide +kernel)
      | j + 5, hj => omega) hA hz hq
set_option maxRecDepth 20000 in
theorem zst_216 {args : Array Value} {s : State} {A : Nat → Prop} (hgv : (Jvm.Cond.and given_1 narrow_1).before args s = true) (hts : ∀ w ∈ lw_tbl, w.before args s = true) (hA : ∀ a : Nat, a < s.heap.size → ¬ A a) (hz : va_Z "java/lang/String" "COMPACT_STRINGS" "Z" (.int 1) A s s.heap) (hq : va_Zq "jdk/internal/util/Preconditions" "SIOOBE_FORMATTER" "Ljava/util/function/BiFunction;" A s s.heap) : ∃ a : Nat, vk_R RX1 216 "left" a s ∧ yStr (fun j => ([108, 101, 102, 116] : List Int32).getD j 0) 4 a A s s.heap := by
  have hs := flat_of_before _ hgv
  exact zstr_of (byt := [108, 101, 102, 116]) (by omega) (hts (.stringRef RX1 216 "left") (by decide +kernel)) (hs (.exactly (.string RX1 216) "java/lang/String") (by decide +kernel)) (hs (.eq (.field (.string RX1 216) "java/lang/String" "coder" "B") (.int 0)) (by decide +kernel)) (hs (.arrayOf (.field (.string RX1 216) "java/lang/String" "value" "[B") .byte) (by decide +kernel)) (hs (.eq (.length (.field (.string RX1 216) "java/lang/String" "value" "[B")) (.int 4)) (by decide +kernel)) (fun j hj => by
      match j, hj with
      | 0, _ => exact hs (.eq (.elem (.field (.string RX1 216) "java/lang/String" "value" "[B") (.int 0)) (.int 108)) (by decide +kernel)
      | 1, _ => exact hs (.eq (.elem (.field (.string RX1 216) "java/lang/String" "value" "[B") (.int 1)) (.int 101)) (by decide +kernel)
      | 2, _ => exact hs (.eq (.elem (.field (.string RX1 216) "java/lang/String" "value" "[B") (.int 2)) (.int 102)) (by decide +kernel)
      | 3, _ => exact hs (.eq (.elem (.field (.string RX1 216) "java/lang/String" "value" "[B") (.int 3)) (.int 116)) (by decide +kernel)
      | j + 4, hj => omega) hA hz hq
set_option maxRecDepth 20000 in
theorem zst_218 {args : Array Value} {s : State} {A : Nat → Prop} (hgv : (Jvm.Cond.and given_1 narrow_1).before args s = true) (hts : ∀ w ∈ lw_tbl, w.before args s = true) (hA : ∀ a : Nat, a < s.heap.size → ¬ A a) (hz : va_Z "java/lang/String" "COMPACT_STRINGS" "Z" (.int 1) A s s.heap) (hq : va_Zq "jdk/internal/util/Preconditions" "SIOOBE_FORMATTER" "Ljava/util/function/BiFunction;" A s s.heap) : ∃ a : Nat, vk_R RX1 218 "drunk" a s ∧ yStr (fun j => ([100, 114, 117, 110, 107] : List Int32).getD j 0) 5 a A s s.heap := by
  have hs := flat_of_before _ hgv
  exact zstr_of (byt := [100, 114, 117, 110, 107]) (by omega) (hts (.stringRef RX1 218 "drunk") (by decide +kernel)) (hs (.exactly (.string RX1 218) "java/lang/String") (by decide +kernel)) (hs (.eq (.field (.string RX1 218) "java/lang/String" "coder" "B") (.int 0)) (by decide +kernel)) (hs (.arrayOf (.field (.string RX1 218) "java/lang/String" "value" "[B") .byte) (by decide +kernel)) (hs (.eq (.length (.field (.string RX1 218) "java/lang/String" "value" "[B")) (.int 5)) (by decide +kernel)) (fun j hj => by
      match j, hj with
      | 0, _ => exact hs (.eq (.elem (.field (.string RX1 218) "java/lang/String" "value" "[B") (.int 0)) (.int 100)) (by decide +kernel)
      | 1, _ => exact hs (.eq (.elem (.field (.string RX1 218) "java/lang/String" "value" "[B") (.int 1)) (.int 114)) (by decide +kernel)
      | 2, _ => exact hs (.eq (.elem (.field (.string RX1 218) "java/lang/String" "value" "[B") (.int 2)) (.int 117)) (by decide +kernel)
      | 3, _ => exact hs (.eq (.elem (.field (.string RX1 218) "java/lang/String" "value" "[B") (.int 3)) (.int 110)) (by decide +kernel)
      | 4, _ => exact hs (.eq (.elem (.field (.string RX1 218) "java/lang/String" "value" "[B") (.int 4)) (.int 107)) (by decide +kernel)
      | j + 5, hj => omega) hA hz hq
set_option maxRecDepth 20000 in
theorem zst_220 {args : Array Value} {s : State} {A : Nat → Prop} (hgv : (Jvm.Cond.and given_1 narrow_1).before args s = true) (hts : ∀ w ∈ lw_tbl, w.before args s = true) (hA : ∀ a : Nat, a < s.heap.size → ¬ A a) (hz : va_Z "java/lang/String" "COMPACT_STRINGS" "Z" (.int 1) A s s.heap) (hq : va_Zq "jdk/internal/util/Preconditions" "SIOOBE_FORMATTER" "Ljava/util/function/BiFunction;" A s s.heap) : ∃ a : Nat, vk_R RX1 220 "joint" a s ∧ yStr (fun j => ([106, 111, 105, 110, 116] : List Int32).getD j 0) 5 a A s s.heap := by
  have hs := flat_of_before _ hgv
  exact zstr_of (byt := [106, 111, 105, 110, 116]) (by omega) (hts (.stringRef RX1 220 "joint") (by decide +kernel)) (hs (.exactly (.string RX1 220) "java/lang/String") (by decide +kernel)) (hs (.eq (.field (.string RX1 220) "java/lang/String" "coder" "B") (.int 0)) (by decide +kernel)) (hs (.arrayOf (.field (.string RX1 220) "java/lang/String" "value" "[B") .byte) (by decide +kernel)) (hs (.eq (.length (.field (.string RX1 220) "java/lang/String" "value" "[B")) (.int 5)) (by decide +kernel)) (fun j hj => by
      match j, hj with
      | 0, _ => exact hs (.eq (.elem (.field (.string RX1 220) "java/lang/String" "value" "[B") (.int 0)) (.int 106)) (by decide +kernel)
      | 1, _ => exact hs (.eq (.elem (.field (.string RX1 220) "java/lang/String" "value" "[B") (.int 1)) (.int 111)) (by decide +kernel)
      | 2, _ => exact hs (.eq (.elem (.field (.string RX1 220) "java/lang/String" "value" "[B") (.int 2)) (.int 105)) (by decide +kernel)
      | 3, _ => exact hs (.eq (.elem (.field (.string RX1 220) "java/lang/String" "value" "[B") (.int 3)) (.int 110)) (by decide +kernel)
      | 4, _ => exact hs (.eq (.elem (.field (.string RX1 220) "java/lang/String" "value" "[B") (.int 4)) (.int 116)) (by decide +kernel)
      | j + 5, hj => omega) hA hz hq
set_option maxRecDepth 20000 in
theorem zst_222 {args : Array Value} {s : State} {A : Nat → Prop} (hgv : (Jvm.Cond.and given_1 narrow_1).before args s = true) (hts : ∀ w ∈ lw_tbl, w.before args s = true) (hA : ∀ a : Nat, a < s.heap.size → ¬ A a) (hz : va_Z "java/lang/String" "COMPACT_STRINGS" "Z" (.int 1) A s s.heap) (hq : va_Zq "jdk/internal/util/Preconditions" "SIOOBE_FORMATTER" "Ljava/util/function/BiFunction;" A s s.heap) : ∃ a : Nat, vk_R RX1 222 "threat" a s ∧ yStr (fun j => ([116, 104, 114, 101, 97, 116] : List Int32).getD j 0) 6 a A s s.heap := by
  have hs := flat_of_before _ hgv
  exact zstr_of (byt := [116, 104, 114, 101, 97, 116]) (by omega) (hts (.stringRef RX1 222 "threat") (by decide +kernel)) (hs (.exactly (.string RX1 222) "java/lang/String") (by decide +kernel)) (hs (.eq (.field (.string RX1 222) "java/lang/String" "coder" "B") (.int 0)) (by decide +kernel)) (hs (.arrayOf (.field (.string RX1 222) "java/lang/String" "value" "[B") .byte) (by decide +kernel)) (hs (.eq (.length (.field (.string RX1 222) "java/lang/String" "value" "[B")) (.int 6)) (by decide +kernel)) (fun j hj => by
      match j, hj with
      | 0, _ => exact hs (.eq (.elem (.field (.string RX1 222) "java/lang/String" "value" "[B") (.int 0)) (.int 116)) (by decide +kernel)
      | 1, _ => exact hs (.eq (.elem (.field (.string RX1 222) "java/lang/String" "value" "[B") (.int 1)) (.int 104)) (by decide +kernel)
      | 2, _ => exact hs (.eq (.elem (.field (.string RX1 222) "java/lang/String" "value" "[B") (.int 2)) (.int 114)) (by decide +kernel)
      | 3, _ => exact hs (.eq (.elem (.field (.string RX1 222) "java/lang/String" "value" "[B") (.int 3)) (.int 101)) (by decide +kernel)
      | 4, _ => exact hs (.eq (.elem (.field (.string RX1 222) "java/lang/String" "value" "[B") (.int 4)) (.int 97)) (by decide +kernel)
      | 5, _ => exact hs (.eq (.elem (.field (.string RX1 222) "java/lang/String" "value" "[B") (.int 5)) (.int 116)) (by decide +kernel)
      | j + 6, hj => omega) hA hz hq
set_option maxRecDepth 20000 in
theorem znst_in : ∀ q ∈ znst ++ zni, Cond.methodLinkNest q.1 q.2.1 q.2.2.1 q.2.2.2 ∈ lw_tbl := by decide +kernel
set_option maxRecDepth 20000 in
theorem zX_start {args : Array Value} {s : State} (hgv : (Jvm.Cond.and given_1 narrow_1).before args s = true) (hts : ∀ w ∈ lw_tbl, w.before args s = true) : zX (fun q => s.heap.size ≤ q) s s.heap := by
  have hs := flat_of_before _ hgv
  have hA : ∀ a : Nat, a < s.heap.size → ¬ (fun q => s.heap.size ≤ q) a := fun a h => Nat.not_le.mpr h
  have hz : va_Z "java/lang/String" "COMPACT_STRINGS" "Z" (.int 1) (fun q => s.heap.size ≤ q) s s.heap := va_Zof (hts (.laysStatic "java/lang/String" "COMPACT_STRINGS" "Z") (by decide +kernel)) (hts (.initialized "java/lang/String") (by decide +kernel)) (va_eqt (hs (.eq (.static "java/lang/String" "COMPACT_STRINGS" "Z") (.int 1)) (by decide +kernel))) hA
  have hq : va_Zq "jdk/internal/util/Preconditions" "SIOOBE_FORMATTER" "Ljava/util/function/BiFunction;" (fun q => s.heap.size ≤ q) s s.heap := va_Zqof (hts (.laysStatic "jdk/internal/util/Preconditions" "SIOOBE_FORMATTER" "Ljava/util/function/BiFunction;") (by decide +kernel)) (hts (.initialized "jdk/internal/util/Preconditions") (by decide +kernel)) (hs (.isRef (.static "jdk/internal/util/Preconditions" "SIOOBE_FORMATTER" "Ljava/util/function/BiFunction;")) (by decide +kernel)) hA
  exact ⟨fun q hq => va_Nw.of rfl (hts _ (znst_in q hq)), va_AO.of (hts (.arrayOver (.object RX4)) (by decide +kernel)), va_AO.of (hts (.arrayOver (.object RX2)) (by decide +kernel)), List.forall_mem_cons.mpr ⟨zst_81 hgv hts hA hz hq, List.forall_mem_cons.mpr ⟨zst_91 hgv hts hA hz hq, List.forall_mem_cons.mpr ⟨zst_93 hgv hts hA hz hq, List.forall_mem_cons.mpr ⟨zst_98 hgv hts hA hz hq, List.forall_mem_cons.mpr ⟨zst_103 hgv hts hA hz hq, List.forall_mem_cons.mpr ⟨zst_108 hgv hts hA hz hq, List.forall_mem_cons.mpr ⟨zst_113 hgv hts hA hz hq, List.forall_mem_cons.mpr ⟨zst_118 hgv hts hA hz hq, List.forall_mem_cons.mpr ⟨zst_214 hgv hts hA hz hq, List.forall_mem_cons.mpr ⟨zst_216 hgv hts hA hz hq, List.forall_mem_cons.mpr ⟨zst_218 hgv hts hA hz hq, List.forall_mem_cons.mpr ⟨zst_220 hgv hts hA hz hq, List.forall_mem_cons.mpr ⟨zst_222 hgv hts hA hz hq, fun _ h => absurd h List.not_mem_nil⟩⟩⟩⟩⟩⟩⟩⟩⟩⟩⟩⟩⟩⟩
end
