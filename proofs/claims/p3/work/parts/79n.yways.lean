theorem x8_ways_p {N : Nat} (hN : 132 ≤ N) {σ τ : yS} {H h d x k : Nat} {w : Int} (HR : yRR σ τ) (hH : τ.1 0 3 = (H : Int)) (hh : h < H) (hd : d < 5) (hx : x < H) (hk : k < 5) (k38 : yS → Int → Int → Int → Int → Int → Int → Option (Int × yS)) (k50 : yS → Int → Int → Int → Int → Int → Int → Int → Option (Int × yS)) : ∀ (c m p : Nat), p + c = 4 → f_X8_ways_b59 N k38 k50 (m + c + 1) τ h d w (yways (ybr N τ h d) d (20 * x + 4 * k + p)).1 (yways (ybr N τ h d) d (20 * x + 4 * k + p)).2 x k p = k50 τ h d w (yways (ybr N τ h d) d (20 * x + 4 * k + 4)).1 (yways (ybr N τ h d) d (20 * x + 4 * k + 4)).2 x ((k + 1 : Nat) : Int)
  | 0, m, p, hp => by
    have e : p = 4 := by omega
    subst e
    have ek : yad (k : Int) 1 = ((k + 1 : Nat) : Int) := by rw [yad_e (by omega) (by omega)]; omega
    rw [q_X8_ways_b59]
    simp only [ycP_gt, show decide ((3 : Int) < ((4 : Nat) : Int)) = true from rfl, cond_true, ek]
  | c + 1, m, p, hp => by
    have b0 := HR.1.2.2.1.2.2.2.1
    have ep : yad (p : Int) 1 = ((p + 1 : Nat) : Int) := by rw [yad_e (by omega) (by omega)]; omega
    have en : yad (yad (yad (ymu 100 (x : Int)) (ymu 20 (k : Int))) (ymu 5 (p : Int))) (d : Int) = 5 * ((20 * x + 4 * k + p : Nat) : Int) + (d : Int) := by
      rw [ymu_e (a := 100) (by omega) (by omega), ymu_e (a := 20) (by omega) (by omega), ymu_e (a := 5) (by omega) (by omega), yad_e (a := 100 * (x : Int)) (by omega) (by omega), yad_e (a := 100 * (x : Int) + 20 * (k : Int)) (by omega) (by omega), yad_e (by omega) (by omega)]
      omega
    obtain ⟨S, -, -, g8, bb⟩ := p_br (N := N) hN (x := x) (k := k) (p := p) (d := d) HR hH hh hd hx hk (by omega)
    have wb := (yways_b (ybr N τ h d) d (20 * x + 4 * k + p)).1
    have ea : yad (yways (ybr N τ h d) d (20 * x + 4 * k + p)).1 1 = (yways (ybr N τ h d) d (20 * x + 4 * k + p)).1 + 1 := yad_e (by omega) (by omega)
    have ih := x8_ways_p hN (w := w) HR hH hh hd hx hk k38 k50 c m (p + 1) (by omega)
    rw [show 20 * x + 4 * k + (p + 1) = (20 * x + 4 * k + p) + 1 by omega] at ih
    rw [show m + (c + 1) + 1 = (m + c + 1) + 1 by omega, q_X8_ways_b59]
    simp only [ycP_gt, ycP_eq, ycP_ne, decide_eq_false (show ¬ (3 : Int) < (p : Int) by omega), cond_false, g8, f_X8_ways_b113, f_X8_ways_b108, ep, en, ea]
    rw [yways] at ih
    rcases bb with bb | bb
    · rw [if_pos bb] at ih
      simp only [bb, decide_true, cond_true]
      exact ih
    · rw [if_neg (by rw [bb]; omega)] at ih
      rw [bb]
      simp only [decide_eq_false (show ¬ (1 : Int) = 0 by omega), cond_false]
      by_cases hz : (yways (ybr N τ h d) d (20 * x + 4 * k + p)).1 = 0
      · rw [if_pos hz] at ih
        simp only [hz, not_true_eq_false, decide_false, cond_false]
        rw [hz] at ih
        exact ih
      · rw [if_neg hz] at ih
        simp only [hz, not_false_eq_true, decide_true, cond_true]
        exact ih
theorem x8_ways_k {N : Nat} (hN : 132 ≤ N) {σ τ : yS} {H h d x : Nat} {w : Int} (HR : yRR σ τ) (hH : τ.1 0 3 = (H : Int)) (hh : h < H) (hd : d < 5) (hx : x < H) (k38 : yS → Int → Int → Int → Int → Int → Int → Option (Int × yS)) : ∀ (c m k : Nat), k + c = 5 → f_X8_ways_b50 N k38 (m + c + 1) τ h d w (yways (ybr N τ h d) d (20 * x + 4 * k)).1 (yways (ybr N τ h d) d (20 * x + 4 * k)).2 x k = k38 τ h d w (yways (ybr N τ h d) d (20 * (x + 1))).1 (yways (ybr N τ h d) d (20 * (x + 1))).2 ((x + 1 : Nat) : Int)
  | 0, m, k, hk => by
    have b0 := HR.1.2.2.1.2.2.2.1
    have e : k = 5 := by omega
    subst e
    have ek : yad (x : Int) 1 = ((x + 1 : Nat) : Int) := by rw [yad_e (by omega) (by omega)]; omega
    rw [q_X8_ways_b50, show 20 * x + 4 * 5 = 20 * (x + 1) by omega]
    simp only [ycP_ge, show decide ((5 : Int) ≤ ((5 : Nat) : Int)) = true from rfl, cond_true, ek]
  | c + 1, m, k, hk => by
    have ih := x8_ways_k hN (w := w) HR hH hh hd hx k38 c m (k + 1) (by omega)
    have ip := x8_ways_p (N := N) hN (w := w) HR hH hh hd hx (show k < 5 by omega) k38 (f_X8_ways_b50 N k38 (m + c + 1)) 4 (N - 5) 0 (by omega)
    rw [show N - 5 + 4 + 1 = N by omega, show ((0 : Nat) : Int) = 0 from rfl, Nat.add_zero] at ip
    rw [show m + (c + 1) + 1 = (m + c + 1) + 1 by omega, q_X8_ways_b50]
    simp only [ycP_ge, decide_eq_false (show ¬ (5 : Int) ≤ (k : Int) by omega), cond_false]
    refine ip.trans ?_
    rw [show 20 * x + 4 * k + 4 = 20 * x + 4 * (k + 1) by omega]
    exact ih
theorem x8_ways_x {N : Nat} (hN : 132 ≤ N) {σ τ : yS} {H h d : Nat} {w : Int} (HR : yRR σ τ) (hH : τ.1 0 3 = (H : Int)) (hh : h < H) (hd : d < 5) : ∀ (c m x : Nat), x + c = H → f_X8_ways_b38 N (m + c + 1) τ h d w (yways (ybr N τ h d) d (20 * x)).1 (yways (ybr N τ h d) d (20 * x)).2 x = some (if w = 0 then (yways (ybr N τ h d) d (20 * H)).1 else (yways (ybr N τ h d) d (20 * H)).2, τ)
  | 0, m, x, hx => by
    have e : x = H := by omega
    subst e
    rw [q_X8_ways_b38, hH]
    by_cases hw : w = 0
    · simp [ycP_ge, ycP_ne, hw, f_X8_ways_b142]
    · simp [ycP_ge, ycP_ne, hw, f_X8_ways_b142]
  | c + 1, m, x, hx => by
    have ih := x8_ways_x hN (w := w) HR hH hh hd c m (x + 1) (by omega)
    have ip := x8_ways_k (N := N) hN (w := w) HR hH hh hd (show x < H by omega) (f_X8_ways_b38 N (m + c + 1)) 5 (N - 6) 0 (by omega)
    rw [show N - 6 + 5 + 1 = N by omega, show ((0 : Nat) : Int) = 0 from rfl, Nat.mul_zero, Nat.add_zero] at ip
    rw [show m + (c + 1) + 1 = (m + c + 1) + 1 by omega, q_X8_ways_b38, hH]
    simp only [ycP_ge, decide_eq_false (show ¬ (H : Int) ≤ (x : Int) by omega), cond_false]
    exact ip.trans ih
theorem x7_ways_c {N : Nat} (hN : 132 ≤ N) {σ τ : yS} {H h d : Nat} (HR : yRR σ τ) (hH : τ.1 0 3 = (H : Int)) (hh : h < H) (hd : d < 5) : ∀ (c m i : Nat), i + c = 20 * H → f_X7_ways_b39 N (m + c + 1) σ h 0 (yways (ybr N τ h d) d i).1 ((5 * i + d : Nat) : Int) = some ((yways (ybr N τ h d) d (20 * H)).1, σ) ∧ ((yways (ybr N τ h d) d i).1 = 0 → f_X7_ways_b39 N (m + c + 1) σ h 1 0 ((5 * i + d : Nat) : Int) = some ((yways (ybr N τ h d) d (20 * H)).2, σ))
  | 0, m, i, hi => by
    have b0 := HR.1.2.2.1.2.2.2.1
    have e0 := HR.1.2.2.1.1
    have e : i = 20 * H := by omega
    subst e
    have em : ymu 100 (H : Int) = 100 * (H : Int) := ymu_e (by omega) (by omega)
    have hle : (100 * (H : Int)) ≤ ((5 * (20 * H) + d : Nat) : Int) := by omega
    refine ⟨?_, fun hz => ?_⟩
    · rw [q_X7_ways_b39, e0, hH]
      simp only [f_X7_numbersOf, em, ycP_ge, ycP_ne, decide_eq_true hle, cond_true, f_X7_ways_b99, not_true_eq_false, decide_false, cond_false]
    · rw [q_X7_ways_b39, e0, hH]
      simp only [f_X7_numbersOf, em, ycP_ge, ycP_ne, decide_eq_true hle, cond_true, f_X7_ways_b99, decide_eq_true (show ¬ (1 : Int) = 0 by omega)]
      rw [(yways_b _ _ _).2 hz]
  | c + 1, m, i, hi => by
    have b0 := HR.1.2.2.1.2.2.2.1
    have e0 := HR.1.2.2.1.1
    have em : ymu 100 (H : Int) = 100 * (H : Int) := ymu_e (by omega) (by omega)
    have hle : ¬ (100 * (H : Int)) ≤ ((5 * i + d : Nat) : Int) := by omega
    have e5 : yad ((5 * i + d : Nat) : Int) 5 = ((5 * (i + 1) + d : Nat) : Int) := by rw [yad_e (by omega) (by omega)]; omega
    obtain ⟨S, g7, bS, -, bb⟩ := p_br (N := N) hN (x := i / 20) (k := i / 4 % 5) (p := i % 4) (d := d) HR hH hh hd (by omega) (by omega) (by omega)
    rw [show 100 * (i / 20) + 20 * (i / 4 % 5) + 5 * (i % 4) + d = 5 * i + d by omega] at g7
    rw [show 20 * (i / 20) + 4 * (i / 4 % 5) + i % 4 = i by omega] at bS bb
    have wb := (yways_b (ybr N τ h d) d i).1
    have ea : yad (yways (ybr N τ h d) d i).1 1 = (yways (ybr N τ h d) d i).1 + 1 := yad_e (by omega) (by omega)
    obtain ⟨ih1, ih2⟩ := x7_ways_c hN HR hH hh hd c m (i + 1) (by omega)
    rw [yways] at ih1 ih2
    refine ⟨?_, fun hz => ?_⟩
    · rw [show m + (c + 1) + 1 = (m + c + 1) + 1 by omega, q_X7_ways_b39, e0, hH]
      simp only [f_X7_numbersOf, em, ycP_ge, ycP_ne, decide_eq_false hle, cond_false, g7, f_X7_bit, bS, f_X7_ways_b82, e5, ea]
      rcases bb with bb | bb
      · rw [if_pos bb] at ih1
        rw [bb]
        simp only [decide_eq_true (show ¬ (0 : Int) = 1 by omega), cond_true]
        exact ih1
      · rw [if_neg (by rw [bb]; omega)] at ih1
        rw [bb]
        simp only [decide_eq_false (show ¬ ¬ (1 : Int) = 1 by omega), cond_false, decide_eq_true (show ¬ (0 : Int) = 1 by omega), cond_true]
        exact ih1
    · rw [show m + (c + 1) + 1 = (m + c + 1) + 1 by omega, q_X7_ways_b39, e0, hH]
      simp only [f_X7_numbersOf, em, ycP_ge, ycP_ne, decide_eq_false hle, cond_false, g7, f_X7_bit, bS, f_X7_ways_b82, e5]
      rcases bb with bb | bb
      · rw [if_pos bb] at ih2
        rw [bb]
        simp only [decide_eq_true (show ¬ (0 : Int) = 1 by omega), cond_true]
        exact ih2 hz
      · have ws : yways (ybr N τ h d) d (i + 1) = (1, 5 * (i : Int) + d) := by
          rw [yways, if_neg (by rw [bb]; omega), if_pos hz, hz]
          rfl
        have st := yways_s (ybr N τ h d) d (i + 1) (by rw [ws]; simp) c
        rw [show i + 1 + c = 20 * H by omega, ws] at st
        rw [bb, st.2]
        rw [show ((5 * i + d : Nat) : Int) = 5 * (i : Int) + d by omega]
        rfl
theorem P_ways {N : Nat} (hN : 1000 ≤ N) {σ τ : yS} {h d w : Int} (HR : yRR σ τ) : ∃ (a : Int) (σ' τ' : yS), f_X7_ways N σ h d w = some (a, σ') ∧ f_X8_ways N τ h d w = some (a, τ') ∧ yRR σ' τ' := by
  obtain ⟨e0, e1, e2, b0, b1, b2, hc⟩ := HR.1.2.2.1
  simp only [f_X7_ways, f_X7_ways_b31, f_X8_ways, f_X8_ways_b26, x4_isHouse (show 2 ≤ σ.1 17 0 ∧ σ.1 17 0 ≤ 7 by rw [e0]; exact b0), x8_isHouse b0, x4_isDeed (show 0 ≤ σ.1 17 2 ∧ σ.1 17 2 ≤ 5 by rw [e2]; exact b2), x8_isDeed b2, x7_within, x8_in, ycP_ne, ycP_eq, e0, e2]
  by_cases hh : 0 ≤ h ∧ h < τ.1 0 3
  · by_cases hd : 0 ≤ d ∧ d < τ.1 0 5
    · by_cases hn : 0 ≤ w ∧ w ≤ 1
      · obtain ⟨H, hH⟩ : ∃ m : Nat, τ.1 0 3 = (m : Int) := ⟨(τ.1 0 3).toNat, by omega⟩
        obtain ⟨h, rfl⟩ : ∃ m : Nat, h = (m : Int) := ⟨h.toNat, by omega⟩
        obtain ⟨d, rfl⟩ : ∃ m : Nat, d = (m : Int) := ⟨d.toNat, by omega⟩
        have q8 := x8_ways_x (N := N) (by omega) (h := h) (d := d) (w := w) HR hH (by omega) (by omega) H (N - H - 1) 0 (by omega)
        obtain ⟨q70, q71⟩ := x7_ways_c (N := N) (by omega) (h := h) (d := d) HR hH (by omega) (by omega) (20 * H) (N - 20 * H - 1) 0 (by omega)
        rw [show N - H - 1 + H + 1 = N by omega, show ((0 : Nat) : Int) = 0 from rfl, Nat.mul_zero] at q8
        rw [show N - 20 * H - 1 + 20 * H + 1 = N by omega, show 5 * 0 + d = d by omega] at q70 q71
        have q71 := q71 rfl
        have q8 : f_X8_ways_b38 N N τ h d w 0 (-4) 0 = some (if w = 0 then (yways (ybr N τ h d) d (20 * H)).1 else (yways (ybr N τ h d) d (20 * H)).2, τ) := q8
        have q70 : f_X7_ways_b39 N N σ h 0 0 d = some ((yways (ybr N τ h d) d (20 * H)).1, σ) := q70
        refine ⟨if w = 0 then (yways (ybr N τ h d) d (20 * H)).1 else (yways (ybr N τ h d) d (20 * H)).2, σ, τ, ?_, ?_, HR⟩
        · rw [if_pos hh, if_pos hd, if_pos hn]
          by_cases hw : w = 0
          · simp [hw, q70]
          · have w1 : w = 1 := by omega
            simp [w1, q71]
        · rw [if_pos hh, if_pos hd, if_pos hn]
          simp [q8]
      · exact ⟨-1, σ, τ, by simp [hh, hd, hn], by simp [hh, hd, hn], HR⟩
    · exact ⟨-1, σ, τ, by simp [hh, hd], by simp [hh, hd], HR⟩
  · exact ⟨-1, σ, τ, by simp [hh], by simp [hh], HR⟩
