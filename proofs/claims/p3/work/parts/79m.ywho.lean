theorem p_who_i {N : Nat} (hN : 132 ≤ N) {σ τ : yS} {H x h p d : Nat} (HR : yRR σ τ) (hH : τ.1 0 3 = (H : Int)) (hx : x < H) (hh : h < H) (hp : p < 4) (hd : d < 5) (k39 k36 : yS → Int → Int → Int → Int → Int → Option (Int × yS)) : ∀ (c m q k : Nat) (A : Int), k + c = 4 → yor A 0 = A → ∃ A' : Int, yor A' 0 = A' ∧ f_X7_who_b54 N k39 (m + c + 1) σ h d ((p : Int) + 1) A x k = k39 σ h d ((p : Int) + 1) A' ((x + 1 : Nat) : Int) ∧ f_X8_who_b48 N k36 (q + c + 2) τ h d ((p : Int) + 1) A x k = k36 τ h d ((p : Int) + 1) A' ((x + 1 : Nat) : Int)
  | 0, m, q, k, A, hk, hA => by
    have b0 := HR.1.2.2.1.2.2.2.1
    have e : k = 4 := by omega
    subst e
    have ex : yad (x : Int) 1 = ((x + 1 : Nat) : Int) := by rw [yad_e (by omega) (by omega)]; omega
    have s0 := ysl0 ⟨x, by omega⟩
    dsimp only at s0
    refine ⟨A, hA, ?_, ?_⟩
    · rw [q_X7_who_b54]
      simp only [ycP_ge, show decide ((4 : Int) ≤ ((4 : Nat) : Int)) = true from rfl, cond_true, ex]
    · rw [show q + 0 + 2 = (q + 1) + 1 by omega, q_X8_who_b48]
      simp only [ycP_ge, show decide ((5 : Int) ≤ ((4 : Nat) : Int)) = false from rfl, cond_false, f_X8_doesBring, f_X8_doesBring_b44, f_X8_doesBring_b45, ycP_eq, show decide (((4 : Nat) : Int) = 4) = true from rfl, cond_true, show yb1 0 = true from rfl, x8_flag (show (0 : Int) ≤ 0 ∧ (0 : Int) ≤ 1 by omega), s0, hA, show yad ((4 : Nat) : Int) 1 = 5 by decide +kernel]
      rw [q_X8_who_b48]
      simp only [ycP_ge, decide_eq_true (Int.le_refl (5 : Int)), cond_true, ex]
  | c + 1, m, q, k, A, hk, hA => by
    have b0 := HR.1.2.2.1.2.2.2.1
    have ek : yad (k : Int) 1 = ((k + 1 : Nat) : Int) := by rw [yad_e (by omega) (by omega)]; omega
    have ep : ysu ((p : Int) + 1) 1 = (p : Int) := by rw [ysu_e (by omega) (by omega)]; omega
    have en : yad (yad (yad (ymu 100 (x : Int)) (ymu 20 (k : Int))) (ymu 5 (p : Int))) (d : Int) = ((100 * x + 20 * k + 5 * p + d : Nat) : Int) := by
      rw [ymu_e (a := 100) (by omega) (by omega), ymu_e (a := 20) (by omega) (by omega), ymu_e (a := 5) (by omega) (by omega), yad_e (a := 100 * (x : Int)) (by omega) (by omega), yad_e (a := 100 * (x : Int) + 20 * (k : Int)) (by omega) (by omega), yad_e (by omega) (by omega)]
      omega
    obtain ⟨S, hS, g7, g8⟩ := p_bring (N := N) hN (x := x) (k := k) (p := p) (d := d) HR hH hx (by omega) hp hd
    have g8 := g8 h hh
    have bb := ybit7 ⟨S, hS⟩ ⟨h, by omega⟩
    have s0 := ysl0 ⟨x, by omega⟩
    dsimp only at bb s0
    have l4 : decide ((4 : Int) ≤ (k : Int)) = false := decide_eq_false (by omega)
    have l5 : decide ((5 : Int) ≤ (k : Int)) = false := decide_eq_false (by omega)
    rcases bb with bb | bb
    · obtain ⟨A', hA', i7, i8⟩ := p_who_i hN HR hH hx hh hp hd k39 k36 c m q (k + 1) A (by omega) hA
      refine ⟨A', hA', ?_, ?_⟩
      · rw [show m + (c + 1) + 1 = (m + c + 1) + 1 by omega, q_X7_who_b54]
        simp only [ycP_ge, ycP_ne, l4, cond_false, f_X7_numberOf, ep, en, g7, f_X7_bit, bb, decide_eq_true (show ¬ (0 : Int) = 1 by omega), cond_true, f_X7_who_b96, ek]
        exact i7
      · rw [show q + (c + 1) + 2 = (q + c + 2) + 1 by omega, q_X8_who_b48]
        simp only [ycP_ge, l5, cond_false, ep, g8, bb, x8_flag (show (0 : Int) ≤ 0 ∧ (0 : Int) ≤ 1 by omega), s0, hA, ek]
        exact i8
    · obtain ⟨A', hA', i7, i8⟩ := p_who_i hN HR hH hx hh hp hd k39 k36 c m q (k + 1) (yor A (ysl 1 (x : Int))) (by omega) (yor_or _ _)
      refine ⟨A', hA', ?_, ?_⟩
      · rw [show m + (c + 1) + 1 = (m + c + 1) + 1 by omega, q_X7_who_b54]
        simp only [ycP_ge, ycP_ne, l4, cond_false, f_X7_numberOf, ep, en, g7, f_X7_bit, bb, decide_eq_false (show ¬ ¬ (1 : Int) = 1 by omega), x7_withBit, show ¬ (1 : Int) = 0 by omega, if_false, f_X7_who_b96, ek]
        exact i7
      · rw [show q + (c + 1) + 2 = (q + c + 2) + 1 by omega, q_X8_who_b48]
        simp only [ycP_ge, l5, cond_false, ep, g8, bb, x8_flag (show (0 : Int) ≤ 1 ∧ (1 : Int) ≤ 1 by omega), ek]
        exact i8
theorem p_who_o {N : Nat} (hN : 132 ≤ N) {σ τ : yS} {H h p d : Nat} (HR : yRR σ τ) (hH : τ.1 0 3 = (H : Int)) (hh : h < H) (hp : p < 4) (hd : d < 5) : ∀ (c m q x : Nat) (A : Int), x + c = H → yor A 0 = A → ∃ A' : Int, f_X7_who_b39 N (m + c + 1) σ h d ((p : Int) + 1) A x = some (A', σ) ∧ f_X8_who_b36 N (q + c + 1) τ h d ((p : Int) + 1) A x = some (A', τ)
  | 0, m, q, x, A, hx, hA => by
    have e0 := HR.1.2.2.1.1
    refine ⟨A, ?_, ?_⟩
    · rw [q_X7_who_b39, e0, hH]
      simp [ycP_ge, show (H : Int) ≤ (x : Int) by omega]
    · rw [q_X8_who_b36, hH]
      simp [ycP_ge, show (H : Int) ≤ (x : Int) by omega]
  | c + 1, m, q, x, A, hx, hA => by
    have e0 := HR.1.2.2.1.1
    obtain ⟨A1, hA1, i7, i8⟩ := p_who_i hN HR hH (show x < H by omega) hh hp hd (f_X7_who_b39 N (m + c + 1)) (f_X8_who_b36 N (q + c + 1)) 4 (N - 5) (N - 6) 0 A (by omega) hA
    rw [show N - 5 + 4 + 1 = N by omega, show ((0 : Nat) : Int) = 0 from rfl] at i7
    rw [show N - 6 + 4 + 2 = N by omega, show ((0 : Nat) : Int) = 0 from rfl] at i8
    obtain ⟨A', j7, j8⟩ := p_who_o hN HR hH hh hp hd c m q (x + 1) A1 (by omega) hA1
    refine ⟨A', ?_, ?_⟩
    · rw [show m + (c + 1) + 1 = (m + c + 1) + 1 by omega, q_X7_who_b39, e0, hH]
      simp only [ycP_ge, decide_eq_false (show ¬ (H : Int) ≤ (x : Int) by omega), cond_false, i7, j7]
    · rw [show q + (c + 1) + 1 = (q + c + 1) + 1 by omega, q_X8_who_b36, hH]
      simp only [ycP_ge, decide_eq_false (show ¬ (H : Int) ≤ (x : Int) by omega), cond_false, i8, j8]
theorem P_who {N : Nat} (hN : 132 ≤ N) {σ τ : yS} {h d n : Int} (HR : yRR σ τ) : ∃ (a : Int) (σ' τ' : yS), f_X7_who N σ h d n = some (a, σ') ∧ f_X8_who N τ h d n = some (a, τ') ∧ yRR σ' τ' := by
  obtain ⟨e0, e1, e2, b0, b1, b2, hc⟩ := HR.1.2.2.1
  simp only [f_X7_who, f_X7_who_b31, f_X8_who, f_X8_who_b28, x4_isHouse (show 2 ≤ σ.1 17 0 ∧ σ.1 17 0 ≤ 7 by rw [e0]; exact b0), x8_isHouse b0, x4_isDeed (show 0 ≤ σ.1 17 2 ∧ σ.1 17 2 ≤ 5 by rw [e2]; exact b2), x8_isDeed b2, x7_within, x8_in, ycP_ne, ycP_eq, e0, e2]
  by_cases hh : 0 ≤ h ∧ h < τ.1 0 3
  · by_cases hd : 0 ≤ d ∧ d < τ.1 0 5
    · by_cases hn : 1 ≤ n ∧ n ≤ 4
      · obtain ⟨H, hH⟩ : ∃ m : Nat, τ.1 0 3 = (m : Int) := ⟨(τ.1 0 3).toNat, by omega⟩
        obtain ⟨p, rfl⟩ : ∃ p : Nat, n = (p : Int) + 1 := ⟨(n - 1).toNat, by omega⟩
        obtain ⟨h, rfl⟩ : ∃ m : Nat, h = (m : Int) := ⟨h.toNat, by omega⟩
        obtain ⟨d, rfl⟩ : ∃ m : Nat, d = (m : Int) := ⟨d.toNat, by omega⟩
        obtain ⟨A, j7, j8⟩ := p_who_o (N := N) hN (h := h) (p := p) (d := d) HR hH (by omega) (by omega) (by omega) H (N - H - 1) (N - H - 1) 0 0 (by omega) (by decide +kernel)
        rw [show N - H - 1 + H + 1 = N by omega, show ((0 : Nat) : Int) = 0 from rfl] at j7 j8
        refine ⟨A, σ, τ, ?_, ?_, HR⟩
        · rw [if_pos hh, if_pos hd, if_pos hn]
          simp [j7]
        · rw [if_pos hh, if_pos hd, if_pos hn]
          simp [j8]
      · exact ⟨-1, σ, τ, by simp [hh, hd, hn], by simp [hh, hd, hn], HR⟩
    · exact ⟨-1, σ, τ, by simp [hh, hd], by simp [hh, hd], HR⟩
  · exact ⟨-1, σ, τ, by simp [hh], by simp [hh], HR⟩
/-- how many ways, and the least -/
noncomputable def yways (b : Nat → Int) (d : Int) : Nat → Int × Int
  | 0 => (0, -4)
  | m + 1 => if b m = 0 then yways b d m else ((yways b d m).1 + 1, if (yways b d m).1 = 0 then 5 * (m : Int) + d else (yways b d m).2)
theorem yways_b (b : Nat → Int) (d : Int) : ∀ m : Nat, (0 ≤ (yways b d m).1 ∧ (yways b d m).1 ≤ (m : Int)) ∧ ((yways b d m).1 = 0 → (yways b d m).2 = -4)
  | 0 => ⟨by simp [yways], fun _ => by simp [yways]⟩
  | m + 1 => by
    obtain ⟨h1, h2⟩ := yways_b b d m
    rw [yways]
    split
    · exact ⟨by omega, h2⟩
    · dsimp only
      exact ⟨by omega, fun q => by omega⟩
theorem yways_s (b : Nat → Int) (d : Int) (m : Nat) (hm : ¬ (yways b d m).1 = 0) : ∀ c : Nat, ¬ (yways b d (m + c)).1 = 0 ∧ (yways b d (m + c)).2 = (yways b d m).2
  | 0 => ⟨hm, rfl⟩
  | c + 1 => by
    obtain ⟨h1, h2⟩ := yways_s b d m hm c
    have hb := yways_b b d (m + c)
    rw [show m + (c + 1) = (m + c) + 1 by omega, yways]
    split
    · exact ⟨h1, h2⟩
    · simp only [h1, if_false]
      exact ⟨by omega, h2⟩
/-- whether a number brings -/
noncomputable def ybr (N : Nat) (τ : yS) (h d : Int) (m : Nat) : Int := ((f_X8_doesBring N τ ((m / 20 : Nat) : Int) ((m / 4 % 5 : Nat) : Int) ((m % 4 : Nat) : Int) h d).getD (0, τ)).1
theorem p_br {N : Nat} (hN : 132 ≤ N) {σ τ : yS} {H h d x k p : Nat} (HR : yRR σ τ) (hH : τ.1 0 3 = (H : Int)) (hh : h < H) (hd : d < 5) (hx : x < H) (hk : k < 5) (hp : p < 4) : ∃ S : Int, f_X4_broughtBy N σ 17 ((100 * x + 20 * k + 5 * p + d : Nat) : Int) = some (S, σ) ∧ yan (ysr S (h : Int)) 1 = ybr N τ h d (20 * x + 4 * k + p) ∧ f_X8_doesBring N τ x k p h d = some (ybr N τ h d (20 * x + 4 * k + p), τ) ∧ (ybr N τ h d (20 * x + 4 * k + p) = 0 ∨ ybr N τ h d (20 * x + 4 * k + p) = 1) := by
  have b0 := HR.1.2.2.1.2.2.2.1
  obtain ⟨S, hS, g7, g8⟩ := p_bring (N := N) hN (x := x) (k := k) (p := p) (d := d) HR hH hx hk hp hd
  have g8 := g8 h hh
  have bb := ybit7 ⟨S, hS⟩ ⟨h, by omega⟩
  dsimp only at bb
  have e : ybr N τ h d (20 * x + 4 * k + p) = yan (ysr (S : Int) (h : Int)) 1 := by
    unfold ybr
    rw [show (20 * x + 4 * k + p) / 20 = x by omega, show (20 * x + 4 * k + p) / 4 % 5 = k by omega, show (20 * x + 4 * k + p) % 4 = p by omega, g8]
    rfl
  exact ⟨S, g7, e.symm, by rw [e]; exact g8, by rw [e]; exact bb⟩
