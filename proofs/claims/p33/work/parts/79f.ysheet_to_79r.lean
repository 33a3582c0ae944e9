section
theorem x7_isSheet {N : Nat} {σ : yS} {k : Int} : f_X7_isSheet N σ k = some (if 0 ≤ k ∧ k ≤ 3 then 1 else 0, σ) := by
  simp only [f_X7_isSheet, x7_within, yb1_d]
  by_cases h : 0 ≤ k ∧ k ≤ 3
  · simp [h]
  · simp [h]
theorem x7_isLane {N : Nat} {σ : yS} {k : Int} : f_X7_isLane N σ k = some (if 0 ≤ k ∧ k ≤ 2 then 1 else 0, σ) := by
  simp only [f_X7_isLane, x7_within, yb1_d]
  by_cases h : 0 ≤ k ∧ k ≤ 2
  · simp [h]
  · simp [h]
theorem x8_isSheet {N : Nat} {τ : yS} {k l : Int} : f_X8_isSheet N τ k l = some (if (0 ≤ k ∧ k ≤ 3) ∧ (0 ≤ l ∧ l ≤ 2) then 1 else 0, τ) := by
  simp only [f_X8_isSheet, f_X8_isSheet_b28, f_X8_isSheet_b29, x8_in, yb1_d, ycP_eq]
  by_cases h : 0 ≤ k ∧ k ≤ 3
  · by_cases h2 : 0 ≤ l ∧ l ≤ 2
    · simp [h, h2]
    · simp [h, h2]
  · simp [h]
theorem x2_renew_l {N n s : Nat} : ∀ (j i : Nat) (σ : yS), i + j = 40 → ∃ σ' : yS, f_X2_renew_b12 N (n + j + 1) σ s (i : Int) = some (0, σ') ∧ σ'.2 = σ.2 ∧ (∀ a b : Nat, ¬ (a = s + 1 ∧ i ≤ b ∧ b < 40) → σ'.1 a b = σ.1 a b) ∧ (∀ b : Nat, i ≤ b → b < 40 → σ'.1 (s + 1) b = 0)
  | 0, i, σ, h => by
    have e : i = 40 := by omega
    subst e
    refine ⟨σ, ?_, rfl, fun _ _ _ => rfl, fun b h1 h2 => by omega⟩
    rw [q_X2_renew_b12]
    simp [ycP_ge]
  | j + 1, i, σ, h => by
    have e3 : yad (i : Int) 1 = ((i + 1 : Nat) : Int) := by rw [yad_e (by omega) (by omega)]; omega
    obtain ⟨σ', c, c2, fr, z⟩ := x2_renew_l (N := N) (n := n) (s := s) j (i + 1) (yw σ (s + 1) i 0) (by omega)
    refine ⟨σ', ?_, c2, fun a b q => ?_, fun b h1 h2 => ?_⟩
    · rw [show n + (j + 1) + 1 = (n + j + 1) + 1 by omega, q_X2_renew_b12]
      simp only [ycP_ge, yin_d, decide_eq_false (show ¬ (40 : Int) ≤ (i : Int) by omega), decide_eq_true (show 0 ≤ (i : Int) ∧ (i : Int) < ((40 : Nat) : Int) by omega), cond_false, cond_true, Int.toNat_natCast, e3, c]
    · rw [fr a b (by omega), yw_n (by omega)]
    · by_cases e : b = i
      · subst e
        rw [fr _ _ (by omega), yw_p]
      · exact z b (by omega) h2
theorem x2_renew {N s : Nat} (hN : 42 ≤ N) {σ : yS} {l n : Int} : ∃ σ' : yS, f_X2_renew N σ s l n = some (0, σ') ∧ σ'.2 = σ.2 ∧ (∀ a b : Nat, ¬ (a = s ∧ b < 2) → ¬ (a = s + 1 ∧ b < 40) → σ'.1 a b = σ.1 a b) ∧ σ'.1 s 0 = l ∧ σ'.1 s 1 = n ∧ (∀ b : Nat, b < 40 → σ'.1 (s + 1) b = 0) := by
  obtain ⟨σ', c, c2, fr, z⟩ := x2_renew_l (N := N) (n := N - 41) (s := s) 40 0 (yw (yw σ s 0 l) s 1 n) (by omega)
  rw [show N - 41 + 40 + 1 = N by omega] at c
  refine ⟨σ', c, c2, fun a b h1 h2 => ?_, ?_, ?_, fun b hb => z b (by omega) hb⟩
  · rw [fr a b (by omega), yw_n (by omega), yw_n (by omega)]
  · rw [fr _ _ (by omega), yw_n (by omega), yw_p]
  · rw [fr _ _ (by omega), yw_p]
theorem x8_sheet_l {N n k : Nat} (hk : k < 4) : ∀ (j i : Nat) (τ : yS), i + j = 40 → ∃ τ' : yS, f_X8_sheet_b40 N (n + j + 1) τ (k : Int) (i : Int) = some (1, τ') ∧ (∀ a b : Nat, ¬ (a = 14 ∧ 40 * k + i ≤ b ∧ b < 40 * k + 40) → τ'.1 a b = τ.1 a b) ∧ (∀ b : Nat, i ≤ b → b < 40 → τ'.1 14 (40 * k + b) = 0)
  | 0, i, τ, h => by
    have e : i = 40 := by omega
    subst e
    refine ⟨τ, ?_, fun _ _ _ => rfl, fun b h1 h2 => by omega⟩
    rw [q_X8_sheet_b40]
    simp [ycP_ge]
  | j + 1, i, τ, h => by
    have e3 : yad (i : Int) 1 = ((i + 1 : Nat) : Int) := by rw [yad_e (by omega) (by omega)]; omega
    have e4 : yad (ymu 40 (k : Int)) (i : Int) = ((40 * k + i : Nat) : Int) := by
      rw [ymu_e (by omega) (by omega), yad_e (by omega) (by omega)]; omega
    obtain ⟨τ', c, fr, z⟩ := x8_sheet_l (N := N) (n := n) hk j (i + 1) (yw τ 14 (40 * k + i) 0) (by omega)
    refine ⟨τ', ?_, fun a b q => ?_, fun b h1 h2 => ?_⟩
    · rw [show n + (j + 1) + 1 = (n + j + 1) + 1 by omega, q_X8_sheet_b40]
      simp only [ycP_ge, yin_d, e4, decide_eq_false (show ¬ (40 : Int) ≤ (i : Int) by omega), decide_eq_true (show 0 ≤ ((40 * k + i : Nat) : Int) ∧ ((40 * k + i : Nat) : Int) < ((160 : Nat) : Int) by omega), cond_false, cond_true, Int.toNat_natCast, e3, c]
    · rw [fr a b (by omega), yw_n (by omega)]
    · by_cases e : b = i
      · subst e
        rw [fr _ _ (by omega), yw_p]
      · exact z b (by omega) h2
theorem yRR_sh {σ τ σ' τ' : yS} (H : yRR σ τ) (r : σ'.2 = σ.2) (c : ∀ a b : Nat, ¬ (9 ≤ a ∧ a < 17) → σ'.1 a b = σ.1 a b) (o : ∀ a b : Nat, ¬ (a = 12 ∨ a = 13 ∨ a = 14) → τ'.1 a b = τ.1 a b) (S : ∀ k : Nat, k < 4 → yRS σ' τ' k) : yRR σ' τ' := by
  obtain ⟨h1, h2, h3, h4, h5, h6, h7⟩ := H
  refine ⟨yRN_fr (fun b => by rw [r]) (fun b => ⟨c _ _ (by omega), c _ _ (by omega), c _ _ (by omega)⟩) (fun a b x y => c _ _ (by omega)) (fun b => ⟨o _ _ (by omega), o _ _ (by omega), o _ _ (by omega)⟩) (fun j hj => o _ _ (by omega)) h1, ?_, by rw [c _ _ (by omega)]; exact h3, fun k hk => yRI_fr hk (by rw [r]) (fun a b h => by rw [r]) (c _ _ (by omega)) (fun a b h => c _ _ (by omega)) (fun b => o _ _ (by omega)) (fun b => o _ _ (by omega)) ⟨o _ _ (by omega), o _ _ (by omega), o _ _ (by omega)⟩ (fun j h => o _ _ (by omega)) (h4 k hk), fun k hk hz => ?_, S, ?_⟩
  · rw [o 0 3 (by omega), o 0 5 (by omega)]
    exact yGk_cong (fun j hj => o _ _ (by omega)) h2
  · rw [o 3 k (by omega)] at hz
    rw [o 0 3 (by omega), o 0 5 (by omega)]
    exact yGk_cong (fun j hj => o _ _ (by omega)) (h5 k hk hz)
  · unfold yTr at h7 ⊢
    rw [r]
    exact h7
theorem yRS_o {σ τ σ' τ' : yS} {l : Nat} (r : ∀ b : Nat, σ'.2 8 b = σ.2 8 b) (c : ∀ b : Nat, σ'.1 (9 + 2 * l) b = σ.1 (9 + 2 * l) b ∧ σ'.1 (10 + 2 * l) b = σ.1 (10 + 2 * l) b) (o : τ'.1 12 l = τ.1 12 l ∧ τ'.1 13 l = τ.1 13 l) (o14 : ∀ i : Nat, i < 40 → τ'.1 14 (40 * l + i) = τ.1 14 (40 * l + i)) (H : yRS σ τ l) : yRS σ' τ' l := by
  obtain ⟨h1, h2⟩ := H
  refine ⟨by rw [r]; exact h1, ?_⟩
  rw [(c 0).1, (c 1).1, o.1, o.2]
  rcases h2 with h | ⟨a1, a2, a3, a4, a5⟩
  · exact Or.inl h
  · exact Or.inr ⟨a1, a2, a3, a4, fun i hi => by rw [(c i).2, o14 i hi]; exact a5 i hi⟩
theorem P_sheet {N : Nat} (hN : 132 ≤ N) {σ τ : yS} {k l n : Int} (H : yRR σ τ) : ∃ (a : Int) (σ' τ' : yS), f_X7_sheet N σ k l n = some (a, σ') ∧ f_X8_sheet N τ k l n = some (a, τ') ∧ yRR σ' τ' := by
  simp only [f_X7_sheet, f_X7_sheet_b20, f_X8_sheet, f_X8_sheet_b14, x7_isSheet, x7_isLane, x8_isSheet, ycP_eq, ycP_le, ycP_ge, yin_d]
  by_cases hk : 0 ≤ k ∧ k ≤ 3
  · by_cases hl : 0 ≤ l ∧ l ≤ 2
    · by_cases hn : n ≤ 40
      · by_cases h0 : 0 ≤ n
        · obtain ⟨k, rfl⟩ : ∃ m : Nat, k = (m : Int) := ⟨k.toNat, by omega⟩
          have hk4 : k < 4 := by omega
          have i1 : σ.2 8 k = 9 + 2 * k := (H.2.2.2.2.2.1 k hk4).1
          obtain ⟨σ', c, c2, fr, z0, z1, z2⟩ := x2_renew (N := N) (s := 9 + 2 * k) (by omega) (σ := σ) (l := l) (n := n)
          obtain ⟨τ', d, fo, w⟩ := x8_sheet_l (N := N) (n := N - 41) hk4 40 0 (yw (yw τ 12 k l) 13 k n) (by omega)
          rw [show N - 41 + 40 + 1 = N by omega, show ((0 : Nat) : Int) = 0 from rfl] at d
          have w2 : τ'.1 12 k = l := by rw [fo _ _ (by omega), yw_n (by omega), yw_p]
          have w3 : τ'.1 13 k = n := by rw [fo _ _ (by omega), yw_p]
          refine ⟨1, σ', τ', ?_, ?_, yRR_sh H c2 (fun a b h => fr a b (by omega) (by omega)) (fun a b h => ?_) (fun m hm => ?_)⟩
          · simp [hk, hl, hn, h0, i1, c, show (k : Int) < 4 by omega]
          · simp [hk, hl, hn, h0, d, show (k : Int) < 4 by omega]
          · rw [fo _ _ (by omega), yw_n (by omega), yw_n (by omega)]
          · by_cases e : m = k
            · subst e
              refine ⟨by rw [c2]; exact i1, Or.inr ⟨by rw [z0, w2], by rw [w2]; exact hl, by rw [z1, w3], by rw [w3]; omega, fun i hi => ?_⟩⟩
              rw [w i (by omega) hi]
              rw [show 10 + 2 * m = 9 + 2 * m + 1 by omega]
              exact z2 i hi
            · refine yRS_o (fun b => by rw [c2]) (fun b => ⟨fr _ _ (by omega) (by omega), fr _ _ (by omega) (by omega)⟩) ⟨?_, ?_⟩ (fun i hi => ?_) (H.2.2.2.2.2.1 m hm)
              · rw [fo _ _ (by omega), yw_n (by omega), yw_n (by omega)]
              · rw [fo _ _ (by omega), yw_n (by omega), yw_n (by omega)]
              · rw [fo _ _ (by omega), yw_n (by omega), yw_n (by omega)]
        · exact ⟨-14, σ, τ, by simp [hk, hl, hn, h0], by simp [hk, hl, hn, h0], H⟩
      · exact ⟨-1, σ, τ, by simp [hk, hl, hn], by simp [hk, hl, hn], H⟩
    · exact ⟨-1, σ, τ, by simp [hk, hl], by simp [hk, hl], H⟩
  · exact ⟨-1, σ, τ, by simp [hk], by simp [hk], H⟩
theorem x2_isNothing {N : Nat} {σ : yS} {s : Nat} : f_X2_isNothing N σ s = some (if σ.1 s 0 = -1 then 1 else 0, σ) := by
  simp only [f_X2_isNothing, f_X2_isNothing_b13, ycP_ne, yb1_d]
  by_cases h : σ.1 s 0 = -1
  · simp [h]
  · simp [h]
theorem P_lay {N : Nat} {σ τ : yS} {k i v : Int} (H : yRR σ τ) : ∃ (a : Int) (σ' τ' : yS), f_X7_lay N σ k i v = some (a, σ') ∧ f_X8_lay N τ k i v = some (a, τ') ∧ yRR σ' τ' := by
  simp only [f_X7_lay, f_X8_lay, f_X8_lay_b85, f_X2_faultOfCells, f_X2_faultOfCells_b28, f_X2_put, f_X2_put_b44, x7_isSheet, x8_isSheet, x2_isNothing, x7_within, x8_in, ycP_eq, ycP_ne, yin_d]
  by_cases hk : 0 ≤ k ∧ k ≤ 3
  · obtain ⟨k, rfl⟩ : ∃ m : Nat, k = (m : Int) := ⟨k.toNat, by omega⟩
    have hk4 : k < 4 := by omega
    obtain ⟨i1, S⟩ := H.2.2.2.2.2.1 k hk4
    have k4 : (k : Int) < 4 := by omega
    rcases S with ⟨s1, s2⟩ | ⟨s1, s2, s3, s4, s5⟩
    · have e : ysu (-10) 1 = -11 := by decide +kernel
      exact ⟨-11, σ, τ, by simp [hk, k4, i1, s1, e], by simp [hk, k4, s2], H⟩
    · have es : ysu (τ.1 13 k) 1 = τ.1 13 k - 1 := ysu_e (by omega) (by omega)
      have n1 : ¬ τ.1 12 k = -1 := by omega
      have n4 : ¬ τ.1 12 k = -4 := by omega
      by_cases hi : 0 ≤ i ∧ i ≤ τ.1 13 k - 1
      · obtain ⟨i, rfl⟩ : ∃ m : Nat, i = (m : Int) := ⟨i.toNat, by omega⟩
        have ea : yad (ymu 40 (k : Int)) (i : Int) = 40 * (k : Int) + i := by
          rw [ymu_e (by omega) (by omega), yad_e (by omega) (by omega)]
        have ec : (40 * (k : Int) + i).toNat = 40 * k + i := by omega
        have key : ∀ x : Int, yRR (yw σ (9 + 2 * k + 1) i x) (yw τ 14 (40 * k + i) x) := fun x => by
          refine yRR_sh H rfl (fun a b h => yw_n (by omega)) (fun a b h => yw_n (by omega)) (fun m hm => ?_)
          by_cases e : m = k
          · subst e
            refine ⟨i1, Or.inr ⟨by rw [yw_n (by omega), yw_n (by omega)]; exact s1, by rw [yw_n (by omega)]; exact s2, by rw [yw_n (by omega), yw_n (by omega)]; exact s3, by rw [yw_n (by omega)]; exact s4, fun j hj => ?_⟩⟩
            by_cases e : j = i
            · subst e
              rw [show 10 + 2 * m = 9 + 2 * m + 1 by omega, yw_p, yw_p]
            · rw [yw_n (by omega), yw_n (by omega)]
              exact s5 j hj
          · exact yRS_o (σ := σ) (τ := τ) (fun b => rfl) (fun b => ⟨yw_n (by omega), yw_n (by omega)⟩) ⟨yw_n (by omega), yw_n (by omega)⟩ (fun j hj => yw_n (by omega)) (H.2.2.2.2.2.1 m hm)
        by_cases l0 : τ.1 12 k = 0
        · refine ⟨1, _, _, ?_, ?_, key (yi8 v)⟩
          · simp [hk, k4, i1, s1, s3, es, n1, hi, l0, show (i : Int) < 40 by omega]
          · simp [hk, k4, n4, es, hi, l0, ea, ec, show (0 : Int) ≤ 40 * (k : Int) + i by omega, show 40 * (k : Int) + i < 160 by omega]
        · by_cases l1 : τ.1 12 k = 1
          · refine ⟨1, _, _, ?_, ?_, key (yi16 v)⟩
            · simp [hk, k4, i1, s1, s3, es, n1, hi, l1, show (i : Int) < 40 by omega]
            · simp [hk, k4, n4, es, hi, l1, ea, ec, show (0 : Int) ≤ 40 * (k : Int) + i by omega, show 40 * (k : Int) + i < 160 by omega]
          · refine ⟨1, _, _, ?_, ?_, key v⟩
            · simp [hk, k4, i1, s1, s3, es, n1, hi, l0, l1, show (i : Int) < 40 by omega]
            · simp [hk, k4, n4, es, hi, l0, l1, ea, ec, show (0 : Int) ≤ 40 * (k : Int) + i by omega, show 40 * (k : Int) + i < 160 by omega]
      · have e : ysu (-10) 2 = -12 := by decide +kernel
        exact ⟨-12, σ, τ, by simp [hk, k4, i1, s1, s3, es, n1, hi, e], by simp [hk, k4, n4, es, hi], H⟩
  · exact ⟨-1, σ, τ, by simp [hk], by simp [hk], H⟩
theorem P_torn {N : Nat} {σ τ : yS} (H : yRR σ τ) : ∃ (a b : Int) (σ' τ' : yS), f_X7_torn N σ = some (a, σ') ∧ f_X8_torn N τ = some (b, τ') ∧ yRR σ' τ' := ⟨_, _, _, _, rfl, rfl, H⟩
end
section
theorem yadL_e {a b : Int} (h1 : -9223372036854775808 ≤ a + b) (h2 : a + b ≤ 9223372036854775807) : yadL a b = a + b := by
  unfold yadL
  rw [← Int64.ofInt_add, zq_ofL h1 h2]
theorem yRR_torn {σ τ : yS} {x y : Int} (H : yRR σ τ) : yRR (yw σ 0 8 x) (yw τ 0 32 y) :=
  yRR_scr H (fun a b _ => rfl) H.2.2.2.2.2.2 (fun a b h => yw_n (by omega)) (fun a b _ _ _ _ h => yw_n (by omega))
theorem yad_w {f x : Int} (hf : yI f) (hx : 0 ≤ x ∧ x ≤ 100) : yad f x = f + x ∨ (2147483647 < f + x ∧ yad f x < 0) := by
  obtain ⟨h1, h2⟩ := hf
  by_cases q : f + x ≤ 2147483647
  · exact Or.inl (yad_e (by omega) q)
  · have e : yad f x = f + x - 4294967296 := by
      unfold yad
      rw [zq_addW, ← (zq_per (f + x)).2, zq_of (by omega) (by omega)]
    omega
/-- the reference's four cells of a vow -/
theorem x8_rdin {N k n i : Nat} {l f many w S : Int} {τ : yS} (hk : k < 4) (hl : 0 ≤ l ∧ l ≤ 2) (h12 : τ.1 12 k = l) (h13 : τ.1 13 k = S) (hf : yI f) (hi : i ≤ 10) (k41 : yS → Int → Int → Int → Int → Int → Int → Int → Int → Option (Int × yS)) : ∀ j m c : Nat, c + j = 4 → f_X8_read_b56 N k41 (m + j + 2) τ k l f n many 0 w i c = f_X8_read_b143 N k41 τ k l f n many (if c = 4 ∨ (0 ≤ f + 4 * i + c ∧ f + 4 * i + 3 < S) then 0 else 2) w i
  | 0, m, c, hc => by
    have e : c = 4 := by omega
    subst e
    rw [show m + 0 + 2 = (m + 1) + 1 by omega, q_X8_read_b56]
    simp [ycP_ge]
  | j + 1, m, c, hc => by
    obtain ⟨f1, f2⟩ := hf
    have e1 : ymu 4 (i : Int) = 4 * (i : Int) := ymu_e (by omega) (by omega)
    have e2 : yadL (yadL f (4 * (i : Int))) (c : Int) = f + 4 * i + c := by
      rw [yadL_e (a := f) (by omega) (by omega), yadL_e (by omega) (by omega)]
    have e3 : yad (c : Int) 1 = ((c + 1 : Nat) : Int) := by rw [yad_e (by omega) (by omega)]; omega
    have ik : yin (k : Int) 4 = true := by rw [yin_d]; exact decide_eq_true (by omega)
    have n4 : ¬ l = -4 := by omega
    have out : ∀ d : Int, f_X8_read_b56 N k41 (m + j + 2) τ k l f n many 2 w i d = f_X8_read_b143 N k41 τ k l f n many 2 w i := fun d => by
      rw [show m + j + 2 = (m + j + 1) + 1 by omega, q_X8_read_b56]
      simp [ycP_ge, ycP_ne]
    rw [show m + (j + 1) + 2 = (m + j + 2) + 1 by omega, q_X8_read_b56]
    simp only [ycP_ge, ycP_ne, ycP_eq, ycP_lt, Int.toNat_natCast, h12, h13, e1, e2, e3, ik, decide_eq_false (show ¬ (4 : Int) ≤ (c : Int) by omega), cond_false, cond_true, decide_true, n4, not_false_eq_true, not_true_eq_false, decide_false, f_X8_read_b130, f_X8_read_b135, out]
    by_cases h0 : f + 4 * (i : Int) + c < 0
    · rw [decide_eq_true h0, if_neg (by omega)]
      rfl
    · rw [decide_eq_false h0]
      by_cases hS : f + 4 * (i : Int) + c < S
      · rw [decide_eq_true hS]
        simp only [cond_false, cond_true]
        rw [x8_rdin hk hl h12 h13 ⟨f1, f2⟩ hi k41 j m (c + 1) (by omega)]
        by_cases hq : c = 4 ∨ (0 ≤ f + 4 * (i : Int) + c ∧ f + 4 * (i : Int) + 3 < S)
        · rw [if_pos hq, if_pos (by omega)]
        · rw [if_neg hq, if_neg (by omega)]
      · rw [decide_eq_false hS, if_neg (by omega)]
        rfl
theorem p_read_l {N : Nat} (hN : 132 ≤ N) {k n : Nat} {l f many : Int} (hk : k < 4) (hn : n ≤ 10) (hl : 0 ≤ l ∧ l ≤ 2) (hf : yI f) (hm : 0 ≤ many) : ∀ (c m q i : Nat) (σ τ : yS), i + c = n → yRR σ τ → τ.1 12 k = l → many ≤ τ.1 1 77 → ∃ (a : Int) (σ' τ' : yS), f_X7_read_b61 N (m + c + 1) σ f n (9 + 2 * k) many 0 i i = some (a, σ') ∧ f_X8_read_b41 N (q + c + 1) τ k l f n many 0 i i = some (a, τ') ∧ yRR σ' τ'
  | 0, m, q, i, σ, τ, hi, H, h12, h77 => by
    have e : i = n := by omega
    subst e
    refine ⟨(i : Int), _, _, ?_, ?_, yRR_torn (x := 0) (y := 0) H⟩
    · rw [q_X7_read_b61]
      simp [ycP_ge, f_X7_read_b137]
    · rw [q_X8_read_b41]
      simp [ycP_ge, f_X8_read_b226]
  | c + 1, m, q, i, σ, τ, hi, H, h12, h77 => by
    have e1 : ymu 4 (i : Int) = 4 * (i : Int) := ymu_e (by omega) (by omega)
    have e3 : yad (i : Int) 1 = ((i + 1 : Nat) : Int) := by rw [yad_e (by omega) (by omega)]; omega
    obtain ⟨i1, S⟩ := H.2.2.2.2.2.1 k hk
    have S2 : σ.1 (9 + 2 * k) 0 = τ.1 12 k ∧ σ.1 (9 + 2 * k) 1 = τ.1 13 k ∧ (0 ≤ τ.1 13 k ∧ τ.1 13 k ≤ 40) ∧ ∀ i : Nat, i < 40 → σ.1 (10 + 2 * k) i = τ.1 14 (40 * k + i) := by
      rcases S with ⟨s1, s2⟩ | ⟨s1, s2, s3, s4, s5⟩
      · omega
      · exact ⟨s1, s3, s4, s5⟩
    obtain ⟨s1, s3, s4, s5⟩ := S2
    have nn : ¬ l = -1 := by omega
    have es : ysu (τ.1 13 k) 4 = τ.1 13 k - 4 := ysu_e (by omega) (by omega)
    have rd := x8_rdin (N := N) (k := k) (n := n) (i := i) (l := l) (f := f) (many := many) (w := (i : Int)) (S := τ.1 13 k) (τ := τ) hk hl h12 rfl hf (by omega) (f_X8_read_b41 N (q + c + 1)) 4 (N - 6) 0 (by omega)
    rw [show N - 6 + 4 + 2 = N by omega] at rd
    have hw := yad_w (f := f) (x := 4 * (i : Int)) hf (by omega)
    by_cases ok : 0 ≤ f + 4 * (i : Int) ∧ f + 4 * (i : Int) ≤ τ.1 13 k - 4
    · have ea : yad f (4 * (i : Int)) = f + 4 * i := by omega
      obtain ⟨F, hF⟩ : ∃ F : Nat, f + 4 * (i : Int) = (F : Int) := ⟨(f + 4 * (i : Int)).toNat, by omega⟩
      rw [hF] at ea ok
      have f36 : F ≤ 36 := by omega
      rw [if_pos (by omega)] at rd
      have j0 : yin (F : Int) 40 = true := by rw [yin_d]; exact decide_eq_true (by omega)
      have a1 : yad (F : Int) 1 = ((F + 1 : Nat) : Int) := by rw [yad_e (by omega) (by omega)]; omega
      have a2 : yad (F : Int) 2 = ((F + 2 : Nat) : Int) := by rw [yad_e (by omega) (by omega)]; omega
      have a3 : yad (F : Int) 3 = ((F + 3 : Nat) : Int) := by rw [yad_e (by omega) (by omega)]; omega
      have j1 : yin ((F + 1 : Nat) : Int) 40 = true := by rw [yin_d]; exact decide_eq_true (by omega)
      have j2 : yin ((F + 2 : Nat) : Int) 40 = true := by rw [yin_d]; exact decide_eq_true (by omega)
      have j3 : yin ((F + 3 : Nat) : Int) 40 = true := by rw [yin_d]; exact decide_eq_true (by omega)
      have b0 : yad (yad (ymu 40 (k : Int)) f) (4 * (i : Int)) = ((40 * k + F : Nat) : Int) := by
        rw [ymu_e (by omega) (by omega), yad_e (a := 40 * (k : Int)) (by omega) (by omega), yad_e (by omega) (by omega)]; omega
      have b1 : yad ((40 * k + F : Nat) : Int) 1 = ((40 * k + (F + 1) : Nat) : Int) := by rw [yad_e (by omega) (by omega)]; omega
      have b2 : yad ((40 * k + F : Nat) : Int) 2 = ((40 * k + (F + 2) : Nat) : Int) := by rw [yad_e (by omega) (by omega)]; omega
      have b3 : yad ((40 * k + F : Nat) : Int) 3 = ((40 * k + (F + 3) : Nat) : Int) := by rw [yad_e (by omega) (by omega)]; omega
      have y0 : yin ((40 * k + F : Nat) : Int) 160 = true := by rw [yin_d]; exact decide_eq_true (by omega)
      have y1 : yin ((40 * k + (F + 1) : Nat) : Int) 160 = true := by rw [yin_d]; exact decide_eq_true (by omega)
      have y2 : yin ((40 * k + (F + 2) : Nat) : Int) 160 = true := by rw [yin_d]; exact decide_eq_true (by omega)
      have y3 : yin ((40 * k + (F + 3) : Nat) : Int) 160 = true := by rw [yin_d]; exact decide_eq_true (by omega)
      have c0 := s5 F (by omega)
      have c1 := s5 (F + 1) (by omega)
      have c2 := s5 (F + 2) (by omega)
      have c3 := s5 (F + 3) (by omega)
      rw [show 10 + 2 * k = 9 + 2 * k + 1 by omega] at c0 c1 c2 c3
      obtain ⟨a, σ1, τ1, v7, v8, K1, fs, fo, le⟩ := p_vows (N := N) (h := τ.1 14 (40 * k + F)) (k := τ.1 14 (40 * k + (F + 1))) (p := τ.1 14 (40 * k + (F + 2))) (d := τ.1 14 (40 * k + (F + 3))) H.1
      have H1 : yRR σ1 τ1 := yRR_s H K1 fs fo
      have hin : decide (0 ≤ (F : Int) ∧ (F : Int) ≤ τ.1 13 k - 4) = true := decide_eq_true ok
      by_cases ha : 0 ≤ a
      · obtain ⟨z, σ2, τ2, g7, g8, K2⟩ := p_read_l hN hk hn hl hf hm c m q (i + 1) σ1 τ1 (by omega) H1 (by rw [fo 12 k (by omega) (by omega) (by omega)]; exact h12) (by omega)
        refine ⟨z, σ2, τ2, ?_, ?_, K2⟩
        · rw [show m + (c + 1) + 1 = (m + c + 1) + 1 by omega, q_X7_read_b61]
          simp only [ycP_ge, ycP_ne, ycP_eq, decide_eq_false (show ¬ (n : Int) ≤ (i : Int) by omega), cond_false, cond_true, decide_true, decide_false, not_true_eq_false, not_false_eq_true, f_X2_faultOfCells, f_X2_faultOfCells_b28, x2_isNothing, s1, h12, nn, if_false, s3, es, x7_within, e1, ea, if_pos ok, show ¬ (1 : Int) = 0 by omega, f_X7_vowFromCells, j0, j1, j2, j3, a1, a2, a3, Int.toNat_natCast, c0, c1, c2, c3, v7, decide_eq_true ha, f_X7_read_b131, e3, g7]
        · rw [show q + (c + 1) + 1 = (q + c + 1) + 1 by omega, q_X8_read_b41]
          simp only [ycP_ge, ycP_ne, decide_eq_false (show ¬ (n : Int) ≤ (i : Int) by omega), cond_false, decide_false, not_true_eq_false]
          refine rd.trans ?_
          simp only [f_X8_read_b143, f_X8_read_b220, ycP_ge, ycP_ne, decide_false, not_true_eq_false, cond_false, cond_true, e1, b0, b1, b2, b3, y0, y1, y2, y3, Int.toNat_natCast, v8, decide_eq_true ha, e3, g8]
      · have b77 : τ1.1 1 77 ≤ 10 := H1.1.2.2.2.2.2.2.1.2
        have hd : 0 ≤ many ∧ many ≤ τ1.1 1 77 := by omega
        have t7 := H1.1.2.2.2.1.2.2.2.2.2
        refine ⟨ysu (-20) (i : Int), yw σ1 (σ1.2 17 11) 0 many, yw τ1 1 77 many, ?_, ?_, yRR_s H1 (yRN_dropv H1.1 hd) (yFs_w yFs_r (by omega)) (yFo_w yFo_r (by omega))⟩
        · rw [show m + (c + 1) + 1 = (m + c + 1) + 1 by omega, q_X7_read_b61]
          simp only [ycP_ge, ycP_ne, ycP_eq, decide_eq_false (show ¬ (n : Int) ≤ (i : Int) by omega), cond_false, cond_true, decide_true, decide_false, not_true_eq_false, not_false_eq_true, f_X2_faultOfCells, f_X2_faultOfCells_b28, x2_isNothing, s1, h12, nn, if_false, s3, es, x7_within, e1, ea, if_pos ok, show ¬ (1 : Int) = 0 by omega, f_X7_vowFromCells, j0, j1, j2, j3, a1, a2, a3, Int.toNat_natCast, c0, c1, c2, c3, v7, decide_eq_false ha]
        · rw [show q + (c + 1) + 1 = (q + c + 1) + 1 by omega, q_X8_read_b41]
          simp only [ycP_ge, ycP_ne, decide_eq_false (show ¬ (n : Int) ≤ (i : Int) by omega), cond_false, decide_false, not_true_eq_false]
          refine rd.trans ?_
          simp only [f_X8_read_b143, f_X8_read_b220, ycP_ge, ycP_ne, decide_false, not_true_eq_false, cond_false, cond_true, e1, b0, b1, b2, b3, y0, y1, y2, y3, Int.toNat_natCast, v8, decide_eq_false ha]
    · rw [if_neg (by omega)] at rd
      have nok : ¬ (0 ≤ yad f (4 * (i : Int)) ∧ yad f (4 * (i : Int)) ≤ τ.1 13 k - 4) := by omega
      refine ⟨(i : Int), _, _, ?_, ?_, yRR_torn (x := 2) (y := 2) H⟩
      · rw [show m + (c + 1) + 1 = (m + c + 1) + 1 by omega, q_X7_read_b61]
        simp only [ycP_ge, ycP_ne, ycP_eq, decide_eq_false (show ¬ (n : Int) ≤ (i : Int) by omega), cond_false, cond_true, decide_true, decide_false, not_true_eq_false, not_false_eq_true, f_X2_faultOfCells, f_X2_faultOfCells_b28, x2_isNothing, s1, h12, nn, if_false, s3, es, x7_within, e1, if_neg nok, show ¬ (2 : Int) = 0 by omega, f_X7_read_b131]
        rw [q_X7_read_b61]
        simp [ycP_ge, ycP_ne, f_X7_read_b137]
      · rw [show q + (c + 1) + 1 = (q + c + 1) + 1 by omega, q_X8_read_b41]
        simp only [ycP_ge, ycP_ne, decide_eq_false (show ¬ (n : Int) ≤ (i : Int) by omega), cond_false, decide_false, not_true_eq_false]
        refine rd.trans ?_
        simp only [f_X8_read_b143, f_X8_read_b220, ycP_ne, show ¬ (2 : Int) = 0 by omega, not_false_eq_true, decide_true, cond_true]
        rw [q_X8_read_b41]
        simp [ycP_ge, ycP_ne, f_X8_read_b226]
end
section
theorem P_read {N : Nat} (hN : 132 ≤ N) {σ τ : yS} {k l f n : Int} (hf : yI f) (H : yRR σ τ) : ∃ (a : Int) (σ' τ' : yS), f_X7_read N σ k l f n = some (a, σ') ∧ f_X8_read N τ k l f n = some (a, τ') ∧ yRR σ' τ' := by
  simp only [f_X7_read, f_X7_read_b25, f_X8_read, f_X8_read_b21, f_X2_faultOfLane, f_X2_faultOfLane_b15, f_X2_faultOfLane_b20, x7_isSheet, x7_isLane, x8_isSheet, x2_isNothing, x7_within, x8_in, ycP_eq, ycP_ne, yin_d]
  by_cases hk : 0 ≤ k ∧ k ≤ 3
  · by_cases hl : 0 ≤ l ∧ l ≤ 2
    · by_cases hn : 0 ≤ n ∧ n ≤ 10
      · obtain ⟨k, rfl⟩ : ∃ m : Nat, k = (m : Int) := ⟨k.toNat, by omega⟩
        obtain ⟨n, rfl⟩ : ∃ m : Nat, n = (m : Int) := ⟨n.toNat, by omega⟩
        have hk4 : k < 4 := by omega
        have k4 : (k : Int) < 4 := by omega
        have ik : yin (k : Int) 4 = true := by rw [yin_d]; exact decide_eq_true (by omega)
        obtain ⟨i1, S⟩ := H.2.2.2.2.2.1 k hk4
        have t3 : σ.1 (σ.2 17 11) 0 = τ.1 1 77 := H.1.2.2.2.1.2.2.1.1
        have g2 : 0 ≤ τ.1 1 77 ∧ τ.1 1 77 ≤ 10 := H.1.2.2.2.2.2.2.1
        have z4 : ymu 4 0 = 0 := by decide +kernel
        obtain ⟨M, hM⟩ : ∃ M, N = M + 2 := ⟨N - 2, by omega⟩
        have e7 : ∀ (m : Nat) (x s : Int), ¬ x = 0 → f_X7_read_b61 N (m + 1) σ f n (9 + 2 * k) (τ.1 1 77) x 0 s = some (0, yw σ 0 8 x) := fun m x s hx => by
          rw [q_X7_read_b61]
          by_cases q : (n : Int) ≤ s
          · simp [ycP_ge, ycP_ne, f_X7_read_b137, q]
          · simp [ycP_ge, ycP_ne, f_X7_read_b137, q, hx]
        have e8 : ∀ (m : Nat) (x s : Int), ¬ x = 0 → f_X8_read_b41 N (m + 1) τ k l f n (τ.1 1 77) x 0 s = some (0, yw τ 0 32 x) := fun m x s hx => by
          rw [q_X8_read_b41]
          by_cases q : (n : Int) ≤ s
          · simp [ycP_ge, ycP_ne, f_X8_read_b226, q]
          · simp [ycP_ge, ycP_ne, f_X8_read_b226, q, hx]
        have z7 : ∀ (m : Nat) (x : Int), n = 0 → f_X7_read_b61 N (m + 1) σ f n (9 + 2 * k) (τ.1 1 77) x 0 0 = some (0, yw σ 0 8 x) := fun m x hx => by
          subst hx
          rw [q_X7_read_b61]
          simp [ycP_ge, f_X7_read_b137]
        have z8 : ∀ (m : Nat) (x : Int), n = 0 → f_X8_read_b41 N (m + 1) τ k l f n (τ.1 1 77) x 0 0 = some (0, yw τ 0 32 x) := fun m x hx => by
          subst hx
          rw [q_X8_read_b41]
          simp [ycP_ge, f_X8_read_b226]
        have r8 : ∀ (x : Int) (d : Int) (m : Nat), ¬ x = 0 → f_X8_read_b56 N (f_X8_read_b41 N (M + 1)) (m + 1) τ k l f n (τ.1 1 77) x 0 0 d = some (0, yw τ 0 32 x) := fun x d m hx => by
          have q143 : f_X8_read_b143 N (f_X8_read_b41 N (M + 1)) τ k l f n (τ.1 1 77) x 0 0 = some (0, yw τ 0 32 x) := by
            simp only [f_X8_read_b143, f_X8_read_b220, ycP_ne, decide_eq_true hx, cond_true]
            exact e8 M x _ hx
          rw [q_X8_read_b56]
          by_cases q : (4 : Int) ≤ d
          · simp only [ycP_ge, decide_eq_true q, cond_true]
            exact q143
          · simp only [ycP_ge, ycP_ne, decide_eq_false q, decide_eq_true hx, cond_true, cond_false]
            exact q143
        have b8 : ∀ x : Int, ¬ n = 0 → ¬ x = 0 → (∀ m : Nat, f_X8_read_b56 N (f_X8_read_b41 N (M + 1)) (m + 1) τ k l f n (τ.1 1 77) 0 0 0 0 = f_X8_read_b56 N (f_X8_read_b41 N (M + 1)) m τ k l f n (τ.1 1 77) x 0 0 (yad 0 1)) → f_X8_read_b41 N N τ k l f n (τ.1 1 77) 0 0 0 = some (0, yw τ 0 32 x) := fun x hn0 hx hq => by
          have hh := q_X8_read_b41 N (M + 1) τ (k : Int) l f (n : Int) (τ.1 1 77) 0 0 0
          rw [show M + 1 + 1 = N by omega] at hh
          rw [hh]
          simp only [ycP_ge, ycP_ne, decide_eq_false (show ¬ (n : Int) ≤ 0 by omega), decide_false, not_true_eq_false, cond_false]
          have h1 := hq (M + 1)
          rw [show M + 1 + 1 = N by omega] at h1
          rw [h1]
          exact r8 x _ M hx
        rcases S with ⟨s1, s2⟩ | ⟨s1, s2, s3, s4, s5⟩
        · by_cases hn0 : n = 0
          · refine ⟨0, _, _, ?_, ?_, yRR_torn (x := 0) (y := 0) H⟩
            · have q := z7 (M + 1) 0 hn0
              rw [show M + 1 + 1 = N by omega] at q
              simp [hk, hl, hn, k4, i1, s1, t3, q]
            · have q := z8 (M + 1) 0 hn0
              rw [show M + 1 + 1 = N by omega] at q
              simp [hk, hl, hn, q]
          · refine ⟨0, _, _, ?_, ?_, yRR_torn (x := 1) (y := 1) H⟩
            · have q : f_X7_read_b61 N N σ f n (9 + 2 * k) (τ.1 1 77) 0 0 0 = some (0, yw σ 0 8 1) := by
                have hh := q_X7_read_b61 N (M + 1) σ f (n : Int) (9 + 2 * k) (τ.1 1 77) 0 0 0
                rw [show M + 1 + 1 = N by omega] at hh
                rw [hh]
                simp only [ycP_ge, ycP_ne, ycP_eq, decide_eq_false (show ¬ (n : Int) ≤ 0 by omega), cond_false, cond_true, decide_true, decide_false, not_true_eq_false, not_false_eq_true, f_X2_faultOfCells, x2_isNothing, s1, if_true, show ¬ (1 : Int) = 0 by omega, f_X7_read_b131]
                exact e7 M 1 _ (by omega)
              simp [hk, hl, hn, k4, i1, s1, t3, q]
            · have q := b8 1 hn0 (by omega) (fun m => by
                rw [q_X8_read_b56]
                simp only [ycP_ge, ycP_ne, ycP_eq, ycP_lt, Int.toNat_natCast, s2, ik, decide_eq_false (show ¬ (4 : Int) ≤ 0 by omega), cond_false, cond_true, decide_true, decide_false, not_true_eq_false, not_false_eq_true, f_X8_read_b135])
              simp [hk, hl, hn, q]
        · have n1 : ¬ τ.1 12 k = -1 := by omega
          have n4 : ¬ τ.1 12 k = -4 := by omega
          by_cases hle : τ.1 12 k = l
          · obtain ⟨a, σ', τ', g7, g8, K⟩ := p_read_l (N := N) hN (k := k) (n := n) (l := l) (f := f) (many := τ.1 1 77) hk4 (by omega) hl hf g2.1 n (N - n - 1) (N - n - 1) 0 σ τ (by omega) H hle (Int.le_refl _)
            rw [show N - n - 1 + n + 1 = N by omega, show ((0 : Nat) : Int) = 0 from rfl] at g7 g8
            refine ⟨a, σ', τ', ?_, ?_, K⟩
            · simp [hk, hl, hn, k4, i1, s1, n1, hle, t3, show ¬ l = -1 by omega, g7]
            · simp [hk, hl, hn, g8]
          · by_cases hn0 : n = 0
            · refine ⟨0, _, _, ?_, ?_, yRR_torn (x := 3) (y := 0) H⟩
              · have q := z7 (M + 1) 3 hn0
                rw [show M + 1 + 1 = N by omega] at q
                simp [hk, hl, hn, k4, i1, s1, n1, hle, t3, q]
              · have q := z8 (M + 1) 0 hn0
                rw [show M + 1 + 1 = N by omega] at q
                simp [hk, hl, hn, q]
            · refine ⟨0, _, _, ?_, ?_, yRR_torn (x := 3) (y := 3) H⟩
              · have q := e7 (M + 1) 3 0 (by omega)
                rw [show M + 1 + 1 = N by omega] at q
                simp [hk, hl, hn, k4, i1, s1, n1, hle, t3, q]
              · have q := b8 3 hn0 (by omega) (fun m => by
                  rw [q_X8_read_b56]
                  simp only [ycP_ge, ycP_ne, ycP_eq, ycP_lt, Int.toNat_natCast, n4, hle, ik, decide_eq_false (show ¬ (4 : Int) ≤ 0 by omega), cond_false, cond_true, decide_true, decide_false, not_true_eq_false, not_false_eq_true, f_X8_read_b135])
                simp [hk, hl, hn, q]
      · exact ⟨-1, σ, τ, by simp [hk, hl, hn], by simp [hk, hl, hn], H⟩
    · exact ⟨-1, σ, τ, by simp [hk, hl], by simp [hk, hl], H⟩
  · exact ⟨-1, σ, τ, by simp [hk], by simp [hk], H⟩
end
section
theorem ylaw7 : ∀ L : Fin 128, ∀ i : Fin 7, yor ((L.val % 2 ^ i.val : Nat) : Int) (ysl (yan (ysr ((L.val : Nat) : Int) ((i.val : Nat) : Int)) 1) ((i.val : Nat) : Int)) = ((L.val % 2 ^ (i.val + 1) : Nat) : Int) := by decide +kernel
theorem ylawz : ∀ L : Fin 128, ∀ H : Fin 8, (∀ h : Fin 7, H.val ≤ h.val → yan (ysr ((L.val : Nat) : Int) ((h.val : Nat) : Int)) 1 = 0) → L.val % 2 ^ H.val = L.val := by decide +kernel
theorem x8_law_l {N n H3 : Nat} {σ τ : yS} {L : Nat} (hL : L < 128) (h7 : H3 ≤ 7) (h3 : τ.1 0 3 = (H3 : Int)) (hb : ∀ h : Nat, h < 7 → yan (ysr (L : Int) (h : Int)) 1 = τ.1 1 (14 + h)) : ∀ j i : Nat, i + j = H3 → f_X8_lawyersNow_b4 N (n + j + 1) τ ((L % 2 ^ i : Nat) : Int) (i : Int) = some (((L % 2 ^ H3 : Nat) : Int), τ)
  | 0, i, h => by
    have e : i = H3 := by omega
    subst e
    rw [q_X8_lawyersNow_b4, h3]
    simp [ycP_ge]
  | j + 1, i, h => by
    have e3 : yad (i : Int) 1 = ((i + 1 : Nat) : Int) := by rw [yad_e (by omega) (by omega)]; omega
    have e4 : yad 14 (i : Int) = ((14 + i : Nat) : Int) := by rw [yad_e (by omega) (by omega)]; omega
    have i4 : yin ((14 + i : Nat) : Int) 393 = true := by rw [yin_d]; exact decide_eq_true (by omega)
    have q := ylaw7 ⟨L, hL⟩ ⟨i, by omega⟩
    dsimp only at q
    rw [hb i (by omega)] at q
    rw [show n + (j + 1) + 1 = (n + j + 1) + 1 by omega, q_X8_lawyersNow_b4, h3]
    simp only [ycP_ge, decide_eq_false (show ¬ (H3 : Int) ≤ (i : Int) by omega), cond_false, e4, i4, cond_true, Int.toNat_natCast, q, e3]
    exact x8_law_l (σ := σ) hL h7 h3 hb j (i + 1) (by omega)
theorem x8_law {N : Nat} (hN : 8 ≤ N) {σ τ : yS} (H : yRR σ τ) : f_X8_lawyersNow N τ = some (σ.1 17 6, τ) := by
  obtain ⟨e0, e1, e2, b0, b1, b2, hc⟩ := H.1.2.2.1
  have g0 : 0 ≤ σ.1 17 6 ∧ σ.1 17 6 < 128 := H.1.2.2.2.2.1
  obtain ⟨L, hL⟩ : ∃ L : Nat, σ.1 17 6 = (L : Int) := ⟨(σ.1 17 6).toNat, by omega⟩
  obtain ⟨H3, h3⟩ : ∃ m : Nat, τ.1 0 3 = (m : Int) := ⟨(τ.1 0 3).toNat, by omega⟩
  have hb : ∀ h : Nat, h < 7 → yan (ysr (L : Int) (h : Int)) 1 = τ.1 1 (14 + h) := fun h hh => by
    rw [← hL]
    exact (H.1.2.2.2.1.1 h hh).2.2.1
  have q := x8_law_l (N := N) (n := N - H3 - 1) (σ := σ) (τ := τ) (L := L) (show L < 128 by omega) (show H3 ≤ 7 by omega) h3 hb H3 0 (by omega)
  have z := ylawz ⟨L, by omega⟩ ⟨H3, by omega⟩ (fun h hh => by
    rw [hb h.val h.isLt]
    have hh : H3 ≤ h.val := hh
    exact H.2.1.2.2 h.val h.isLt (by omega))
  dsimp only at z
  rw [z, show N - H3 - 1 + H3 + 1 = N by omega, show ((L % 2 ^ 0 : Nat) : Int) = 0 by rw [Nat.pow_zero, Nat.mod_one]; rfl] at q
  rw [hL]
  exact q
theorem ybc7 : ∀ S : Fin 128, (f_J6_bitCount_0f7a4 0 (fun _ _ => 0, fun _ _ => 0) ((S.val : Nat) : Int)).map Prod.fst = some (ybt ((S.val : Nat) : Int)) := by decide +kernel
theorem x7_bits7 {N : Nat} {σ : yS} {x : Int} (h : 0 ≤ x ∧ x < 128) : f_J6_bitCount_0f7a4 N σ x = some (ybt x, σ) := by
  have q := ybc7 ⟨x.toNat, by omega⟩
  have e1 : ((x.toNat : Nat) : Int) = x := by omega
  simp only [e1, f_J6_bitCount_0f7a4, Option.map_some, Option.some.injEq] at q
  simp only [f_J6_bitCount_0f7a4, q]
theorem ykb : ∀ S : Fin 4, ybt ((S.val : Nat) : Int) = yad (yan (ysr ((S.val : Nat) : Int) 0) 1) (yan (ysr ((S.val : Nat) : Int) 1) 1) := by decide +kernel
theorem p_cdone {N n m : Nat} {σ τ : yS} {w x3 x4 : Int} (H : yRR σ τ) : ∀ (j i : Nat) (o : Int), i + j = 35 → ∃ D : Int, f_X4_allDone_b4 N (n + j + 1) σ 17 o i = some (D, σ) ∧ f_X8_count_b10 N (m + j + 1) τ w o x3 x4 i = f_X8_count_b39 N N τ w D x3 x4 0
  | 0, i, o, h => by
    have e : i = 35 := by omega
    subst e
    refine ⟨o, ?_, ?_⟩
    · rw [q_X4_allDone_b4]
      simp [ycP_ge]
    · rw [q_X8_count_b10]
      simp [ycP_ge]
  | j + 1, i, o, h => by
    have e3 : yad (i : Int) 1 = ((i + 1 : Nat) : Int) := by rw [yad_e (by omega) (by omega)]; omega
    have e4 : yad 42 (i : Int) = ((42 + i : Nat) : Int) := by rw [yad_e (by omega) (by omega)]; omega
    have i4 : yin ((42 + i : Nat) : Int) 393 = true := by rw [yin_d]; exact decide_eq_true (by omega)
    have i5 : yin (i : Int) 35 = true := by rw [yin_d]; exact decide_eq_true (by omega)
    have t2 : σ.1 (17 + 7) i = τ.1 1 (42 + i) := H.1.2.2.2.1.2.1 i (by omega)
    obtain ⟨D, g7, g8⟩ := p_cdone (N := N) (n := n) (m := m) (w := w) (x3 := x3) (x4 := x4) H j (i + 1) (yad o (τ.1 1 (42 + i))) (by omega)
    refine ⟨D, ?_, ?_⟩
    · rw [show n + (j + 1) + 1 = (n + j + 1) + 1 by omega, q_X4_allDone_b4]
      simp only [ycP_ge, decide_eq_false (show ¬ (35 : Int) ≤ (i : Int) by omega), cond_false, i5, cond_true, Int.toNat_natCast, t2, e3, g7]
    · rw [show m + (j + 1) + 1 = (m + j + 1) + 1 by omega, q_X8_count_b10]
      simp only [ycP_ge, decide_eq_false (show ¬ (35 : Int) ≤ (i : Int) by omega), cond_false, e4, i4, cond_true, Int.toNat_natCast, e3, g8]
theorem p_cpurse {N n m H3 : Nat} {σ τ : yS} {w x2 x4 : Int} (h7 : H3 ≤ 7) (h3 : τ.1 0 3 = (H3 : Int)) (H : yRR σ τ) : ∀ (j i : Nat) (o : Int), i + j = H3 → ∃ D : Int, f_X4_allPurses_b4 N (n + j + 1) σ 17 o i = some (D, σ) ∧ f_X8_count_b39 N (m + j + 1) τ w x2 o x4 i = f_X8_count_b69 N N τ w x2 D x4 0
  | 0, i, o, h => by
    have e : i = H3 := by omega
    subst e
    have e0 : σ.1 17 0 = τ.1 0 3 := H.1.2.2.1.1
    refine ⟨o, ?_, ?_⟩
    · rw [q_X4_allPurses_b4, e0, h3]
      simp [ycP_ge]
    · rw [q_X8_count_b39, h3]
      simp [ycP_ge]
  | j + 1, i, o, h => by
    have e0 : σ.1 17 0 = τ.1 0 3 := H.1.2.2.1.1
    have e3 : yad (i : Int) 1 = ((i + 1 : Nat) : Int) := by rw [yad_e (by omega) (by omega)]; omega
    have e4 : yad 0 (i : Int) = (i : Int) := by rw [yad_e (by omega) (by omega)]; omega
    have i4 : yin (i : Int) 393 = true := by rw [yin_d]; exact decide_eq_true (by omega)
    have i5 : yin (i : Int) 7 = true := by rw [yin_d]; exact decide_eq_true (by omega)
    have t2 : σ.1 (17 + 2) i = τ.1 1 i := (H.1.2.2.2.1.1 i (by omega)).1
    obtain ⟨D, g7, g8⟩ := p_cpurse (N := N) (n := n) (m := m) (w := w) (x2 := x2) (x4 := x4) h7 h3 H j (i + 1) (yad o (τ.1 1 i)) (by omega)
    refine ⟨D, ?_, ?_⟩
    · rw [show n + (j + 1) + 1 = (n + j + 1) + 1 by omega, q_X4_allPurses_b4, e0, h3]
      simp only [ycP_ge, decide_eq_false (show ¬ (H3 : Int) ≤ (i : Int) by omega), cond_false, i5, cond_true, Int.toNat_natCast, t2, e3, g7]
    · rw [show m + (j + 1) + 1 = (m + j + 1) + 1 by omega, q_X8_count_b39, h3]
      simp only [ycP_ge, decide_eq_false (show ¬ (H3 : Int) ≤ (i : Int) by omega), cond_false, e4, i4, cond_true, Int.toNat_natCast, e3, g8]
theorem p_cever {N n m S : Nat} {σ τ : yS} {w x2 x3 : Int} (hS : τ.1 1 77 = (S : Int)) (h10 : S ≤ 10) (H : yRR σ τ) : ∀ (j i : Nat) (o : Int), i + j = S → (0 ≤ o ∧ o ≤ i) → ∃ D : Int, f_X5_manyForEver_b4 N (n + j + 1) σ (σ.2 17 11) o i = some (D, σ) ∧ f_X8_count_b69 N (m + j + 1) τ w x2 x3 o i = f_X8_count_b69 N (m + 1) τ w x2 x3 D S
  | 0, i, o, h, ho => by
    have e : i = S := by omega
    subst e
    have t3 : σ.1 (σ.2 17 11) 0 = τ.1 1 77 := H.1.2.2.2.1.2.2.1.1
    refine ⟨o, ?_, rfl⟩
    rw [q_X5_manyForEver_b4, t3, hS]
    simp [ycP_ge]
  | j + 1, i, o, h, ho => by
    have t3 : σ.1 (σ.2 17 11) 0 = τ.1 1 77 := H.1.2.2.2.1.2.2.1.1
    have t4 : σ.1 (σ.2 17 11 + 3) i = τ.1 1 (80 + 4 * i) := (H.1.2.2.2.1.2.2.1.2 i (by show (i : Int) < τ.1 1 77; omega)).2.2.1
    have e3 : yad (i : Int) 1 = ((i + 1 : Nat) : Int) := by rw [yad_e (by omega) (by omega)]; omega
    have e4 : yad (yad 78 (ymu 4 (i : Int))) 2 = ((80 + 4 * i : Nat) : Int) := by
      rw [ymu_e (by omega) (by omega), yad_e (a := 78) (by omega) (by omega), yad_e (by omega) (by omega)]; omega
    have i4 : yin ((80 + 4 * i : Nat) : Int) 393 = true := by rw [yin_d]; exact decide_eq_true (by omega)
    have i5 : yin (i : Int) 10 = true := by rw [yin_d]; exact decide_eq_true (by omega)
    by_cases h9 : τ.1 1 (80 + 4 * i) = 9
    · have eo : yad o 1 = o + 1 := yad_e (by omega) (by omega)
      obtain ⟨D, g7, g8⟩ := p_cever (N := N) (n := n) (m := m) (w := w) (x2 := x2) (x3 := x3) hS h10 H j (i + 1) (o + 1) (by omega) (by omega)
      refine ⟨D, ?_, ?_⟩
      · rw [show n + (j + 1) + 1 = (n + j + 1) + 1 by omega, q_X5_manyForEver_b4, t3, hS]
        simp only [ycP_ge, ycP_ne, decide_eq_false (show ¬ (S : Int) ≤ (i : Int) by omega), cond_false, i5, cond_true, Int.toNat_natCast, t4, h9, not_true_eq_false, decide_false, f_X5_manyForEver_b26, eo, e3, g7]
      · rw [show m + (j + 1) + 1 = (m + j + 1) + 1 by omega, q_X8_count_b69, hS]
        simp only [ycP_ge, ycP_ne, decide_eq_false (show ¬ (S : Int) ≤ (i : Int) by omega), cond_false, e4, i4, cond_true, Int.toNat_natCast, h9, not_true_eq_false, decide_false, f_X8_count_b107, x8_flag (show (0 : Int) ≤ 1 ∧ (1 : Int) ≤ 1 by omega), eo, e3, g8]
    · have eo : yad o 0 = o := by rw [yad_e (by omega) (by omega)]; omega
      obtain ⟨D, g7, g8⟩ := p_cever (N := N) (n := n) (m := m) (w := w) (x2 := x2) (x3 := x3) hS h10 H j (i + 1) o (by omega) (by omega)
      refine ⟨D, ?_, ?_⟩
      · rw [show n + (j + 1) + 1 = (n + j + 1) + 1 by omega, q_X5_manyForEver_b4, t3, hS]
        simp only [ycP_ge, ycP_ne, decide_eq_false (show ¬ (S : Int) ≤ (i : Int) by omega), cond_false, i5, cond_true, Int.toNat_natCast, t4, h9, not_false_eq_true, decide_true, f_X5_manyForEver_b26, e3, g7]
      · rw [show m + (j + 1) + 1 = (m + j + 1) + 1 by omega, q_X8_count_b69, hS]
        simp only [ycP_ge, ycP_ne, decide_eq_false (show ¬ (S : Int) ≤ (i : Int) by omega), cond_false, e4, i4, cond_true, Int.toNat_natCast, h9, not_false_eq_true, decide_true, f_X8_count_b107, x8_flag (show (0 : Int) ≤ 0 ∧ (0 : Int) ≤ 1 by omega), eo, e3, g8]
theorem P_count {N : Nat} (hN : 132 ≤ N) {σ τ : yS} {w : Int} (H : yRR σ τ) : ∃ (a : Int) (σ' τ' : yS), f_X7_count N σ w = some (a, σ') ∧ f_X8_count N τ w = some (a, τ') ∧ yRR σ' τ' := by
  obtain ⟨e0, e1, e2, b0, b1, b2, hc⟩ := H.1.2.2.1
  obtain ⟨H3, h3⟩ : ∃ m : Nat, τ.1 0 3 = (m : Int) := ⟨(τ.1 0 3).toNat, by omega⟩
  have g2 : 0 ≤ τ.1 1 77 ∧ τ.1 1 77 ≤ 10 := H.1.2.2.2.2.2.2.1
  obtain ⟨S, hS⟩ : ∃ m : Nat, τ.1 1 77 = (m : Int) := ⟨(τ.1 1 77).toNat, by omega⟩
  obtain ⟨D, d7, d8⟩ := p_cdone (N := N) (n := N - 36) (m := N - 36) (w := w) (x3 := 0) (x4 := 0) H 35 0 0 (by omega)
  obtain ⟨Pu, p7, p8⟩ := p_cpurse (N := N) (n := N - H3 - 1) (m := N - H3 - 1) (w := w) (x2 := D) (x4 := 0) (show H3 ≤ 7 by omega) h3 H H3 0 0 (by omega)
  obtain ⟨E, v7, v8⟩ := p_cever (N := N) (n := N - S - 1) (m := N - S - 1) (w := w) (x2 := D) (x3 := Pu) hS (by omega) H S 0 0 (by omega) (by omega)
  rw [show N - 36 + 35 + 1 = N by omega, show ((0 : Nat) : Int) = 0 from rfl] at d7 d8
  rw [show N - H3 - 1 + H3 + 1 = N by omega, show ((0 : Nat) : Int) = 0 from rfl] at p7 p8
  rw [show N - S - 1 + S + 1 = N by omega, show ((0 : Nat) : Int) = 0 from rfl] at v7 v8
  have c8 : f_X8_count N τ w = f_X8_count_b69 N (N - S - 1 + 1) τ w D Pu E S := d8.trans (p8.trans v8)
  have lw := x8_law (N := N) (by omega) H
  have g0 : 0 ≤ σ.1 17 6 ∧ σ.1 17 6 < 128 := H.1.2.2.2.2.1
  have kb := H.2.2.1
  have k0 : 0 ≤ τ.1 3 0 ∧ τ.1 3 0 ≤ 1 := (H.2.2.2.1 0 (by omega)).2.2.1
  have k1 : 0 ≤ τ.1 3 1 ∧ τ.1 3 1 ≤ 1 := (H.2.2.2.1 1 (by omega)).2.2.1
  have r0 : yan (ysr (σ.1 0 7) 0) 1 = τ.1 3 0 := (H.2.2.2.1 0 (by omega)).2.2.2.1
  have r1 : yan (ysr (σ.1 0 7) 1) 1 = τ.1 3 1 := (H.2.2.2.1 1 (by omega)).2.2.2.1
  have r2 : ybt (σ.1 0 7) = yad (τ.1 3 0) (τ.1 3 1) := by
    have q := ykb ⟨(σ.1 0 7).toNat, by omega⟩
    simp only [show (((σ.1 0 7).toNat : Nat) : Int) = σ.1 0 7 by omega] at q
    rw [q, r0, r1]
  have tp : σ.1 3 0 = τ.1 0 17 := H.1.1.2.2.1
  obtain ⟨i1, sh⟩ := H.2.2.2.2.2.1 0 (by omega)
  rw [c8, q_X8_count_b69, hS]
  simp only [f_X7_count, f_X7_count_b113, f_X8_count_b223, f_X4_allDone, f_X4_allPurses, f_X5_manyForEver, x2_isNothing, yeq_d, ycP_ge, ycP_eq, ycP_ne, decide_eq_true (Int.le_refl (S : Int)), cond_true, d7, p7, v7, lw, x8_bits (show 8 ≤ N by omega), x8_flag k0, x8_flag k1, i1, x7_bits7 g0, x7_bits7 (show 0 ≤ σ.1 0 7 ∧ σ.1 0 7 < 128 by omega), r2, tp]
  by_cases h0 : w = 0
  · exact ⟨D, σ, τ, by simp [h0], by simp [h0], H⟩
  by_cases h1 : w = 1
  · exact ⟨Pu, σ, τ, by simp [h1], by simp [h1], H⟩
  by_cases h2 : w = 2
  · exact ⟨ybt (σ.1 17 6), σ, τ, by simp [h2], by simp [h2], H⟩
  by_cases h3 : w = 3
  · exact ⟨yad (τ.1 3 0) (τ.1 3 1), σ, τ, by simp [h3], by simp [h3], H⟩
  by_cases h4 : w = 4
  · exact ⟨τ.1 0 17, σ, τ, by simp [h4], by simp [h4], H⟩
  by_cases h5 : w = 5
  · rcases sh with ⟨s1, s2⟩ | ⟨s1, s2, s3, s4, s5⟩
    · exact ⟨-4, σ, τ, by simp [h5, s1], by simp [h5, s2], H⟩
    · exact ⟨τ.1 13 0, σ, τ, by simp [h5, s1, s3, show ¬ τ.1 12 0 = -1 by omega], by simp [h5, show ¬ τ.1 12 0 = -4 by omega], H⟩
  by_cases h6 : w = 6
  · exact ⟨E, σ, τ, by simp [h6], by simp [h6], H⟩
  · exact ⟨-1, σ, τ, by simp [h0, h1, h2, h3, h4, h5, h6], by simp [h0, h1, h2, h3, h4, h5, h6], H⟩
end
section
theorem yor_assoc (a b c : Int) : yor (yor a b) c = yor a (yor b c) := by
  unfold yor
  rw [Int32.ofInt_toInt, Int32.ofInt_toInt]
  refine congrArg Int32.toInt (Int32.toBitVec_inj.1 ?_)
  exact BitVec.or_assoc _ _ _
theorem yor_comm (a b : Int) : yor a b = yor b a := by
  unfold yor
  refine congrArg Int32.toInt (Int32.toBitVec_inj.1 ?_)
  exact BitVec.or_comm _ _
theorem yan_or (a b c : Int) : yan (yor a b) c = yor (yan a c) (yan b c) := by
  unfold yan yor
  rw [Int32.ofInt_toInt, Int32.ofInt_toInt, Int32.ofInt_toInt]
  refine congrArg Int32.toInt (Int32.toBitVec_inj.1 ?_)
  apply BitVec.eq_of_getLsbD_eq
  intro i hi
  simp only [Int32.toBitVec_and, Int32.toBitVec_or, BitVec.getLsbD_and, BitVec.getLsbD_or]
  cases (Int32.ofInt a).toBitVec.getLsbD i <;> cases (Int32.ofInt b).toBitVec.getLsbD i <;> cases (Int32.ofInt c).toBitVec.getLsbD i <;> rfl
theorem yor_0 (x : Int32) : yor x.toInt 0 = x.toInt := by
  unfold yor
  rw [Int32.ofInt_toInt]
  refine congrArg Int32.toInt (Int32.toBitVec_inj.1 ?_)
  exact BitVec.or_zero
theorem yor_an (a b : Int) : yor (yan a b) 0 = yan a b := yor_0 _
theorem yor_or (a b : Int) : yor (yor a b) 0 = yor a b := yor_0 _
/-- a set of houses moved by a step -/
noncomputable def ysh (r H x s : Int) : Int := if r = 0 then yan (if 0 ≤ s then ysl x s else ysr x (yne s)) (ysu (ysl 1 H) 1) else yan (yor (ysl x (yrm (yad s H) H)) (ysr x (ysu H (yrm (yad s H) H)))) (ysu (ysl 1 H) 1)
theorem ysh_z (r H x s : Int) : yor (ysh r H x s) 0 = ysh r H x s := by
  unfold ysh
  split
  · exact yor_an _ _
  · exact yor_an _ _
theorem x4_shiftSet {N : Nat} {σ : yS} {t : Nat} {x s : Int} (h : 0 < σ.1 t 0) : f_X4_shiftSet N σ t x s = some (ysh (σ.1 t 1) (σ.1 t 0) x s, σ) := by
  have hz : ynz (σ.1 t 0) = true := by rw [ynz_d]; exact decide_eq_true (by omega)
  simp only [f_X4_shiftSet, f_X4_shiftSet_b53, f_X4_shiftSet_b67, ycP_eq, ycP_le, ycP_ge, hz, ysh]
  by_cases h1 : σ.1 t 1 = 0
  · by_cases h2 : 0 ≤ s
    · simp [h1, h2]
    · simp [h1, h2]
  · simp [h1, show ¬ σ.1 t 0 ≤ 0 by omega]
/-- where what is made in a house falls -/
noncomputable def yof (r H h s : Int) : Int := if r = 0 then (if 0 ≤ yad h s ∧ yad h s ≤ ysu H 1 then yad h s else -4) else yrm (yad (yad h s) H) H
theorem x8_off {N : Nat} {τ : yS} {h s : Int} (hp : 0 < τ.1 0 3) : f_X8_off N τ h s = some (yof (τ.1 0 4) (τ.1 0 3) h s, τ) := by
  have hz : ynz (τ.1 0 3) = true := by rw [ynz_d]; exact decide_eq_true (by omega)
  simp only [f_X8_off, f_X8_off_b45, x8_in, ycP_eq, hz, yof]
  by_cases h1 : τ.1 0 4 = 0
  · by_cases h2 : 0 ≤ yad h s ∧ yad h s ≤ ysu (τ.1 0 3) 1
    · simp [h1, h2]
    · simp [h1, h2]
  · simp [h1]
/-- the bit that a house adds -/
noncomputable def yB (r H x h s : Int) : Int := if yan (ysr x h) 1 = 1 ∧ ¬ yof r H h s = -4 then ysl 1 (yof r H h s) else 0
noncomputable def ystp (i : Nat) : Int := if i = 0 then -1 else if i = 1 then 1 else 2
theorem ysh_b0 : ∀ r : Fin 2, ∀ H : Fin 8, 2 ≤ H.val → ∀ h : Fin 7, h.val < H.val → ∀ x : Fin 128, x.val < 2 ^ (h.val + 1) → ∀ s : Fin 3, ysh ((r.val : Nat) : Int) ((H.val : Nat) : Int) ((x.val : Nat) : Int) (ystp s.val) = yor (ysh ((r.val : Nat) : Int) ((H.val : Nat) : Int) ((x.val % 2 ^ h.val : Nat) : Int) (ystp s.val)) (yB ((r.val : Nat) : Int) ((H.val : Nat) : Int) ((x.val : Nat) : Int) ((h.val : Nat) : Int) (ystp s.val)) := by decide +kernel
theorem ysh_b1 : ∀ x : Fin 128, ∀ h : Fin 7, yan (ysr ((x.val % 2 ^ (h.val + 1) : Nat) : Int) ((h.val : Nat) : Int)) 1 = yan (ysr ((x.val : Nat) : Int) ((h.val : Nat) : Int)) 1 := by decide +kernel
theorem ysh_b (r : Fin 2) (H : Fin 8) (x : Fin 128) (h : Fin 7) (s : Fin 3) (h2 : 2 ≤ H.val) (hh : h.val < H.val) : ysh ((r.val : Nat) : Int) ((H.val : Nat) : Int) ((x.val % 2 ^ (h.val + 1) : Nat) : Int) (ystp s.val) = yor (ysh ((r.val : Nat) : Int) ((H.val : Nat) : Int) ((x.val % 2 ^ h.val : Nat) : Int) (ystp s.val)) (yB ((r.val : Nat) : Int) ((H.val : Nat) : Int) ((x.val : Nat) : Int) ((h.val : Nat) : Int) (ystp s.val)) := by
  have q := ysh_b0 r H h2 h hh ⟨x.val % 2 ^ (h.val + 1), Nat.lt_of_le_of_lt (Nat.mod_le _ _) x.isLt⟩ (Nat.mod_lt _ (Nat.two_pow_pos _)) s
  have e : ∀ z : Int, yB ((r.val : Nat) : Int) ((H.val : Nat) : Int) ((x.val % 2 ^ (h.val + 1) : Nat) : Int) ((h.val : Nat) : Int) z = yB ((r.val : Nat) : Int) ((H.val : Nat) : Int) ((x.val : Nat) : Int) ((h.val : Nat) : Int) z := fun z => by
    unfold yB
    rw [ysh_b1 x h]
  have d : x.val % 2 ^ (h.val + 1) % 2 ^ h.val = x.val % 2 ^ h.val := Nat.mod_mod_of_dvd _ (Nat.pow_dvd_pow 2 (Nat.le_succ h.val))
  dsimp only at q
  rw [d, e] at q
  exact q
theorem ysh_0 : ∀ r : Fin 2, ∀ H : Fin 8, ∀ s : Fin 3, 2 ≤ H.val → ysh ((r.val : Nat) : Int) ((H.val : Nat) : Int) 0 (ystp s.val) = 0 := by decide +kernel
theorem yof_b : ∀ r : Fin 2, ∀ H : Fin 8, ∀ h : Fin 7, ∀ s : Fin 3, 2 ≤ H.val → h.val < H.val → yof ((r.val : Nat) : Int) ((H.val : Nat) : Int) ((h.val : Nat) : Int) (ystp s.val) = -4 ∨ (0 ≤ yof ((r.val : Nat) : Int) ((H.val : Nat) : Int) ((h.val : Nat) : Int) (ystp s.val) ∧ yof ((r.val : Nat) : Int) ((H.val : Nat) : Int) ((h.val : Nat) : Int) (ystp s.val) < ((H.val : Nat) : Int)) := by decide +kernel
theorem ylb : ∀ L : Fin 128, ∀ h : Fin 7, (yan (ysr ((L.val : Nat) : Int) ((h.val : Nat) : Int)) 1 = 0 → yan (ysl 1 ((h.val : Nat) : Int)) (yxo ((L.val : Nat) : Int) (-1)) = ysl 1 ((h.val : Nat) : Int)) ∧ (¬ yan (ysr ((L.val : Nat) : Int) ((h.val : Nat) : Int)) 1 = 0 → yan (ysl 1 ((h.val : Nat) : Int)) (yxo ((L.val : Nat) : Int) (-1)) = 0) := by decide +kernel
theorem ysl0 : ∀ h : Fin 7, ysl 0 ((h.val : Nat) : Int) = 0 := by decide +kernel
theorem yan0 (L : Int) : yan 0 L = 0 := by
  unfold yan
  have : (Int32.ofInt 0 &&& Int32.ofInt L) = 0 := by
    apply Int32.toBitVec_inj.1
    exact BitVec.zero_and
  rw [this]
  rfl
end
section
/-- one turn of the reference's fallen -/
theorem x8_fturn {N n h : Nat} {τ : yS} {x k U s : Int} {L i : Nat} (k6 : yS → Int → Int → Int → Int → Int → Option (Int × yS)) (hp : 0 < τ.1 0 3) (hL : L < 128) (hU : yor U 0 = U) (hi : (i : Int) < (if k = 3 then 2 else 1)) (hs : ∀ τ1 : yS, f_X8_byOf N τ1 k i = some (s, τ1)) (ho : yof (τ.1 0 4) (τ.1 0 3) h s = -4 ∨ (0 ≤ yof (τ.1 0 4) (τ.1 0 3) h s ∧ yof (τ.1 0 4) (τ.1 0 3) h s < 7)) : f_X8_fallen_b18 N k6 (n + 1) τ x k L (yan U (yxo L (-1))) h i = f_X8_fallen_b18 N k6 n τ x k L (yan (yor U (yB (τ.1 0 4) (τ.1 0 3) x h s)) (yxo L (-1))) h ((i + 1 : Nat) : Int) := by
  have hg : decide ((if k = 3 then 2 else 1) ≤ (i : Int)) = false := decide_eq_false (by omega)
  have i2 : i < 2 := by
    by_cases q : k = 3
    · rw [if_pos q] at hi; omega
    · rw [if_neg q] at hi; omega
  have e3 : yad (i : Int) 1 = ((i + 1 : Nat) : Int) := by rw [yad_e (by omega) (by omega)]; omega
  rw [q_X8_fallen_b18]
  simp only [x8_fallsOf, ycP_ge, ycP_ne, ycP_eq, hg, cond_false, hs, x8_off hp, f_X8_fallen_b73, f_X8_fallen_b74, f_X8_fallen_b90, x8_flag (show (0 : Int) ≤ 0 ∧ (0 : Int) ≤ 1 by omega), x8_flag (show (0 : Int) ≤ 1 ∧ (1 : Int) ≤ 1 by omega), e3]
  have z0 : yor (yan U (yxo (L : Int) (-1))) 0 = yan U (yxo (L : Int) (-1)) := yor_an _ _
  unfold yB
  by_cases hb : yan (ysr x (h : Int)) 1 = 1
  · rcases ho with ho | ho
    · have s0 : ysl 0 0 = 0 := by decide +kernel
      rw [ho]
      simp only [hb, not_true_eq_false, decide_false, cond_false, decide_true, cond_true, and_false, if_false, s0, z0, hU]
    · obtain ⟨q, hq⟩ : ∃ q : Nat, yof (τ.1 0 4) (τ.1 0 3) h s = (q : Int) := ⟨(yof (τ.1 0 4) (τ.1 0 3) h s).toNat, by omega⟩
      rw [hq] at ho ⊢
      have n4 : ¬ (q : Int) = -4 := by omega
      have s0 := ysl0 ⟨q, by omega⟩
      have lb := ylb ⟨L, hL⟩ ⟨q, by omega⟩
      dsimp only at s0 lb
      by_cases hl : yan (ysr (L : Int) (q : Int)) 1 = 0
      · have c := lb.1 hl
        simp only [hb, n4, hl, not_true_eq_false, not_false_eq_true, decide_false, decide_true, cond_false, cond_true, and_self, if_true, yan_or, c]
      · have c := lb.2 hl
        simp only [hb, n4, hl, not_true_eq_false, not_false_eq_true, decide_false, decide_true, cond_false, cond_true, and_self, if_true, yan_or, c, s0, z0]
  · have e1 : ∀ y : Int, (bif decide (¬ yof (τ.1 0 4) (τ.1 0 3) h s = -4) then f_X8_fallen_b18 N k6 n τ x k L (yor (yan U (yxo (L : Int) (-1))) (ysl 0 (yof (τ.1 0 4) (τ.1 0 3) h s))) h ((i + 1 : Nat) : Int) else f_X8_fallen_b18 N k6 n τ x k L (yor (yan U (yxo (L : Int) (-1))) (ysl 0 0)) h ((i + 1 : Nat) : Int)) = f_X8_fallen_b18 N k6 n τ x k L (yan U (yxo (L : Int) (-1))) h ((i + 1 : Nat) : Int) := fun _ => by
      rcases ho with ho | ho
      · have s0 : ysl 0 0 = 0 := by decide +kernel
        rw [ho]
        simp only [not_true_eq_false, decide_false, cond_false, s0, z0]
      · obtain ⟨q, hq⟩ : ∃ q : Nat, yof (τ.1 0 4) (τ.1 0 3) h s = (q : Int) := ⟨(yof (τ.1 0 4) (τ.1 0 3) h s).toNat, by omega⟩
        rw [hq] at ho ⊢
        have n4 : ¬ (q : Int) = -4 := by omega
        have s0 := ysl0 ⟨q, by omega⟩
        dsimp only at s0
        simp only [n4, not_false_eq_true, decide_true, cond_true, s0, z0]
    simp only [hb, not_false_eq_true, decide_true, cond_true, false_and, if_false, hU]
    exact e1 0
theorem x8_byOf_e {N : Nat} {τ : yS} {k i : Int} : f_X8_byOf N τ k i = some (if k = 3 then (if i = 0 then -1 else 1) else if k = 1 then -1 else if k = 2 then 2 else 1, τ) := by
  simp only [f_X8_byOf, f_X8_byOf_b14, f_X8_byOf_b34, ycP_ne]
  by_cases h3 : k = 3
  · by_cases hi : i = 0
    · simp [h3, hi]
    · simp [h3, hi]
  · by_cases h1 : k = 1
    · simp [h1]
    · by_cases h2 : k = 2
      · simp [h2]
      · simp [h1, h2, h3]
theorem x4_stepOf_e {N : Nat} {σ : yS} {k i : Int} : f_X4_stepOf N σ k i = some (if k = 3 then (if i = 0 then -1 else 1) else if k = 1 then -1 else if k = 2 then 2 else 1, σ) := by
  simp only [f_X4_stepOf, f_X4_stepOf_b14, f_X4_stepOf_b16, f_X4_stepOf_b26, ycP_ne, ycP_eq]
  by_cases h3 : k = 3
  · by_cases hi : i = 0
    · simp [h3, hi]
    · simp [h3, hi]
  · by_cases h1 : k = 1
    · simp [h1]
    · by_cases h2 : k = 2
      · simp [h2]
      · simp [h1, h2, h3]
/-- the houses on which a set falls, no lawyer asked -/
noncomputable def yU (r H k x : Int) : Int := if k = 3 then yor (ysh r H x (-1)) (ysh r H x 1) else ysh r H x (if k = 1 then -1 else if k = 2 then 2 else 1)
theorem yU_z (r H k x : Int) : yor (yU r H k x) 0 = yU r H k x := by
  unfold yU
  split
  · exact yor_or _ _
  · exact ysh_z _ _ _ _
theorem x4_fallSet {N : Nat} (hN : 3 ≤ N) {σ : yS} {t : Nat} {x k l : Int} (h : 0 < σ.1 t 0) : f_X4_fallSet N σ t x k l = some (yan (yU (σ.1 t 1) (σ.1 t 0) k x) (yxo l (-1)), σ) := by
  obtain ⟨n, hn⟩ : ∃ n, N = n + 3 := ⟨N - 3, by omega⟩
  have y1 : yad 0 1 = 1 := by decide +kernel
  have y2 : yad 1 1 = 2 := by decide +kernel
  have o0 : ∀ s : Int, yor 0 (ysh (σ.1 t 1) (σ.1 t 0) x s) = ysh (σ.1 t 1) (σ.1 t 0) x s := fun s => by rw [yor_comm, ysh_z]
  have q1 : f_X4_fallSet_b6 N (n + 2 + 1) σ t x k l 0 0 = some (yan (yU (σ.1 t 1) (σ.1 t 0) k x) (yxo l (-1)), σ) := by
    by_cases h3 : k = 3
    · rw [q_X4_fallSet_b6]
      simp only [x4_fallsOf, x4_stepOf_e, h3, if_true, ycP_ge, decide_eq_false (show ¬ (2 : Int) ≤ 0 by omega), cond_false, x4_shiftSet h, y1, o0]
      rw [q_X4_fallSet_b6]
      simp only [x4_fallsOf, x4_stepOf_e, if_true, ycP_ge, decide_eq_false (show ¬ (2 : Int) ≤ 1 by omega), cond_false, x4_shiftSet h, y2, show ¬ (1 : Int) = 0 by omega, if_false]
      rw [q_X4_fallSet_b6]
      simp only [x4_fallsOf, if_true, ycP_ge, decide_eq_true (Int.le_refl (2 : Int)), cond_true, yU]
    · rw [q_X4_fallSet_b6]
      simp only [x4_fallsOf, x4_stepOf_e, h3, if_false, ycP_ge, decide_eq_false (show ¬ (1 : Int) ≤ 0 by omega), cond_false, x4_shiftSet h, y1, o0]
      rw [q_X4_fallSet_b6]
      simp only [x4_fallsOf, h3, if_false, ycP_ge, decide_eq_true (Int.le_refl (1 : Int)), cond_true, yU]
  rw [show n + 2 + 1 = N by omega] at q1
  exact q1
/-- the step of the houses -/
theorem yU_s {r H x h : Nat} {k : Int} (hr : r < 2) (h8 : H < 8) (h2 : 2 ≤ H) (hx : x < 128) (hh : h < H) : (k = 3 → yU r H k ((x % 2 ^ (h + 1) : Nat) : Int) = yor (yor (yU r H k ((x % 2 ^ h : Nat) : Int)) (yB r H x h (-1))) (yB r H x h 1)) ∧ (¬ k = 3 → yU r H k ((x % 2 ^ (h + 1) : Nat) : Int) = yor (yU r H k ((x % 2 ^ h : Nat) : Int)) (yB r H x h (if k = 1 then -1 else if k = 2 then 2 else 1))) := by
  have a := ysh_b ⟨r, hr⟩ ⟨H, h8⟩ ⟨x, hx⟩ ⟨h, by omega⟩ ⟨0, by omega⟩ h2 hh
  have b := ysh_b ⟨r, hr⟩ ⟨H, h8⟩ ⟨x, hx⟩ ⟨h, by omega⟩ ⟨1, by omega⟩ h2 hh
  have c := ysh_b ⟨r, hr⟩ ⟨H, h8⟩ ⟨x, hx⟩ ⟨h, by omega⟩ ⟨2, by omega⟩ h2 hh
  dsimp only at a b c
  rw [show ystp 0 = -1 from rfl] at a
  rw [show ystp 1 = 1 from rfl] at b
  rw [show ystp 2 = 2 from rfl] at c
  refine ⟨fun hk => ?_, fun hk => ?_⟩
  · unfold yU
    rw [if_pos hk, if_pos hk, a, b]
    generalize ysh (r : Int) (H : Int) ((x % 2 ^ h : Nat) : Int) (-1) = X
    generalize ysh (r : Int) (H : Int) ((x % 2 ^ h : Nat) : Int) 1 = Y
    generalize yB (r : Int) (H : Int) (x : Int) (h : Int) (-1) = P
    generalize yB (r : Int) (H : Int) (x : Int) (h : Int) 1 = Q
    rw [yor_assoc X P, ← yor_assoc P Y Q, yor_comm P Y, yor_assoc Y P Q, ← yor_assoc X Y, ← yor_assoc (yor X Y) P Q]
  · unfold yU
    rw [if_neg hk, if_neg hk]
    by_cases h1 : k = 1
    · simp only [h1, if_true]; exact a
    · by_cases h2 : k = 2
      · subst h2
        simp only [show ¬ (2 : Int) = 1 by omega, if_false, if_true]; exact c
      · simp only [h1, h2, if_false]; exact b
theorem x8_fallen_l {N H L x : Nat} (hN : 3 ≤ N) {τ : yS} {r : Nat} {k : Int} (hr : τ.1 0 4 = (r : Int)) (hH : τ.1 0 3 = (H : Int)) (r2 : r < 2) (h8 : H < 8) (h2 : 2 ≤ H) (hL : L < 128) (hx : x < 128) : ∀ (c n h : Nat), h + c = H → f_X8_fallen_b6 N (n + c + 1) τ x k L (yan (yU r H k ((x % 2 ^ h : Nat) : Int)) (yxo L (-1))) h = some (yan (yU r H k ((x % 2 ^ H : Nat) : Int)) (yxo L (-1)), τ)
  | 0, n, h, e => by
    have e : h = H := by omega
    subst e
    rw [q_X8_fallen_b6, hH]
    simp [ycP_ge]
  | c + 1, n, h, e => by
    obtain ⟨M, hM⟩ : ∃ n, N = n + 3 := ⟨N - 3, by omega⟩
    have hp : 0 < τ.1 0 3 := by omega
    have e3 : yad (h : Int) 1 = ((h + 1 : Nat) : Int) := by rw [yad_e (by omega) (by omega)]; omega
    have ob : ∀ s : Nat, s < 3 → yof (τ.1 0 4) (τ.1 0 3) h (ystp s) = -4 ∨ (0 ≤ yof (τ.1 0 4) (τ.1 0 3) h (ystp s) ∧ yof (τ.1 0 4) (τ.1 0 3) h (ystp s) < 7) := fun s hs => by
      have q := yof_b ⟨r, r2⟩ ⟨H, h8⟩ ⟨h, by omega⟩ ⟨s, hs⟩ h2 (by show h < H; omega)
      dsimp only at q
      rw [hr, hH]
      omega
    have us := yU_s (k := k) r2 h8 h2 hx (show h < H by omega)
    have ih := x8_fallen_l hN (k := k) hr hH r2 h8 h2 hL hx c n (h + 1) (by omega)
    rw [show n + (c + 1) + 1 = (n + c + 1) + 1 by omega, q_X8_fallen_b6, hH]
    simp only [ycP_ge, decide_eq_false (show ¬ (H : Int) ≤ (h : Int) by omega), cond_false]
    by_cases h3 : k = 3
    · have t1 := x8_fturn (N := N) (n := M + 2) (h := h) (τ := τ) (x := (x : Int)) (k := k) (U := yU r H k ((x % 2 ^ h : Nat) : Int)) (s := -1) (L := L) (i := 0) (f_X8_fallen_b6 N (n + c + 1)) hp hL (yU_z _ _ _ _) (by rw [if_pos h3]; simp) (fun τ1 => by rw [x8_byOf_e]; simp [h3]) (ob 0 (by omega))
      have t2 := x8_fturn (N := N) (n := M + 1) (h := h) (τ := τ) (x := (x : Int)) (k := k) (U := yor (yU r H k ((x % 2 ^ h : Nat) : Int)) (yB r H x h (-1))) (s := 1) (L := L) (i := 1) (f_X8_fallen_b6 N (n + c + 1)) hp hL (yor_or _ _) (by rw [if_pos h3]; simp) (fun τ1 => by rw [x8_byOf_e]; simp [h3]) (ob 1 (by omega))
      rw [hr, hH] at t1 t2
      rw [show M + 2 + 1 = N by omega] at t1
      refine t1.trans (t2.trans ?_)
      rw [← us.1 h3, q_X8_fallen_b18]
      simp only [x8_fallsOf, ycP_ge, if_pos h3, show decide ((2 : Int) ≤ ((1 + 1 : Nat) : Int)) = true from rfl, cond_true, e3]
      exact ih
    · have t1 := x8_fturn (N := N) (n := M + 2) (h := h) (τ := τ) (x := (x : Int)) (k := k) (U := yU r H k ((x % 2 ^ h : Nat) : Int)) (s := if k = 1 then -1 else if k = 2 then 2 else 1) (L := L) (i := 0) (f_X8_fallen_b6 N (n + c + 1)) hp hL (yU_z _ _ _ _) (by rw [if_neg h3]; simp) (fun τ1 => by rw [x8_byOf_e]; simp [h3]) (by
        by_cases q1 : k = 1
        · simp only [q1, if_true]; exact ob 0 (by omega)
        · by_cases q2 : k = 2
          · subst q2
            simp only [show ¬ (2 : Int) = 1 by omega, if_false, if_true]; exact ob 2 (by omega)
          · simp only [q1, q2, if_false]; exact ob 1 (by omega))
      rw [hr, hH] at t1
      rw [show M + 2 + 1 = N by omega] at t1
      refine t1.trans ?_
      rw [← us.2 h3, q_X8_fallen_b18]
      simp only [x8_fallsOf, ycP_ge, if_neg h3, show decide ((1 : Int) ≤ ((0 + 1 : Nat) : Int)) = true from rfl, cond_true, e3]
      exact ih
/-- on both sides the same houses -/
theorem p_fallen {N : Nat} (hN : 10 ≤ N) {σ τ : yS} {t H L x : Nat} {k : Int} (R : yRH σ τ t) (hH : τ.1 0 3 = (H : Int)) (hL : L < 128) (hx : x < 2 ^ H) : ∃ y : Nat, y < 2 ^ H ∧ (y : Int) = yan (yU (τ.1 0 4) (τ.1 0 3) k x) (yxo L (-1)) ∧ f_X4_fallSet N σ t x k L = some ((y : Int), σ) ∧ f_X8_fallen N τ x k L = some ((y : Int), τ) := by
  obtain ⟨e0, e1, e2, b0, b1, b2, hc⟩ := R
  obtain ⟨r, hr⟩ : ∃ r : Nat, τ.1 0 4 = (r : Int) := ⟨(τ.1 0 4).toNat, by omega⟩
  have h8 : H < 8 := by omega
  have hp : 2 ^ H ≤ 128 := Nat.pow_le_pow_right (n := 2) (by omega) (show H ≤ 7 by omega)
  have mk : ∀ H : Fin 8, ysu (ysl 1 ((H.val : Nat) : Int)) 1 = ((2 ^ H.val : Nat) : Int) - 1 := by decide +kernel
  have mk := mk ⟨H, h8⟩
  dsimp only at mk
  have pos : 0 < 2 ^ H := Nat.two_pow_pos H
  have shb : ∀ s : Int, 0 ≤ ysh (τ.1 0 4) (τ.1 0 3) x s ∧ ysh (τ.1 0 4) (τ.1 0 3) x s < ((2 ^ H : Nat) : Int) := fun s => by
    have key : ∀ z : Int, 0 ≤ yan z (ysu (ysl 1 (τ.1 0 3)) 1) ∧ yan z (ysu (ysl 1 (τ.1 0 3)) 1) < ((2 ^ H : Nat) : Int) := fun z => by
      rw [hH, mk]
      have e := zq_of (z := ((2 ^ H : Nat) : Int) - 1) (by omega) (by omega)
      have q := zand_r (Int32.ofInt z) (Int32.ofInt (((2 ^ H : Nat) : Int) - 1)) (by omega)
      rw [e] at q
      unfold yan
      omega
    unfold ysh
    split
    · exact key _
    · exact key _
  have ub : 0 ≤ yU (τ.1 0 4) (τ.1 0 3) k x ∧ yU (τ.1 0 4) (τ.1 0 3) k x < ((2 ^ H : Nat) : Int) := by
    unfold yU
    split
    · have a := shb (-1)
      have b := shb 1
      generalize ysh (τ.1 0 4) (τ.1 0 3) x (-1) = X at a ⊢
      generalize ysh (τ.1 0 4) (τ.1 0 3) x 1 = Y at b ⊢
      have eX := zq_of (z := X) (by omega) (by omega)
      have eY := zq_of (z := Y) (by omega) (by omega)
      have c2 : (((2 ^ H : Nat) : Int)) = (2 : Int) ^ H := by simp
      have q := zor_b (Int32.ofInt X) (Int32.ofInt Y) H (by omega) (by omega) (by omega) (by omega) (by omega)
      unfold yor
      omega
    · exact shb _
  have fb : 0 ≤ yan (yU (τ.1 0 4) (τ.1 0 3) k x) (yxo L (-1)) ∧ yan (yU (τ.1 0 4) (τ.1 0 3) k x) (yxo L (-1)) < ((2 ^ H : Nat) : Int) := by
    generalize yU (τ.1 0 4) (τ.1 0 3) k x = X at ub ⊢
    have eX := zq_of (z := X) (by omega) (by omega)
    have q := zand_l (Int32.ofInt X) (Int32.ofInt (yxo L (-1))) (by omega)
    unfold yan
    omega
  obtain ⟨y, hy⟩ : ∃ y : Nat, yan (yU (τ.1 0 4) (τ.1 0 3) k x) (yxo L (-1)) = (y : Int) := ⟨(yan (yU (τ.1 0 4) (τ.1 0 3) k x) (yxo L (-1))).toNat, by omega⟩
  have q8 := x8_fallen_l (N := N) (H := H) (L := L) (x := x) (by omega) (τ := τ) (k := k) hr hH (by omega) h8 (by omega) hL (by omega) H (N - H - 1) 0 (by omega)
  have z0 : yan (yU (r : Int) (H : Int) k ((x % 2 ^ 0 : Nat) : Int)) (yxo (L : Int) (-1)) = 0 := by
    rw [Nat.pow_zero, Nat.mod_one]
    have s0 : ∀ s : Nat, s < 3 → ysh (r : Int) (H : Int) 0 (ystp s) = 0 := fun s hs => ysh_0 ⟨r, by omega⟩ ⟨H, h8⟩ ⟨s, hs⟩ (by show 2 ≤ H; omega)
    have u0 : yU (r : Int) (H : Int) k ((0 : Nat) : Int) = 0 := by
      unfold yU
      split
      · have a := s0 0 (by omega)
        have b := s0 1 (by omega)
        rw [show ystp 0 = -1 from rfl] at a
        rw [show ystp 1 = 1 from rfl] at b
        show yor (ysh r H 0 (-1)) (ysh r H 0 1) = 0
        rw [a, b]
        decide +kernel
      · by_cases q1 : k = 1
        · simp only [q1, if_true]; exact s0 0 (by omega)
        · by_cases q2 : k = 2
          · subst q2
            simp only [show ¬ (2 : Int) = 1 by omega, if_false, if_true]; exact s0 2 (by omega)
          · simp only [q1, q2, if_false]; exact s0 1 (by omega)
    rw [u0, yan0]
  rw [z0, show N - H - 1 + H + 1 = N by omega, Nat.mod_eq_of_lt hx, ← hr, ← hH, hy] at q8
  refine ⟨y, by omega, hy.symm, ?_, q8⟩
  rw [x4_fallSet (by omega) (by rw [e0]; omega), e0, e1, hy]
end
section
theorem ydv_e {a b : Int} (h1 : 0 ≤ a) (h2 : a ≤ 2147483647) (h3 : 0 < b) (h4 : b ≤ 2147483647) : ydv a b = a / b := by
  unfold ydv
  have e1 := zq_of (z := a) (by omega) (by omega)
  have e2 := zq_of (z := b) (by omega) (by omega)
  rw [zdiv_b _ _ (by omega) (by omega), e1, e2]
/-- the houses after so many falls -/
noncomputable def yit (r H k L : Int) : Nat → Int → Int
  | 0, x => x
  | n + 1, x => yit r H k L n (yan (yU r H k x) (yxo L (-1)))
theorem p_it7 {N : Nat} (hN : 10 ≤ N) {σ τ : yS} {H L : Nat} {k n : Int} (R : yRH σ τ 17) (hL : L < 128) (h6 : σ.1 17 6 = (L : Int)) (hH : τ.1 0 3 = (H : Int)) : ∀ (c m x : Nat), c ≤ 100 → x < 2 ^ H → ∃ y : Nat, y < 2 ^ H ∧ (y : Int) = yit (τ.1 0 4) (τ.1 0 3) k L c x ∧ f_X4_broughtBy_b28 N (m + c + 1) σ 17 n k x ((c : Int) - 1) = f_X4_broughtBy_b53 N N σ 17 n y 0
  | 0, m, x, hc, hx => by
    refine ⟨x, hx, rfl, ?_⟩
    rw [q_X4_broughtBy_b28]
    simp [ycP_lt]
  | c + 1, m, x, hc, hx => by
    have e3 : yad (((c + 1 : Nat) : Int) - 1) (-1) = (c : Int) - 1 := by rw [yad_e (by omega) (by omega)]; omega
    have lt : ¬ ((c + 1 : Nat) : Int) - 1 < 0 := by omega
    have em : m + (c + 1) + 1 = (m + c + 1) + 1 := by omega
    have c9 : c ≤ 100 := by omega
    obtain ⟨y, hy, ey, g7, g8⟩ := p_fallen (N := N) (by omega) (σ := σ) (t := 17) (k := k) R hH hL hx
    obtain ⟨z, hz, ez, i7⟩ := p_it7 hN (k := k) (n := n) R hL h6 hH c m y c9 hy
    refine ⟨z, hz, ?_, ?_⟩
    · rw [ez, yit, ey]
    · rw [em, q_X4_broughtBy_b28, h6, e3]
      simp only [ycP_lt, decide_eq_false lt, cond_false, g7]
      exact i7
theorem p_it8 {N : Nat} (hN : 10 ≤ N) {σ τ : yS} {H L p : Nat} {k : Int} (HR : yRR σ τ) (hL : L < 128) (h6 : σ.1 17 6 = (L : Int)) (hH : τ.1 0 3 = (H : Int)) (hp : p ≤ 90) : ∀ (c m i x : Nat), i + c = p + 1 → x < 2 ^ H → ∃ y : Nat, (y : Int) = yit (τ.1 0 4) (τ.1 0 3) k L c x ∧ f_X8_endsAt_b8 N (m + c + 1) τ k p x i = some ((y : Int), τ)
  | 0, m, i, x, hc, hx => by
    refine ⟨x, rfl, ?_⟩
    rw [q_X8_endsAt_b8]
    simp [ycP_gt, show (p : Int) < (i : Int) by omega]
  | c + 1, m, i, x, hc, hx => by
    have e3 : yad (i : Int) 1 = ((i + 1 : Nat) : Int) := by rw [yad_e (by omega) (by omega)]; omega
    have lt : ¬ (p : Int) < (i : Int) := by omega
    have em : m + (c + 1) + 1 = (m + c + 1) + 1 := by omega
    have ei : i + 1 + c = p + 1 := by omega
    have lw := x8_law (N := N) (by omega) HR
    rw [h6] at lw
    obtain ⟨y, hy, ey, g7, g8⟩ := p_fallen (N := N) (by omega) (σ := σ) (t := 17) (k := k) HR.1.2.2.1 hH hL hx
    obtain ⟨z, ez, i8⟩ := p_it8 hN (k := k) HR hL h6 hH hp c m (i + 1) y ei hy
    refine ⟨z, ?_, ?_⟩
    · rw [ez, yit, ey]
    · rw [em, q_X8_endsAt_b8]
      simp only [ycP_gt, decide_eq_false lt, cond_false, lw, g8, e3]
      exact i8
theorem yclr : ∀ S : Fin 128, ∀ h : Fin 7, (0 ≤ yan ((S.val : Nat) : Int) (yxo (ysl 1 ((h.val : Nat) : Int)) (-1)) ∧ yan ((S.val : Nat) : Int) (yxo (ysl 1 ((h.val : Nat) : Int)) (-1)) ≤ ((S.val : Nat) : Int)) ∧ ∀ j : Fin 7, yan (ysr (yan ((S.val : Nat) : Int) (yxo (ysl 1 ((h.val : Nat) : Int)) (-1))) ((j.val : Nat) : Int)) 1 = if j.val = h.val then 0 else yan (ysr ((S.val : Nat) : Int) ((j.val : Nat) : Int)) 1 := by decide +kernel
theorem x4_mask_l {N H d : Nat} {σ : yS} {n : Int} (h7 : H ≤ 7) (hH : σ.1 17 0 = (H : Int)) (hd : yrm n 5 = (d : Int)) : ∀ (c m h S : Nat), h + c = H → S < 128 → ∃ S' : Nat, S' < 128 ∧ f_X4_broughtBy_b53 N (m + c + 1) σ 17 n S h = some ((S' : Int), σ) ∧ ∀ j : Nat, j < 7 → yan (ysr (S' : Int) (j : Int)) 1 = if h ≤ j ∧ j < H ∧ yan (ysr (σ.1 20 j) (d : Int)) 1 = 0 then 0 else yan (ysr (S : Int) (j : Int)) 1
  | 0, m, h, S, e, hS => by
    refine ⟨S, hS, ?_, fun j hj => ?_⟩
    · rw [q_X4_broughtBy_b53, hH]
      simp [ycP_ge, show (H : Int) ≤ (h : Int) by omega]
    · rw [if_neg (by omega)]
  | c + 1, m, h, S, e, hS => by
    have e3 : yad (h : Int) 1 = ((h + 1 : Nat) : Int) := by rw [yad_e (by omega) (by omega)]; omega
    have ih : yin (h : Int) 7 = true := by rw [yin_d]; exact decide_eq_true (by omega)
    by_cases hb : yan (ysr (σ.1 20 h) (d : Int)) 1 = 0
    · have q := yclr ⟨S, hS⟩ ⟨h, by omega⟩
      dsimp only at q
      obtain ⟨T, hT⟩ : ∃ T : Nat, yan (S : Int) (yxo (ysl 1 (h : Int)) (-1)) = (T : Int) := ⟨(yan (S : Int) (yxo (ysl 1 (h : Int)) (-1))).toNat, by omega⟩
      rw [hT] at q
      obtain ⟨S', hS', g, bt⟩ := x4_mask_l (N := N) (H := H) (d := d) h7 hH hd c m (h + 1) T (by omega) (by omega)
      refine ⟨S', hS', ?_, fun j hj => ?_⟩
      · rw [show m + (c + 1) + 1 = (m + c + 1) + 1 by omega, q_X4_broughtBy_b53, hH]
        simp only [ycP_ge, ycP_ne, decide_eq_false (show ¬ (H : Int) ≤ (h : Int) by omega), cond_false, ih, cond_true, Int.toNat_natCast, f_X7_bit, hd, hb, not_true_eq_false, decide_false, x7_withBit, if_true, hT, f_X4_broughtBy_b86, e3, g]
      · rw [bt j hj]
        have qj := q.2 ⟨j, hj⟩
        dsimp only at qj
        by_cases ej : j = h
        · subst ej
          rw [if_pos rfl] at qj
          rw [if_neg (by omega), if_pos ⟨by omega, by omega, hb⟩, qj]
        · rw [if_neg ej] at qj
          rw [qj]
          by_cases cc : h + 1 ≤ j ∧ j < H ∧ yan (ysr (σ.1 20 j) (d : Int)) 1 = 0
          · rw [if_pos cc, if_pos (by omega)]
          · rw [if_neg cc, if_neg (by omega)]
    · obtain ⟨S', hS', g, bt⟩ := x4_mask_l (N := N) (H := H) (d := d) h7 hH hd c m (h + 1) S (by omega) hS
      refine ⟨S', hS', ?_, fun j hj => ?_⟩
      · rw [show m + (c + 1) + 1 = (m + c + 1) + 1 by omega, q_X4_broughtBy_b53, hH]
        simp only [ycP_ge, ycP_ne, decide_eq_false (show ¬ (H : Int) ≤ (h : Int) by omega), cond_false, ih, cond_true, Int.toNat_natCast, f_X7_bit, hd, hb, not_false_eq_true, decide_true, f_X4_broughtBy_b86, e3, g]
      · rw [bt j hj]
        by_cases ej : j = h
        · subst ej
          rw [if_neg (by omega), if_neg (by intro q; exact hb q.2.2)]
        · by_cases cc : h + 1 ≤ j ∧ j < H ∧ yan (ysr (σ.1 20 j) (d : Int)) 1 = 0
          · rw [if_pos cc, if_pos (by omega)]
          · rw [if_neg cc, if_neg (by omega)]
theorem ysl1 : ∀ h : Fin 7, ysl 1 ((h.val : Nat) : Int) = ((2 ^ h.val : Nat) : Int) := by decide +kernel
theorem ybit7 : ∀ S : Fin 128, ∀ d : Fin 7, yan (ysr ((S.val : Nat) : Int) ((d.val : Nat) : Int)) 1 = 0 ∨ yan (ysr ((S.val : Nat) : Int) ((d.val : Nat) : Int)) 1 = 1 := by decide +kernel
/-- a vow by its number: whether it brings its deed to a house -/
theorem p_bring {N : Nat} (hN : 132 ≤ N) {σ τ : yS} {H x k p d : Nat} (HR : yRR σ τ) (hH : τ.1 0 3 = (H : Int)) (hx : x < H) (hk : k < 5) (hp : p < 4) (hd : d < 5) : ∃ S : Nat, S < 128 ∧ f_X4_broughtBy N σ 17 ((100 * x + 20 * k + 5 * p + d : Nat) : Int) = some ((S : Int), σ) ∧ ∀ h : Nat, h < H → f_X8_doesBring N τ x k p h d = some (yan (ysr (S : Int) (h : Int)) 1, τ) := by
  obtain ⟨e0, e1, e2, b0, b1, b2, hc⟩ := HR.1.2.2.1
  have g0 : 0 ≤ σ.1 17 6 ∧ σ.1 17 6 < 128 := HR.1.2.2.2.2.1
  obtain ⟨L, hL⟩ : ∃ L : Nat, σ.1 17 6 = (L : Int) := ⟨(σ.1 17 6).toNat, by omega⟩
  have pw : (2 : Nat) ^ H ≤ 128 := Nat.pow_le_pow_right (n := 2) (by omega) (show H ≤ 7 by omega)
  have a1 : ydv ((100 * x + 20 * k + 5 * p + d : Nat) : Int) 20 = ((5 * x + k : Nat) : Int) := by rw [ydv_e (by omega) (by omega) (by omega) (by omega)]; omega
  have a2 : yrm ((5 * x + k : Nat) : Int) 5 = (k : Int) := by rw [yrm_e (by omega) (by omega) (by omega) (by omega)]; omega
  have a3 : ydv ((100 * x + 20 * k + 5 * p + d : Nat) : Int) 100 = (x : Int) := by rw [ydv_e (by omega) (by omega) (by omega) (by omega)]; omega
  have a4 : ydv ((100 * x + 20 * k + 5 * p + d : Nat) : Int) 5 = ((20 * x + 4 * k + p : Nat) : Int) := by rw [ydv_e (by omega) (by omega) (by omega) (by omega)]; omega
  have a5 : yrm ((20 * x + 4 * k + p : Nat) : Int) 4 = (p : Int) := by rw [yrm_e (by omega) (by omega) (by omega) (by omega)]; omega
  have a6 : yrm ((100 * x + 20 * k + 5 * p + d : Nat) : Int) 5 = (d : Int) := by rw [yrm_e (by omega) (by omega) (by omega) (by omega)]; omega
  by_cases h4 : k = 4
  · refine ⟨0, by omega, ?_, fun h hh => ?_⟩
    · simp only [f_X4_broughtBy, a1, a2, ycP_ne, decide_eq_false (show ¬ ¬ (k : Int) = 4 by omega), cond_false]
      rfl
    · have z := ysl0 ⟨h, by omega⟩
      have z2 : ∀ h : Fin 7, yan (ysr 0 ((h.val : Nat) : Int)) 1 = 0 := by decide +kernel
      have z3 := z2 ⟨h, by omega⟩
      dsimp only at z3
      have z3' : yan (ysr ((0 : Nat) : Int) (h : Int)) 1 = 0 := z3
      rw [z3']
      simp [f_X8_doesBring, f_X8_doesBring_b44, f_X8_doesBring_b45, h4, ycP_eq, yb1_d]
  · have s1 := ysl1 ⟨x, by omega⟩
    dsimp only at s1
    have x2 : 2 ^ x < 2 ^ H := Nat.pow_lt_pow_right (by omega) hx
    obtain ⟨y, hy, ey, g7⟩ := p_it7 (N := N) (by omega) (k := (k : Int)) (n := ((100 * x + 20 * k + 5 * p + d : Nat) : Int)) HR.1.2.2.1 (show L < 128 by omega) hL hH (p + 1) (N - p - 2) (2 ^ x) (by omega) x2
    obtain ⟨y', ey', g8⟩ := p_it8 (N := N) (by omega) (k := (k : Int)) HR (show L < 128 by omega) hL hH (show p ≤ 90 by omega) (p + 1) (N - p - 2) 0 (2 ^ x) (by omega) x2
    have yy : y' = y := Int.ofNat_inj.1 (ey'.trans ey.symm)
    subst yy
    clear ey ey'
    rw [show N - p - 2 + (p + 1) + 1 = N by omega] at g7 g8
    obtain ⟨S, hS, m7, bt⟩ := x4_mask_l (N := N) (H := H) (d := d) (σ := σ) (n := ((100 * x + 20 * k + 5 * p + d : Nat) : Int)) (by omega) (by rw [e0]; exact hH) a6 H (N - H - 1) 0 y' (by omega) (by omega)
    rw [show N - H - 1 + H + 1 = N by omega] at m7
    refine ⟨S, hS, ?_, fun h hh => ?_⟩
    · rw [show (((p + 1 : Nat) : Int) - 1) = (p : Int) by omega] at g7
      simp only [f_X4_broughtBy, a1, a2, a3, a4, a5, ycP_ne, decide_eq_true (show ¬ (k : Int) = 4 by omega), cond_true, s1, g7]
      exact m7
    · have q1 : σ.1 20 h = τ.1 1 (7 + h) := (HR.1.2.2.2.1.1 h (by omega)).2.1
      have sk : 0 ≤ τ.1 1 (7 + h) ∧ τ.1 1 (7 + h) < 32 := (HR.1.2.2.2.2.2.1 h (by omega)).1
      have bb := ybit5 ⟨(τ.1 1 (7 + h)).toNat, by omega⟩ ⟨d, hd⟩
      simp only [show (((τ.1 1 (7 + h)).toNat : Nat) : Int) = τ.1 1 (7 + h) by omega] at bb
      have by7 := ybit7 ⟨y', by omega⟩ ⟨h, by omega⟩
      dsimp only at by7
      have en : f_X8_endsAt N τ x k p = some ((y' : Int), τ) := by
        unfold f_X8_endsAt
        rw [s1]
        exact g8
      have m1 : yad 7 (h : Int) = 7 + (h : Int) := yad_e (by omega) (by omega)
      have c1 : (7 + (h : Int)).toNat = 7 + h := by omega
      have i1 : yin (7 + (h : Int)) 393 = true := by rw [yin_d]; exact decide_eq_true (by omega)
      rw [bt h (by omega), q1]
      by_cases hs : yan (ysr (τ.1 1 (7 + h)) (d : Int)) 1 = 0
      · rw [if_pos ⟨by omega, hh, hs⟩]
        simp [f_X8_doesBring, f_X8_doesBring_b44, f_X8_doesBring_b45, ycP_eq, ycP_ne, show ¬ (k : Int) = 4 by omega, m1, c1, i1, hs, yb1_d]
      · have hs1 : yan (ysr (τ.1 1 (7 + h)) (d : Int)) 1 = 1 := by omega
        rw [if_neg (by intro q; exact hs q.2.2)]
        rcases by7 with z | z
        · rw [z]
          simp [f_X8_doesBring, f_X8_doesBring_b44, f_X8_doesBring_b45, ycP_eq, ycP_ne, show ¬ (k : Int) = 4 by omega, m1, c1, i1, hs1, en, z, yb1_d]
        · rw [z]
          simp [f_X8_doesBring, f_X8_doesBring_b44, f_X8_doesBring_b45, ycP_eq, ycP_ne, show ¬ (k : Int) = 4 by omega, m1, c1, i1, hs1, en, z, yb1_d]
end
section
theorem p_who_i {N : Nat} (hN : 132 ≤ N) {σ τ : yS} {H x h p d : Nat} (HR : yRR σ τ) (hH : τ.1 0 3 = (H : Int)) (hx : x < H) (hh : h < H) (hp : p < 4) (hd : d < 5) (k39 k36 : yS → Int → Int → Int → Int → Int → Option (Int × yS)) : ∀ (c m q k : Nat) (A : Int), k + c = 4 → yor A 0 = A → ∃ A' : Int, yor A' 0 = A' ∧ f_X7_who_b54 N k39 (m + c + 1) σ h d ((p : Int) + 1) A x k = k39 σ h d ((p : Int) + 1) A' ((x + 1 : Nat) : Int) ∧ f_X8_who_b48 N k36 (q + c + 2) τ h d ((p : Int) + 1) A x k = k36 τ h d ((p : Int) + 1) A' ((x + 1 : Nat) : Int)
  | 0, m, q, k, A, hk, hA => by
    have b0 := HR.1.2.2.1.2.2.2.1
    have e : k = 4 := by omega
    subst e
    have ex : yad (x : Int) 1 = ((x + 1 : Nat) : Int) := by rw [yad_e (by omega) (by omega)]; omega
    have s0 := ysl0 ⟨x, by omega⟩
    dsimp only at s0
    refine ⟨A, hA, ?_, ?_⟩
    · rw [q_X7_who_b54]
      simp only [ycP_ge, show decide ((4 : Int) ≤ ((4 : Nat) : Int)) = true from rfl, cond_true, ex]
    · rw [show q + 0 + 2 = (q + 1) + 1 by omega, q_X8_who_b48]
      simp only [ycP_ge, show decide ((5 : Int) ≤ ((4 : Nat) : Int)) = false from rfl, cond_false, f_X8_doesBring, f_X8_doesBring_b44, f_X8_doesBring_b45, ycP_eq, show decide (((4 : Nat) : Int) = 4) = true from rfl, cond_true, show yb1 0 = true from rfl, x8_flag (show (0 : Int) ≤ 0 ∧ (0 : Int) ≤ 1 by omega), s0, hA, show yad ((4 : Nat) : Int) 1 = 5 by decide +kernel]
      rw [q_X8_who_b48]
      simp only [ycP_ge, decide_eq_true (Int.le_refl (5 : Int)), cond_true, ex]
  | c + 1, m, q, k, A, hk, hA => by
    have b0 := HR.1.2.2.1.2.2.2.1
    have ek : yad (k : Int) 1 = ((k + 1 : Nat) : Int) := by rw [yad_e (by omega) (by omega)]; omega
    have ep : ysu ((p : Int) + 1) 1 = (p : Int) := by rw [ysu_e (by omega) (by omega)]; omega
    have en : yad (yad (yad (ymu 100 (x : Int)) (ymu 20 (k : Int))) (ymu 5 (p : Int))) (d : Int) = ((100 * x + 20 * k + 5 * p + d : Nat) : Int) := by
      rw [ymu_e (a := 100) (by omega) (by omega), ymu_e (a := 20) (by omega) (by omega), ymu_e (a := 5) (by omega) (by omega), yad_e (a := 100 * (x : Int)) (by omega) (by omega), yad_e (a := 100 * (x : Int) + 20 * (k : Int)) (by omega) (by omega), yad_e (by omega) (by omega)]
      omega
    obtain ⟨S, hS, g7, g8⟩ := p_bring (N := N) hN (x := x) (k := k) (p := p) (d := d) HR hH hx (by omega) hp hd
    have g8 := g8 h hh
    have bb := ybit7 ⟨S, hS⟩ ⟨h, by omega⟩
    have s0 := ysl0 ⟨x, by omega⟩
    dsimp only at bb s0
    have l4 : decide ((4 : Int) ≤ (k : Int)) = false := decide_eq_false (by omega)
    have l5 : decide ((5 : Int) ≤ (k : Int)) = false := decide_eq_false (by omega)
    rcases bb with bb | bb
    · obtain ⟨A', hA', i7, i8⟩ := p_who_i hN HR hH hx hh hp hd k39 k36 c m q (k + 1) A (by omega) hA
      refine ⟨A', hA', ?_, ?_⟩
      · rw [show m + (c + 1) + 1 = (m + c + 1) + 1 by omega, q_X7_who_b54]
        simp only [ycP_ge, ycP_ne, l4, cond_false, f_X7_numberOf, ep, en, g7, f_X7_bit, bb, decide_eq_true (show ¬ (0 : Int) = 1 by omega), cond_true, f_X7_who_b96, ek]
        exact i7
      · rw [show q + (c + 1) + 2 = (q + c + 2) + 1 by omega, q_X8_who_b48]
        simp only [ycP_ge, l5, cond_false, ep, g8, bb, x8_flag (show (0 : Int) ≤ 0 ∧ (0 : Int) ≤ 1 by omega), s0, hA, ek]
        exact i8
    · obtain ⟨A', hA', i7, i8⟩ := p_who_i hN HR hH hx hh hp hd k39 k36 c m q (k + 1) (yor A (ysl 1 (x : Int))) (by omega) (yor_or _ _)
      refine ⟨A', hA', ?_, ?_⟩
      · rw [show m + (c + 1) + 1 = (m + c + 1) + 1 by omega, q_X7_who_b54]
        simp only [ycP_ge, ycP_ne, l4, cond_false, f_X7_numberOf, ep, en, g7, f_X7_bit, bb, decide_eq_false (show ¬ ¬ (1 : Int) = 1 by omega), x7_withBit, show ¬ (1 : Int) = 0 by omega, if_false, f_X7_who_b96, ek]
        exact i7
      · rw [show q + (c + 1) + 2 = (q + c + 2) + 1 by omega, q_X8_who_b48]
        simp only [ycP_ge, l5, cond_false, ep, g8, bb, x8_flag (show (0 : Int) ≤ 1 ∧ (1 : Int) ≤ 1 by omega), ek]
        exact i8
theorem p_who_o {N : Nat} (hN : 132 ≤ N) {σ τ : yS} {H h p d : Nat} (HR : yRR σ τ) (hH : τ.1 0 3 = (H : Int)) (hh : h < H) (hp : p < 4) (hd : d < 5) : ∀ (c m q x : Nat) (A : Int), x + c = H → yor A 0 = A → ∃ A' : Int, f_X7_who_b39 N (m + c + 1) σ h d ((p : Int) + 1) A x = some (A', σ) ∧ f_X8_who_b36 N (q + c + 1) τ h d ((p : Int) + 1) A x = some (A', τ)
  | 0, m, q, x, A, hx, hA => by
    have e0 := HR.1.2.2.1.1
    refine ⟨A, ?_, ?_⟩
    · rw [q_X7_who_b39, e0, hH]
      simp [ycP_ge, show (H : Int) ≤ (x : Int) by omega]
    · rw [q_X8_who_b36, hH]
      simp [ycP_ge, show (H : Int) ≤ (x : Int) by omega]
  | c + 1, m, q, x, A, hx, hA => by
    have e0 := HR.1.2.2.1.1
    obtain ⟨A1, hA1, i7, i8⟩ := p_who_i hN HR hH (show x < H by omega) hh hp hd (f_X7_who_b39 N (m + c + 1)) (f_X8_who_b36 N (q + c + 1)) 4 (N - 5) (N - 6) 0 A (by omega) hA
    rw [show N - 5 + 4 + 1 = N by omega, show ((0 : Nat) : Int) = 0 from rfl] at i7
    rw [show N - 6 + 4 + 2 = N by omega, show ((0 : Nat) : Int) = 0 from rfl] at i8
    obtain ⟨A', j7, j8⟩ := p_who_o hN HR hH hh hp hd c m q (x + 1) A1 (by omega) hA1
    refine ⟨A', ?_, ?_⟩
    · rw [show m + (c + 1) + 1 = (m + c + 1) + 1 by omega, q_X7_who_b39, e0, hH]
      simp only [ycP_ge, decide_eq_false (show ¬ (H : Int) ≤ (x : Int) by omega), cond_false, i7, j7]
    · rw [show q + (c + 1) + 1 = (q + c + 1) + 1 by omega, q_X8_who_b36, hH]
      simp only [ycP_ge, decide_eq_false (show ¬ (H : Int) ≤ (x : Int) by omega), cond_false, i8, j8]
theorem P_who {N : Nat} (hN : 132 ≤ N) {σ τ : yS} {h d n : Int} (HR : yRR σ τ) : ∃ (a : Int) (σ' τ' : yS), f_X7_who N σ h d n = some (a, σ') ∧ f_X8_who N τ h d n = some (a, τ') ∧ yRR σ' τ' := by
  obtain ⟨e0, e1, e2, b0, b1, b2, hc⟩ := HR.1.2.2.1
  simp only [f_X7_who, f_X7_who_b31, f_X8_who, f_X8_who_b28, x4_isHouse (show 2 ≤ σ.1 17 0 ∧ σ.1 17 0 ≤ 7 by rw [e0]; exact b0), x8_isHouse b0, x4_isDeed (show 0 ≤ σ.1 17 2 ∧ σ.1 17 2 ≤ 5 by rw [e2]; exact b2), x8_isDeed b2, x7_within, x8_in, ycP_ne, ycP_eq, e0, e2]
  by_cases hh : 0 ≤ h ∧ h < τ.1 0 3
  · by_cases hd : 0 ≤ d ∧ d < τ.1 0 5
    · by_cases hn : 1 ≤ n ∧ n ≤ 4
      · obtain ⟨H, hH⟩ : ∃ m : Nat, τ.1 0 3 = (m : Int) := ⟨(τ.1 0 3).toNat, by omega⟩
        obtain ⟨p, rfl⟩ : ∃ p : Nat, n = (p : Int) + 1 := ⟨(n - 1).toNat, by omega⟩
        obtain ⟨h, rfl⟩ : ∃ m : Nat, h = (m : Int) := ⟨h.toNat, by omega⟩
        obtain ⟨d, rfl⟩ : ∃ m : Nat, d = (m : Int) := ⟨d.toNat, by omega⟩
        obtain ⟨A, j7, j8⟩ := p_who_o (N := N) hN (h := h) (p := p) (d := d) HR hH (by omega) (by omega) (by omega) H (N - H - 1) (N - H - 1) 0 0 (by omega) (by decide +kernel)
        rw [show N - H - 1 + H + 1 = N by omega, show ((0 : Nat) : Int) = 0 from rfl] at j7 j8
        refine ⟨A, σ, τ, ?_, ?_, HR⟩
        · rw [if_pos hh, if_pos hd, if_pos hn]
          simp [j7]
        · rw [if_pos hh, if_pos hd, if_pos hn]
          simp [j8]
      · exact ⟨-1, σ, τ, by simp [hh, hd, hn], by simp [hh, hd, hn], HR⟩
    · exact ⟨-1, σ, τ, by simp [hh, hd], by simp [hh, hd], HR⟩
  · exact ⟨-1, σ, τ, by simp [hh], by simp [hh], HR⟩
/-- how many ways, and the least -/
noncomputable def yways (b : Nat → Int) (d : Int) : Nat → Int × Int
  | 0 => (0, -4)
  | m + 1 => if b m = 0 then yways b d m else ((yways b d m).1 + 1, if (yways b d m).1 = 0 then 5 * (m : Int) + d else (yways b d m).2)
theorem yways_b (b : Nat → Int) (d : Int) : ∀ m : Nat, (0 ≤ (yways b d m).1 ∧ (yways b d m).1 ≤ (m : Int)) ∧ ((yways b d m).1 = 0 → (yways b d m).2 = -4)
  | 0 => ⟨by simp [yways], fun _ => by simp [yways]⟩
  | m + 1 => by
    obtain ⟨h1, h2⟩ := yways_b b d m
    rw [yways]
    split
    · exact ⟨by omega, h2⟩
    · dsimp only
      exact ⟨by omega, fun q => by omega⟩
theorem yways_s (b : Nat → Int) (d : Int) (m : Nat) (hm : ¬ (yways b d m).1 = 0) : ∀ c : Nat, ¬ (yways b d (m + c)).1 = 0 ∧ (yways b d (m + c)).2 = (yways b d m).2
  | 0 => ⟨hm, rfl⟩
  | c + 1 => by
    obtain ⟨h1, h2⟩ := yways_s b d m hm c
    have hb := yways_b b d (m + c)
    rw [show m + (c + 1) = (m + c) + 1 by omega, yways]
    split
    · exact ⟨h1, h2⟩
    · simp only [h1, if_false]
      exact ⟨by omega, h2⟩
/-- whether a number brings -/
noncomputable def ybr (N : Nat) (τ : yS) (h d : Int) (m : Nat) : Int := ((f_X8_doesBring N τ ((m / 20 : Nat) : Int) ((m / 4 % 5 : Nat) : Int) ((m % 4 : Nat) : Int) h d).getD (0, τ)).1
theorem p_br {N : Nat} (hN : 132 ≤ N) {σ τ : yS} {H h d x k p : Nat} (HR : yRR σ τ) (hH : τ.1 0 3 = (H : Int)) (hh : h < H) (hd : d < 5) (hx : x < H) (hk : k < 5) (hp : p < 4) : ∃ S : Int, f_X4_broughtBy N σ 17 ((100 * x + 20 * k + 5 * p + d : Nat) : Int) = some (S, σ) ∧ yan (ysr S (h : Int)) 1 = ybr N τ h d (20 * x + 4 * k + p) ∧ f_X8_doesBring N τ x k p h d = some (ybr N τ h d (20 * x + 4 * k + p), τ) ∧ (ybr N τ h d (20 * x + 4 * k + p) = 0 ∨ ybr N τ h d (20 * x + 4 * k + p) = 1) := by
  have b0 := HR.1.2.2.1.2.2.2.1
  obtain ⟨S, hS, g7, g8⟩ := p_bring (N := N) hN (x := x) (k := k) (p := p) (d := d) HR hH hx hk hp hd
  have g8 := g8 h hh
  have bb := ybit7 ⟨S, hS⟩ ⟨h, by omega⟩
  dsimp only at bb
  have e : ybr N τ h d (20 * x + 4 * k + p) = yan (ysr (S : Int) (h : Int)) 1 := by
    unfold ybr
    rw [show (20 * x + 4 * k + p) / 20 = x by omega, show (20 * x + 4 * k + p) / 4 % 5 = k by omega, show (20 * x + 4 * k + p) % 4 = p by omega, g8]
    rfl
  exact ⟨S, g7, e.symm, by rw [e]; exact g8, by rw [e]; exact bb⟩
end
section
theorem x8_ways_p {N : Nat} (hN : 132 ≤ N) {σ τ : yS} {H h d x k : Nat} {w : Int} (HR : yRR σ τ) (hH : τ.1 0 3 = (H : Int)) (hh : h < H) (hd : d < 5) (hx : x < H) (hk : k < 5) (k38 : yS → Int → Int → Int → Int → Int → Int → Option (Int × yS)) (k50 : yS → Int → Int → Int → Int → Int → Int → Int → Option (Int × yS)) : ∀ (c m p : Nat), p + c = 4 → f_X8_ways_b59 N k38 k50 (m + c + 1) τ h d w (yways (ybr N τ h d) d (20 * x + 4 * k + p)).1 (yways (ybr N τ h d) d (20 * x + 4 * k + p)).2 x k p = k50 τ h d w (yways (ybr N τ h d) d (20 * x + 4 * k + 4)).1 (yways (ybr N τ h d) d (20 * x + 4 * k + 4)).2 x ((k + 1 : Nat) : Int)
  | 0, m, p, hp => by
    have e : p = 4 := by omega
    subst e
    have ek : yad (k : Int) 1 = ((k + 1 : Nat) : Int) := by rw [yad_e (by omega) (by omega)]; omega
    rw [q_X8_ways_b59]
    simp only [ycP_gt, show decide ((3 : Int) < ((4 : Nat) : Int)) = true from rfl, cond_true, ek]
  | c + 1, m, p, hp => by
    have b0 := HR.1.2.2.1.2.2.2.1
    have ep : yad (p : Int) 1 = ((p + 1 : Nat) : Int) := by rw [yad_e (by omega) (by omega)]; omega
    have en : yad (yad (yad (ymu 100 (x : Int)) (ymu 20 (k : Int))) (ymu 5 (p : Int))) (d : Int) = 5 * ((20 * x + 4 * k + p : Nat) : Int) + (d : Int) := by
      rw [ymu_e (a := 100) (by omega) (by omega), ymu_e (a := 20) (by omega) (by omega), ymu_e (a := 5) (by omega) (by omega), yad_e (a := 100 * (x : Int)) (by omega) (by omega), yad_e (a := 100 * (x : Int) + 20 * (k : Int)) (by omega) (by omega), yad_e (by omega) (by omega)]
      omega
    obtain ⟨S, -, -, g8, bb⟩ := p_br (N := N) hN (x := x) (k := k) (p := p) (d := d) HR hH hh hd hx hk (by omega)
    have wb := (yways_b (ybr N τ h d) d (20 * x + 4 * k + p)).1
    have ea : yad (yways (ybr N τ h d) d (20 * x + 4 * k + p)).1 1 = (yways (ybr N τ h d) d (20 * x + 4 * k + p)).1 + 1 := yad_e (by omega) (by omega)
    have ih := x8_ways_p hN (w := w) HR hH hh hd hx hk k38 k50 c m (p + 1) (by omega)
    rw [show 20 * x + 4 * k + (p + 1) = (20 * x + 4 * k + p) + 1 by omega] at ih
    rw [show m + (c + 1) + 1 = (m + c + 1) + 1 by omega, q_X8_ways_b59]
    simp only [ycP_gt, ycP_eq, ycP_ne, decide_eq_false (show ¬ (3 : Int) < (p : Int) by omega), cond_false, g8, f_X8_ways_b113, f_X8_ways_b108, ep, en, ea]
    rw [yways] at ih
    rcases bb with bb | bb
    · rw [if_pos bb] at ih
      simp only [bb, decide_true, cond_true]
      exact ih
    · rw [if_neg (by rw [bb]; omega)] at ih
      rw [bb]
      simp only [decide_eq_false (show ¬ (1 : Int) = 0 by omega), cond_false]
      by_cases hz : (yways (ybr N τ h d) d (20 * x + 4 * k + p)).1 = 0
      · rw [if_pos hz] at ih
        simp only [hz, not_true_eq_false, decide_false, cond_false]
        rw [hz] at ih
        exact ih
      · rw [if_neg hz] at ih
        simp only [hz, not_false_eq_true, decide_true, cond_true]
        exact ih
theorem x8_ways_k {N : Nat} (hN : 132 ≤ N) {σ τ : yS} {H h d x : Nat} {w : Int} (HR : yRR σ τ) (hH : τ.1 0 3 = (H : Int)) (hh : h < H) (hd : d < 5) (hx : x < H) (k38 : yS → Int → Int → Int → Int → Int → Int → Option (Int × yS)) : ∀ (c m k : Nat), k + c = 5 → f_X8_ways_b50 N k38 (m + c + 1) τ h d w (yways (ybr N τ h d) d (20 * x + 4 * k)).1 (yways (ybr N τ h d) d (20 * x + 4 * k)).2 x k = k38 τ h d w (yways (ybr N τ h d) d (20 * (x + 1))).1 (yways (ybr N τ h d) d (20 * (x + 1))).2 ((x + 1 : Nat) : Int)
  | 0, m, k, hk => by
    have b0 := HR.1.2.2.1.2.2.2.1
    have e : k = 5 := by omega
    subst e
    have ek : yad (x : Int) 1 = ((x + 1 : Nat) : Int) := by rw [yad_e (by omega) (by omega)]; omega
    rw [q_X8_ways_b50, show 20 * x + 4 * 5 = 20 * (x + 1) by omega]
    simp only [ycP_ge, show decide ((5 : Int) ≤ ((5 : Nat) : Int)) = true from rfl, cond_true, ek]
  | c + 1, m, k, hk => by
    have ih := x8_ways_k hN (w := w) HR hH hh hd hx k38 c m (k + 1) (by omega)
    have ip := x8_ways_p (N := N) hN (w := w) HR hH hh hd hx (show k < 5 by omega) k38 (f_X8_ways_b50 N k38 (m + c + 1)) 4 (N - 5) 0 (by omega)
    rw [show N - 5 + 4 + 1 = N by omega, show ((0 : Nat) : Int) = 0 from rfl, Nat.add_zero] at ip
    rw [show m + (c + 1) + 1 = (m + c + 1) + 1 by omega, q_X8_ways_b50]
    simp only [ycP_ge, decide_eq_false (show ¬ (5 : Int) ≤ (k : Int) by omega), cond_false]
    refine ip.trans ?_
    rw [show 20 * x + 4 * k + 4 = 20 * x + 4 * (k + 1) by omega]
    exact ih
theorem x8_ways_x {N : Nat} (hN : 132 ≤ N) {σ τ : yS} {H h d : Nat} {w : Int} (HR : yRR σ τ) (hH : τ.1 0 3 = (H : Int)) (hh : h < H) (hd : d < 5) : ∀ (c m x : Nat), x + c = H → f_X8_ways_b38 N (m + c + 1) τ h d w (yways (ybr N τ h d) d (20 * x)).1 (yways (ybr N τ h d) d (20 * x)).2 x = some (if w = 0 then (yways (ybr N τ h d) d (20 * H)).1 else (yways (ybr N τ h d) d (20 * H)).2, τ)
  | 0, m, x, hx => by
    have e : x = H := by omega
    subst e
    rw [q_X8_ways_b38, hH]
    by_cases hw : w = 0
    · simp [ycP_ge, ycP_ne, hw, f_X8_ways_b142]
    · simp [ycP_ge, ycP_ne, hw, f_X8_ways_b142]
  | c + 1, m, x, hx => by
    have ih := x8_ways_x hN (w := w) HR hH hh hd c m (x + 1) (by omega)
    have ip := x8_ways_k (N := N) hN (w := w) HR hH hh hd (show x < H by omega) (f_X8_ways_b38 N (m + c + 1)) 5 (N - 6) 0 (by omega)
    rw [show N - 6 + 5 + 1 = N by omega, show ((0 : Nat) : Int) = 0 from rfl, Nat.mul_zero, Nat.add_zero] at ip
    rw [show m + (c + 1) + 1 = (m + c + 1) + 1 by omega, q_X8_ways_b38, hH]
    simp only [ycP_ge, decide_eq_false (show ¬ (H : Int) ≤ (x : Int) by omega), cond_false]
    exact ip.trans ih
theorem x7_ways_c {N : Nat} (hN : 132 ≤ N) {σ τ : yS} {H h d : Nat} (HR : yRR σ τ) (hH : τ.1 0 3 = (H : Int)) (hh : h < H) (hd : d < 5) : ∀ (c m i : Nat), i + c = 20 * H → f_X7_ways_b39 N (m + c + 1) σ h 0 (yways (ybr N τ h d) d i).1 ((5 * i + d : Nat) : Int) = some ((yways (ybr N τ h d) d (20 * H)).1, σ) ∧ ((yways (ybr N τ h d) d i).1 = 0 → f_X7_ways_b39 N (m + c + 1) σ h 1 0 ((5 * i + d : Nat) : Int) = some ((yways (ybr N τ h d) d (20 * H)).2, σ))
  | 0, m, i, hi => by
    have b0 := HR.1.2.2.1.2.2.2.1
    have e0 := HR.1.2.2.1.1
    have e : i = 20 * H := by omega
    subst e
    have em : ymu 100 (H : Int) = 100 * (H : Int) := ymu_e (by omega) (by omega)
    have hle : (100 * (H : Int)) ≤ ((5 * (20 * H) + d : Nat) : Int) := by omega
    refine ⟨?_, fun hz => ?_⟩
    · rw [q_X7_ways_b39, e0, hH]
      simp only [f_X7_numbersOf, em, ycP_ge, ycP_ne, decide_eq_true hle, cond_true, f_X7_ways_b99, not_true_eq_false, decide_false, cond_false]
    · rw [q_X7_ways_b39, e0, hH]
      simp only [f_X7_numbersOf, em, ycP_ge, ycP_ne, decide_eq_true hle, cond_true, f_X7_ways_b99, decide_eq_true (show ¬ (1 : Int) = 0 by omega)]
      rw [(yways_b _ _ _).2 hz]
  | c + 1, m, i, hi => by
    have b0 := HR.1.2.2.1.2.2.2.1
    have e0 := HR.1.2.2.1.1
    have em : ymu 100 (H : Int) = 100 * (H : Int) := ymu_e (by omega) (by omega)
    have hle : ¬ (100 * (H : Int)) ≤ ((5 * i + d : Nat) : Int) := by omega
    have e5 : yad ((5 * i + d : Nat) : Int) 5 = ((5 * (i + 1) + d : Nat) : Int) := by rw [yad_e (by omega) (by omega)]; omega
    obtain ⟨S, g7, bS, -, bb⟩ := p_br (N := N) hN (x := i / 20) (k := i / 4 % 5) (p := i % 4) (d := d) HR hH hh hd (by omega) (by omega) (by omega)
    rw [show 100 * (i / 20) + 20 * (i / 4 % 5) + 5 * (i % 4) + d = 5 * i + d by omega] at g7
    rw [show 20 * (i / 20) + 4 * (i / 4 % 5) + i % 4 = i by omega] at bS bb
    have wb := (yways_b (ybr N τ h d) d i).1
    have ea : yad (yways (ybr N τ h d) d i).1 1 = (yways (ybr N τ h d) d i).1 + 1 := yad_e (by omega) (by omega)
    obtain ⟨ih1, ih2⟩ := x7_ways_c hN HR hH hh hd c m (i + 1) (by omega)
    rw [yways] at ih1 ih2
    refine ⟨?_, fun hz => ?_⟩
    · rw [show m + (c + 1) + 1 = (m + c + 1) + 1 by omega, q_X7_ways_b39, e0, hH]
      simp only [f_X7_numbersOf, em, ycP_ge, ycP_ne, decide_eq_false hle, cond_false, g7, f_X7_bit, bS, f_X7_ways_b82, e5, ea]
      rcases bb with bb | bb
      · rw [if_pos bb] at ih1
        rw [bb]
        simp only [decide_eq_true (show ¬ (0 : Int) = 1 by omega), cond_true]
        exact ih1
      · rw [if_neg (by rw [bb]; omega)] at ih1
        rw [bb]
        simp only [decide_eq_false (show ¬ ¬ (1 : Int) = 1 by omega), cond_false, decide_eq_true (show ¬ (0 : Int) = 1 by omega), cond_true]
        exact ih1
    · rw [show m + (c + 1) + 1 = (m + c + 1) + 1 by omega, q_X7_ways_b39, e0, hH]
      simp only [f_X7_numbersOf, em, ycP_ge, ycP_ne, decide_eq_false hle, cond_false, g7, f_X7_bit, bS, f_X7_ways_b82, e5]
      rcases bb with bb | bb
      · rw [if_pos bb] at ih2
        rw [bb]
        simp only [decide_eq_true (show ¬ (0 : Int) = 1 by omega), cond_true]
        exact ih2 hz
      · have ws : yways (ybr N τ h d) d (i + 1) = (1, 5 * (i : Int) + d) := by
          rw [yways, if_neg (by rw [bb]; omega), if_pos hz, hz]
          rfl
        have st := yways_s (ybr N τ h d) d (i + 1) (by rw [ws]; simp) c
        rw [show i + 1 + c = 20 * H by omega, ws] at st
        rw [bb, st.2]
        rw [show ((5 * i + d : Nat) : Int) = 5 * (i : Int) + d by omega]
        rfl
theorem P_ways {N : Nat} (hN : 1000 ≤ N) {σ τ : yS} {h d w : Int} (HR : yRR σ τ) : ∃ (a : Int) (σ' τ' : yS), f_X7_ways N σ h d w = some (a, σ') ∧ f_X8_ways N τ h d w = some (a, τ') ∧ yRR σ' τ' := by
  obtain ⟨e0, e1, e2, b0, b1, b2, hc⟩ := HR.1.2.2.1
  simp only [f_X7_ways, f_X7_ways_b31, f_X8_ways, f_X8_ways_b26, x4_isHouse (show 2 ≤ σ.1 17 0 ∧ σ.1 17 0 ≤ 7 by rw [e0]; exact b0), x8_isHouse b0, x4_isDeed (show 0 ≤ σ.1 17 2 ∧ σ.1 17 2 ≤ 5 by rw [e2]; exact b2), x8_isDeed b2, x7_within, x8_in, ycP_ne, ycP_eq, e0, e2]
  by_cases hh : 0 ≤ h ∧ h < τ.1 0 3
  · by_cases hd : 0 ≤ d ∧ d < τ.1 0 5
    · by_cases hn : 0 ≤ w ∧ w ≤ 1
      · obtain ⟨H, hH⟩ : ∃ m : Nat, τ.1 0 3 = (m : Int) := ⟨(τ.1 0 3).toNat, by omega⟩
        obtain ⟨h, rfl⟩ : ∃ m : Nat, h = (m : Int) := ⟨h.toNat, by omega⟩
        obtain ⟨d, rfl⟩ : ∃ m : Nat, d = (m : Int) := ⟨d.toNat, by omega⟩
        have q8 := x8_ways_x (N := N) (by omega) (h := h) (d := d) (w := w) HR hH (by omega) (by omega) H (N - H - 1) 0 (by omega)
        obtain ⟨q70, q71⟩ := x7_ways_c (N := N) (by omega) (h := h) (d := d) HR hH (by omega) (by omega) (20 * H) (N - 20 * H - 1) 0 (by omega)
        rw [show N - H - 1 + H + 1 = N by omega, show ((0 : Nat) : Int) = 0 from rfl, Nat.mul_zero] at q8
        rw [show N - 20 * H - 1 + 20 * H + 1 = N by omega, show 5 * 0 + d = d by omega] at q70 q71
        have q71 := q71 rfl
        have q8 : f_X8_ways_b38 N N τ h d w 0 (-4) 0 = some (if w = 0 then (yways (ybr N τ h d) d (20 * H)).1 else (yways (ybr N τ h d) d (20 * H)).2, τ) := q8
        have q70 : f_X7_ways_b39 N N σ h 0 0 d = some ((yways (ybr N τ h d) d (20 * H)).1, σ) := q70
        refine ⟨if w = 0 then (yways (ybr N τ h d) d (20 * H)).1 else (yways (ybr N τ h d) d (20 * H)).2, σ, τ, ?_, ?_, HR⟩
        · rw [if_pos hh, if_pos hd, if_pos hn]
          by_cases hw : w = 0
          · simp [hw, q70]
          · have w1 : w = 1 := by omega
            simp [w1, q71]
        · rw [if_pos hh, if_pos hd, if_pos hn]
          simp [q8]
      · exact ⟨-1, σ, τ, by simp [hh, hd, hn], by simp [hh, hd, hn], HR⟩
    · exact ⟨-1, σ, τ, by simp [hh, hd], by simp [hh, hd], HR⟩
  · exact ⟨-1, σ, τ, by simp [hh], by simp [hh], HR⟩
end
section
/-- the same in plain numbers -/
noncomputable def ysN (r H x : Nat) (s : Nat) : Nat := bif r.beq 0 then (match s with | 0 => (x >>> 1) &&& (2 ^ H - 1) | 1 => (x <<< 1) &&& (2 ^ H - 1) | _ => (x <<< 2) &&& (2 ^ H - 1)) else (match s with | 0 => ((x <<< (H - 1)) ||| (x >>> 1)) &&& (2 ^ H - 1) | 1 => ((x <<< 1) ||| (x >>> (H - 1))) &&& (2 ^ H - 1) | _ => ((x <<< (2 % H)) ||| (x >>> (H - 2 % H))) &&& (2 ^ H - 1))
noncomputable def yuN (r H k x : Nat) : Nat := bif k.beq 3 then ysN r H x 0 ||| ysN r H x 1 else ysN r H x (bif k.beq 1 then 0 else bif k.beq 2 then 2 else 1)
noncomputable def yfN (r H k L x : Nat) : Nat := yuN r H k x &&& (127 ^^^ L)
theorem ysN_e : ∀ r : Fin 2, ∀ H : Fin 8, ∀ s : Fin 3, ∀ x : Fin 128, 2 ≤ H.val → ysh ((r.val : Nat) : Int) ((H.val : Nat) : Int) ((x.val : Nat) : Int) (ystp s.val) = ((ysN r.val H.val x.val s.val : Nat) : Int) := by decide +kernel
theorem ynat {n : Nat} (h : n < 128) : (Int32.ofInt (n : Int)).toBitVec.toNat = n := by
  show (BitVec.ofInt 32 (n : Int)).toNat = n
  rw [BitVec.ofInt_natCast, BitVec.toNat_ofNat]
  exact Nat.mod_eq_of_lt (by omega)
theorem yint {x : Int32} (h : x.toBitVec.toNat < 128) : x.toInt = ((x.toBitVec.toNat : Nat) : Int) := by
  show x.toBitVec.toInt = _
  exact BitVec.toInt_eq_toNat_of_lt (by omega)
theorem yorN (a b : Fin 128) : yor ((a.val : Nat) : Int) ((b.val : Nat) : Int) = ((a.val ||| b.val : Nat) : Int) := by
  have e : (Int32.ofInt ((a.val : Nat) : Int) ||| Int32.ofInt ((b.val : Nat) : Int)).toBitVec.toNat = a.val ||| b.val := by
    rw [Int32.toBitVec_or, BitVec.toNat_or, ynat a.isLt, ynat b.isLt]
  have hl : a.val ||| b.val < 128 := Nat.or_lt_two_pow (n := 7) a.isLt b.isLt
  unfold yor
  rw [yint (by rw [e]; exact hl), e]
theorem yanZ : ∀ a : Fin 128, a.val &&& 4294967168 = 0 := by decide +kernel
theorem yanN (a b : Fin 128) : yan ((a.val : Nat) : Int) (yxo ((b.val : Nat) : Int) (-1)) = ((a.val &&& (127 ^^^ b.val) : Nat) : Int) := by
  have m1 : (Int32.ofInt (-1)).toBitVec.toNat = 4294967295 := rfl
  have e : (Int32.ofInt ((a.val : Nat) : Int) &&& (Int32.ofInt ((b.val : Nat) : Int) ^^^ Int32.ofInt (-1))).toBitVec.toNat = a.val &&& (127 ^^^ b.val) := by
    rw [Int32.toBitVec_and, BitVec.toNat_and, Int32.toBitVec_xor, BitVec.toNat_xor, ynat a.isLt, ynat b.isLt, m1]
    apply Nat.eq_of_testBit_eq
    intro i
    have z : (a.val &&& 4294967168).testBit i = false := by rw [yanZ a]; exact Nat.zero_testBit i
    have c : (4294967295 : Nat).testBit i = ((127 : Nat).testBit i ^^ (4294967168 : Nat).testBit i) := by
      rw [← Nat.testBit_xor, show (127 : Nat) ^^^ 4294967168 = 4294967295 by decide +kernel]
    rw [Nat.testBit_and] at z
    rw [Nat.testBit_and, Nat.testBit_and, Nat.testBit_xor, Nat.testBit_xor, c]
    generalize a.val.testBit i = x at z ⊢
    generalize b.val.testBit i = y
    generalize (127 : Nat).testBit i = u
    generalize (4294967168 : Nat).testBit i = v at z ⊢
    revert z
    cases x <;> cases y <;> cases u <;> cases v <;> decide
  have hl : a.val &&& (127 ^^^ b.val) < 128 := Nat.lt_of_le_of_lt Nat.and_le_left a.isLt
  unfold yan yxo
  rw [Int32.ofInt_toInt, yint (by rw [e]; exact hl), e]
theorem ysN_b (r H x s : Nat) : ysN r H x s < 2 ^ H := by
  have p : 0 < 2 ^ H := Nat.two_pow_pos H
  have key : ∀ y : Nat, y &&& (2 ^ H - 1) < 2 ^ H := fun y => by
    have : y &&& (2 ^ H - 1) ≤ 2 ^ H - 1 := Nat.and_le_right
    omega
  unfold ysN
  cases r.beq 0 with
  | true =>
    dsimp only [cond]
    split <;> exact key _
  | false =>
    dsimp only [cond]
    split <;> exact key _
theorem yuN_b (r H k x : Nat) : yuN r H k x < 2 ^ H := by
  unfold yuN
  cases k.beq 3 with
  | true => exact Nat.or_lt_two_pow (ysN_b _ _ _ _) (ysN_b _ _ _ _)
  | false => exact ysN_b _ _ _ _
theorem yfN_b (r H k L x : Nat) : yfN r H k L x < 2 ^ H := Nat.lt_of_le_of_lt Nat.and_le_left (yuN_b r H k x)
theorem yfN_e {r H k L x : Nat} (hr : r < 2) (h8 : H < 8) (h2 : 2 ≤ H) (hk : k < 5) (hL : L < 128) (hx : x < 2 ^ H) : yan (yU r H k x) (yxo L (-1)) = ((yfN r H k L x : Nat) : Int) := by
  have pw : (2 : Nat) ^ H ≤ 128 := Nat.pow_le_pow_right (n := 2) (by omega) (show H ≤ 7 by omega)
  have a := ysN_e ⟨r, hr⟩ ⟨H, h8⟩ ⟨0, by omega⟩ ⟨x, by omega⟩ h2
  have b := ysN_e ⟨r, hr⟩ ⟨H, h8⟩ ⟨1, by omega⟩ ⟨x, by omega⟩ h2
  have c := ysN_e ⟨r, hr⟩ ⟨H, h8⟩ ⟨2, by omega⟩ ⟨x, by omega⟩ h2
  dsimp only at a b c
  rw [show ystp 0 = -1 from rfl] at a
  rw [show ystp 1 = 1 from rfl] at b
  rw [show ystp 2 = 2 from rfl] at c
  have sb : ∀ s, ysN r H x s < 128 := fun s => Nat.lt_of_lt_of_le (ysN_b r H x s) pw
  have e : yU r H k x = ((yuN r H k x : Nat) : Int) := by
    unfold yU yuN
    by_cases h3 : k = 3
    · subst h3
      rw [if_pos (by rfl), a, b, yorN ⟨_, sb 0⟩ ⟨_, sb 1⟩]
      rfl
    · rw [if_neg (by omega)]
      by_cases h1 : k = 1
      · subst h1
        rw [if_pos (by rfl), a]
        rfl
      · rw [if_neg (by omega)]
        by_cases hk2 : k = 2
        · subst hk2
          rw [if_pos (by rfl), c]
          rfl
        · rw [if_neg (by omega), b]
          have q : k = 0 ∨ k = 4 := by omega
          rcases q with rfl | rfl <;> rfl
  rw [e, yanN ⟨_, Nat.lt_of_lt_of_le (yuN_b r H k x) pw⟩ ⟨L, hL⟩]
  rfl
noncomputable def yiN (r H k L : Nat) : Nat → Nat → Nat
  | 0, x => x
  | n + 1, x => yiN r H k L n (yfN r H k L x)
theorem yiN_b (r H k L : Nat) : ∀ n x : Nat, x < 2 ^ H → yiN r H k L n x < 2 ^ H
  | 0, _, h => h
  | n + 1, x, _ => yiN_b r H k L n _ (yfN_b r H k L x)
theorem yit_e {r H k L : Nat} (hr : r < 2) (h8 : H < 8) (h2 : 2 ≤ H) (hk : k < 5) (hL : L < 128) : ∀ n x : Nat, x < 2 ^ H → yit r H k L n x = ((yiN r H k L n x : Nat) : Int)
  | 0, _, _ => rfl
  | n + 1, x, hx => by
    rw [yit, yfN_e hr h8 h2 hk hL hx]
    exact yit_e hr h8 h2 hk hL n _ (yfN_b r H k L x)
/-- the houses from which seven days are walked -/
noncomputable def ygN (r H k L : Nat) : Nat := (bif (yiN r H k L 7 1).beq 0 then 0 else 1) ||| (bif (yiN r H k L 7 2).beq 0 then 0 else 2) ||| (bif (yiN r H k L 7 4).beq 0 then 0 else 4) ||| (bif (yiN r H k L 7 8).beq 0 then 0 else 8) ||| (bif (yiN r H k L 7 16).beq 0 then 0 else 16) ||| (bif (yiN r H k L 7 32).beq 0 then 0 else 32) ||| (bif (yiN r H k L 7 64).beq 0 then 0 else 64)
noncomputable def yck (r H k L : Nat) (G : Nat) : Bool := Nat.rec (motive := fun _ => Bool) true (fun h b => b && (bif h.blt H then ((yiN r H k L 7 (2 ^ h)).beq 0 || (!((G &&& 2 ^ h).beq 0) && !((yfN r H k L (2 ^ h) &&& G).beq 0))) else true)) 7
noncomputable def yckL (r H k : Nat) : Bool := Nat.rec (motive := fun _ => Bool) true (fun L b => b && (bif L.blt (2 ^ H) then yck r H k L (ygN r H k L) else true)) 128
theorem yck_ok : ∀ r : Fin 2, ∀ H : Fin 8, ∀ k : Fin 5, 2 ≤ H.val → yckL r.val H.val k.val = true := by decide +kernel
/-- each bit of a is one of x -/
def ysb (a x : Nat) : Prop := ∀ i : Nat, a.testBit i = true → x.testBit i = true
theorem ysb_l {a x : Nat} (h : ysb a x) (n : Nat) : ysb (a <<< n) (x <<< n) := fun i q => by
  rw [Nat.testBit_shiftLeft, Bool.and_eq_true] at q ⊢
  exact ⟨q.1, h _ q.2⟩
theorem ysb_r {a x : Nat} (h : ysb a x) (n : Nat) : ysb (a >>> n) (x >>> n) := fun i q => by
  rw [Nat.testBit_shiftRight] at q ⊢
  exact h _ q
theorem ysb_o {a x b y : Nat} (h : ysb a x) (g : ysb b y) : ysb (a ||| b) (x ||| y) := fun i q => by
  rw [Nat.testBit_or, Bool.or_eq_true] at q ⊢
  exact q.imp (h i) (g i)
theorem ysb_a {a x : Nat} (h : ysb a x) (m : Nat) : ysb (a &&& m) (x &&& m) := fun i q => by
  rw [Nat.testBit_and, Bool.and_eq_true] at q ⊢
  exact ⟨h i q.1, q.2⟩
theorem ysN_sb {a x : Nat} (h : ysb a x) (r H : Nat) : ∀ s : Nat, ysb (ysN r H a s) (ysN r H x s) := fun s => by
  unfold ysN
  cases r.beq 0 with
  | true =>
    match s with
    | 0 => exact ysb_a (ysb_r h 1) _
    | 1 => exact ysb_a (ysb_l h 1) _
    | n + 2 => exact ysb_a (ysb_l h 2) _
  | false =>
    match s with
    | 0 => exact ysb_a (ysb_o (ysb_l h _) (ysb_r h _)) _
    | 1 => exact ysb_a (ysb_o (ysb_l h _) (ysb_r h _)) _
    | n + 2 => exact ysb_a (ysb_o (ysb_l h _) (ysb_r h _)) _
theorem yuN_sb {a x : Nat} (h : ysb a x) (r H k : Nat) : ysb (yuN r H k a) (yuN r H k x) := by
  unfold yuN
  cases k.beq 3 with
  | true => exact ysb_o (ysN_sb h r H 0) (ysN_sb h r H 1)
  | false => exact ysN_sb h r H _
theorem ymon {r H k b x : Nat} (b1 : (x &&& 2 ^ b).beq 0 = false) : yuN r H k (2 ^ b) &&& yuN r H k x = yuN r H k (2 ^ b) := by
  have hb : x.testBit b = true := by
    cases q : x.testBit b with
    | true => rfl
    | false =>
      have z : x &&& 2 ^ b = 0 := by
        apply Nat.eq_of_testBit_eq
        intro i
        rw [Nat.testBit_and, Nat.zero_testBit]
        by_cases e : b = i
        · subst e
          rw [q, Bool.false_and]
        · rw [Nat.testBit_two_pow_of_ne e, Bool.and_false]
      rw [z] at b1
      cases b1
  have s : ysb (2 ^ b) x := fun i q => by
    by_cases e : b = i
    · subst e
      exact hb
    · rw [Nat.testBit_two_pow_of_ne e] at q
      cases q
  apply Nat.eq_of_testBit_eq
  intro i
  rw [Nat.testBit_and]
  cases q : (yuN r H k (2 ^ b)).testBit i with
  | false => rw [Bool.false_and]
  | true => rw [yuN_sb s r H k i q, Bool.and_true]
end
section
theorem yrec_ok {p : Nat → Bool} : ∀ n : Nat, (Nat.rec (motive := fun _ => Bool) true (fun i b => b && p i) n : Bool) = true → ∀ i : Nat, i < n → p i = true
  | 0, _, i, hi => by omega
  | n + 1, h, i, hi => by
    have h : ((Nat.rec (motive := fun _ => Bool) true (fun i b => b && p i) n : Bool) && p n) = true := h
    rw [Bool.and_eq_true] at h
    by_cases e : i = n
    · subst e
      exact h.2
    · exact yrec_ok n h.1 i (by omega)
theorem yblt {a b : Nat} (h : a < b) : a.blt b = true := by
  simp [Nat.blt, Nat.ble_eq]
  omega
theorem ygb : ∀ b0 b1 b2 b3 b4 b5 b6 : Bool, ∀ h : Fin 7, ((((bif b0 then 0 else 1) ||| (bif b1 then 0 else 2) ||| (bif b2 then 0 else 4) ||| (bif b3 then 0 else 8) ||| (bif b4 then 0 else 16) ||| (bif b5 then 0 else 32) ||| (bif b6 then 0 else 64)) &&& 2 ^ h.val : Nat).beq 0 = match h.val with | 0 => b0 | 1 => b1 | 2 => b2 | 3 => b3 | 4 => b4 | 5 => b5 | _ => b6) := by decide +kernel
theorem ygN_h {r H k L h : Nat} (hh : h < 7) : ((ygN r H k L) &&& 2 ^ h).beq 0 = (yiN r H k L 7 (2 ^ h)).beq 0 := by
  unfold ygN
  rw [ygb _ _ _ _ _ _ _ ⟨h, hh⟩]
  have q : h = 0 ∨ h = 1 ∨ h = 2 ∨ h = 3 ∨ h = 4 ∨ h = 5 ∨ h = 6 := by omega
  rcases q with rfl | rfl | rfl | rfl | rfl | rfl | rfl <;> rfl
theorem yex : ∀ y : Fin 128, (y.val.beq 0 || !((y.val &&& 1).beq 0) || !((y.val &&& 2).beq 0) || !((y.val &&& 4).beq 0) || !((y.val &&& 8).beq 0) || !((y.val &&& 16).beq 0) || !((y.val &&& 32).beq 0) || !((y.val &&& 64).beq 0)) = true := by decide +kernel
theorem ybeq0 {a : Nat} : a.beq 0 = decide (a = 0) := by
  cases a <;> rfl
theorem yex1 {x G p : Nat} (hp : (x &&& G &&& p).beq 0 = false) : (x &&& p).beq 0 = false ∧ (G &&& p).beq 0 = false := by
  rw [ybeq0] at hp
  have hp := of_decide_eq_false hp
  constructor
  · rw [ybeq0]
    exact decide_eq_false (fun e => hp (by rw [Nat.and_comm x G, Nat.and_assoc, e, Nat.and_zero]))
  · rw [ybeq0]
    exact decide_eq_false (fun e => hp (by rw [Nat.and_assoc, e, Nat.and_zero]))
theorem yex2 {x G : Nat} (hx : x < 128) (h : ¬ x &&& G = 0) : ∃ b : Nat, b < 7 ∧ (x &&& 2 ^ b).beq 0 = false ∧ (G &&& 2 ^ b).beq 0 = false := by
  have q := yex ⟨x &&& G, Nat.lt_of_le_of_lt Nat.and_le_left hx⟩
  dsimp only at q
  have q0 : (x &&& G).beq 0 = false := by rw [ybeq0]; exact decide_eq_false h
  rw [q0] at q
  simp only [Bool.false_or, Bool.or_eq_true, Bool.not_eq_true'] at q
  rcases q with (((((q | q) | q) | q) | q) | q) | q
  · exact ⟨0, by omega, yex1 (p := 1) q⟩
  · exact ⟨1, by omega, yex1 (p := 2) q⟩
  · exact ⟨2, by omega, yex1 (p := 4) q⟩
  · exact ⟨3, by omega, yex1 (p := 8) q⟩
  · exact ⟨4, by omega, yex1 (p := 16) q⟩
  · exact ⟨5, by omega, yex1 (p := 32) q⟩
  · exact ⟨6, by omega, yex1 (p := 64) q⟩
theorem ygN_b (r H k L : Nat) : ygN r H k L < 128 := by
  unfold ygN
  have z : ∀ (b : Bool) (v : Nat), v < 2 ^ 7 → (bif b then 0 else v) < 2 ^ 7 := fun b v hv => by cases b <;> simp <;> omega
  exact Nat.or_lt_two_pow (Nat.or_lt_two_pow (Nat.or_lt_two_pow (Nat.or_lt_two_pow (Nat.or_lt_two_pow (Nat.or_lt_two_pow (z _ _ (by omega)) (z _ _ (by omega))) (z _ _ (by omega))) (z _ _ (by omega))) (z _ _ (by omega))) (z _ _ (by omega))) (z _ _ (by omega))
theorem yfG {r H k L x : Nat} (hr : r < 2) (h8 : H < 8) (h2 : 2 ≤ H) (hk : k < 5) (hL : L < 2 ^ H) (hx : x < 2 ^ H) (h : ¬ x &&& ygN r H k L = 0) : ¬ yfN r H k L x &&& ygN r H k L = 0 := by
  have pw : (2 : Nat) ^ H ≤ 128 := Nat.pow_le_pow_right (n := 2) (by omega) (show H ≤ 7 by omega)
  obtain ⟨b, b7, b1, b2⟩ := yex2 (show x < 128 by omega) h
  have bH : b < H := by
    by_cases q : b < H
    · exact q
    · exfalso
      have z : x &&& 2 ^ b = 0 := by
        have tb : x.testBit b = false := Nat.testBit_lt_two_pow (Nat.lt_of_lt_of_le hx (Nat.pow_le_pow_right (by omega) (by omega)))
        apply Nat.eq_of_testBit_eq
        intro i
        rw [Nat.testBit_and, Nat.zero_testBit]
        by_cases e : b = i
        · subst e
          rw [tb, Bool.false_and]
        · rw [Nat.testBit_two_pow_of_ne e, Bool.and_false]
      rw [z] at b1
      cases b1
  have ck := yck_ok ⟨r, hr⟩ ⟨H, h8⟩ ⟨k, hk⟩ h2
  have ck2 := yrec_ok (p := fun L => bif L.blt (2 ^ H) then yck r H k L (ygN r H k L) else true) 128 ck L (by omega)
  try dsimp only at ck2
  rw [yblt hL] at ck2
  have ck3 := yrec_ok (p := fun h => bif h.blt H then ((yiN r H k L 7 (2 ^ h)).beq 0 || (!((ygN r H k L &&& 2 ^ h).beq 0) && !((yfN r H k L (2 ^ h) &&& ygN r H k L).beq 0))) else true) 7 ck2 b b7
  try dsimp only at ck3
  rw [yblt bH, ← ygN_h b7, b2] at ck3
  simp only [cond_true, Bool.false_or, Bool.not_false, Bool.true_and, Bool.not_eq_true'] at ck3
  have m := ymon (r := r) (H := H) (k := k) b1
  intro hz
  have e : yfN r H k L (2 ^ b) &&& ygN r H k L = 0 := by
    unfold yfN at hz ⊢
    rw [← m, Nat.and_assoc (yuN r H k (2 ^ b)), Nat.and_assoc (yuN r H k (2 ^ b)), hz, Nat.and_zero]
  rw [e] at ck3
  cases ck3
theorem yiG {r H k L : Nat} (hr : r < 2) (h8 : H < 8) (h2 : 2 ≤ H) (hk : k < 5) (hL : L < 2 ^ H) : ∀ n x : Nat, x < 2 ^ H → ¬ x &&& ygN r H k L = 0 → ¬ yiN r H k L n x &&& ygN r H k L = 0
  | 0, _, _, h => h
  | n + 1, x, hx, h => yiG hr h8 h2 hk hL n _ (yfN_b r H k L x) (yfG hr h8 h2 hk hL hx h)
theorem yf0 : ∀ r : Fin 2, ∀ H : Fin 8, ∀ k : Fin 5, yuN r.val H.val k.val 0 = 0 := by decide +kernel
theorem yi0 {r H k L : Nat} (hr : r < 2) (h8 : H < 8) (hk : k < 5) : ∀ n : Nat, yiN r H k L n 0 = 0
  | 0 => rfl
  | n + 1 => by
    have e : yfN r H k L 0 = 0 := by
      unfold yfN
      rw [yf0 ⟨r, hr⟩ ⟨H, h8⟩ ⟨k, hk⟩, Nat.zero_and]
    rw [yiN, e]
    exact yi0 hr h8 hk n
theorem yi_add {r H k L : Nat} (n : Nat) : ∀ m x : Nat, yiN r H k L (m + n) x = yiN r H k L n (yiN r H k L m x)
  | 0, x => by rw [Nat.zero_add]; rfl
  | m + 1, x => by
    rw [show m + 1 + n = (m + n) + 1 by omega, yiN, yi_add n m, yiN]
/-- who walks seven days walks for ever -/
theorem yi_ever {r H k L h : Nat} (hr : r < 2) (h8 : H < 8) (h2 : 2 ≤ H) (hk : k < 5) (hL : L < 2 ^ H) (hh : h < H) : (yiN r H k L 129 (2 ^ h) = 0) = (yiN r H k L 7 (2 ^ h) = 0) := by
  refine propext ⟨fun q => ?_, fun q => ?_⟩
  · by_cases z : yiN r H k L 7 (2 ^ h) = 0
    · exact z
    · exfalso
      have b : ¬ 2 ^ h &&& ygN r H k L = 0 := by
        intro e
        have g := ygN_h (r := r) (H := H) (k := k) (L := L) (show h < 7 by omega)
        rw [Nat.and_comm, e, ybeq0, ybeq0, decide_eq_false z] at g
        cases g
      have := yiG hr h8 h2 hk hL 129 (2 ^ h) (Nat.pow_lt_pow_right (by omega) hh) b
      rw [q, Nat.zero_and] at this
      exact this rfl
  · rw [show 129 = 7 + 122 from rfl, yi_add 122 7, q]
    exact yi0 hr h8 hk 122
theorem p_fN {N : Nat} (hN : 10 ≤ N) {σ τ : yS} {H L x k r : Nat} (R : yRH σ τ 17) (hH : τ.1 0 3 = (H : Int)) (hr : τ.1 0 4 = (r : Int)) (hk : k < 5) (hL : L < 2 ^ H) (hx : x < 2 ^ H) : f_X4_fallSet N σ 17 x k L = some (((yfN r H k L x : Nat) : Int), σ) ∧ f_X8_fallen N τ x k L = some (((yfN r H k L x : Nat) : Int), τ) := by
  have b0 := R.2.2.2.1
  have b1 := R.2.2.2.2.1
  have pw : (2 : Nat) ^ H ≤ 128 := Nat.pow_le_pow_right (n := 2) (by omega) (show H ≤ 7 by omega)
  have e := yfN_e (r := r) (H := H) (k := k) (L := L) (x := x) (by omega) (by omega) (by omega) hk (by omega) hx
  obtain ⟨y, -, ey, g7, g8⟩ := p_fallen (N := N) hN (σ := σ) (τ := τ) (t := 17) (L := L) (k := (k : Int)) R hH (by omega) hx
  rw [hr, hH, e] at ey
  rw [ey] at g7 g8
  exact ⟨g7, g8⟩
end
section
theorem x4_endl_l {N : Nat} (hN : 10 ≤ N) {σ τ : yS} {H L k r i : Nat} (R : yRH σ τ 17) (hH : τ.1 0 3 = (H : Int)) (hr : τ.1 0 4 = (r : Int)) (hk : k < 5) (hL : L < 2 ^ H) (hi : i < 10) (hki : σ.1 (σ.2 17 11 + 2) i = (k : Int)) : ∀ (c m j x : Nat), j + c = 7 → x < 2 ^ H → f_X4_isEndless_b31 N (m + c + 1) σ 17 i L x j = some (if yiN r H k L c x = 0 then 0 else 1, σ)
  | 0, m, j, x, hj, hx => by
    have e : j = 7 := by omega
    subst e
    rw [q_X4_isEndless_b31]
    by_cases z : x = 0
    · simp [ycP_ge, ycP_eq, f_X4_isEndless_b69, yb1_d, yiN, z]
    · simp [ycP_ge, ycP_eq, f_X4_isEndless_b69, yb1_d, yiN, z]
  | c + 1, m, j, x, hj, hx => by
    have e3 : yad (j : Int) 1 = ((j + 1 : Nat) : Int) := by rw [yad_e (by omega) (by omega)]; omega
    have i5 : yin (i : Int) 10 = true := by rw [yin_d]; exact decide_eq_true (by omega)
    have g := (p_fN (N := N) hN (σ := σ) (τ := τ) R hH hr hk hL hx).1
    have ih := x4_endl_l hN R hH hr hk hL hi hki c m (j + 1) _ (by omega) (yfN_b r H k L x)
    rw [show m + (c + 1) + 1 = (m + c + 1) + 1 by omega, q_X4_isEndless_b31]
    simp only [ycP_ge, decide_eq_false (show ¬ (7 : Int) ≤ (j : Int) by omega), cond_false, i5, cond_true, Int.toNat_natCast, hki, g, e3]
    exact ih
theorem x8_endl_l {N : Nat} (hN : 10 ≤ N) {σ τ : yS} {H L k r i : Nat} (R : yRH σ τ 17) (hH : τ.1 0 3 = (H : Int)) (hr : τ.1 0 4 = (r : Int)) (hk : k < 5) (hL : L < 2 ^ H) (hi : i < 10) (hki : τ.1 1 (79 + 4 * i) = (k : Int)) : ∀ (c m j x : Nat), j + c = 129 → x < 2 ^ H → f_X8_isEndless_b17 N (m + c + 1) τ i L x j = some (if τ.1 1 (80 + 4 * i) = 9 then (if yiN r H k L c x = 0 then 0 else 1) else 0, τ)
  | 0, m, j, x, hj, hx => by
    have e : j = 129 := by omega
    subst e
    have m2 : yad (yad 78 (ymu 4 (i : Int))) 2 = ((80 + 4 * i : Nat) : Int) := by
      rw [ymu_e (by omega) (by omega), yad_e (a := 78) (by omega) (by omega), yad_e (by omega) (by omega)]; omega
    have j2 : yin ((80 + 4 * i : Nat) : Int) 393 = true := by rw [yin_d]; exact decide_eq_true (by omega)
    rw [q_X8_isEndless_b17, m2, Int.toNat_natCast]
    simp only [ycP_gt, show decide ((128 : Int) < ((129 : Nat) : Int)) = true from rfl, cond_true, j2, ycP_ne, ycP_eq, f_X8_isEndless_b77, f_X8_isEndless_b78, yiN]
    by_cases h9 : τ.1 1 (80 + 4 * i) = 9
    · by_cases z : x = 0
      · simp [h9, z, yb1_d]
      · simp [h9, z, yb1_d]
    · simp [h9, yb1_d]
  | c + 1, m, j, x, hj, hx => by
    have e3 : yad (j : Int) 1 = ((j + 1 : Nat) : Int) := by rw [yad_e (by omega) (by omega)]; omega
    have m1 : yad (yad 78 (ymu 4 (i : Int))) 1 = ((79 + 4 * i : Nat) : Int) := by
      rw [ymu_e (by omega) (by omega), yad_e (a := 78) (by omega) (by omega), yad_e (by omega) (by omega)]; omega
    have j1 : yin ((79 + 4 * i : Nat) : Int) 393 = true := by rw [yin_d]; exact decide_eq_true (by omega)
    have g := (p_fN (N := N) hN (σ := σ) (τ := τ) R hH hr hk hL hx).2
    have ih := x8_endl_l hN R hH hr hk hL hi hki c m (j + 1) _ (by omega) (yfN_b r H k L x)
    rw [show m + (c + 1) + 1 = (m + c + 1) + 1 by omega, q_X8_isEndless_b17, m1, Int.toNat_natCast]
    simp only [ycP_gt, decide_eq_false (show ¬ (128 : Int) < (j : Int) by omega), cond_false, j1, cond_true, hki, g, e3]
    exact ih
/-- whether a vow walks for ever: the same on both sides -/
theorem p_endl {N : Nat} (hN : 132 ≤ N) {σ τ : yS} {H L i : Nat} (HR : yRR σ τ) (hH : τ.1 0 3 = (H : Int)) (hL : L < 2 ^ H) (hi : (i : Int) < τ.1 1 77) : ∃ e : Int, (e = 0 ∨ e = 1) ∧ f_X4_isEndless N σ 17 i L = some (e, σ) ∧ f_X8_isEndless N τ i L = some (e, τ) ∧ (L = 2 ^ H - 1 → e = 0) := by
  have R := HR.1.2.2.1
  obtain ⟨e0, e1, e2, b0, b1, b2, hc⟩ := HR.1.2.2.1
  have g2 : 0 ≤ τ.1 1 77 ∧ τ.1 1 77 ≤ 10 := HR.1.2.2.2.2.2.2.1
  obtain ⟨v1, v2, v3, v4⟩ := HR.1.2.2.2.1.2.2.1.2 i hi
  obtain ⟨w1, w2, w3, w4⟩ := HR.1.2.2.2.2.2.2.2.1 i hi
  dsimp only at v1 v2 v3 v4 w1 w2 w3 w4
  obtain ⟨r, hr⟩ : ∃ r : Nat, τ.1 0 4 = (r : Int) := ⟨(τ.1 0 4).toNat, by omega⟩
  obtain ⟨k, hk⟩ : ∃ k : Nat, τ.1 1 (79 + 4 * i) = (k : Int) := ⟨(τ.1 1 (79 + 4 * i)).toNat, by omega⟩
  obtain ⟨h, hh⟩ : ∃ h : Nat, τ.1 1 (78 + 4 * i) = (h : Int) := ⟨(τ.1 1 (78 + 4 * i)).toNat, by omega⟩
  have hH7 : h < H := by omega
  have s1 := ysl1 ⟨h, by omega⟩
  dsimp only at s1
  have x2 : 2 ^ h < 2 ^ H := Nat.pow_lt_pow_right (by omega) hH7
  have c7 := x4_endl_l (N := N) (by omega) (σ := σ) (τ := τ) (H := H) (L := L) (k := k) (r := r) (i := i) R hH hr (by omega) hL (by omega) (by rw [v2]; exact hk) 7 (N - 8) 0 (2 ^ h) (by omega) x2
  have c8 := x8_endl_l (N := N) (by omega) (σ := σ) (τ := τ) (H := H) (L := L) (k := k) (r := r) (i := i) R hH hr (by omega) hL (by omega) hk 129 (N - 130) 0 (2 ^ h) (by omega) x2
  rw [show N - 8 + 7 + 1 = N by omega, show ((0 : Nat) : Int) = 0 from rfl] at c7
  rw [show N - 130 + 129 + 1 = N by omega, show ((0 : Nat) : Int) = 0 from rfl] at c8
  simp only [yi_ever (show r < 2 by omega) (show H < 8 by omega) (show 2 ≤ H by omega) (show k < 5 by omega) hL hH7] at c8
  have i5 : yin (i : Int) 10 = true := by rw [yin_d]; exact decide_eq_true (by omega)
  have m0 : yad 78 (ymu 4 (i : Int)) = ((78 + 4 * i : Nat) : Int) := by
    rw [ymu_e (by omega) (by omega), yad_e (by omega) (by omega)]; omega
  have j0 : yin ((78 + 4 * i : Nat) : Int) 393 = true := by rw [yin_d]; exact decide_eq_true (by omega)
  have d8 : f_X8_isEndless N τ i L = some (if τ.1 1 (80 + 4 * i) = 9 then (if yiN r H k L 7 (2 ^ h) = 0 then 0 else 1) else 0, τ) := by
    unfold f_X8_isEndless
    rw [m0, j0, Int.toNat_natCast, hh, s1]
    exact c8
  refine ⟨if τ.1 1 (80 + 4 * i) = 9 then (if yiN r H k L 7 (2 ^ h) = 0 then 0 else 1) else 0, ?_, ?_, d8, fun q => ?_⟩
  · split
    · split
      · exact Or.inl rfl
      · exact Or.inr rfl
    · exact Or.inl rfl
  · unfold f_X4_isEndless
    rw [i5, Int.toNat_natCast, v1, v3, hh, s1]
    by_cases h9 : τ.1 1 (80 + 4 * i) = 9
    · simp only [ycP_eq, decide_eq_true h9, cond_true, if_pos h9]
      exact c7
    · simp only [ycP_eq, decide_eq_false h9, cond_true, cond_false, if_neg h9]
  · have f0 : ∀ x : Nat, yfN r H k L x = 0 := fun x => by
      unfold yfN
      have ub := yuN_b r H k x
      generalize yuN r H k x = y at ub ⊢
      have hq : ∀ H : Fin 8, ∀ y : Fin 128, y.val < 2 ^ H.val → y.val &&& (127 ^^^ (2 ^ H.val - 1)) = 0 := by decide +kernel
      have pw : (2 : Nat) ^ H ≤ 128 := Nat.pow_le_pow_right (n := 2) (by omega) (show H ≤ 7 by omega)
      rw [q]
      exact hq ⟨H, by omega⟩ ⟨y, by omega⟩ ub
    have z : yiN r H k L 7 (2 ^ h) = 0 := by
      rw [show (7 : Nat) = 6 + 1 from rfl, yiN, f0]
      exact yi0 (show r < 2 by omega) (by omega) (show k < 5 by omega) 6
    rw [z]
    simp
theorem yev10 : ∀ i : Fin 10, ∀ A : Fin 1024, A.val < 2 ^ i.val → (yan ((A.val : Nat) : Int) (yxo (ysl 1 ((i.val : Nat) : Int)) (-1)) = ((A.val : Nat) : Int) ∧ yor ((A.val : Nat) : Int) (ysl 0 ((i.val : Nat) : Int)) = ((A.val : Nat) : Int) ∧ 0 < yor ((A.val : Nat) : Int) (ysl 1 ((i.val : Nat) : Int)) ∧ yor ((A.val : Nat) : Int) (ysl 1 ((i.val : Nat) : Int)) < ((2 ^ (i.val + 1) : Nat) : Int)) := by decide +kernel
theorem p_ever_l {N : Nat} (hN : 132 ≤ N) {σ τ : yS} {H L S : Nat} (HR : yRR σ τ) (hH : τ.1 0 3 = (H : Int)) (hL : L < 2 ^ H) (h6 : σ.1 17 6 = (L : Int)) (hS : τ.1 1 77 = (S : Int)) (h10 : S ≤ 10) : ∀ (c m q i A : Nat), i + c = S → A < 2 ^ i → ∃ A' : Nat, f_X7_ever_b4 N (m + c + 1) σ A i = some ((A' : Int), σ) ∧ f_X8_endless_b4 N (q + c + 1) τ L A i = some ((A' : Int), τ)
  | 0, m, q, i, A, hi, hA => by
    have t3 : σ.1 (σ.2 17 11) 0 = τ.1 1 77 := HR.1.2.2.2.1.2.2.1.1
    refine ⟨A, ?_, ?_⟩
    · rw [q_X7_ever_b4, t3, hS]
      simp [ycP_ge, show (S : Int) ≤ (i : Int) by omega]
    · rw [q_X8_endless_b4, hS]
      simp [ycP_ge, show (S : Int) ≤ (i : Int) by omega]
  | c + 1, m, q, i, A, hi, hA => by
    have t3 : σ.1 (σ.2 17 11) 0 = τ.1 1 77 := HR.1.2.2.2.1.2.2.1.1
    have e3 : yad (i : Int) 1 = ((i + 1 : Nat) : Int) := by rw [yad_e (by omega) (by omega)]; omega
    obtain ⟨e, he, g7, g8, -⟩ := p_endl (N := N) hN (i := i) HR hH hL (by omega)
    have pw : (2 : Nat) ^ i ≤ 2 ^ 10 := Nat.pow_le_pow_right (by omega) (by omega)
    have ev := yev10 ⟨i, by omega⟩ ⟨A, by omega⟩ hA
    dsimp only at ev
    rcases he with rfl | rfl
    · have p2 : A < 2 ^ (i + 1) := Nat.lt_trans hA (Nat.pow_lt_pow_right (by omega) (by omega))
      obtain ⟨A', i7, i8⟩ := p_ever_l hN HR hH hL h6 hS h10 c m q (i + 1) A (by omega) p2
      refine ⟨A', ?_, ?_⟩
      · rw [show m + (c + 1) + 1 = (m + c + 1) + 1 by omega, q_X7_ever_b4, t3, hS, h6]
        simp only [ycP_ge, decide_eq_false (show ¬ (S : Int) ≤ (i : Int) by omega), cond_false, g7, x7_withBit, if_true, ev.1, e3, i7]
      · rw [show q + (c + 1) + 1 = (q + c + 1) + 1 by omega, q_X8_endless_b4, hS]
        simp only [ycP_ge, decide_eq_false (show ¬ (S : Int) ≤ (i : Int) by omega), cond_false, g8, x8_flag (show (0 : Int) ≤ 0 ∧ (0 : Int) ≤ 1 by omega), ev.2.1, e3, i8]
    · obtain ⟨B, hB⟩ : ∃ B : Nat, yor (A : Int) (ysl 1 (i : Int)) = (B : Int) := ⟨(yor (A : Int) (ysl 1 (i : Int))).toNat, by omega⟩
      rw [hB] at ev
      have p2 : B < 2 ^ (i + 1) := by omega
      obtain ⟨A', i7, i8⟩ := p_ever_l hN HR hH hL h6 hS h10 c m q (i + 1) B (by omega) p2
      refine ⟨A', ?_, ?_⟩
      · rw [show m + (c + 1) + 1 = (m + c + 1) + 1 by omega, q_X7_ever_b4, t3, hS, h6]
        simp only [ycP_ge, decide_eq_false (show ¬ (S : Int) ≤ (i : Int) by omega), cond_false, g7, x7_withBit, show ¬ (1 : Int) = 0 by omega, if_false, hB, e3, i7]
      · rw [show q + (c + 1) + 1 = (q + c + 1) + 1 by omega, q_X8_endless_b4, hS]
        simp only [ycP_ge, decide_eq_false (show ¬ (S : Int) ≤ (i : Int) by omega), cond_false, g8, x8_flag (show (0 : Int) ≤ 1 ∧ (1 : Int) ≤ 1 by omega), hB, e3, i8]
theorem yL_b {σ τ : yS} {H : Nat} (HR : yRR σ τ) (hH : τ.1 0 3 = (H : Int)) : ∃ L : Nat, σ.1 17 6 = (L : Int) ∧ L < 2 ^ H := by
  obtain ⟨e0, e1, e2, b0, b1, b2, hc⟩ := HR.1.2.2.1
  have g0 : 0 ≤ σ.1 17 6 ∧ σ.1 17 6 < 128 := HR.1.2.2.2.2.1
  obtain ⟨L, hL⟩ : ∃ L : Nat, σ.1 17 6 = (L : Int) := ⟨(σ.1 17 6).toNat, by omega⟩
  have z := ylawz ⟨L, by omega⟩ ⟨H, by omega⟩ (fun h hh => by
    have q : yan (ysr (σ.1 17 6) ((h.val : Nat) : Int)) 1 = τ.1 1 (14 + h.val) := (HR.1.2.2.2.1.1 h.val h.isLt).2.2.1
    rw [hL] at q
    rw [q]
    have hh : H ≤ h.val := hh
    exact HR.2.1.2.2 h.val h.isLt (by omega))
  dsimp only at z
  refine ⟨L, hL, ?_⟩
  rw [← z]
  exact Nat.mod_lt _ (Nat.two_pow_pos H)
theorem P_ever {N : Nat} (hN : 132 ≤ N) {σ τ : yS} (HR : yRR σ τ) : ∃ (a : Int) (σ' τ' : yS), f_X7_ever N σ = some (a, σ') ∧ f_X8_ever N τ = some (a, τ') ∧ yRR σ' τ' := by
  obtain ⟨e0, e1, e2, b0, b1, b2, hc⟩ := HR.1.2.2.1
  obtain ⟨H, hH⟩ : ∃ m : Nat, τ.1 0 3 = (m : Int) := ⟨(τ.1 0 3).toNat, by omega⟩
  have g2 : 0 ≤ τ.1 1 77 ∧ τ.1 1 77 ≤ 10 := HR.1.2.2.2.2.2.2.1
  obtain ⟨S, hS⟩ : ∃ m : Nat, τ.1 1 77 = (m : Int) := ⟨(τ.1 1 77).toNat, by omega⟩
  obtain ⟨L, h6, hL⟩ := yL_b HR hH
  obtain ⟨A, g7, g8⟩ := p_ever_l (N := N) hN HR hH hL h6 hS (by omega) S (N - S - 1) (N - S - 1) 0 0 (by omega) (by omega)
  rw [show N - S - 1 + S + 1 = N by omega, show ((0 : Nat) : Int) = 0 from rfl] at g7 g8
  have lw := x8_law (N := N) (by omega) HR
  rw [h6] at lw
  refine ⟨A, σ, τ, g7, ?_, HR⟩
  simp only [f_X8_ever, lw, f_X8_endless, g8]
end
section
/-- whether some vow walks for ever -/
theorem p_has_l {N : Nat} (hN : 132 ≤ N) {σ τ : yS} {H L S : Nat} (HR : yRR σ τ) (hH : τ.1 0 3 = (H : Int)) (hL : L < 2 ^ H) (hS : τ.1 1 77 = (S : Int)) (h10 : S ≤ 10) : ∀ (c m q i A : Nat), i + c = S → A < 2 ^ i → ∃ A' : Nat, f_X8_endless_b4 N (q + c + 1) τ L A i = some ((A' : Int), τ) ∧ (¬ A = 0 → ¬ A' = 0) ∧ (A = 0 → f_X4_hasEndless_b2 N (m + c + 1) σ 17 L i = some (if A' = 0 then 0 else 1, σ)) ∧ (A = 0 → L = 2 ^ H - 1 → A' = 0)
  | 0, m, q, i, A, hi, hA => by
    have t3 : σ.1 (σ.2 17 11) 0 = τ.1 1 77 := HR.1.2.2.2.1.2.2.1.1
    refine ⟨A, ?_, fun h => h, fun h => ?_, fun h _ => h⟩
    · rw [q_X8_endless_b4, hS]
      simp [ycP_ge, show (S : Int) ≤ (i : Int) by omega]
    · rw [q_X4_hasEndless_b2, t3, hS]
      simp [ycP_ge, show (S : Int) ≤ (i : Int) by omega, h]
  | c + 1, m, q, i, A, hi, hA => by
    have t3 : σ.1 (σ.2 17 11) 0 = τ.1 1 77 := HR.1.2.2.2.1.2.2.1.1
    have e3 : yad (i : Int) 1 = ((i + 1 : Nat) : Int) := by rw [yad_e (by omega) (by omega)]; omega
    obtain ⟨e, he, g7, g8, ez⟩ := p_endl (N := N) hN (i := i) HR hH hL (by omega)
    have pw : (2 : Nat) ^ i ≤ 2 ^ 10 := Nat.pow_le_pow_right (by omega) (by omega)
    have ev := yev10 ⟨i, by omega⟩ ⟨A, by omega⟩ hA
    dsimp only at ev
    rcases he with rfl | rfl
    · have p2 : A < 2 ^ (i + 1) := Nat.lt_trans hA (Nat.pow_lt_pow_right (by omega) (by omega))
      obtain ⟨A', i8, j1, j2, j3⟩ := p_has_l hN HR hH hL hS h10 c m q (i + 1) A (by omega) p2
      refine ⟨A', ?_, j1, fun h => ?_, j3⟩
      · rw [show q + (c + 1) + 1 = (q + c + 1) + 1 by omega, q_X8_endless_b4, hS]
        simp only [ycP_ge, decide_eq_false (show ¬ (S : Int) ≤ (i : Int) by omega), cond_false, g8, x8_flag (show (0 : Int) ≤ 0 ∧ (0 : Int) ≤ 1 by omega), ev.2.1, e3, i8]
      · rw [show m + (c + 1) + 1 = (m + c + 1) + 1 by omega, q_X4_hasEndless_b2, t3, hS]
        simp only [ycP_ge, ycP_eq, decide_eq_false (show ¬ (S : Int) ≤ (i : Int) by omega), cond_false, g7, decide_true, cond_true, e3]
        exact j2 h
    · obtain ⟨B, hB⟩ : ∃ B : Nat, yor (A : Int) (ysl 1 (i : Int)) = (B : Int) := ⟨(yor (A : Int) (ysl 1 (i : Int))).toNat, by omega⟩
      rw [hB] at ev
      have p2 : B < 2 ^ (i + 1) := by omega
      obtain ⟨A', i8, j1, j2, j3⟩ := p_has_l hN HR hH hL hS h10 c m q (i + 1) B (by omega) p2
      have nz := j1 (by omega)
      refine ⟨A', ?_, fun _ => nz, fun h => ?_, fun _ hl => ?_⟩
      · rw [show q + (c + 1) + 1 = (q + c + 1) + 1 by omega, q_X8_endless_b4, hS]
        simp only [ycP_ge, decide_eq_false (show ¬ (S : Int) ≤ (i : Int) by omega), cond_false, g8, x8_flag (show (0 : Int) ≤ 1 ∧ (1 : Int) ≤ 1 by omega), hB, e3, i8]
      · rw [show m + (c + 1) + 1 = (m + c + 1) + 1 by omega, q_X4_hasEndless_b2, t3, hS, if_neg nz]
        simp only [ycP_ge, ycP_eq, decide_eq_false (show ¬ (S : Int) ≤ (i : Int) by omega), cond_false, g7, decide_eq_false (show ¬ (1 : Int) = 0 by omega)]
      · have := ez hl
        omega
theorem p_has {N : Nat} (hN : 132 ≤ N) {σ τ : yS} {H L : Nat} (HR : yRR σ τ) (hH : τ.1 0 3 = (H : Int)) (hL : L < 2 ^ H) : ∃ A : Nat, f_X8_endless N τ L = some ((A : Int), τ) ∧ f_X4_hasEndless N σ 17 L = some (if A = 0 then 0 else 1, σ) ∧ (L = 2 ^ H - 1 → A = 0) := by
  have g2 : 0 ≤ τ.1 1 77 ∧ τ.1 1 77 ≤ 10 := HR.1.2.2.2.2.2.2.1
  obtain ⟨S, hS⟩ : ∃ m : Nat, τ.1 1 77 = (m : Int) := ⟨(τ.1 1 77).toNat, by omega⟩
  obtain ⟨A, g8, -, g7, z⟩ := p_has_l (N := N) hN HR hH hL hS (by omega) S (N - S - 1) (N - S - 1) 0 0 (by omega) (by omega)
  have g7 := g7 rfl
  rw [show N - S - 1 + S + 1 = N by omega, show ((0 : Nat) : Int) = 0 from rfl] at g7 g8
  exact ⟨A, g8, g7, z rfl⟩
theorem ystN (a b : Fin 128) : yan ((a.val : Nat) : Int) ((b.val : Nat) : Int) = ((a.val &&& b.val : Nat) : Int) := by
  have e : (Int32.ofInt ((a.val : Nat) : Int) &&& Int32.ofInt ((b.val : Nat) : Int)).toBitVec.toNat = a.val &&& b.val := by
    rw [Int32.toBitVec_and, BitVec.toNat_and, ynat a.isLt, ynat b.isLt]
  have hl : a.val &&& b.val < 128 := Nat.lt_of_le_of_lt Nat.and_le_left a.isLt
  unfold yan
  rw [yint (by rw [e]; exact hl), e]
theorem ybtN : ∀ a : Fin 128, 0 ≤ ybt ((a.val : Nat) : Int) ∧ ybt ((a.val : Nat) : Int) ≤ 7 := by decide +kernel
theorem yslN : ∀ H : Fin 8, ysl 1 ((H.val : Nat) : Int) = ((2 ^ H.val : Nat) : Int) := by decide +kernel
theorem ycmp : ∀ H : Fin 8, ∀ L : Fin 128, L.val < 2 ^ H.val → ∃ C : Fin 128, yan (ysu (ysl 1 ((H.val : Nat) : Int)) 1) (yxo ((L.val : Nat) : Int) (-1)) = ((C.val : Nat) : Int) ∧ C.val < 2 ^ H.val ∧ C.val &&& L.val = 0 ∧ L.val ||| C.val = 2 ^ H.val - 1 := by
  have q : ∀ H : Fin 8, ∀ L : Fin 128, L.val < 2 ^ H.val → (yan (ysu (ysl 1 ((H.val : Nat) : Int)) 1) (yxo ((L.val : Nat) : Int) (-1)) = (((2 ^ H.val - 1) ^^^ L.val : Nat) : Int) ∧ ((2 ^ H.val - 1) ^^^ L.val) < 2 ^ H.val ∧ ((2 ^ H.val - 1) ^^^ L.val) &&& L.val = 0 ∧ L.val ||| ((2 ^ H.val - 1) ^^^ L.val) = 2 ^ H.val - 1) := by decide +kernel
  intro H L h
  have p := q H L h
  have pw : (2 : Nat) ^ H.val ≤ 128 := Nat.pow_le_pow_right (n := 2) (by omega) (show H.val ≤ 7 by omega)
  exact ⟨⟨(2 ^ H.val - 1) ^^^ L.val, by omega⟩, p⟩
/-- the loop of stop: not yet found, or found the same -/
theorem p_stop_l {N : Nat} (hN : 132 ≤ N) {σ τ : yS} {H L C : Nat} {w : Int} (HR : yRR σ τ) (hH : τ.1 0 3 = (H : Int)) (hL : L < 2 ^ H) (h6 : σ.1 17 6 = (L : Int)) (h7 : H ≤ 7) (c1 : C < 2 ^ H) (c2 : C &&& L = 0) (c3 : L ||| C = 2 ^ H - 1) : ∀ (c m q s : Nat) (l7 f7 l8 f8 : Int), s + c = 2 ^ H → ((l7 = l8 ∧ f7 = f8 ∧ f7 = ybt l7 ∧ 0 ≤ l7 ∧ l7 < 128) ∨ (s ≤ C ∧ f7 = 8 ∧ f8 = 1000000)) → ∃ a : Int, f_X7_stop_b39 N (m + c + 1) σ w l7 f7 s = some (a, σ) ∧ f_X8_stop_b27 N (q + c + 1) τ w L f8 l8 s = some (a, τ)
  | 0, m, q, s, l7, f7, l8, f8, hs, hf => by
    have e0 := HR.1.2.2.1.1
    have y := yslN ⟨H, by omega⟩
    dsimp only at y
    have hle : ((2 ^ H : Nat) : Int) ≤ (s : Int) := by omega
    rcases hf with ⟨rfl, rfl, h1, h2⟩ | ⟨h1, -, -⟩
    · by_cases hw : w = 0
      · refine ⟨f7, ?_, ?_⟩
        · rw [q_X7_stop_b39, e0, hH, y]
          simp only [ycP_ge, ycP_ne, decide_eq_true hle, cond_true, hw, not_true_eq_false, decide_false, cond_false, x7_bits7 h2, f_X7_stop_b134, h1]
        · rw [q_X8_stop_b27, hH, y]
          simp only [ycP_ge, ycP_ne, decide_eq_true hle, cond_true, hw, not_true_eq_false, decide_false, cond_false, f_X8_stop_b117]
      · refine ⟨l7, ?_, ?_⟩
        · rw [q_X7_stop_b39, e0, hH, y]
          simp only [ycP_ge, ycP_ne, decide_eq_true hle, cond_true, hw, not_false_eq_true, decide_true, f_X7_stop_b134]
        · rw [q_X8_stop_b27, hH, y]
          simp only [ycP_ge, ycP_ne, decide_eq_true hle, cond_true, hw, not_false_eq_true, decide_true, f_X8_stop_b117]
    · omega
  | c + 1, m, q, s, l7, f7, l8, f8, hs, hf => by
    have e0 := HR.1.2.2.1.1
    have y := yslN ⟨H, by omega⟩
    dsimp only at y
    have pw : (2 : Nat) ^ H ≤ 128 := Nat.pow_le_pow_right (n := 2) (by omega) h7
    have hle : ¬ ((2 ^ H : Nat) : Int) ≤ (s : Int) := by omega
    have es : yad (s : Int) 1 = ((s + 1 : Nat) : Int) := by rw [yad_e (by omega) (by omega)]; omega
    have an := ystN ⟨s, by omega⟩ ⟨L, by omega⟩
    have bs := ybtN ⟨s, by omega⟩
    have b7 := x7_bits7 (N := N) (σ := σ) (x := (s : Int)) (by omega)
    have b8 := x8_bits (N := N) (by omega) (τ := τ) (x := (s : Int))
    have oN := yorN ⟨L, by omega⟩ ⟨s, by omega⟩
    dsimp only at an bs oN
    have lo : L ||| s < 2 ^ H := Nat.or_lt_two_pow hL (by omega)
    obtain ⟨A, a8, a7, az⟩ := p_has (N := N) hN (L := L ||| s) HR hH lo
    rw [show m + (c + 1) + 1 = (m + c + 1) + 1 by omega, show q + (c + 1) + 1 = (q + c + 1) + 1 by omega, q_X7_stop_b39, q_X8_stop_b27, e0, hH, y, h6, an]
    simp only [ycP_ge, ycP_ne, ycP_eq, decide_eq_false hle, cond_false, b7, b8, f_X7_stop_b79, f_X7_stop_b80, f_X7_stop_b116, f_X8_stop_b69, f_X8_stop_b70, f_X8_stop_b84, f_X8_stop_b100, h6, oN, a7, a8, es, decide_true, cond_true, decide_eq_false (show ¬ (1 : Int) = 0 by omega)]
    have keep : (s = C → ((l7 = l8 ∧ f7 = f8 ∧ f7 = ybt l7 ∧ 0 ≤ l7 ∧ l7 < 128))) → ∃ a : Int, f_X7_stop_b39 N (m + c + 1) σ w l7 f7 ((s + 1 : Nat) : Int) = some (a, σ) ∧ f_X8_stop_b27 N (q + c + 1) τ w L f8 l8 ((s + 1 : Nat) : Int) = some (a, τ) := fun hC =>
      p_stop_l hN HR hH hL h6 h7 c1 c2 c3 c m q (s + 1) l7 f7 l8 f8 (by omega) (by
        by_cases e : s = C
        · exact Or.inl (hC e)
        · rcases hf with h | ⟨h1, h2, h3⟩
          · exact Or.inl h
          · exact Or.inr ⟨by omega, h2, h3⟩)
    by_cases hz : s &&& L = 0
    · have dz : decide (¬ ((s &&& L : Nat) : Int) = 0) = false := decide_eq_false (by omega)
      simp only [dz, cond_false]
      have cmp : (f7 ≤ ybt (s : Int)) ↔ (f8 ≤ ybt (s : Int)) := by
        rcases hf with ⟨-, h, -⟩ | ⟨-, h2, h3⟩
        · rw [h]
        · omega
      by_cases hb : f7 ≤ ybt (s : Int)
      · simp only [decide_eq_true hb, decide_eq_true (cmp.1 hb), cond_true]
        exact keep (fun e => by
          rcases hf with h | ⟨h1, h2, h3⟩
          · exact h
          · omega)
      · simp only [decide_eq_false hb, decide_eq_false (fun x => hb (cmp.2 x)), cond_false]
        by_cases hA : A = 0
        · subst hA
          simp only [if_true, not_true_eq_false, decide_false, cond_false, show decide (¬ ((0 : Nat) : Int) = 0) = false from rfl]
          exact p_stop_l hN HR hH hL h6 h7 c1 c2 c3 c m q (s + 1) (s : Int) (ybt (s : Int)) (s : Int) (ybt (s : Int)) (by omega) (Or.inl ⟨rfl, rfl, rfl, by omega, by omega⟩)
        · have dA : decide (¬ ((A : Nat) : Int) = 0) = true := decide_eq_true (by omega)
          simp only [if_neg hA, dA, cond_true, decide_eq_true (show ¬ (1 : Int) = 0 by omega)]
          exact keep (fun e => by
            subst e
            exact absurd (az c3) hA)
    · have dz : decide (¬ ((s &&& L : Nat) : Int) = 0) = true := decide_eq_true (by omega)
      simp only [dz, cond_true]
      exact keep (fun e => by
        subst e
        exact absurd c2 hz)
theorem P_stop {N : Nat} (hN : 1000 ≤ N) {σ τ : yS} {w : Int} (HR : yRR σ τ) : ∃ (a : Int) (σ' τ' : yS), f_X7_stop N σ w = some (a, σ') ∧ f_X8_stop N τ w = some (a, τ') ∧ yRR σ' τ' := by
  obtain ⟨e0, e1, e2, b0, b1, b2, hc⟩ := HR.1.2.2.1
  obtain ⟨H, hH⟩ : ∃ m : Nat, τ.1 0 3 = (m : Int) := ⟨(τ.1 0 3).toNat, by omega⟩
  obtain ⟨L, h6, hL⟩ := yL_b HR hH
  have pw : (2 : Nat) ^ H ≤ 128 := Nat.pow_le_pow_right (n := 2) (by omega) (show H ≤ 7 by omega)
  obtain ⟨C, c0, c1, c2, c3⟩ := ycmp ⟨H, by omega⟩ ⟨L, by omega⟩ hL
  dsimp only at c0 c1 c2 c3
  have lw := x8_law (N := N) (by omega) HR
  rw [h6] at lw
  simp only [f_X7_stop, f_X8_stop, x7_within, x8_in, ycP_ne, e0, hH, h6, c0]
  by_cases hw : 0 ≤ w ∧ w ≤ 1
  · obtain ⟨a, g7, g8⟩ := p_stop_l (N := N) (by omega) (w := w) (C := C.val) HR hH hL h6 (by omega) c1 c2 c3 (2 ^ H) (N - 2 ^ H - 1) (N - 2 ^ H - 1) 0 ((C.val : Nat) : Int) 8 0 1000000 (by omega) (Or.inr ⟨by omega, rfl, rfl⟩)
    rw [show N - 2 ^ H - 1 + 2 ^ H + 1 = N by omega, show ((0 : Nat) : Int) = 0 from rfl] at g7 g8
    refine ⟨a, σ, τ, ?_, ?_, HR⟩
    · simp [hw, g7]
    · simp [hw, lw, g8]
  · exact ⟨-1, σ, τ, by simp [hw], by simp [hw], HR⟩
end
