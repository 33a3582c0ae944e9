/-- the class behind a fault -/
def yB7 (σ : yS) : Prop := ¬ σ.1 2 4 = 0 ∧ 0 ≤ σ.1 2 3 ∧ σ.1 2 3 ≤ σ.1 2 1 ∧ σ.1 2 1 ≤ 160
def yQ7 (σ : yS) : Prop := yTr σ ∧ (0 ≤ σ.1 38 2 ∧ σ.1 38 2 ≤ 5) ∧ (0 ≤ σ.1 (σ.2 38 11) 0 ∧ σ.1 (σ.2 38 11) 0 ≤ 10) ∧ (0 ≤ σ.1 56 0 ∧ σ.1 56 0 ≤ 4)
/-- what reading on behind a fault leaves alone -/
def yZB (σ σ' : yS) : Prop := σ'.2 = σ.2 ∧ ∀ a b : Nat, ¬ (a = 2 ∧ 7 ≤ b) → ¬ (38 ≤ a ∧ a < 59) → σ'.1 a b = σ.1 a b
theorem yZB_r {σ : yS} : yZB σ σ := ⟨rfl, fun _ _ _ _ => rfl⟩
theorem yZB_t {σ1 σ2 σ3 : yS} (h : yZB σ1 σ2) (k : yZB σ2 σ3) : yZB σ1 σ3 := ⟨k.1.trans h.1, fun a b x y => by rw [k.2 a b x y, h.2 a b x y]⟩
theorem yZB_w {σ1 σ2 : yS} {i k : Nat} {z : Int} (h : yZB σ1 σ2) (hi : (i = 2 ∧ 7 ≤ k) ∨ (38 ≤ i ∧ i < 59)) : yZB σ1 (yw σ2 i k z) := ⟨h.1, fun a b x y => by rw [yw_n (by omega), h.2 a b x y]⟩
theorem yB7_z {σ σ' : yS} (h : yZB σ σ') (B : yB7 σ) : yB7 σ' := by
  unfold yB7 at B ⊢
  rw [h.2 2 4 (by omega) (by omega), h.2 2 3 (by omega) (by omega), h.2 2 1 (by omega) (by omega)]
  exact B
theorem yQ7_w {σ : yS} {i k : Nat} {z : Int} (Q : yQ7 σ) (h : ¬ (i = 38 ∧ k = 2) ∧ ¬ (i = 46 ∧ k = 0) ∧ ¬ (i = 51 ∧ k = 0) ∧ ¬ (i = 56 ∧ k = 0)) : yQ7 (yw σ i k z) := by
  obtain ⟨q1, q2, q3, q4⟩ := Q
  have q1' := q1
  unfold yTr at q1'
  refine ⟨q1, by rw [yw_n (by omega)]; exact q2, ?_, by rw [yw_n (by omega)]; exact q4⟩
  rw [yw_2, yw_n (by omega)]
  exact q3
theorem x1_tbad {N : Nat} {σ : yS} (B : yB7 σ) : f_X1_readToken N σ = some (0, σ) := by
  unfold f_X1_readToken
  rw [ycP_eq, decide_eq_false B.1, cond_false]
theorem x1_nbad {N : Nat} (hN : 400 ≤ N) {σ : yS} {lo hi : Int} (B : yB7 σ) : f_X1_numberHere N σ lo hi = some (lo, σ) := by
  obtain ⟨n7, b1, b2, b3⟩ := B
  have e79 : ∀ v : Int, f_X1_numberHere_b79 N σ lo v = some (lo, σ) := fun v => by
    unfold f_X1_numberHere_b79
    rw [ycP_ne, decide_eq_true n7]
    rfl
  unfold f_X1_numberHere
  by_cases h2 : σ.1 2 2 = 2
  · rw [ycP_eq, decide_eq_true h2, cond_true]
    obtain ⟨A, hA⟩ : ∃ A : Nat, σ.1 2 1 = (A : Int) := ⟨(σ.1 2 1).toNat, by omega⟩
    obtain ⟨s, hs⟩ : ∃ A : Nat, σ.1 2 3 = (A : Int) := ⟨(σ.1 2 3).toNat, by omega⟩
    obtain ⟨v', g⟩ := x1_num_l (N := N) (σ := σ) (lo := lo) (hi := hi) hA (by omega) (A - s) (N - (A - s) - 1) s 0 (by omega)
    rw [show N - (A - s) - 1 + (A - s) + 1 = N by omega] at g
    rw [hs, g, x7_within]
    by_cases hr : lo ≤ v' ∧ v' ≤ hi
    · rw [if_pos hr]
      exact e79 v'
    · rw [if_neg hr]
      show (match f_X1_complain N σ 3 (σ.1 2 3) with
          | none => none
          | some r2 => f_X1_numberHere_b79 N r2.2 lo v') = _
      rw [x1_cbad n7]
      exact e79 v'
  · rw [ycP_eq, decide_eq_false h2, cond_false, x1_cbad n7]
theorem x1_kbad {N : Nat} {σ : yS} (B : yB7 σ) : ∃ k : Int, (0 ≤ k ∧ k ≤ 4) ∧ f_X1_needKind N σ = some (k, σ) := by
  have hr := x1_tbad (N := N) B
  obtain ⟨n7, b1, b2, b3⟩ := B
  obtain ⟨s, hs⟩ : ∃ s : Nat, σ.1 2 3 = (s : Int) := ⟨(σ.1 2 3).toNat, by omega⟩
  obtain ⟨P, hP⟩ : ∃ s : Nat, σ.1 2 1 = (s : Int) := ⟨(σ.1 2 1).toNat, by omega⟩
  have nm : ∀ w : List Int, f_X1_isName w σ 2 = some (0, σ) ∨ f_X1_isName w σ 2 = some (1, σ) := fun w => by
    obtain ⟨e, g, e01, -⟩ := x1_isName (σ := σ) (s := s) (P := P) w hs hP (by omega) (by omega)
    rcases e01 with rfl | rfl
    · exact Or.inl g
    · exact Or.inr g
  unfold f_X1_needKind
  rw [hr]
  rcases nm [112, 108, 97, 105, 110] with a1 | a1
  · rcases nm [108, 101, 102, 116] with a2 | a2
    · rcases nm [100, 114, 117, 110, 107] with a3 | a3
      · rcases nm [106, 111, 105, 110, 116] with a4 | a4
        · rcases nm [116, 104, 114, 101, 97, 116] with a5 | a5
          · exact ⟨4, by decide, by simp only [a1, a2, a3, a4, a5, ybz, ybz2, x1_cbad n7, f_X1_needKind_b66]⟩
          · exact ⟨4, by decide, by simp only [a1, a2, a3, a4, a5, ybz, ybo2, f_X1_needKind_b66]⟩
        · exact ⟨3, by decide, by simp only [a1, a2, a3, a4, ybz, ybo]⟩
      · exact ⟨2, by decide, by simp only [a1, a2, a3, ybz, ybo]⟩
    · exact ⟨1, by decide, by simp only [a1, a2, ybz, ybo]⟩
  · exact ⟨0, by decide, by simp only [a1, ybo]⟩
theorem x1_hbad {N : Nat} (hN : 400 ≤ N) {σ : yS} (B : yB7 σ) : f_X1_needHouse N σ = some (0, yw σ 2 11 (ymx (σ.1 2 11) 0)) := by
  simp only [f_X1_needHouse, x1_tbad B, x1_nbad hN B]
theorem x1_dbad {N : Nat} (hN : 400 ≤ N) {σ : yS} (B : yB7 σ) : f_X1_needDeed N σ = some (0, yw σ 2 12 (ymx (σ.1 2 12) 0)) := by
  simp only [f_X1_needDeed, x1_tbad B, x1_nbad hN B, f_X1_noteDeed]
theorem x1_mbad {N : Nat} (hN : 400 ≤ N) {σ : yS} {lo hi : Int} (B : yB7 σ) : f_X1_needNumber N σ lo hi = some (lo, σ) := by
  simp only [f_X1_needNumber, x1_tbad B, x1_nbad hN B]
theorem x1_obad {N : Nat} {σ : yS} {x i : Int} (B : yB7 σ) : ∃ v : Int, f_X1_tellOnce N σ x i = some (v, σ) := by
  simp only [f_X1_tellOnce, f_X1_tellOnce_b18, f_X7_bit, x7_withBit, ycP_ne, x1_cbad B.1]
  refine ⟨yor x (ysl 1 i), ?_⟩
  have n1 : ¬ (1 : Int) = 0 := by decide
  by_cases h : yan (ysr x i) 1 = 1
  · rw [decide_eq_false (fun q => q h), cond_false, if_neg n1]
  · rw [decide_eq_true h, cond_true, if_neg n1]
/-- a line read on behind a fault -/
def yRB (N : Nat) (σ : yS) (f : Option (Int × yS)) : Prop := ∃ (r : Int) (σ' : yS), f = some (r, σ') ∧ yZB σ σ' ∧ yQ7 σ'
theorem x1_bshape {N : Nat} (hN : 400 ≤ N) {σ : yS} {x : Int} (hx : 0 ≤ x ∧ x ≤ 1) (B : yB7 σ) (Q : yQ7 σ) : yRB N σ (f_X1_readShape_b16 N σ 38 x) := by
  have B1 : yB7 (yw σ 2 7 1) := yB7_z (yZB_w yZB_r (by omega)) B
  have B2 : yB7 (yw (yw (yw σ 2 7 1) 38 0 2) 38 1 x) := yB7_z (yZB_w (yZB_w (yZB_w yZB_r (by omega)) (by omega)) (by omega)) B
  refine ⟨0, yw (yw (yw σ 2 7 1) 38 0 2) 38 1 x, ?_, yZB_w (yZB_w (yZB_w yZB_r (by omega)) (by omega)) (by omega), yQ7_w (yQ7_w (yQ7_w Q (by omega)) (by omega)) (by omega)⟩
  simp only [f_X1_readShape_b16, x1_mbad hN B1, yb1_d, decide_eq_true hx, cond_true, x1_tbad B2]
theorem x1_bdeed {N : Nat} (hN : 400 ≤ N) {σ : yS} (B : yB7 σ) (Q : yQ7 σ) : yRB N σ (f_X1_readDeed_b17 N σ 38) := by
  have Q0 := Q
  obtain ⟨q1, q2, q3, q4⟩ := Q
  unfold f_X1_readDeed_b17
  rw [x1_mbad hN B]
  simp only [f_X4_addDeed, f_X4_addDeed_b20, f_X4_addDeed_b28, ycP_ge]
  by_cases h5 : (5 : Int) ≤ σ.1 38 2
  · refine ⟨0, σ, ?_, yZB_r, Q0⟩
    rw [decide_eq_true h5, cond_true]
    simp only [x1_tbad B]
  · obtain ⟨d, hd⟩ : ∃ d : Nat, σ.1 38 2 = (d : Int) := ⟨(σ.1 38 2).toNat, by omega⟩
    have i5 : yin (d : Int) 5 = true := by rw [yin_d]; exact decide_eq_true (by omega)
    have e1 : yad (d : Int) 1 = (d : Int) + 1 := yad_e (by omega) (by omega)
    have B2 : yB7 (yw (yw σ (38 + 1) d 0) 38 2 ((d : Int) + 1)) := yB7_z (yZB_w (yZB_w yZB_r (by omega)) (by omega)) B
    refine ⟨0, yw (yw σ (38 + 1) d 0) 38 2 ((d : Int) + 1), ?_, yZB_w (yZB_w yZB_r (by omega)) (by omega), q1, ?_, ?_, ?_⟩
    · rw [decide_eq_false h5, cond_false, hd, i5, cond_true, Int.toNat_natCast, yw_n (a := 38) (b := 2) (by omega), hd, e1]
      simp only [x1_tbad B2]
    · rw [yw_p]; omega
    · unfold yTr at q1
      rw [yw_2, yw_2, yw_n (by omega), yw_n (by omega)]; exact q3
    · rw [yw_n (by omega), yw_n (by omega)]; exact q4
theorem x1_blawyer {N : Nat} (hN : 400 ≤ N) {σ : yS} (B : yB7 σ) (Q : yQ7 σ) : yRB N σ (f_X1_readLawyer N σ 38) := by
  have B1 : yB7 (yw σ 2 11 (ymx (σ.1 2 11) 0)) := yB7_z (yZB_w yZB_r (by omega)) B
  obtain ⟨v, hv⟩ := x1_obad (N := N) (x := (yw σ 2 11 (ymx (σ.1 2 11) 0)).1 2 9) (i := 0) B1
  obtain ⟨u, hu⟩ : ∃ u : Int, (yw (yw σ 2 11 (ymx (σ.1 2 11) 0)) 2 9 v).1 2 9 = u := ⟨_, rfl⟩
  have B2 : yB7 (yw (yw (yw σ 2 11 (ymx (σ.1 2 11) 0)) 2 9 v) 38 6 u) := yB7_z (yZB_w (yZB_w (yZB_w yZB_r (by omega)) (by omega)) (by omega)) B
  refine ⟨0, yw (yw (yw σ 2 11 (ymx (σ.1 2 11) 0)) 2 9 v) 38 6 u, ?_, yZB_w (yZB_w (yZB_w yZB_r (by omega)) (by omega)) (by omega), yQ7_w (yQ7_w (yQ7_w Q (by omega)) (by omega)) (by omega)⟩
  simp only [f_X1_readLawyer, f_X1_readLawyer_b20, x1_hbad hN B, hv, hu, x1_tbad B2]
/-- behind the house of a house's line -/
theorem x1_bhouse {N : Nat} (hN : 400 ≤ N) {σ : yS} (B : yB7 σ) (Q : yQ7 σ) : yRB N σ (f_X1_readHouse N σ 38) := by
  obtain ⟨M, hM⟩ : ∃ M, N = M + 1 := ⟨N - 1, by omega⟩
  have B1 : yB7 (yw σ 2 11 (ymx (σ.1 2 11) 0)) := yB7_z (yZB_w yZB_r (by omega)) B
  obtain ⟨v, hv⟩ := x1_obad (N := N) (x := (yw σ 2 11 (ymx (σ.1 2 11) 0)).1 2 8) (i := 0) B1
  have B2 : yB7 (yw (yw σ 2 11 (ymx (σ.1 2 11) 0)) 2 8 v) := yB7_z (yZB_w (yZB_w yZB_r (by omega)) (by omega)) B
  have B3 : yB7 (yw (yw (yw σ 2 11 (ymx (σ.1 2 11) 0)) 2 8 v) (38 + 2) 0 0) := yB7_z (yZB_w (yZB_w (yZB_w yZB_r (by omega)) (by omega)) (by omega)) B
  refine ⟨0, yw (yw (yw σ 2 11 (ymx (σ.1 2 11) 0)) 2 8 v) (38 + 2) 0 0, ?_, yZB_w (yZB_w (yZB_w yZB_r (by omega)) (by omega)) (by omega), yQ7_w (yQ7_w (yQ7_w Q (by omega)) (by omega)) (by omega)⟩
  have i0 : yin 0 7 = true := by decide +kernel
  have lp := q_X1_readHouse_b37 N M (yw (yw (yw σ 2 11 (ymx (σ.1 2 11) 0)) 2 8 v) (38 + 2) 0 0) 38 0 0
  rw [show M + 1 = N by omega, ycP_ge, decide_eq_false (by decide), cond_false, ycP_ne, decide_eq_true B3.1, cond_true] at lp
  simp only [f_X1_readHouse, x1_hbad hN B, hv, x1_mbad hN B2, i0, cond_true, show (0 : Int).toNat = 0 from rfl, x1_tbad B3]
  exact lp
theorem x1_bhabit {N : Nat} (hN : 400 ≤ N) {σ : yS} (B : yB7 σ) (Q : yQ7 σ) : yRB N σ (f_X1_readHabit N σ 38) := by
  have B1 : yB7 (yw σ 2 11 (ymx (σ.1 2 11) 0)) := yB7_z (yZB_w yZB_r (by omega)) B
  obtain ⟨v, hv⟩ := x1_obad (N := N) (x := (yw σ 2 11 (ymx (σ.1 2 11) 0)).1 2 10) (i := 0) B1
  obtain ⟨S, hS⟩ : ∃ S : yS, yw (yw σ 2 11 (ymx (σ.1 2 11) 0)) 2 10 v = S := ⟨_, rfl⟩
  have Z2 : yZB σ S := by rw [← hS]; exact yZB_w (yZB_w yZB_r (by omega)) (by omega)
  have Q2 : yQ7 S := by rw [← hS]; exact yQ7_w (yQ7_w Q (by omega)) (by omega)
  have B2 : yB7 S := yB7_z Z2 B
  obtain ⟨k, hk, gk⟩ := x1_kbad (N := N) B2
  have B3 : yB7 (yw S 2 12 (ymx (S.1 2 12) 0)) := yB7_z (yZB_w yZB_r (by omega)) B2
  have B4 : yB7 (yw (yw (yw (yw S 2 12 (ymx (S.1 2 12) 0)) (38 + 4) 0 k) (38 + 5) 0 0) (38 + 6) 0 0) := yB7_z (yZB_w (yZB_w (yZB_w (yZB_w yZB_r (by omega)) (by omega)) (by omega)) (by omega)) B2
  have i0 : yin 0 7 = true := by decide +kernel
  refine ⟨0, yw (yw (yw (yw S 2 12 (ymx (S.1 2 12) 0)) (38 + 4) 0 k) (38 + 5) 0 0) (38 + 6) 0 0, ?_, yZB_t Z2 (yZB_w (yZB_w (yZB_w (yZB_w yZB_r (by omega)) (by omega)) (by omega)) (by omega)), yQ7_w (yQ7_w (yQ7_w (yQ7_w Q2 (by omega)) (by omega)) (by omega)) (by omega)⟩
  simp only [f_X1_readHabit, x1_hbad hN B, hv, hS, gk, x1_dbad hN B2, x1_mbad hN B3, f_X4_setHabit, i0, cond_true, show (0 : Int).toNat = 0 from rfl, x1_tbad B4]
theorem x5_appb {N : Nat} {σ : yS} {h k p d : Int} (Q : yQ7 σ) : ∃ (r : Int) (σ' : yS), f_X5_append N σ (σ.2 38 11) h k p d = some (r, σ') ∧ yZB σ σ' ∧ yQ7 σ' := by
  have Q0 := Q
  obtain ⟨q1, q2, q3, q4⟩ := Q
  have q1' := q1
  unfold yTr at q1'
  obtain ⟨v, hv⟩ : ∃ v : Nat, σ.2 38 11 = v := ⟨_, rfl⟩
  rw [hv] at q3 q1' ⊢
  by_cases hf : σ.1 v 0 < 10
  · obtain ⟨m, hm⟩ : ∃ m : Nat, σ.1 v 0 = (m : Int) := ⟨(σ.1 v 0).toNat, by omega⟩
    have im : yin (m : Int) 10 = true := by rw [yin_d]; exact decide_eq_true (by omega)
    have e1 : yad (m : Int) 1 = (m : Int) + 1 := yad_e (by omega) (by omega)
    refine ⟨1, yw (yw (yw (yw (yw σ (v + 1) m h) (v + 2) m k) (v + 3) m p) (v + 4) m d) v 0 ((m : Int) + 1), ?_, yZB_w (yZB_w (yZB_w (yZB_w (yZB_w yZB_r (by omega)) (by omega)) (by omega)) (by omega)) (by omega), q1, ?_, ?_, ?_⟩
    · simp only [f_X5_append, f_X5_append_b26, f_X5_append_b36, f_X5_append_b46, f_X5_append_b54, ycP_lt, decide_eq_true hf, cond_true, hm, im, Int.toNat_natCast]
      rw [yw_n (a := v) (b := 0) (by omega), hm, im, cond_true, Int.toNat_natCast, yw_n (a := v) (b := 0) (by omega), yw_n (a := v) (b := 0) (by omega), hm, im, cond_true, Int.toNat_natCast, yw_n (a := v) (b := 0) (by omega), yw_n (a := v) (b := 0) (by omega), yw_n (a := v) (b := 0) (by omega), hm, im, cond_true, Int.toNat_natCast, yw_n (a := v) (b := 0) (by omega), yw_n (a := v) (b := 0) (by omega), yw_n (a := v) (b := 0) (by omega), yw_n (a := v) (b := 0) (by omega), hm, e1, decide_eq_true (show (m : Int) < 10 by omega), cond_true]
    · rw [yw_n (by omega), yw_n (by omega), yw_n (by omega), yw_n (by omega), yw_n (by omega)]; exact q2
    · show 0 ≤ (yw (yw (yw (yw (yw σ (v + 1) m h) (v + 2) m k) (v + 3) m p) (v + 4) m d) v 0 ((m : Int) + 1)).1 (σ.2 38 11) 0 ∧ (yw (yw (yw (yw (yw σ (v + 1) m h) (v + 2) m k) (v + 3) m p) (v + 4) m d) v 0 ((m : Int) + 1)).1 (σ.2 38 11) 0 ≤ 10
      rw [hv, yw_p]; omega
    · rw [yw_n (by omega), yw_n (by omega), yw_n (by omega), yw_n (by omega), yw_n (by omega)]; exact q4
  · refine ⟨0, σ, ?_, yZB_r, Q0⟩
    unfold f_X5_append
    rw [ycP_lt, decide_eq_false hf, cond_false]
theorem x6_appb {N : Nat} {σ : yS} {h d : Int} (Q : yQ7 σ) : ∃ (r : Int) (σ' : yS), f_X6_append N σ (38 + 18) h d = some (r, σ') ∧ yZB σ σ' ∧ yQ7 σ' := by
  have Q0 := Q
  obtain ⟨q1, q2, q3, q4⟩ := Q
  have q1' := q1
  unfold yTr at q1'
  by_cases hf : σ.1 56 0 < 4
  · obtain ⟨m, hm⟩ : ∃ m : Nat, σ.1 56 0 = (m : Int) := ⟨(σ.1 56 0).toNat, by omega⟩
    have im : yin (m : Int) 4 = true := by rw [yin_d]; exact decide_eq_true (by omega)
    have e1 : yad (m : Int) 1 = (m : Int) + 1 := yad_e (by omega) (by omega)
    refine ⟨1, yw (yw (yw σ 57 m h) 58 m d) 56 0 ((m : Int) + 1), ?_, yZB_w (yZB_w (yZB_w yZB_r (by omega)) (by omega)) (by omega), q1, ?_, ?_, ?_⟩
    · simp only [f_X6_append, f_X6_append_b25, f_X6_append_b32, ycP_lt, show 38 + 18 = 56 from rfl, decide_eq_true hf, cond_true, hm, im, Int.toNat_natCast, show 56 + 1 = 57 from rfl, show 56 + 2 = 58 from rfl]
      rw [yw_n (a := 56) (b := 0) (by omega), hm, im, cond_true, Int.toNat_natCast, yw_n (a := 56) (b := 0) (by omega), yw_n (a := 56) (b := 0) (by omega), hm, e1, decide_eq_true (show (m : Int) < 4 by omega), cond_true]
    · rw [yw_n (by omega), yw_n (by omega), yw_n (by omega)]; exact q2
    · show 0 ≤ (yw (yw (yw σ 57 m h) 58 m d) 56 0 ((m : Int) + 1)).1 (σ.2 38 11) 0 ∧ (yw (yw (yw σ 57 m h) 58 m d) 56 0 ((m : Int) + 1)).1 (σ.2 38 11) 0 ≤ 10
      rw [yw_n (by omega), yw_n (by omega), yw_n (by omega)]; exact q3
    · rw [yw_p]; omega
  · refine ⟨0, σ, ?_, yZB_r, Q0⟩
    unfold f_X6_append
    rw [ycP_lt, decide_eq_false hf, cond_false]
theorem x1_bvow {N : Nat} (hN : 400 ≤ N) {σ : yS} (B : yB7 σ) (Q : yQ7 σ) : yRB N σ (f_X1_readVow_b21 N σ 38) := by
  obtain ⟨S, hS⟩ : ∃ S : yS, yw σ 2 11 (ymx (σ.1 2 11) 0) = S := ⟨_, rfl⟩
  have Z1 : yZB σ S := by rw [← hS]; exact yZB_w yZB_r (by omega)
  have Q1 : yQ7 S := by rw [← hS]; exact yQ7_w Q (by omega)
  have B1 : yB7 S := yB7_z Z1 B
  obtain ⟨k, hk, gk⟩ := x1_kbad (N := N) B1
  obtain ⟨U, hU⟩ : ∃ U : yS, yw S 2 12 (ymx (S.1 2 12) 0) = U := ⟨_, rfl⟩
  have Z2 : yZB S U := by rw [← hU]; exact yZB_w yZB_r (by omega)
  have Q2 : yQ7 U := by rw [← hU]; exact yQ7_w Q1 (by omega)
  have u2 : U.2 38 11 = S.2 38 11 := by rw [Z2.1]
  obtain ⟨r, σ', g, Z3, Q3⟩ := x5_appb (N := N) (h := 0) (k := k) (p := 0) (d := 0) Q2
  rw [u2] at g
  have B3 : yB7 σ' := yB7_z (yZB_t Z2 Z3) B1
  refine ⟨0, σ', ?_, yZB_t Z1 (yZB_t Z2 Z3), Q3⟩
  simp only [f_X1_readVow_b21, f_X1_readVow_b57, x1_hbad hN B, hS, gk, x1_mbad hN B1, x7_isDepth, show ((0 : Int) ≤ 0 ∧ (0 : Int) ≤ 3) ∨ (0 : Int) = 9 from Or.inl (by decide), if_true, ybo2, x1_dbad hN B1, hU, g, x1_tbad B3]
theorem x1_bwant {N : Nat} (hN : 400 ≤ N) {σ : yS} (B : yB7 σ) (Q : yQ7 σ) : yRB N σ (f_X1_readWant_b20 N σ 38) := by
  obtain ⟨S, hS⟩ : ∃ S : yS, yw σ 2 11 (ymx (σ.1 2 11) 0) = S := ⟨_, rfl⟩
  have Z1 : yZB σ S := by rw [← hS]; exact yZB_w yZB_r (by omega)
  have Q1 : yQ7 S := by rw [← hS]; exact yQ7_w Q (by omega)
  have B1 : yB7 S := yB7_z Z1 B
  obtain ⟨U, hU⟩ : ∃ U : yS, yw S 2 12 (ymx (S.1 2 12) 0) = U := ⟨_, rfl⟩
  have Z2 : yZB S U := by rw [← hU]; exact yZB_w yZB_r (by omega)
  have Q2 : yQ7 U := by rw [← hU]; exact yQ7_w Q1 (by omega)
  obtain ⟨r, σ', g, Z3, Q3⟩ := x6_appb (N := N) (h := 0) (d := 0) Q2
  have B3 : yB7 σ' := yB7_z (yZB_t Z2 Z3) B1
  refine ⟨0, σ', ?_, yZB_t Z1 (yZB_t Z2 Z3), Q3⟩
  simp only [f_X1_readWant_b20, x1_hbad hN B, hS, x1_dbad hN B1, hU, g, x1_tbad B3]
