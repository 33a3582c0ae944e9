/-- all lines -/
theorem p_line {N : Nat} (hN : 400 ≤ N) {σ τ : yS} (HH : yLx σ τ ∧ yTk σ τ) (R : yRD σ τ) : yLL N σ τ (f_X1_readLine N σ 38) (f_X8_readLine N τ) := by
  have s23 := R.2.2.2.2.2.1.2
  have s27 : σ.1 2 7 = τ.1 0 10 := R.2.2.2.2.2.1.1
  have H0 := HH
  obtain ⟨⟨T, f7, f8, hap, hp0, hp1⟩, ⟨b, t, s0, t0, tz, tn, tv⟩⟩ := H0
  have l160 := T.2.1
  have t17 := T.2.2.1
  obtain ⟨s, hs⟩ : ∃ s : Nat, τ.1 0 19 = (s : Int) := ⟨(τ.1 0 19).toNat, by omega⟩
  obtain ⟨P, hP⟩ : ∃ s : Nat, τ.1 0 18 = (s : Int) := ⟨(τ.1 0 18).toNat, by omega⟩
  have sP : s ≤ P := by omega
  have h2 : (P : Int) ≤ τ.1 0 17 := by omega
  have h3 : τ.1 0 17 ≤ 160 := by omega
  have p2 := (p_fail (N := N) HH (show (0 : Int) < 2 by decide))
  have p4 := (p_fail (N := N) HH (show (0 : Int) < 4 by decide))
  have p5 := (p_fail (N := N) HH (show (0 : Int) < 5 by decide))
  have e10 : ∀ k : Int, (yw (yw τ 0 22 k) 0 23 (τ.1 0 19)).1 0 10 = τ.1 0 10 := fun k => by rw [yw_n (by decide), yw_n (by decide)]
  have none7 : yLL N σ τ (match f_X1_complain N σ 2 (σ.1 2 3) with
      | none => none
      | some r9 => f_X1_readLine_b147 N r9.2) (f_X8_readLine_b17 N τ (-4)) := by
    rw [x8_none s23 p2.2.1 (e10 2), p2.1]
    exact p_lpre (F := fun S => some (0, S)) hN HH R (by decide) (by rw [e10]; exact s23) (fun S B Q => ⟨0, S, rfl, yZB_r, Q⟩)
  by_cases h1 : τ.1 0 20 = 1
  · have r8 : ∀ k : Int, f_X8_lineNow N τ = some (k, τ) → f_X8_readLine N τ = f_X8_readLine_b17 N τ k := fun k q => by
      unfold f_X8_readLine
      rw [h1, ycP_ne, decide_eq_false (by decide), cond_false, q]
    have n1 := x1_nm HH hs hP [114, 111, 119]
    have n2 := x1_nm HH hs hP [114, 105, 110, 103]
    have n3 := x1_nm HH hs hP [100, 101, 101, 100]
    have n4 := x1_nm HH hs hP [104, 111, 117, 115, 101]
    have n5 := x1_nm HH hs hP [108, 97, 119, 121, 101, 114]
    have n6 := x1_nm HH hs hP [104, 97, 98, 105, 116]
    have n7 := x1_nm HH hs hP [118, 111, 119]
    have n8 := x1_nm HH hs hP [119, 97, 110, 116]
    have k1 := x8_w3 (N := N) (a := 114) (b := 111) (c := 119) hs hP sP h2 h3 (fun t => match f_X8_is N t 4 114 105 110 with
      | none => none
      | some r2 => bif ycP .eq r2.1 0 then
          f_X8_lineNow_b43 N r2.2
        else
          match f_X8_ends N r2.2 103 0 0 with
          | none => none
          | some r9 => bif ycP .eq r9.1 0 then
              f_X8_lineNow_b43 N r9.2
            else
              some (4, r9.2)) (fun t => some (3, t))
    have k2 := x8_w4 (N := N) (a := 114) (b := 105) (c := 110) (d := 103) hs hP sP h2 h3 (fun t => f_X8_lineNow_b43 N t) (fun t => some (4, t))
    have k3 := x8_w4 (N := N) (a := 100) (b := 101) (c := 101) (d := 100) hs hP sP h2 h3 (fun t => f_X8_lineNow_b70 N t) (fun t => some (5, t))
    have k4 := x8_w5 (N := N) (a := 104) (b := 111) (c := 117) (d := 115) (e := 101) hs hP sP h2 h3 (by decide) (fun t => f_X8_ofHouses_b28 N t) (fun t => some (0, t))
    have k5 := x8_w6 (N := N) (a := 108) (b := 97) (c := 119) (d := 121) (e := 101) (f := 114) hs hP sP h2 h3 (by decide) (by decide) (fun t => f_X8_ofHouses_b58 N t) (fun t => some (1, t))
    have k6 := x8_w5 (N := N) (a := 104) (b := 97) (c := 98) (d := 105) (e := 116) hs hP sP h2 h3 (by decide) (fun t => f_X8_ofHouses_b88 N t) (fun t => f_X8_ofHouses_b90 N t 2)
    have k7 := x8_w3 (N := N) (a := 118) (b := 111) (c := 119) hs hP sP h2 h3 (fun t => match f_X8_is N t 4 119 97 110 with
      | none => none
      | some r5 => bif ycP .eq r5.1 0 then
          f_X8_lineNow_b117 N r5.2
        else
          match f_X8_ends N r5.2 116 0 0 with
          | none => none
          | some r7 => bif ycP .eq r7.1 0 then
              f_X8_lineNow_b117 N r7.2
            else
              f_X8_lineNow_b121 N r7.2 7) (fun t => some (6, t))
    have k8 := x8_w4 (N := N) (a := 119) (b := 97) (c := 110) (d := 116) hs hP sP h2 h3 (fun t => f_X8_lineNow_b117 N t) (fun t => f_X8_lineNow_b121 N t 7)
    have nt : ∀ w : List Int, ¬ yWd τ w s P → ¬ (τ.1 0 20 = 1 ∧ yWd τ w s P) := fun w q r => q r.2
    have ln : ∀ (w : List Int) (n : Nat), w.length = n → yWd τ w s P → P = s + n := fun w n q r => by rw [← q]; exact r.1
    clear s0 t0 tz tn tv hap hp0 hp1 b
    by_cases w1 : yWd τ [114, 111, 119] s P
    · rw [r8 3 (k1.1 w1), x8_b17.1 3 (by decide) (by decide) (by decide)]
      unfold f_X1_readLine
      rw [n1.1 h1 w1]
      show yLL N σ τ (bif ycP .eq 1 0 then _ else match f_X1_readShape N σ 38 0 with
        | none => none
        | some r17 => f_X1_readLine_b147 N r17.2) _
      rw [ybo]
      refine yLL_l ?_
      by_cases h0 : τ.1 0 10 = 0
      · rw [(x8_shape (Or.inl rfl)).1 h0]
        exact p_lshape hN HH R (Or.inl rfl) h0
      · rw [(x8_shape (Or.inl rfl)).2 h0 _ p4.2.1 (e10 4)]
        unfold f_X1_readShape
        rw [s27, ycP_eq, decide_eq_false h0, cond_false, p4.1]
        exact p_lpre (F := fun S => f_X1_readShape_b16 N S 38 0) hN HH R (by decide) (by decide) (fun S B Q => x1_bshape hN (by decide) B Q)
    have a1 := n1.2 (nt _ w1)
    have b1 := k1.2 w1
    by_cases w2 : yWd τ [114, 105, 110, 103] s P
    · rw [r8 4 (b1.trans (k2.1 w2)), x8_b17.1 4 (by decide) (by decide) (by decide)]
      unfold f_X1_readLine
      rw [a1]
      show yLL N σ τ (bif ycP .eq 0 0 then match f_X1_isName [114, 105, 110, 103] σ 2 with
        | none => none
        | some r2 => _ else _) _
      rw [ybz, n2.1 h1 w2]
      show yLL N σ τ (bif ycP .eq 1 0 then _ else match f_X1_readShape N σ 38 1 with
        | none => none
        | some r17 => f_X1_readLine_b147 N r17.2) _
      rw [ybo]
      refine yLL_l ?_
      by_cases h0 : τ.1 0 10 = 0
      · rw [(x8_shape (Or.inr rfl)).1 h0]
        exact p_lshape hN HH R (Or.inr rfl) h0
      · rw [(x8_shape (Or.inr rfl)).2 h0 _ p4.2.1 (e10 4)]
        unfold f_X1_readShape
        rw [s27, ycP_eq, decide_eq_false h0, cond_false, p4.1]
        exact p_lpre (F := fun S => f_X1_readShape_b16 N S 38 1) hN HH R (by decide) (by decide) (fun S B Q => x1_bshape hN (by decide) B Q)
    have a2 := n2.2 (nt _ w2)
    have b2 : f_X8_lineNow N τ = f_X8_lineNow_b43 N τ := b1.trans (k2.2 w2)
    have c2 : f_X1_readLine N σ 38 = (match f_X1_isName [100, 101, 101, 100] σ 2 with
          | none => none
          | some r3 => bif ycP .eq r3.1 0 then
              match f_X1_isName [104, 111, 117, 115, 101] r3.2 2 with
              | none => none
              | some r4 => bif ycP .eq r4.1 0 then
                  match f_X1_isName [108, 97, 119, 121, 101, 114] r4.2 2 with
                  | none => none
                  | some r5 => bif ycP .eq r5.1 0 then
                      match f_X1_isName [104, 97, 98, 105, 116] r5.2 2 with
                      | none => none
                      | some r6 => bif ycP .eq r6.1 0 then
                          match f_X1_isName [118, 111, 119] r6.2 2 with
                          | none => none
                          | some r7 => bif ycP .eq r7.1 0 then
                              match f_X1_isName [119, 97, 110, 116] r7.2 2 with
                              | none => none
                              | some r8 => bif ycP .eq r8.1 0 then
                                  match f_X1_complain N r8.2 2 (r8.2.1 2 3) with
                                  | none => none
                                  | some r9 => f_X1_readLine_b147 N r9.2
                                else
                                  match f_X1_readWant N r8.2 38 with
                                  | none => none
                                  | some r10 => f_X1_readLine_b147 N r10.2
                            else
                              match f_X1_readVow N r7.2 38 with
                              | none => none
                              | some r11 => f_X1_readLine_b147 N r11.2
                        else
                          match f_X1_readHabit N r6.2 38 with
                          | none => none
                          | some r12 => f_X1_readLine_b147 N r12.2
                    else
                      match f_X1_readLawyer N r5.2 38 with
                      | none => none
                      | some r13 => f_X1_readLine_b147 N r13.2
                else
                  match f_X1_readHouse N r4.2 38 with
                  | none => none
                  | some r14 => f_X1_readLine_b147 N r14.2
            else
              match f_X1_readDeed N r3.2 38 with
              | none => none
              | some r15 => f_X1_readLine_b147 N r15.2) := by
      unfold f_X1_readLine
      rw [a1]
      show (bif ycP .eq 0 0 then match f_X1_isName [114, 105, 110, 103] σ 2 with
        | none => none
        | some r2 => _ else _) = _
      rw [ybz, a2]
      show (bif ycP .eq 0 0 then _ else _) = _
      rw [ybz]
      rfl
    by_cases w3 : yWd τ [100, 101, 101, 100] s P
    · rw [r8 5 (b2.trans (k3.1 w3)), x8_b17.2.1, c2]
      simp only [n3.1 h1 w3, ybo]
      refine yLL_l ?_
      have ho := x8_other (N := N) (τ := τ) (k := 5) s23 (by decide) (by decide) (by decide)
      by_cases h0 : τ.1 0 11 = 5
      · rw [if_pos h0, ho.2 _ p5.2.1 (e10 5)]
        unfold f_X1_readDeed
        rw [R.1.2.2.1, ycP_lt, decide_eq_false (by omega), cond_false, p5.1]
        exact p_lpre (F := fun S => f_X1_readDeed_b17 N S 38) hN HH R (by decide) (by rw [e10]; exact s23) (fun S B Q => x1_bdeed hN B Q)
      · rw [if_neg h0, ho.1]
        exact p_ldeed hN HH R h0
    have a3 := n3.2 (nt _ w3)
    have b3 : f_X8_lineNow N τ = f_X8_lineNow_b70 N τ := b2.trans (k3.2 w3)
    by_cases w4 : yWd τ [104, 111, 117, 115, 101] s P
    · have l := ln _ 5 rfl w4
      have q7 : ¬ yWd τ [118, 111, 119] s P := fun q => by have := ln _ 3 rfl q; omega
      have q8 : ¬ yWd τ [119, 97, 110, 116] s P := fun q => by have := ln _ 4 rfl q; omega
      have b4 : f_X8_lineNow_b70 N τ = f_X8_lineNow_b117 N τ := (k7.2 q7).trans (k8.2 q8)
      have b5 : f_X8_lineNow_b117 N τ = some (0, τ) := by
        unfold f_X8_lineNow_b117
        rw [show f_X8_ofHouses N τ = some (0, τ) from k4.1 w4]
        rfl
      rw [r8 0 (b3.trans (b4.trans b5)), x8_b17.1 0 (by decide) (by decide) (by decide), c2]
      simp only [a3, n4.1 h1 w4, ybz, ybo]
      rw [(x8_other (N := N) (τ := τ) (k := 0) s23 (by decide) (by decide) (by decide)).1]
      exact yLL_l (p_lhouse hN HH R)
    have a4 := n4.2 (nt _ w4)
    have o4 : f_X8_ofHouses N τ = f_X8_ofHouses_b28 N τ := k4.2 w4
    by_cases w5 : yWd τ [108, 97, 119, 121, 101, 114] s P
    · have l := ln _ 6 rfl w5
      have q7 : ¬ yWd τ [118, 111, 119] s P := fun q => by have := ln _ 3 rfl q; omega
      have q8 : ¬ yWd τ [119, 97, 110, 116] s P := fun q => by have := ln _ 4 rfl q; omega
      have b4 : f_X8_lineNow_b70 N τ = f_X8_lineNow_b117 N τ := (k7.2 q7).trans (k8.2 q8)
      have b5 : f_X8_lineNow_b117 N τ = some (1, τ) := by
        unfold f_X8_lineNow_b117
        rw [show f_X8_ofHouses N τ = some (1, τ) from o4.trans (k5.1 w5)]
        rfl
      rw [r8 1 (b3.trans (b4.trans b5)), x8_b17.1 1 (by decide) (by decide) (by decide), c2]
      simp only [a3, a4, n5.1 h1 w5, ybz, ybo]
      rw [(x8_other (N := N) (τ := τ) (k := 1) s23 (by decide) (by decide) (by decide)).1]
      exact yLL_l (p_llaw hN HH R)
    have a5 := n5.2 (nt _ w5)
    have o5 : f_X8_ofHouses N τ = f_X8_ofHouses_b58 N τ := o4.trans (k5.2 w5)
    by_cases w6 : yWd τ [104, 97, 98, 105, 116] s P
    · have l := ln _ 5 rfl w6
      have q7 : ¬ yWd τ [118, 111, 119] s P := fun q => by have := ln _ 3 rfl q; omega
      have q8 : ¬ yWd τ [119, 97, 110, 116] s P := fun q => by have := ln _ 4 rfl q; omega
      have b4 : f_X8_lineNow_b70 N τ = f_X8_lineNow_b117 N τ := (k7.2 q7).trans (k8.2 q8)
      have b5 : f_X8_lineNow_b117 N τ = some (2, τ) := by
        unfold f_X8_lineNow_b117
        rw [show f_X8_ofHouses N τ = some (2, τ) from o5.trans (k6.1 w6)]
        rfl
      rw [r8 2 (b3.trans (b4.trans b5)), x8_b17.1 2 (by decide) (by decide) (by decide), c2]
      simp only [a3, a4, a5, n6.1 h1 w6, ybz, ybo]
      rw [(x8_other (N := N) (τ := τ) (k := 2) s23 (by decide) (by decide) (by decide)).1]
      exact yLL_l (p_lhabit hN HH R)
    have a6 := n6.2 (nt _ w6)
    have o6 : f_X8_ofHouses N τ = some (-4, τ) := o5.trans (k6.2 w6)
    by_cases w7 : yWd τ [118, 111, 119] s P
    · rw [r8 6 (b3.trans (k7.1 w7)), x8_b17.2.2.1, c2]
      simp only [a3, a4, a5, a6, n7.1 h1 w7, ybz, ybo]
      refine yLL_l ?_
      have ho := x8_other (N := N) (τ := τ) (k := 6) s23 (by decide) (by decide) (by decide)
      by_cases h0 : τ.1 5 77 = 10
      · rw [if_pos h0, ho.2 _ p5.2.1 (e10 5)]
        have s77 : σ.1 (σ.2 38 11) 0 = τ.1 5 77 := R.2.1.2.2.1.1
        unfold f_X1_readVow
        rw [s77, ycP_lt, decide_eq_false (by omega), cond_false, p5.1]
        exact p_lpre (F := fun S => f_X1_readVow_b21 N S 38) hN HH R (by decide) (by rw [e10]; exact s23) (fun S B Q => x1_bvow hN B Q)
      · rw [if_neg h0, ho.1]
        exact p_lvow hN HH R h0
    have a7 := n7.2 (nt _ w7)
    have b7 := b3.trans (k7.2 w7)
    by_cases w8 : yWd τ [119, 97, 110, 116] s P
    · rw [r8 7 (b7.trans (k8.1 w8)), x8_b17.2.2.2, c2]
      simp only [a3, a4, a5, a6, a7, n8.1 h1 w8, ybz, ybo]
      refine yLL_l ?_
      have ho := x8_other (N := N) (τ := τ) (k := 7) s23 (by decide) (by decide) (by decide)
      by_cases h0 : τ.1 5 118 = 4
      · rw [if_pos h0, ho.2 _ p5.2.1 (e10 5)]
        have s118 : σ.1 (38 + 18) 0 = τ.1 5 118 := R.2.1.2.2.2.1.1
        unfold f_X1_readWant
        rw [s118, ycP_lt, decide_eq_false (by omega), cond_false, p5.1]
        exact p_lpre (F := fun S => f_X1_readWant_b20 N S 38) hN HH R (by decide) (by rw [e10]; exact s23) (fun S B Q => x1_bwant hN B Q)
      · rw [if_neg h0, ho.1]
        exact p_lwant hN HH R h0
    have a8 := n8.2 (nt _ w8)
    have b8 : f_X8_lineNow N τ = f_X8_lineNow_b117 N τ := b7.trans (k8.2 w8)
    have b9 : f_X8_lineNow_b117 N τ = some (-4, τ) := by
      unfold f_X8_lineNow_b117
      rw [o6]
      rfl
    rw [r8 (-4) (b8.trans b9), c2]
    simp only [a3, a4, a5, a6, a7, a8, ybz]
    exact none7
  · have z : ∀ w : List Int, f_X1_isName w σ 2 = some (0, σ) := fun w => (x1_nm HH hs hP w).2 (fun q => h1 q.1)
    have e8 : f_X8_readLine N τ = f_X8_readLine_b17 N τ (-4) := by
      unfold f_X8_readLine
      rw [ycP_ne, decide_eq_true h1, cond_true]
    rw [e8]
    simp only [f_X1_readLine, z, ybz]
    exact none7
