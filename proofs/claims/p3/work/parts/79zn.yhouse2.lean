theorem p_lcan {N : Nat} (hN : 400 ≤ N) {A : Nat} (hA : A < 7) : ∀ (c m i : Nat) (σ τ : yS), i + c = 161 → yE σ τ → (σ.1 2 4 = 0 → yRD σ τ ∧ (σ.1 2 2 = 2 → (i : Int) < σ.1 2 1)) → ∃ (σ' τ' : yS), f_X1_readHouse_b37 N (m + c + 1) σ 38 (A : Int) (i : Int) = some (0, σ') ∧ f_X8_readCan_b0 N (m + c + 1) τ (A : Int) = some (0, τ') ∧ yE σ' τ' ∧ σ'.2 = σ.2 ∧ (∀ i b : Nat, ¬ (i = 2 ∧ ((1 ≤ b ∧ b ≤ 5) ∨ b = 12)) → ¬ (i = 41 ∧ b = A) → σ'.1 i b = σ.1 i b) ∧ (∀ i b : Nat, ¬ (i = 0 ∧ ((18 ≤ b ∧ b ≤ 23) ∨ b = 15)) → ¬ (i = 5 ∧ b = 7 + A) → τ'.1 i b = τ.1 i b) ∧ σ.1 2 1 ≤ σ'.1 2 1 ∧ (σ'.1 2 4 = 0 → yRD σ' τ' ∧ σ.1 2 4 = 0 ∧ (¬ σ'.1 2 2 = 0 → ¬ σ.1 2 2 = 0)) := by
  intro c
  induction c with
  | zero =>
      intro m i σ τ hi E ok
      have fe := yE_f E
      have hi2 : i = 161 := by omega
      refine ⟨σ, τ, ?_, ?_, E, rfl, fun _ _ _ _ => rfl, fun _ _ _ _ => rfl, Int.le_refl _, fun z => ⟨(ok z).1, z, fun q => q⟩⟩
      · rw [q_X1_readHouse_b37, ycP_ge, decide_eq_true (by omega), cond_true]
        rfl
      · rw [q_X8_readCan_b0]
        by_cases f0 : σ.1 2 4 = 0
        · obtain ⟨⟨T, f7, f8, hap, hp0, hp1⟩, ⟨b, t, -⟩⟩ := yE_ok E f0
          have ok2 := (ok f0).2
          have T1 := T.2.1
          have T2 := T.2.2.1
          have n2 : ¬ τ.1 0 20 = 2 := fun q => by
            have := ok2 (t.trans q)
            omega
          rw [f8, ybz2, ycP_ne, decide_eq_true n2, cond_true]
          rfl
        · rw [ycP_ne, decide_eq_true (by rw [← fe.1]; exact f0), cond_true]
          rfl
  | succ c ih =>
      intro m i σ τ hi E ok
      have fe := yE_f E
      by_cases f0 : σ.1 2 4 = 0
      · have HH := yE_ok E f0
        obtain ⟨R, ok2⟩ := ok f0
        have H0 := HH
        obtain ⟨⟨T, f7, f8, hap, hp0, hp1⟩, ⟨b, t, -⟩⟩ := H0
        have T1 := T.2.1
        have T2 := T.2.2.1
        by_cases k2 : τ.1 0 20 = 2
        · have i1 := ok2 (t.trans k2)
          have i160 : ¬ (160 : Int) ≤ (i : Int) := by omega
          have iA : yin (A : Int) 7 = true := by rw [yin_d]; exact decide_eq_true (by omega)
          have ei : yad (i : Int) 1 = ((i + 1 : Nat) : Int) := by rw [yad_e (by omega) (by omega)]; omega
          obtain ⟨a, v, u, σ1, σ3, σ2, τ2, n7, hu, o7, t7, r8, E2, rr, V7, V8, mo, st, ok3⟩ := p_can1 (N := N) hN hA HH R
          have nx : σ2.1 2 4 = 0 → yRD σ2 τ2 ∧ (σ2.1 2 2 = 2 → ((i + 1 : Nat) : Int) < σ2.1 2 1) := fun z => ⟨ok3 z, fun q => by
            have s := st z (by rw [q]; decide)
            have i2 : ((i + 1 : Nat) : Int) = (i : Int) + 1 := by omega
            rw [i2]
            exact Int.lt_of_le_of_lt i1 s⟩
          obtain ⟨σ', τ', g7, g8, E', r', W7, W8, mo', ok'⟩ := ih m (i + 1) σ2 τ2 (by omega) E2 nx
          refine ⟨σ', τ', ?_, ?_, E', r'.trans rr, fun j b h1 h2 => (W7 j b h1 h2).trans (V7 j b h1 h2), fun j b h1 h2 => (W8 j b h1 h2).trans (V8 j b h1 h2), Int.le_trans mo mo', fun z => ⟨(ok' z).1, f0, fun _ => ?_⟩⟩
          · rw [show m + (c + 1) + 1 = (m + c + 1) + 1 from rfl, q_X1_readHouse_b37, ycP_ge, decide_eq_false i160, cond_false, f7, ybz2, ycP_ne, decide_eq_false (show ¬ ¬ σ.1 2 2 = 2 from fun q => q (t.trans k2)), cond_false, n7]
            show (match f_X1_noteDeed N σ1 a with
              | none => none
              | some r6 => _) = _
            unfold f_X1_noteDeed
            rw [hu]
            show (bif yin (A : Int) 7 then match f_X1_tellOnce N (yw σ1 2 12 u) ((yw σ1 2 12 u).1 (38 + 3) (A : Int).toNat) a with
                | none => none
                | some r7 => match f_X1_readToken N (yw r7.2 (38 + 3) (A : Int).toNat r7.1) with
                  | none => none
                  | some r8 => f_X1_readHouse_b37 N (m + c + 1) r8.2 38 (A : Int) (yad (i : Int) 1) else none) = _
            rw [iA, cond_true, Int.toNat_natCast, o7]
            show (match f_X1_readToken N (yw σ3 (38 + 3) A v) with
                  | none => none
                  | some r8 => f_X1_readHouse_b37 N (m + c + 1) r8.2 38 (A : Int) (yad (i : Int) 1)) = _
            rw [t7, ei]
            exact g7
          · rw [show m + (c + 1) + 1 = (m + c + 1) + 1 from rfl, q_X8_readCan_b0, f8, ybz2, ycP_ne, decide_eq_false (show ¬ ¬ τ.1 0 20 = 2 from fun q => q k2), cond_false]
            exact (r8 (f_X8_readCan_b0 N (m + c + 1))).trans g8
          · rw [t, k2]; decide
        · refine ⟨σ, τ, ?_, ?_, E, rfl, fun _ _ _ _ => rfl, fun _ _ _ _ => rfl, Int.le_refl _, fun z => ⟨R, z, fun q => q⟩⟩
          · rw [q_X1_readHouse_b37, f7, ybz2, ycP_ne, decide_eq_true (show ¬ σ.1 2 2 = 2 from fun q => k2 (t.symm.trans q)), cond_true, Bool.cond_self]
            rfl
          · rw [q_X8_readCan_b0, f8, ybz2, ycP_ne, decide_eq_true k2, cond_true]
            rfl
      · refine ⟨σ, τ, ?_, ?_, E, rfl, fun _ _ _ _ => rfl, fun _ _ _ _ => rfl, Int.le_refl _, fun z => absurd z f0⟩
        · rw [q_X1_readHouse_b37, ycP_ne, decide_eq_true f0, cond_true, Bool.cond_self]
          rfl
        · rw [q_X8_readCan_b0, ycP_ne, decide_eq_true (show ¬ τ.1 0 22 = 0 by rw [← fe.1]; exact f0), cond_true]
          rfl
/-- the class behind the house of a house's line, a fault told -/
theorem x1_bhouse2 {N : Nat} (hN : 400 ≤ N) {S0 S : yS} {a : Int} (ha : 0 ≤ a ∧ a ≤ 6) (hr : f_X1_readToken N S0 = some (0, S)) (B2 : yB7 S) (Q2 : yQ7 S) : yRB N S (match f_X1_needNumber N S0 0 99 with
      | none => none
      | some r3 => bif yin a 7 then
          match f_X1_readToken N (yw r3.2 (38 + 2) a.toNat r3.1) with
          | none => none
          | some r4 => f_X1_readHouse_b37 N N r4.2 38 a 0
        else none) := by
  obtain ⟨M, hM⟩ : ∃ M, N = M + 1 := ⟨N - 1, by omega⟩
  have B3 : yB7 (yw S (38 + 2) a.toNat 0) := yB7_z (yZB_w yZB_r (by omega)) B2
  have i0 : yin a 7 = true := by rw [yin_d]; exact decide_eq_true (by omega)
  have lp := q_X1_readHouse_b37 N M (yw S (38 + 2) a.toNat 0) 38 a 0
  rw [show M + 1 = N by omega, ycP_ge, decide_eq_false (by decide), cond_false, ycP_ne, decide_eq_true B3.1, cond_true] at lp
  refine ⟨0, yw S (38 + 2) a.toNat 0, ?_, yZB_w yZB_r (by omega), yQ7_w Q2 (by omega)⟩
  rw [x1_msame hr B2]
  simp only [x1_mbad hN B2, i0, cond_true, x1_tbad B3]
  exact lp
