theorem yle4 {a b c d e : Int} (h1 : a ≤ b) (h2 : c = b) (h3 : d ≤ e) (h4 : d = c) : a ≤ e := by omega
theorem ylt4 {a b c d e : Int} (h1 : a ≤ b) (h2 : c = b) (h3 : d < e) (h4 : d = c) : a < e := by omega
theorem y7_1 {σ σ' : yS} {a b : Nat} {x : Int} (h : yK7 (yw σ a b x) σ') (i k : Nat) (h1 : ¬ (i = 2 ∧ 1 ≤ k ∧ k ≤ 5)) (h2 : ¬ (i = a ∧ k = b)) : σ'.1 i k = σ.1 i k := by
  rw [h.2 i k h1, yw_n (by omega)]
theorem y7_2 {σ σ' : yS} {a b c d : Nat} {x y : Int} (h : yK7 (yw (yw σ a b x) c d y) σ') (i k : Nat) (h1 : ¬ (i = 2 ∧ 1 ≤ k ∧ k ≤ 5)) (h2 : ¬ (i = a ∧ k = b)) (h3 : ¬ (i = c ∧ k = d)) : σ'.1 i k = σ.1 i k := by
  rw [h.2 i k h1, yw_n (by omega), yw_n (by omega)]
theorem y8_0 {τ τ' : yS} {s : Int} (h : yK8 (yw τ 0 10 s) τ') (hs : τ.1 0 10 = s) (i k : Nat) (h1 : ¬ (i = 0 ∧ 18 ≤ k ∧ k ≤ 23)) : τ'.1 i k = τ.1 i k := by
  rw [h i k h1]
  by_cases q : k = 10 ∧ i = 0
  · obtain ⟨rfl, rfl⟩ := q
    rw [yw_p, hs]
  · rw [yw_n q]
theorem yRD_deed {σ τ σ' τ' : yS} {d : Nat} {a : Int} (R : yRD σ τ) (hd : τ.1 0 11 = (d : Int)) (h5 : d < 5) (ha : 0 ≤ a ∧ a ≤ 9) (r : σ'.2 = σ.2) (w7 : ∀ i k : Nat, ¬ (i = 2 ∧ 1 ≤ k ∧ k ≤ 5) → ¬ (i = 39 ∧ k = d) → ¬ (i = 38 ∧ k = 2) → σ'.1 i k = σ.1 i k) (x1 : σ'.1 39 d = a) (x2 : σ'.1 38 2 = ((d + 1 : Nat) : Int)) (w8 : ∀ i k : Nat, ¬ (i = 0 ∧ 18 ≤ k ∧ k ≤ 23) → ¬ (i = 6 ∧ k = d) → ¬ (i = 0 ∧ k = 11) → τ'.1 i k = τ.1 i k) (y1 : τ'.1 6 d = a) (y2 : τ'.1 0 11 = ((d + 1 : Nat) : Int)) : yRD σ' τ' := by
  have R0 := R
  obtain ⟨⟨q1, q2, q3, q4, q5, q6, q7⟩, -, -, -, -, ⟨s1, s2, s3⟩, -⟩ := R
  refine yRD_mk (σ := σ) (τ := τ) R0 ⟨?_, ?_, ?_, ?_, ?_, ?_, fun e he => ?_⟩ (fun k => by rw [r]) (fun i k h => w7 _ _ (by omega) (by omega) (by omega)) (fun j => w8 _ _ (by omega) (by omega) (by omega)) ⟨w8 _ _ (by omega) (by omega) (by omega), w8 _ _ (by omega) (by omega) (by omega)⟩ ?_ (fun k h => w7 _ _ (by omega) (by omega) (by omega)) (fun k => w8 _ _ (by omega) (by omega) (by omega))
  · rw [w7 _ _ (by omega) (by omega) (by omega), w8 _ _ (by omega) (by omega) (by omega)]; exact q1
  · rw [w7 _ _ (by omega) (by omega) (by omega), w8 _ _ (by omega) (by omega) (by omega)]; exact q2
  · rw [x2, y2]
  · rw [w8 _ _ (by omega) (by omega) (by omega)]; exact q4
  · rw [w8 _ _ (by omega) (by omega) (by omega)]; exact q5
  · rw [y2]; omega
  · rw [y2] at he
    by_cases ed : e = d
    · subst ed
      rw [x1, y1]
      exact ⟨rfl, ha⟩
    · rw [w7 _ _ (by omega) (by omega) (by omega), w8 _ _ (by omega) (by omega) (by omega)]
      exact q7 e (by omega)
  · rw [w7 _ _ (by omega) (by omega) (by omega), w8 _ _ (by omega) (by omega) (by omega)]
    exact ⟨s1, s2, s3⟩
/-- bounds of the class's terrace, by what is left alone -/
theorem yQ7_d {σ σ' : yS} {v : Int} (Q : yQ7 σ) (r : σ'.2 = σ.2) (h : σ'.1 38 2 = v) (hv : 0 ≤ v ∧ v ≤ 5) (w : ∀ i : Nat, 46 ≤ i → σ'.1 i 0 = σ.1 i 0) : yQ7 σ' := by
  obtain ⟨q1, q2, q3, q4⟩ := Q
  have t := q1
  unfold yTr at t
  refine ⟨by unfold yTr; rw [r]; exact q1, by rw [h]; exact hv, ?_, by rw [w 56 (by omega)]; exact q4⟩
  rw [r, w _ (by omega)]
  exact q3
theorem p_ldeed {N : Nat} (hN : 400 ≤ N) {σ τ : yS} (HH : yLx σ τ ∧ yTk σ τ) (R : yRD σ τ) (h5 : ¬ τ.1 0 11 = 5) : yLL N σ τ (f_X1_readDeed N σ 38) (f_X8_readLine_b156 N τ 5 (τ.1 0 10)) := by
  have q3 := R.1.2.2.1
  have q6 := R.1.2.2.2.2.2.1
  have s23 := R.2.2.2.2.2.1.2
  obtain ⟨d, hd⟩ : ∃ d : Nat, τ.1 0 11 = (d : Int) := ⟨(τ.1 0 11).toNat, by omega⟩
  have d5 : d < 5 := by omega
  have dd : σ.1 38 2 = (d : Int) := q3.trans hd
  have i5 : yin (d : Int) 5 = true := by rw [yin_d]; exact decide_eq_true (by omega)
  have e1 : yad (d : Int) 1 = ((d + 1 : Nat) : Int) := by rw [yad_e (by omega) (by omega)]; omega
  have d6 : ¬ (5 : Int) ≤ (d : Int) := by omega
  have d7 : (d : Int) < 5 := by omega
  have dv : 0 ≤ ((d + 1 : Nat) : Int) ∧ ((d + 1 : Nat) : Int) ≤ 5 := by omega
  clear q3 q6 h5
  have E0 : yE σ (yw τ 0 10 (τ.1 0 10)) := yE_w8 (Or.inl HH) (by decide)
  obtain ⟨σ1, τ1, g7, g8, E1, k7, k8, mo1, z1, st1, nb1⟩ := p_next (N := N) hN E0
  have c0 : f_X1_readDeed N σ 38 = f_X1_readDeed_b17 N σ 38 := by
    unfold f_X1_readDeed
    rw [dd, ycP_lt, decide_eq_true d7, cond_true]
  by_cases f1 : τ1.1 0 22 = 0
  · obtain ⟨a, b, σ2, τ2, n7, n8, E2, j7, j8, ha, hb, ok, mo2⟩ := p_needNumber (N := N) hN (lo := 0) (hi := 9) g7 (by decide) E1
    have E3 : yE (yw (yw σ2 39 d a) 38 2 ((d + 1 : Nat) : Int)) τ2 := yE_w7 (yE_w7 E2 (by omega)) (by decide)
    obtain ⟨σ3, τ3, t7, t8, E4, i7, i8, mo3, z3, st3, nb3⟩ := p_next (N := N) hN E3
    have K7 := yK7_t k7 j7
    have K8 := yK8_t j8 i8
    have d2 : σ2.1 38 2 = (d : Int) := (K7.2 38 2 (by decide)).trans dd
    have c7 : f_X1_readDeed N σ 38 = some (0, σ3) := by
      rw [c0]
      simp only [f_X1_readDeed_b17, n7, f_X4_addDeed, f_X4_addDeed_b20, f_X4_addDeed_b28, ycP_ge, d2, decide_eq_false d6, cond_false, i5, cond_true, Int.toNat_natCast]
      rw [yw_n (a := 38) (b := 2) (by omega), d2, e1, t7]
    have t11 : τ1.1 0 11 = (d : Int) := (y8_0 k8 rfl 0 11 (by decide)).trans hd
    have t33 : τ3.1 0 11 = (d : Int) := (K8 0 11 (by decide)).trans t11
    have r8 : f_X8_readLineOf N τ1 5 = some (0, yw (yw τ3 6 d b) 0 11 ((d + 1 : Nat) : Int)) := by
      have rn : f_X8_readNumber N τ1 0 9 = some (b, τ3) := by
        simp only [f_X8_readNumber, n8, t8]
      unfold f_X8_readLineOf
      rw [yeq_d, decide_eq_false (by decide), cond_false, yeq_d, decide_eq_false (by decide), cond_false, yeq_d, decide_eq_true rfl, cond_true, rn]
      show (bif yin (τ1.1 0 11) 5 then f_X8_readLineOf_b82 N (yw τ3 6 (τ1.1 0 11).toNat b) else none) = _
      rw [t11, i5, cond_true, Int.toNat_natCast]
      unfold f_X8_readLineOf_b82
      rw [yw_n (a := 0) (b := 11) (by omega), t33, e1]
      rfl
    have E5 : yE σ3 (yw (yw τ3 6 d b) 0 11 ((d + 1 : Nat) : Int)) := yE_w8 (yE_w8 E4 (by omega)) (by decide)
    have w7 : ∀ i k : Nat, ¬ (i = 2 ∧ 1 ≤ k ∧ k ≤ 5) → ¬ (i = 39 ∧ k = d) → ¬ (i = 38 ∧ k = 2) → σ3.1 i k = σ.1 i k := fun i k h1 h2 h3 => (y7_2 i7 i k h1 h2 h3).trans (K7.2 i k h1)
    have w8 : ∀ i k : Nat, ¬ (i = 0 ∧ 18 ≤ k ∧ k ≤ 23) → ¬ (i = 6 ∧ k = d) → ¬ (i = 0 ∧ k = 11) → (yw (yw τ3 6 d b) 0 11 ((d + 1 : Nat) : Int)).1 i k = τ.1 i k := fun i k h1 h2 h3 => by
      rw [yw_n (fun q => h3 ⟨q.2, q.1⟩), yw_n (fun q => h2 ⟨q.2, q.1⟩)]
      exact (K8 i k h1).trans (y8_0 k8 rfl i k h1)
    have x2 : σ3.1 38 2 = ((d + 1 : Nat) : Int) := (i7.2 38 2 (by decide)).trans yw_p
    have rr : σ3.2 = σ.2 := i7.1.trans (K7.1)
    have m3 : (yw (yw σ2 39 d a) 38 2 ((d + 1 : Nat) : Int)).1 2 1 = σ2.1 2 1 := by rw [yw_n (by decide), yw_n (by omega)]
    have m4 : (yw (yw σ2 39 d a) 38 2 ((d + 1 : Nat) : Int)).1 2 4 = σ2.1 2 4 := by rw [yw_n (by decide), yw_n (by omega)]
    have l6 : σ3.1 2 6 = σ.1 2 6 := w7 2 6 (by decide) (fun q => absurd q.1 (by decide)) (by decide)
    have Z7 : yZ7 σ σ3 := ⟨rr, fun i k h1 h2 => w7 i k (fun q => h1 q.1) (fun q => h2 (by omega)) (fun q => h2 (by omega))⟩
    refine ⟨0, σ3, yw (yw τ3 6 d b) 0 11 ((d + 1 : Nat) : Int), c7, (x8_b156 s23 g8).2 f1 _ r8, E5, Z7, fun i k h1 h2 h3 h4 => w8 i k (fun q => h4 (by omega)) (fun q => h2 q.1) (fun q => h4 (by omega)), l6, fun z => ⟨?_, ?_, fun q => ?_⟩, fun z => ?_⟩
    · have z2 : σ2.1 2 4 = 0 := m4.symm.trans (z3 z)
      obtain ⟨x1, -, -⟩ := ok z2
      refine yRD_deed R hd d5 ha rr w7 ?_ x2 w8 ?_ yw_p
      · exact (i7.2 39 d (by omega)).trans ((yw_n (by omega)).trans yw_p)
      · rw [x1]
        exact (yw_n (by omega)).trans yw_p
    · exact yle4 mo1 mo2 mo3 m3
    · exact ylt4 mo1 mo2 (st3 z (by rw [q]; decide)) m3
    · exact yQ7_d (yRD_Q R) rr x2 dv (fun i hi => w7 i 0 (by omega) (by omega) (by omega))
  · have fe := yE_f E1
    have B1 : yB7 σ1 := yB7_e E1 (by omega)
    have Q1 : yQ7 σ1 := yQ7_f (yRD_Q R) k7.1 ⟨k7.2 _ _ (by decide), k7.2 _ _ (by decide), k7.2 _ _ (by decide), k7.2 _ _ (by decide)⟩
    have F := x1_bdeed hN B1 Q1
    have eq : f_X1_readDeed N σ 38 = f_X1_readDeed_b17 N σ1 38 := by
      rw [c0]
      simp only [f_X1_readDeed_b17, x1_msame g7 B1]
    rw [eq]
    exact p_lfirst s23 g8 E1 f1 F (yZ7_k k7) k8 (k7.2 _ _ (by decide))
