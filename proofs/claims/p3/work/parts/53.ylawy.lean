theorem ybs7 : ∀ (L : Fin 128) (h : Fin 7), ((0 ≤ yor ((L.val : Nat) : Int) (ysl 1 ((h.val : Nat) : Int)) ∧ yor ((L.val : Nat) : Int) (ysl 1 ((h.val : Nat) : Int)) < 128) ∧ (0 ≤ yan ((L.val : Nat) : Int) (yxo (ysl 1 ((h.val : Nat) : Int)) (-1)) ∧ yan ((L.val : Nat) : Int) (yxo (ysl 1 ((h.val : Nat) : Int)) (-1)) < 128)) ∧ ∀ i : Fin 7, yan (ysr (yor ((L.val : Nat) : Int) (ysl 1 ((h.val : Nat) : Int))) ((i.val : Nat) : Int)) 1 = (if i.val = h.val then 1 else yan (ysr ((L.val : Nat) : Int) ((i.val : Nat) : Int)) 1) ∧ yan (ysr (yan ((L.val : Nat) : Int) (yxo (ysl 1 ((h.val : Nat) : Int)) (-1))) ((i.val : Nat) : Int)) 1 = (if i.val = h.val then 0 else yan (ysr ((L.val : Nat) : Int) ((i.val : Nat) : Int)) 1) := by decide +kernel
theorem ybs7_ok {L : Int} (hL : 0 ≤ L ∧ L < 128) {h : Nat} (hh : h < 7) : ((0 ≤ yor L (ysl 1 h) ∧ yor L (ysl 1 h) < 128) ∧ (0 ≤ yan L (yxo (ysl 1 h) (-1)) ∧ yan L (yxo (ysl 1 h) (-1)) < 128)) ∧ ∀ i : Nat, i < 7 → yan (ysr (yor L (ysl 1 h)) i) 1 = (if i = h then 1 else yan (ysr L i) 1) ∧ yan (ysr (yan L (yxo (ysl 1 h) (-1))) i) 1 = (if i = h then 0 else yan (ysr L i) 1) := by
  have q := ybs7 ⟨L.toNat, by omega⟩ ⟨h, hh⟩
  have e1 : ((L.toNat : Nat) : Int) = L := by omega
  simp only [e1] at q
  exact ⟨q.1, fun i hi => q.2 ⟨i, hi⟩⟩
theorem yRN_law {σ τ : yS} (H : yRN σ τ) {h : Nat} (hh : h < 7) {v w : Int} (hr : 0 ≤ v ∧ v ≤ 1) (hw : 0 ≤ w ∧ w < 128) (hb : ∀ i : Nat, i < 7 → yan (ysr w i) 1 = (if i = h then v else yan (ysr (σ.1 17 6) i) 1)) : yRN (yw σ 17 6 w) (yw τ 1 (14 + h) v) := by
  obtain ⟨⟨a0, a1, a2, a3⟩, f0, ⟨e0, e1, e2, b0, b1, b2, hc⟩, ⟨t1, t2, ⟨t3, t4⟩, ⟨t5, t6⟩, ⟨d0, d1, d2, d3⟩, t7⟩, ⟨g0, g1, g2, g3, g4, g5, g6⟩⟩ := H
  have hv : ¬ σ.2 17 11 = 17 ∧ ¬ σ.2 17 11 + 1 = 17 ∧ ¬ σ.2 17 11 + 2 = 17 ∧ ¬ σ.2 17 11 + 3 = 17 ∧ ¬ σ.2 17 11 + 4 = 17 := by omega
  refine ⟨⟨by simpa [yw_1] using a0, by simpa [yw_1] using a1, by simpa [yw_1] using a2, fun j hj => ?_⟩, by simpa [yw_1] using f0, ⟨by simpa [yw_1] using e0, by simpa [yw_1] using e1, by simpa [yw_1] using e2, by simpa [yw_1] using b0, by simpa [yw_1] using b1, by simpa [yw_1] using b2, fun d hd => ?_⟩, ⟨fun i hi => ?_, fun j hj => ?_, ⟨?_, fun i hi => ?_⟩, ⟨?_, fun i hi => ?_⟩, ⟨?_, ?_, ?_, ?_⟩, t7⟩, ⟨by simpa [yw_1] using hw, fun i hi => ?_, ?_, fun i hi => ?_, ?_, fun i hi => ?_, ?_, ?_⟩⟩
  · have q := a3 j (by simpa [yw_1] using hj)
    simpa [yw_1] using q
  · have q := hc d (by simpa [yw_1] using hd)
    simpa [yw_1] using q
  · have q := t1 i hi
    have z0 : ¬ i = 14 + h := by omega
    have z1 : ¬ 7 + i = 14 + h := by omega
    have z3 : ¬ 21 + i = 14 + h := by omega
    have z4 : ¬ 28 + i = 14 + h := by omega
    have z5 : ¬ 35 + i = 14 + h := by omega
    have qb := hb i hi
    by_cases hi2 : i = h
    · subst hi2
      rw [if_pos rfl] at qb
      simp [yw_1, yw_2, z0, z1, z3, z4, z5, qb]
      simp at q
      simp [q]
    · rw [if_neg hi2] at qb
      simp [yw_1, yw_2, hi2, z0, z1, z3, z4, z5, qb]
      simpa using q
  · have q := t2 j hj
    simp [yw_1, show ¬ 42 + j = 14 + h by omega]
    simpa using q
  · simp [yw_1, yw_2, hv, show ¬ 77 = 14 + h by omega]
    simpa using t3
  · have q := t4 i (by simpa [yw_1, show ¬ 77 = 14 + h by omega] using hi)
    simp [yw_1, yw_2, hv, show ¬ 78 + 4 * i = 14 + h by omega, show ¬ 79 + 4 * i = 14 + h by omega, show ¬ 80 + 4 * i = 14 + h by omega, show ¬ 81 + 4 * i = 14 + h by omega]
    simpa using q
  · simp [yw_1, show ¬ 118 = 14 + h by omega]
    simpa using t5
  · have q := t6 i (by simpa [yw_1, show ¬ 118 = 14 + h by omega] using hi)
    simp [yw_1, show ¬ 119 + 2 * i = 14 + h by omega, show ¬ 120 + 2 * i = 14 + h by omega]
    simpa using q
  · simp [yw_1, show ¬ 127 = 14 + h by omega]
    simpa using d0
  · simp [yw_1, show ¬ 128 = 14 + h by omega]
    simpa using d1
  · simp [yw_1, show ¬ 129 = 14 + h by omega]
    simpa using d2
  · simp [yw_1, show ¬ 130 = 14 + h by omega]
    simpa using d3
  · have q := g1 i hi
    have z1 : ¬ 7 + i = 14 + h := by omega
    have z3 : ¬ 21 + i = 14 + h := by omega
    have z4 : ¬ 28 + i = 14 + h := by omega
    have z5 : ¬ 35 + i = 14 + h := by omega
    by_cases hi2 : i = h
    · subst hi2
      simp [yw_1, z1, z3, z4, z5]
      simp at q
      simp [q, hr]
    · simp [yw_1, hi2, z1, z3, z4, z5]
      simpa using q
  · simp [yw_1, show ¬ 77 = 14 + h by omega]
    simpa using g2
  · have q := g3 i (by simpa [yw_1, show ¬ 77 = 14 + h by omega] using hi)
    simp [yw_1, show ¬ 78 + 4 * i = 14 + h by omega, show ¬ 79 + 4 * i = 14 + h by omega, show ¬ 80 + 4 * i = 14 + h by omega, show ¬ 81 + 4 * i = 14 + h by omega]
    simpa using q
  · simp [yw_1, show ¬ 118 = 14 + h by omega]
    simpa using g4
  · have q := g5 i (by simpa [yw_1, show ¬ 118 = 14 + h by omega] using hi)
    simp [yw_1, show ¬ 119 + 2 * i = 14 + h by omega, show ¬ 120 + 2 * i = 14 + h by omega]
    simpa using q
  · simp [yw_1, show ¬ 127 = 14 + h by omega]
    simpa using g6.1
  · simp [yw_1, show ¬ 127 = 14 + h by omega]
    simpa using g6.2
theorem p_lawyer {N : Nat} {σ τ : yS} {h z : Int} (hz : 0 ≤ z ∧ z ≤ 1) (H : yRN σ τ) : ∃ (a : Int) (σ' τ' : yS), f_X7_lawyer N σ h z = some (a, σ') ∧ f_X8_lawyer N τ h z = some (a, τ') ∧ yRN σ' τ' ∧ yFs σ σ' ∧ (∀ a b : Nat, ¬ (a = 1 ∧ 14 ≤ b ∧ b < 21) → τ'.1 a b = τ.1 a b) ∧ (∀ i : Nat, τ.1 0 3 ≤ (i : Int) → τ'.1 1 (14 + i) = τ.1 1 (14 + i)) := by
  have H0 := H
  obtain ⟨-, -, ⟨e0, e1, e2, b0, b1, b2, hc⟩, ⟨t1, -⟩, ⟨g0, g1, -⟩⟩ := H0
  simp only [f_X7_lawyer, f_X7_bit, x7_withBit, f_X8_lawyer, f_X8_lawyer_b24, f_X8_becomes, x8_flag hz, x4_isHouse (show 2 ≤ σ.1 17 0 ∧ σ.1 17 0 ≤ 7 by rw [e0]; exact b0), x8_isHouse b0, ycP_eq, ycP_ne, yin_d, e0]
  by_cases hh : 0 ≤ h ∧ h < τ.1 0 3
  · obtain ⟨n, rfl⟩ : ∃ n : Nat, h = (n : Int) := ⟨h.toNat, by omega⟩
    have e : yad 14 (n : Int) = (14 : Int) + (n : Int) := by rw [yad_e (by omega) (by omega)]
    have c1 : ((14 : Int) + (n : Int)).toNat = 14 + n := by omega
    have q : yan (ysr (σ.1 17 6) n) 1 = τ.1 1 (14 + n) := (t1 n (by omega)).2.2.1
    obtain ⟨⟨r1, r2⟩, r3⟩ := ybs7_ok g0 (show n < 7 by omega)
    refine ⟨τ.1 1 (14 + n), yw σ 17 6 (if z = 0 then yan (σ.1 17 6) (yxo (ysl 1 n) (-1)) else yor (σ.1 17 6) (ysl 1 n)), yw τ 1 (14 + n) z, ?_, ?_, yRN_law H (by omega) hz (by split; exact r2; exact r1) (fun i hi => ?_), (by repeat (first | exact yFs_r | refine yFs_w ?_ (by omega))), (fun a b q => by rw [yw_1, if_neg (by omega)]), (fun i q => by rw [yw_1, if_neg (by omega)])⟩
    · simp [hh, q]
    · simp [hh, e, c1, show (0 : Int) ≤ 14 + n by omega, show (14 : Int) + n < 393 by omega]
    · by_cases hz0 : z = 0
      · rw [if_pos hz0, hz0]
        exact (r3 i hi).2
      · rw [if_neg hz0, show z = 1 by omega]
        exact (r3 i hi).1
  · exact ⟨-1, σ, τ, by simp [hh], by simp [hh], H, yFs_r, fun _ _ _ => rfl, fun _ _ => rfl⟩
