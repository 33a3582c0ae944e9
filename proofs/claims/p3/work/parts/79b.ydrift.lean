theorem zxor_b (x y : Int32) (h1 : 0 ≤ x.toInt) (h3 : 0 ≤ y.toInt) : 0 ≤ (x ^^^ y).toInt := by
  have e1 : y.toInt = y.toBitVec.toInt := rfl
  have e3 : x.toInt = x.toBitVec.toInt := rfl
  have e2 : (x ^^^ y).toInt = (x.toBitVec ^^^ y.toBitVec).toInt := rfl
  rw [e1] at h3
  rw [e3] at h1
  rw [e2]
  rw [BitVec.toInt_eq_toNat_cond] at h1 h3
  rw [BitVec.toInt_eq_toNat_cond, BitVec.toNat_xor]
  have l1 := x.toBitVec.isLt
  have l2 := y.toBitVec.isLt
  have x1 : x.toBitVec.toNat < 2 ^ 31 := by split at h1 <;> omega
  have y1 : y.toBitVec.toNat < 2 ^ 31 := by split at h3 <;> omega
  have o1 := Nat.xor_lt_two_pow x1 y1
  split <;> omega
theorem yan15 (x : Int) : 0 ≤ yan x 32767 ∧ yan x 32767 ≤ 32767 := by
  have e : (Int32.ofInt 32767).toInt = 32767 := by decide +kernel
  have q := zand_r (Int32.ofInt x) (Int32.ofInt 32767) (by omega)
  rw [e] at q
  exact q
theorem yus16 (x : Int) : yan (yus x 16) 32767 = yan (ysr x 16) 32767 := by
  unfold yan yus ysr
  rw [Int32.ofInt_toInt, Int32.ofInt_toInt]
  refine congrArg Int32.toInt ?_
  apply Int32.toBitVec_inj.1
  generalize Int32.ofInt x = X
  have k1 : ((Int32.ofInt 16 &&& 31).toBitVec.smod 32).toNat = 16 := by decide +kernel
  have k2 : (((Int32.ofInt 16).toUInt32 &&& Int32.toUInt32 31).toBitVec % 32).toNat = 16 := by decide +kernel
  have e1 : (X >>> (Int32.ofInt 16 &&& 31)).toBitVec = X.toBitVec.sshiftRight 16 := by
    show X.toBitVec.sshiftRight ((Int32.ofInt 16 &&& 31).toBitVec.smod 32).toNat = _
    rw [k1]
  have e2 : (X.toUInt32 >>> ((Int32.ofInt 16).toUInt32 &&& Int32.toUInt32 31)).toInt32.toBitVec = X.toBitVec >>> 16 := by
    show X.toBitVec >>> (((Int32.ofInt 16).toUInt32 &&& Int32.toUInt32 31).toBitVec % 32).toNat = _
    rw [k2]
  rw [Int32.toBitVec_and, Int32.toBitVec_and, e1, e2]
  apply BitVec.eq_of_getLsbD_eq
  intro i hi
  rw [BitVec.getLsbD_and, BitVec.getLsbD_and, BitVec.getLsbD_ushiftRight, BitVec.getLsbD_sshiftRight]
  by_cases h : i < 15
  · simp [show ¬ 32 ≤ i by omega, show 16 + i < 32 by omega]
  · have z : (Int32.ofInt 32767).toBitVec.getLsbD i = false := by
      have q : ∀ j : Fin 32, 15 ≤ j.val → (Int32.ofInt 32767).toBitVec.getLsbD j.val = false := by decide +kernel
      exact q ⟨i, hi⟩ (by show 15 ≤ i; omega)
    rw [z, Bool.and_false, Bool.and_false]
theorem yrm_e {a b : Int} (h1 : 0 ≤ a) (h2 : a ≤ 2147483647) (h3 : 0 < b) (h4 : b ≤ 2147483647) : yrm a b = a % b := by
  unfold yrm
  have e1 := zq_of (z := a) (by omega) (by omega)
  have e2 := zq_of (z := b) (by omega) (by omega)
  rw [zrem_b _ _ (by omega) (by omega), e1, e2]
theorem x9_floorMod {N : Nat} {σ : yS} {a b : Int} (h1 : 0 ≤ a) (h2 : a ≤ 2147483647) (h3 : 0 < b) (h4 : b ≤ 2147483647) : f_J9_floorMod_7cf53 N σ a b = some (yrm a b, σ) := by
  have e1 := zq_of (z := a) (by omega) (by omega)
  have e2 := zq_of (z := b) (by omega) (by omega)
  have q : 0 ≤ yxo a b := zxor_b _ _ (by omega) (by omega)
  simp only [f_J9_floorMod_7cf53, f_J9_floorMod_7cf53_b18, ynz_d, ycP_ge, decide_eq_true (show ¬ b = 0 by omega), decide_eq_true q, cond_true]
/-- one more vow on both sides -/
theorem yDY_app {σ τ σ' τ' : yS} {t v m : Nat} {h k p d : Int} (H : yDY σ τ t) (hv : σ.2 t 11 = v) (hm : τ.1 2 77 = (m : Int)) (h10 : m < 10) (hh : 0 ≤ h ∧ h < τ.1 0 3) (hk : 0 ≤ k ∧ k ≤ 4) (hp : 0 ≤ p ∧ p ≤ 9) (hd : 0 ≤ d ∧ d < τ.1 0 5)
    (c2 : σ'.2 = σ.2) (c : ∀ a b : Nat, ¬ (v ≤ a ∧ a < v + 5) → σ'.1 a b = σ.1 a b) (vs : σ'.1 v 0 = (m : Int) + 1) (v1 : ∀ i : Nat, σ'.1 (v + 1) i = if i = m then h else σ.1 (v + 1) i) (v2 : ∀ i : Nat, σ'.1 (v + 2) i = if i = m then k else σ.1 (v + 2) i) (v3 : ∀ i : Nat, σ'.1 (v + 3) i = if i = m then p else σ.1 (v + 3) i) (v4 : ∀ i : Nat, σ'.1 (v + 4) i = if i = m then d else σ.1 (v + 4) i)
    (o : ∀ a b : Nat, ¬ a = 2 → τ'.1 a b = τ.1 a b) (o2 : ∀ j : Nat, j < 77 ∨ 118 ≤ j → τ'.1 2 j = τ.1 2 j) (o77 : τ'.1 2 77 = (m : Int) + 1) (u1 : ∀ i : Nat, i < 10 → τ'.1 2 (78 + 4 * i) = if i = m then h else τ.1 2 (78 + 4 * i)) (u2 : ∀ i : Nat, i < 10 → τ'.1 2 (79 + 4 * i) = if i = m then k else τ.1 2 (79 + 4 * i)) (u3 : ∀ i : Nat, i < 10 → τ'.1 2 (80 + 4 * i) = if i = m then p else τ.1 2 (80 + 4 * i)) (u4 : ∀ i : Nat, i < 10 → τ'.1 2 (81 + 4 * i) = if i = m then d else τ.1 2 (81 + 4 * i)) : yDY σ' τ' t := by
  obtain ⟨R, ⟨t1, t2, ⟨t3, t4⟩, ⟨t5, t6⟩, ⟨d0, d1, d2, d3⟩, t7⟩, ⟨g0, g1, g2, g3, g4, g5⟩, K0⟩ := H
  have hf2 : v = t + 8 ∨ v = t + 13 := by omega
  have g4 : 0 ≤ τ.1 2 118 ∧ τ.1 2 118 ≤ 4 := g4
  refine ⟨yRH_f ⟨c _ _ (by omega), c _ _ (by omega), c _ _ (by omega)⟩ (fun b => c _ _ (by omega)) ⟨o _ _ (by omega), o _ _ (by omega), o _ _ (by omega)⟩ (fun b => o _ _ (by omega)) R, ⟨fun i hi => ?_, fun j hj => ?_, ⟨?_, fun i hi => ?_⟩, ⟨?_, fun i hi => ?_⟩, ⟨?_, ?_, ?_, ?_⟩, ?_⟩, ⟨?_, fun i hi => ?_, ?_, fun i hi => ?_, ?_, fun i hi => ?_⟩, ?_⟩
  all_goals try dsimp only
  · rw [c (t + 2) _ (by omega), c (t + 3) _ (by omega), c t 6 (by omega), c (t + 4) _ (by omega), c (t + 5) _ (by omega), c (t + 6) _ (by omega), o2 i (by omega), o2 (7 + i) (by omega), o2 (14 + i) (by omega), o2 (21 + i) (by omega), o2 (28 + i) (by omega), o2 (35 + i) (by omega)]
    exact t1 i hi
  · rw [c _ _ (by omega), o2 _ (by omega)]; exact t2 j hj
  · rw [c2, hv, vs, o77]
  · dsimp only at hi
    rw [o77] at hi
    rw [c2, hv, v1, v2, v3, v4, u1 i (by omega), u2 i (by omega), u3 i (by omega), u4 i (by omega)]
    by_cases hq : i = m
    · simp [hq]
    · have q := t4 i (show (i : Int) < τ.1 2 77 by omega)
      rw [hv] at q
      simp only [hq, if_false]
      exact q
  · rw [c _ _ (by omega), o2 _ (by omega)]; exact t5
  · dsimp only at hi
    rw [o2 _ (by omega)] at hi
    rw [c _ _ (by omega), c _ _ (by omega), o2 _ (by omega), o2 _ (by omega)]; exact t6 i hi
  · rw [c _ _ (by omega), o2 _ (by omega)]; exact d0
  · rw [c _ _ (by omega), o2 _ (by omega)]; exact d1
  · rw [c _ _ (by omega), o2 _ (by omega)]; exact d2
  · rw [c _ _ (by omega), o2 _ (by omega)]; exact d3
  · rw [c2]; exact t7
  · rw [c _ _ (by omega)]; exact g0
  · rw [o2 (7 + i) (by omega), o2 (14 + i) (by omega), o2 (21 + i) (by omega), o2 (28 + i) (by omega), o2 (35 + i) (by omega)]; exact g1 i hi
  · rw [o77]; omega
  · dsimp only at hi
    rw [o77] at hi
    rw [u1 i (by omega), u2 i (by omega), u3 i (by omega), u4 i (by omega), o 0 3 (by omega), o 0 5 (by omega)]
    by_cases hq : i = m
    · simp only [hq, if_true]
      exact ⟨hh, hk, hp, hd⟩
    · have q := g3 i (show (i : Int) < τ.1 2 77 by omega)
      simp only [hq, if_false]
      exact q
  · rw [o2 _ (by omega)]; exact g4
  · dsimp only at hi
    rw [o2 118 (by omega)] at hi
    rw [o2 _ (by omega), o2 _ (by omega), o 0 3 (by omega), o 0 5 (by omega)]; exact g5 i hi
  · rw [o 0 3 (by omega), o 0 5 (by omega)]
    exact yGk_cong (fun j hj => o2 j (by omega)) K0
