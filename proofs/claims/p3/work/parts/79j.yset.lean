theorem yor_assoc (a b c : Int) : yor (yor a b) c = yor a (yor b c) := by
  unfold yor
  rw [Int32.ofInt_toInt, Int32.ofInt_toInt]
  refine congrArg Int32.toInt (Int32.toBitVec_inj.1 ?_)
  exact BitVec.or_assoc _ _ _
theorem yor_comm (a b : Int) : yor a b = yor b a := by
  unfold yor
  refine congrArg Int32.toInt (Int32.toBitVec_inj.1 ?_)
  exact BitVec.or_comm _ _
theorem yan_or (a b c : Int) : yan (yor a b) c = yor (yan a c) (yan b c) := by
  unfold yan yor
  rw [Int32.ofInt_toInt, Int32.ofInt_toInt, Int32.ofInt_toInt]
  refine congrArg Int32.toInt (Int32.toBitVec_inj.1 ?_)
  apply BitVec.eq_of_getLsbD_eq
  intro i hi
  simp only [Int32.toBitVec_and, Int32.toBitVec_or, BitVec.getLsbD_and, BitVec.getLsbD_or]
  cases (Int32.ofInt a).toBitVec.getLsbD i <;> cases (Int32.ofInt b).toBitVec.getLsbD i <;> cases (Int32.ofInt c).toBitVec.getLsbD i <;> rfl
theorem yor_0 (x : Int32) : yor x.toInt 0 = x.toInt := by
  unfold yor
  rw [Int32.ofInt_toInt]
  refine congrArg Int32.toInt (Int32.toBitVec_inj.1 ?_)
  exact BitVec.or_zero
theorem yor_an (a b : Int) : yor (yan a b) 0 = yan a b := yor_0 _
theorem yor_or (a b : Int) : yor (yor a b) 0 = yor a b := yor_0 _
/-- a set of houses moved by a step -/
noncomputable def ysh (r H x s : Int) : Int := if r = 0 then yan (if 0 ≤ s then ysl x s else ysr x (yne s)) (ysu (ysl 1 H) 1) else yan (yor (ysl x (yrm (yad s H) H)) (ysr x (ysu H (yrm (yad s H) H)))) (ysu (ysl 1 H) 1)
theorem ysh_z (r H x s : Int) : yor (ysh r H x s) 0 = ysh r H x s := by
  unfold ysh
  split
  · exact yor_an _ _
  · exact yor_an _ _
theorem x4_shiftSet {N : Nat} {σ : yS} {t : Nat} {x s : Int} (h : 0 < σ.1 t 0) : f_X4_shiftSet N σ t x s = some (ysh (σ.1 t 1) (σ.1 t 0) x s, σ) := by
  have hz : ynz (σ.1 t 0) = true := by rw [ynz_d]; exact decide_eq_true (by omega)
  simp only [f_X4_shiftSet, f_X4_shiftSet_b53, f_X4_shiftSet_b67, ycP_eq, ycP_le, ycP_ge, hz, ysh]
  by_cases h1 : σ.1 t 1 = 0
  · by_cases h2 : 0 ≤ s
    · simp [h1, h2]
    · simp [h1, h2]
  · simp [h1, show ¬ σ.1 t 0 ≤ 0 by omega]
/-- where what is made in a house falls -/
noncomputable def yof (r H h s : Int) : Int := if r = 0 then (if 0 ≤ yad h s ∧ yad h s ≤ ysu H 1 then yad h s else -4) else yrm (yad (yad h s) H) H
theorem x8_off {N : Nat} {τ : yS} {h s : Int} (hp : 0 < τ.1 0 3) : f_X8_off N τ h s = some (yof (τ.1 0 4) (τ.1 0 3) h s, τ) := by
  have hz : ynz (τ.1 0 3) = true := by rw [ynz_d]; exact decide_eq_true (by omega)
  simp only [f_X8_off, f_X8_off_b45, x8_in, ycP_eq, hz, yof]
  by_cases h1 : τ.1 0 4 = 0
  · by_cases h2 : 0 ≤ yad h s ∧ yad h s ≤ ysu (τ.1 0 3) 1
    · simp [h1, h2]
    · simp [h1, h2]
  · simp [h1]
/-- the bit that a house adds -/
noncomputable def yB (r H x h s : Int) : Int := if yan (ysr x h) 1 = 1 ∧ ¬ yof r H h s = -4 then ysl 1 (yof r H h s) else 0
noncomputable def ystp (i : Nat) : Int := if i = 0 then -1 else if i = 1 then 1 else 2
theorem ysh_b0 : ∀ r : Fin 2, ∀ H : Fin 8, 2 ≤ H.val → ∀ h : Fin 7, h.val < H.val → ∀ x : Fin 128, x.val < 2 ^ (h.val + 1) → ∀ s : Fin 3, ysh ((r.val : Nat) : Int) ((H.val : Nat) : Int) ((x.val : Nat) : Int) (ystp s.val) = yor (ysh ((r.val : Nat) : Int) ((H.val : Nat) : Int) ((x.val % 2 ^ h.val : Nat) : Int) (ystp s.val)) (yB ((r.val : Nat) : Int) ((H.val : Nat) : Int) ((x.val : Nat) : Int) ((h.val : Nat) : Int) (ystp s.val)) := by decide +kernel
theorem ysh_b1 : ∀ x : Fin 128, ∀ h : Fin 7, yan (ysr ((x.val % 2 ^ (h.val + 1) : Nat) : Int) ((h.val : Nat) : Int)) 1 = yan (ysr ((x.val : Nat) : Int) ((h.val : Nat) : Int)) 1 := by decide +kernel
theorem ysh_b (r : Fin 2) (H : Fin 8) (x : Fin 128) (h : Fin 7) (s : Fin 3) (h2 : 2 ≤ H.val) (hh : h.val < H.val) : ysh ((r.val : Nat) : Int) ((H.val : Nat) : Int) ((x.val % 2 ^ (h.val + 1) : Nat) : Int) (ystp s.val) = yor (ysh ((r.val : Nat) : Int) ((H.val : Nat) : Int) ((x.val % 2 ^ h.val : Nat) : Int) (ystp s.val)) (yB ((r.val : Nat) : Int) ((H.val : Nat) : Int) ((x.val : Nat) : Int) ((h.val : Nat) : Int) (ystp s.val)) := by
  have q := ysh_b0 r H h2 h hh ⟨x.val % 2 ^ (h.val + 1), Nat.lt_of_le_of_lt (Nat.mod_le _ _) x.isLt⟩ (Nat.mod_lt _ (Nat.two_pow_pos _)) s
  have e : ∀ z : Int, yB ((r.val : Nat) : Int) ((H.val : Nat) : Int) ((x.val % 2 ^ (h.val + 1) : Nat) : Int) ((h.val : Nat) : Int) z = yB ((r.val : Nat) : Int) ((H.val : Nat) : Int) ((x.val : Nat) : Int) ((h.val : Nat) : Int) z := fun z => by
    unfold yB
    rw [ysh_b1 x h]
  have d : x.val % 2 ^ (h.val + 1) % 2 ^ h.val = x.val % 2 ^ h.val := Nat.mod_mod_of_dvd _ (Nat.pow_dvd_pow 2 (Nat.le_succ h.val))
  dsimp only at q
  rw [d, e] at q
  exact q
theorem ysh_0 : ∀ r : Fin 2, ∀ H : Fin 8, ∀ s : Fin 3, 2 ≤ H.val → ysh ((r.val : Nat) : Int) ((H.val : Nat) : Int) 0 (ystp s.val) = 0 := by decide +kernel
theorem yof_b : ∀ r : Fin 2, ∀ H : Fin 8, ∀ h : Fin 7, ∀ s : Fin 3, 2 ≤ H.val → h.val < H.val → yof ((r.val : Nat) : Int) ((H.val : Nat) : Int) ((h.val : Nat) : Int) (ystp s.val) = -4 ∨ (0 ≤ yof ((r.val : Nat) : Int) ((H.val : Nat) : Int) ((h.val : Nat) : Int) (ystp s.val) ∧ yof ((r.val : Nat) : Int) ((H.val : Nat) : Int) ((h.val : Nat) : Int) (ystp s.val) < ((H.val : Nat) : Int)) := by decide +kernel
theorem ylb : ∀ L : Fin 128, ∀ h : Fin 7, (yan (ysr ((L.val : Nat) : Int) ((h.val : Nat) : Int)) 1 = 0 → yan (ysl 1 ((h.val : Nat) : Int)) (yxo ((L.val : Nat) : Int) (-1)) = ysl 1 ((h.val : Nat) : Int)) ∧ (¬ yan (ysr ((L.val : Nat) : Int) ((h.val : Nat) : Int)) 1 = 0 → yan (ysl 1 ((h.val : Nat) : Int)) (yxo ((L.val : Nat) : Int) (-1)) = 0) := by decide +kernel
theorem ysl0 : ∀ h : Fin 7, ysl 0 ((h.val : Nat) : Int) = 0 := by decide +kernel
theorem yan0 (L : Int) : yan 0 L = 0 := by
  unfold yan
  have : (Int32.ofInt 0 &&& Int32.ofInt L) = 0 := by
    apply Int32.toBitVec_inj.1
    exact BitVec.zero_and
  rw [this]
  rfl
