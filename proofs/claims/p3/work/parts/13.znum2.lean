theorem zq_ne {y : Int} (h1 : -2147483648 ≤ y) (h2 : y ≤ 2147483647) (h : y < 0 ∨ 0 < y) : ¬ Int32.ofInt y = 0 := by
  intro q
  have e := congrArg Int32.toInt q
  rw [zq_of h1 h2] at e
  have e0 : (0 : Int32).toInt = 0 := by decide +kernel
  omega
theorem zq_neL {y : Int} (h1 : -9223372036854775808 ≤ y) (h2 : y ≤ 9223372036854775807) (h : y < 0 ∨ 0 < y) : ¬ Int64.ofInt y = 0 := by
  intro q
  have e := congrArg Int64.toInt q
  rw [zq_ofL h1 h2] at e
  have e0 : (0 : Int64).toInt = 0 := by decide +kernel
  omega
theorem zdiv_b (x y : Int32) (h1 : 0 ≤ x.toInt) (h2 : 0 < y.toInt) : (x / y).toInt = x.toInt / y.toInt := by
  have b1 := zq_rng x
  have e : x.toInt.tdiv y.toInt = x.toInt / y.toInt := Int.tdiv_eq_ediv_of_nonneg h1
  have n1 : 0 ≤ x.toInt / y.toInt := Int.ediv_nonneg h1 (by omega)
  have n2 : x.toInt / y.toInt ≤ x.toInt := Int.ediv_le_self _ h1
  rw [Int32.toInt_div, e, zq_bmod (by omega) (by omega)]
theorem zrem_b (x y : Int32) (h1 : 0 ≤ x.toInt) (h2 : 0 < y.toInt) : (x - x / y * y).toInt = x.toInt % y.toInt := by
  have b1 := zq_rng x
  have e := zdiv_b x y h1 h2
  have d := Int.emod_add_mul_ediv x.toInt y.toInt
  have m1 := Int.emod_nonneg x.toInt (b := y.toInt) (by omega)
  have n1 : 0 ≤ x.toInt / y.toInt := Int.ediv_nonneg h1 (by omega)
  have n3 : 0 ≤ x.toInt / y.toInt * y.toInt := Int.mul_nonneg n1 (by omega)
  have cm : y.toInt * (x.toInt / y.toInt) = x.toInt / y.toInt * y.toInt := Int.mul_comm _ _
  rw [Int32.toInt_sub, Int32.toInt_mul, e, zq_bmod (z := x.toInt / y.toInt * y.toInt) (by omega) (by omega), zq_bmod (by omega) (by omega)]
  omega
theorem zdiv_bL (x y : Int64) (h1 : 0 ≤ x.toInt) (h2 : 0 < y.toInt) : (x / y).toInt = x.toInt / y.toInt := by
  have b1 := zq_rngL x
  have e : x.toInt.tdiv y.toInt = x.toInt / y.toInt := Int.tdiv_eq_ediv_of_nonneg h1
  have n1 : 0 ≤ x.toInt / y.toInt := Int.ediv_nonneg h1 (by omega)
  have n2 : x.toInt / y.toInt ≤ x.toInt := Int.ediv_le_self _ h1
  rw [Int64.toInt_div, e, zq_bmodL (by omega) (by omega)]
theorem zrem_bL (x y : Int64) (h1 : 0 ≤ x.toInt) (h2 : 0 < y.toInt) : (x - x / y * y).toInt = x.toInt % y.toInt := by
  have b1 := zq_rngL x
  have e := zdiv_bL x y h1 h2
  have d := Int.emod_add_mul_ediv x.toInt y.toInt
  have m1 := Int.emod_nonneg x.toInt (b := y.toInt) (by omega)
  have n1 : 0 ≤ x.toInt / y.toInt := Int.ediv_nonneg h1 (by omega)
  have n3 : 0 ≤ x.toInt / y.toInt * y.toInt := Int.mul_nonneg n1 (by omega)
  have cm : y.toInt * (x.toInt / y.toInt) = x.toInt / y.toInt * y.toInt := Int.mul_comm _ _
  rw [Int64.toInt_sub, Int64.toInt_mul, e, zq_bmodL (z := x.toInt / y.toInt * y.toInt) (by omega) (by omega), zq_bmodL (by omega) (by omega)]
  omega
def zpos2 (i j : zI) : Bool := zle 0 i.1 && zle 1 j.1
def zdiv (i j : zI) (_ _ : zV) : zV ⊕ zI := bif zpos2 i j then (bif zle j.2 j.1 then .inr (i.1 / j.1, i.2 / j.1) else .inr (0, i.2)) else .inr zfull
theorem zdiv_ok {r : Nat → Int} {i j : zI} {v1 v2 : zV} (hi : zB r i v1) (hj : zB r j v2) (ii : zint i = true) (jj : zint j = true) : zresI r (Int32.ofInt (zev r v1) / Int32.ofInt (zev r v2)) (zdiv i j v1 v2) := by
  obtain ⟨a1, a2⟩ := hi
  obtain ⟨b1, b2⟩ := hj
  have c1 := zint_ok ii a1 a2
  have c2 := zint_ok jj b1 b2
  have d1 := zq_of c1.1 c1.2
  have d2 := zq_of c2.1 c2.2
  unfold zdiv
  cases hz : zpos2 i j with
  | false => exact zres_full _ _
  | true =>
    simp only [zpos2, Bool.and_eq_true] at hz
    have p1 := zle_ok hz.1
    have p2 := zle_ok hz.2
    have q := zdiv_b (Int32.ofInt (zev r v1)) (Int32.ofInt (zev r v2)) (by omega) (by omega)
    rw [d1, d2] at q
    dsimp only [cond]
    cases hk : zle j.2 j.1 with
    | true =>
      have p3 := zle_ok hk
      have e : zev r v2 = j.1 := by omega
      show _ ≤ _ ∧ _ ≤ _
      rw [q, e]
      exact ⟨Int.ediv_le_ediv (by omega) a1, Int.ediv_le_ediv (by omega) a2⟩
    | false =>
      show _ ≤ _ ∧ _ ≤ _
      rw [q]
      exact ⟨Int.ediv_nonneg (by omega) (by omega), Int.le_trans (Int.ediv_le_self _ (by omega)) a2⟩
def zrem (i j : zI) (_ _ : zV) : zV ⊕ zI := bif zpos2 i j then .inr (0, zmin i.2 (j.2 - 1)) else .inr zfull
theorem zrem_ok {r : Nat → Int} {i j : zI} {v1 v2 : zV} (hi : zB r i v1) (hj : zB r j v2) (ii : zint i = true) (jj : zint j = true) : zresI r (Int32.ofInt (zev r v1) - Int32.ofInt (zev r v1) / Int32.ofInt (zev r v2) * Int32.ofInt (zev r v2)) (zrem i j v1 v2) := by
  obtain ⟨a1, a2⟩ := hi
  obtain ⟨b1, b2⟩ := hj
  have c1 := zint_ok ii a1 a2
  have c2 := zint_ok jj b1 b2
  have d1 := zq_of c1.1 c1.2
  have d2 := zq_of c2.1 c2.2
  unfold zrem
  cases hz : zpos2 i j with
  | false => exact zres_full _ _
  | true =>
    simp only [zpos2, Bool.and_eq_true] at hz
    have p1 := zle_ok hz.1
    have p2 := zle_ok hz.2
    have q := zrem_b (Int32.ofInt (zev r v1)) (Int32.ofInt (zev r v2)) (by omega) (by omega)
    rw [d1, d2] at q
    show _ ≤ _ ∧ _ ≤ _
    rw [q]
    have m1 := Int.emod_nonneg (zev r v1) (b := zev r v2) (by omega)
    have m2 := Int.emod_lt_of_pos (zev r v1) (b := zev r v2) (by omega)
    have dd := Int.emod_add_mul_ediv (zev r v1) (zev r v2)
    have n1 : 0 ≤ zev r v1 / zev r v2 := Int.ediv_nonneg (by omega) (by omega)
    have n3 : 0 ≤ zev r v2 * (zev r v1 / zev r v2) := Int.mul_nonneg (by omega) n1
    exact ⟨m1, zmin_le (by omega) (by omega)⟩
def zneg (i : zI) (v : zV) : zV ⊕ zI := bif zint (-i.2, -i.1) then (bif Nat.beq v.1 0 then .inl (0, -v.2) else .inr (-i.2, -i.1)) else .inr zfull
theorem zneg_ok {r : Nat → Int} {i : zI} {v : zV} (h0 : r 0 = 0) (hi : zB r i v) (ii : zint i = true) : zresI r (-Int32.ofInt (zev r v)) (zneg i v) := by
  obtain ⟨a1, a2⟩ := hi
  have c1 := zint_ok ii a1 a2
  have d1 := zq_of c1.1 c1.2
  unfold zneg
  cases hz : zint (-i.2, -i.1) with
  | false => exact zres_full _ _
  | true =>
    have c3 := zint_ok hz (y := -zev r v) (by dsimp only; omega) (by dsimp only; omega)
    have e : -Int32.ofInt (zev r v) = Int32.ofInt (-zev r v) := by
      apply Int32.toInt_inj.1
      rw [Int32.toInt_neg, d1, zq_of c3.1 c3.2, zq_bmod c3.1 c3.2]
    rw [e]
    dsimp only [cond]
    cases hb : Nat.beq v.1 0 with
    | true =>
      have := Nat.eq_of_beq_eq_true hb
      show Int32.ofInt _ = Int32.ofInt _
      congr 1
      unfold zev; rw [this, h0]; dsimp only; omega
    | false =>
      show _ ≤ _ ∧ _ ≤ _
      rw [zq_of c3.1 c3.2]
      exact ⟨by dsimp only; omega, by dsimp only; omega⟩
def zaddL (i j : zI) (v1 v2 : zV) : zV ⊕ zI := bif zlng (i.1 + j.1, i.2 + j.2) then (bif Nat.beq v2.1 0 then .inl (v1.1, v1.2 + v2.2) else bif Nat.beq v1.1 0 then .inl (v2.1, v1.2 + v2.2) else .inr (i.1 + j.1, i.2 + j.2)) else .inr zfullL
theorem zaddL_ok {r : Nat → Int} {i j : zI} {v1 v2 : zV} (h0 : r 0 = 0) (hi : zB r i v1) (hj : zB r j v2) (ii : zlng i = true) (jj : zlng j = true) : zresL r (Int64.ofInt (zev r v1) + Int64.ofInt (zev r v2)) (zaddL i j v1 v2) := by
  unfold zaddL
  cases hz : zlng (i.1 + j.1, i.2 + j.2) with
  | false => exact zres_fullL _ _
  | true =>
    obtain ⟨a1, a2⟩ := hi
    obtain ⟨b1, b2⟩ := hj
    have c1 := zlng_ok ii a1 a2
    have c2 := zlng_ok jj b1 b2
    have c3 := zlng_ok hz (y := zev r v1 + zev r v2) (by dsimp only; omega) (by dsimp only; omega)
    have e : Int64.ofInt (zev r v1) + Int64.ofInt (zev r v2) = Int64.ofInt (zev r v1 + zev r v2) := by
      apply Int64.toInt_inj.1
      rw [Int64.toInt_add, zq_ofL c1.1 c1.2, zq_ofL c2.1 c2.2, zq_ofL c3.1 c3.2, zq_bmodL c3.1 c3.2]
    rw [e]
    dsimp only [cond]
    cases hb : Nat.beq v2.1 0 with
    | true =>
      have := Nat.eq_of_beq_eq_true hb
      show Int64.ofInt _ = Int64.ofInt _
      congr 1
      unfold zev; rw [this, h0]; dsimp only; omega
    | false =>
      dsimp only
      cases hc : Nat.beq v1.1 0 with
      | true =>
        have := Nat.eq_of_beq_eq_true hc
        show Int64.ofInt _ = Int64.ofInt _
        congr 1
        unfold zev; rw [this, h0]; dsimp only; omega
      | false =>
        show _ ≤ _ ∧ _ ≤ _
        rw [zq_ofL c3.1 c3.2]
        exact ⟨by dsimp only; omega, by dsimp only; omega⟩
def zmulL (i j : zI) (_ _ : zV) : zV ⊕ zI := bif zle 0 i.1 && zle 0 j.1 && zlng (i.1 * j.1, i.2 * j.2) then .inr (i.1 * j.1, i.2 * j.2) else .inr zfullL
theorem zmulL_ok {r : Nat → Int} {i j : zI} {v1 v2 : zV} (hi : zB r i v1) (hj : zB r j v2) (ii : zlng i = true) (jj : zlng j = true) : zresL r (Int64.ofInt (zev r v1) * Int64.ofInt (zev r v2)) (zmulL i j v1 v2) := by
  unfold zmulL
  cases hz : zle 0 i.1 && zle 0 j.1 && zlng (i.1 * j.1, i.2 * j.2) with
  | false => exact zres_fullL _ _
  | true =>
    simp only [Bool.and_eq_true] at hz
    have p1 := zle_ok hz.1.1
    have p2 := zle_ok hz.1.2
    obtain ⟨a1, a2⟩ := hi
    obtain ⟨b1, b2⟩ := hj
    have c1 := zlng_ok ii a1 a2
    have c2 := zlng_ok jj b1 b2
    have c4 := zmul_b p1 p2 a1 a2 b1 b2
    have c3 := zlng_ok hz.2 (y := zev r v1 * zev r v2) c4.1 c4.2
    show _ ≤ _ ∧ _ ≤ _
    rw [Int64.toInt_mul, zq_ofL c1.1 c1.2, zq_ofL c2.1 c2.2, zq_bmodL c3.1 c3.2]
    exact c4
def zdivL (i j : zI) (_ _ : zV) : zV ⊕ zI := bif zpos2 i j then .inr (0, i.2) else .inr zfullL
theorem zdivL_ok {r : Nat → Int} {i j : zI} {v1 v2 : zV} (hi : zB r i v1) (hj : zB r j v2) (ii : zlng i = true) (jj : zlng j = true) : zresL r (Int64.ofInt (zev r v1) / Int64.ofInt (zev r v2)) (zdivL i j v1 v2) := by
  obtain ⟨a1, a2⟩ := hi
  obtain ⟨b1, b2⟩ := hj
  have c1 := zlng_ok ii a1 a2
  have c2 := zlng_ok jj b1 b2
  have d1 := zq_ofL c1.1 c1.2
  have d2 := zq_ofL c2.1 c2.2
  unfold zdivL
  cases hz : zpos2 i j with
  | false => exact zres_fullL _ _
  | true =>
    simp only [zpos2, Bool.and_eq_true] at hz
    have p1 := zle_ok hz.1
    have p2 := zle_ok hz.2
    have q := zdiv_bL (Int64.ofInt (zev r v1)) (Int64.ofInt (zev r v2)) (by omega) (by omega)
    rw [d1, d2] at q
    show _ ≤ _ ∧ _ ≤ _
    rw [q]
    exact ⟨Int.ediv_nonneg (by omega) (by omega), Int.le_trans (Int.ediv_le_self _ (by omega)) a2⟩
theorem zremL_b {r : Nat → Int} {i j : zI} {v1 v2 : zV} (hi : zB r i v1) (hj : zB r j v2) (ii : zlng i = true) (jj : zlng j = true) (hz : zpos2 i j = true) : 0 ≤ (Int64.ofInt (zev r v1) - Int64.ofInt (zev r v1) / Int64.ofInt (zev r v2) * Int64.ofInt (zev r v2)).toInt ∧ (Int64.ofInt (zev r v1) - Int64.ofInt (zev r v1) / Int64.ofInt (zev r v2) * Int64.ofInt (zev r v2)).toInt < zev r v2 := by
  obtain ⟨a1, a2⟩ := hi
  obtain ⟨b1, b2⟩ := hj
  have c1 := zlng_ok ii a1 a2
  have c2 := zlng_ok jj b1 b2
  have d1 := zq_ofL c1.1 c1.2
  have d2 := zq_ofL c2.1 c2.2
  simp only [zpos2, Bool.and_eq_true] at hz
  have p1 := zle_ok hz.1
  have p2 := zle_ok hz.2
  have q := zrem_bL (Int64.ofInt (zev r v1)) (Int64.ofInt (zev r v2)) (by omega) (by omega)
  rw [d1, d2] at q
  rw [q]
  exact ⟨Int.emod_nonneg (zev r v1) (by omega), Int.emod_lt_of_pos (zev r v1) (by omega)⟩
