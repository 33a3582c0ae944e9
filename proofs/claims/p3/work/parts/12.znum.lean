def zfull : zI := (-2147483648, 2147483647)
def zint (i : zI) : Bool := zle (-2147483648) i.1 && zle i.2 2147483647
def zlng (i : zI) : Bool := zle (-9223372036854775808) i.1 && zle i.2 9223372036854775807
theorem zq_rng (x : Int32) : -2147483648 ≤ x.toInt ∧ x.toInt ≤ 2147483647 := by
  have h1 := Int32.le_toInt x
  have h2 := Int32.toInt_lt x
  omega
theorem zq_bmod {z : Int} (h1 : -2147483648 ≤ z) (h2 : z ≤ 2147483647) : z.bmod (2 ^ 32) = z := by
  rw [Int.bmod_eq_of_le (by omega) (by omega)]
theorem zq_of {z : Int} (h1 : -2147483648 ≤ z) (h2 : z ≤ 2147483647) : (Int32.ofInt z).toInt = z := by
  rw [Int32.toInt_ofInt, zq_bmod h1 h2]
theorem zq_rngL (x : Int64) : -9223372036854775808 ≤ x.toInt ∧ x.toInt ≤ 9223372036854775807 := by
  have h1 := Int64.le_toInt x
  have h2 := Int64.toInt_lt x
  omega
theorem zq_bmodL {z : Int} (h1 : -9223372036854775808 ≤ z) (h2 : z ≤ 9223372036854775807) : z.bmod (2 ^ 64) = z := by
  rw [Int.bmod_eq_of_le (by omega) (by omega)]
theorem zq_ofL {z : Int} (h1 : -9223372036854775808 ≤ z) (h2 : z ≤ 9223372036854775807) : (Int64.ofInt z).toInt = z := by
  rw [Int64.toInt_ofInt, zq_bmodL h1 h2]
theorem zint_ok {i : zI} {y : Int} (h : zint i = true) (h1 : i.1 ≤ y) (h2 : y ≤ i.2) : -2147483648 ≤ y ∧ y ≤ 2147483647 := by
  simp only [zint, Bool.and_eq_true] at h
  have a := zle_ok h.1
  have b := zle_ok h.2
  omega
theorem zlng_ok {i : zI} {y : Int} (h : zlng i = true) (h1 : i.1 ≤ y) (h2 : y ≤ i.2) : -9223372036854775808 ≤ y ∧ y ≤ 9223372036854775807 := by
  simp only [zlng, Bool.and_eq_true] at h
  have a := zle_ok h.1
  have b := zle_ok h.2
  omega
def zresI (r : Nat → Int) (z : Int32) : zV ⊕ zI → Prop
  | .inl v => z = Int32.ofInt (zev r v)
  | .inr i => i.1 ≤ z.toInt ∧ z.toInt ≤ i.2
def zresL (r : Nat → Int) (z : Int64) : zV ⊕ zI → Prop
  | .inl v => z = Int64.ofInt (zev r v)
  | .inr i => i.1 ≤ z.toInt ∧ z.toInt ≤ i.2
theorem zres_full (r : Nat → Int) (z : Int32) : zresI r z (.inr zfull) := zq_rng z
def zfullL : zI := (-9223372036854775808, 9223372036854775807)
theorem zres_fullL (r : Nat → Int) (z : Int64) : zresL r z (.inr zfullL) := zq_rngL z
/-- what is known of two numbers on top: their bounds, within int -/
def zB (r : Nat → Int) (i : zI) (v : zV) : Prop := i.1 ≤ zev r v ∧ zev r v ≤ i.2
def zadd (i j : zI) (v1 v2 : zV) : zV ⊕ zI := bif zint (i.1 + j.1, i.2 + j.2) then (bif Nat.beq v2.1 0 then .inl (v1.1, v1.2 + v2.2) else bif Nat.beq v1.1 0 then .inl (v2.1, v1.2 + v2.2) else .inr (i.1 + j.1, i.2 + j.2)) else .inr zfull
theorem zadd_ok {r : Nat → Int} {i j : zI} {v1 v2 : zV} (h0 : r 0 = 0) (hi : zB r i v1) (hj : zB r j v2) (ii : zint i = true) (jj : zint j = true) : zresI r (Int32.ofInt (zev r v1) + Int32.ofInt (zev r v2)) (zadd i j v1 v2) := by
  unfold zadd
  cases hz : zint (i.1 + j.1, i.2 + j.2) with
  | false => exact zres_full _ _
  | true =>
    obtain ⟨a1, a2⟩ := hi
    obtain ⟨b1, b2⟩ := hj
    have c1 := zint_ok ii a1 a2
    have c2 := zint_ok jj b1 b2
    have c3 := zint_ok hz (y := zev r v1 + zev r v2) (by dsimp only; omega) (by dsimp only; omega)
    have e : Int32.ofInt (zev r v1) + Int32.ofInt (zev r v2) = Int32.ofInt (zev r v1 + zev r v2) := by
      apply Int32.toInt_inj.1
      rw [Int32.toInt_add, zq_of c1.1 c1.2, zq_of c2.1 c2.2, zq_of c3.1 c3.2, zq_bmod c3.1 c3.2]
    rw [e]
    dsimp only [cond]
    cases hb : Nat.beq v2.1 0 with
    | true =>
      have := Nat.eq_of_beq_eq_true hb
      show Int32.ofInt _ = Int32.ofInt _
      congr 1
      unfold zev; rw [this, h0]; dsimp only; omega
    | false =>
      dsimp only
      cases hc : Nat.beq v1.1 0 with
      | true =>
        have := Nat.eq_of_beq_eq_true hc
        show Int32.ofInt _ = Int32.ofInt _
        congr 1
        unfold zev; rw [this, h0]; dsimp only; omega
      | false =>
        show _ ≤ _ ∧ _ ≤ _
        rw [zq_of c3.1 c3.2]
        exact ⟨by dsimp only; omega, by dsimp only; omega⟩
def zsub (i j : zI) (v1 v2 : zV) : zV ⊕ zI := bif zint (i.1 - j.2, i.2 - j.1) then (bif Nat.beq v2.1 0 then .inl (v1.1, v1.2 - v2.2) else bif Nat.beq v1.1 v2.1 then .inl (0, v1.2 - v2.2) else .inr (i.1 - j.2, i.2 - j.1)) else .inr zfull
theorem zsub_ok {r : Nat → Int} {i j : zI} {v1 v2 : zV} (h0 : r 0 = 0) (hi : zB r i v1) (hj : zB r j v2) (ii : zint i = true) (jj : zint j = true) : zresI r (Int32.ofInt (zev r v1) - Int32.ofInt (zev r v2)) (zsub i j v1 v2) := by
  unfold zsub
  cases hz : zint (i.1 - j.2, i.2 - j.1) with
  | false => exact zres_full _ _
  | true =>
    obtain ⟨a1, a2⟩ := hi
    obtain ⟨b1, b2⟩ := hj
    have c1 := zint_ok ii a1 a2
    have c2 := zint_ok jj b1 b2
    have c3 := zint_ok hz (y := zev r v1 - zev r v2) (by dsimp only; omega) (by dsimp only; omega)
    have e : Int32.ofInt (zev r v1) - Int32.ofInt (zev r v2) = Int32.ofInt (zev r v1 - zev r v2) := by
      apply Int32.toInt_inj.1
      rw [Int32.toInt_sub, zq_of c1.1 c1.2, zq_of c2.1 c2.2, zq_of c3.1 c3.2, zq_bmod c3.1 c3.2]
    rw [e]
    dsimp only [cond]
    cases hb : Nat.beq v2.1 0 with
    | true =>
      have := Nat.eq_of_beq_eq_true hb
      show Int32.ofInt _ = Int32.ofInt _
      congr 1
      unfold zev; rw [this, h0]; dsimp only; omega
    | false =>
      dsimp only
      cases hc : Nat.beq v1.1 v2.1 with
      | true =>
        have := Nat.eq_of_beq_eq_true hc
        show Int32.ofInt _ = Int32.ofInt _
        congr 1
        unfold zev; rw [this, h0]; dsimp only; omega
      | false =>
        show _ ≤ _ ∧ _ ≤ _
        rw [zq_of c3.1 c3.2]
        exact ⟨by dsimp only; omega, by dsimp only; omega⟩
theorem zmul_b {a b c d x y : Int} (ha : 0 ≤ a) (hc : 0 ≤ c) (h1 : a ≤ x) (h2 : x ≤ b) (h3 : c ≤ y) (h4 : y ≤ d) : a * c ≤ x * y ∧ x * y ≤ b * d :=
  ⟨Int.mul_le_mul h1 h3 hc (by omega), Int.mul_le_mul h2 h4 (by omega) (by omega)⟩
def zmul (i j : zI) (v1 v2 : zV) : zV ⊕ zI := bif Nat.beq v1.1 0 && Nat.beq v2.1 0 && zint (v1.2 * v2.2, v1.2 * v2.2) then .inl (0, v1.2 * v2.2) else bif zle 0 i.1 && zle 0 j.1 && zint (i.1 * j.1, i.2 * j.2) then .inr (i.1 * j.1, i.2 * j.2) else .inr zfull
theorem zmul_ok {r : Nat → Int} {i j : zI} {v1 v2 : zV} (h0 : r 0 = 0) (hi : zB r i v1) (hj : zB r j v2) (ii : zint i = true) (jj : zint j = true) : zresI r (Int32.ofInt (zev r v1) * Int32.ofInt (zev r v2)) (zmul i j v1 v2) := by
  obtain ⟨a1, a2⟩ := hi
  obtain ⟨b1, b2⟩ := hj
  have c1 := zint_ok ii a1 a2
  have c2 := zint_ok jj b1 b2
  unfold zmul
  cases hq : Nat.beq v1.1 0 && Nat.beq v2.1 0 && zint (v1.2 * v2.2, v1.2 * v2.2) with
  | true =>
    simp only [Bool.and_eq_true] at hq
    have e1 : zev r v1 = v1.2 := by unfold zev; rw [Nat.eq_of_beq_eq_true hq.1.1, h0]; omega
    have e2 : zev r v2 = v2.2 := by unfold zev; rw [Nat.eq_of_beq_eq_true hq.1.2, h0]; omega
    have e3 : zev r (0, v1.2 * v2.2) = v1.2 * v2.2 := by unfold zev; dsimp only; rw [h0]; omega
    have c3 := zint_ok hq.2 (y := v1.2 * v2.2) (Int.le_refl _) (Int.le_refl _)
    show Int32.ofInt (zev r v1) * Int32.ofInt (zev r v2) = Int32.ofInt (zev r (0, v1.2 * v2.2))
    apply Int32.toInt_inj.1
    rw [Int32.toInt_mul, zq_of c1.1 c1.2, zq_of c2.1 c2.2, e1, e2, e3, zq_of c3.1 c3.2, zq_bmod c3.1 c3.2]
  | false =>
    dsimp only [cond]
    cases hz : zle 0 i.1 && zle 0 j.1 && zint (i.1 * j.1, i.2 * j.2) with
    | false => exact zres_full _ _
    | true =>
      simp only [Bool.and_eq_true] at hz
      have p1 := zle_ok hz.1.1
      have p2 := zle_ok hz.1.2
      have c4 := zmul_b p1 p2 a1 a2 b1 b2
      have c3 := zint_ok hz.2 (y := zev r v1 * zev r v2) c4.1 c4.2
      show _ ≤ _ ∧ _ ≤ _
      rw [Int32.toInt_mul, zq_of c1.1 c1.2, zq_of c2.1 c2.2, zq_bmod c3.1 c3.2]
      exact c4
theorem zand_r (x y : Int32) (h : 0 ≤ y.toInt) : 0 ≤ (x &&& y).toInt ∧ (x &&& y).toInt ≤ y.toInt := by
  have e1 : y.toInt = y.toBitVec.toInt := rfl
  have e2 : (x &&& y).toInt = (x.toBitVec &&& y.toBitVec).toInt := rfl
  rw [e1] at h ⊢
  rw [e2]
  rw [BitVec.toInt_eq_toNat_cond] at h ⊢
  rw [BitVec.toInt_eq_toNat_cond, BitVec.toNat_and]
  have h1 : x.toBitVec.toNat &&& y.toBitVec.toNat ≤ y.toBitVec.toNat := Nat.and_le_right
  have h2 := y.toBitVec.isLt
  split at h <;> split <;> (try split) <;> omega
theorem zand_l (x y : Int32) (h : 0 ≤ x.toInt) : 0 ≤ (x &&& y).toInt ∧ (x &&& y).toInt ≤ x.toInt := by
  have e : x &&& y = y &&& x := by
    apply Int32.toBitVec_inj.1
    exact BitVec.and_comm _ _
  rw [e]
  exact zand_r y x h
def zand (i j : zI) (_ _ : zV) : zV ⊕ zI := bif zle 0 i.1 then (bif zle 0 j.1 then .inr (0, zmin i.2 j.2) else .inr (0, i.2)) else bif zle 0 j.1 then .inr (0, j.2) else .inr zfull
theorem zand_ok {r : Nat → Int} {i j : zI} {v1 v2 : zV} (hi : zB r i v1) (hj : zB r j v2) (ii : zint i = true) (jj : zint j = true) : zresI r (Int32.ofInt (zev r v1) &&& Int32.ofInt (zev r v2)) (zand i j v1 v2) := by
  obtain ⟨a1, a2⟩ := hi
  obtain ⟨b1, b2⟩ := hj
  have c1 := zint_ok ii a1 a2
  have c2 := zint_ok jj b1 b2
  have d1 := zq_of c1.1 c1.2
  have d2 := zq_of c2.1 c2.2
  unfold zand
  cases p1 : zle 0 i.1 with
  | true =>
    have q1 := zle_ok p1
    have l1 := zand_l (Int32.ofInt (zev r v1)) (Int32.ofInt (zev r v2)) (by omega)
    cases p2 : zle 0 j.1 with
    | true =>
      have q2 := zle_ok p2
      have l2 := zand_r (Int32.ofInt (zev r v1)) (Int32.ofInt (zev r v2)) (by omega)
      exact ⟨l1.1, zmin_le (by omega) (by omega)⟩
    | false => exact ⟨l1.1, by dsimp only; omega⟩
  | false =>
    dsimp only [cond]
    cases p2 : zle 0 j.1 with
    | true =>
      have q2 := zle_ok p2
      have l2 := zand_r (Int32.ofInt (zev r v1)) (Int32.ofInt (zev r v2)) (by omega)
      exact ⟨l2.1, by dsimp only; omega⟩
    | false => exact zres_full _ _
theorem zor_b (x y : Int32) (k : Nat) (hk : k ≤ 31) (h1 : 0 ≤ x.toInt) (h2 : x.toInt < 2 ^ k) (h3 : 0 ≤ y.toInt) (h4 : y.toInt < 2 ^ k) : 0 ≤ (x ||| y).toInt ∧ (x ||| y).toInt < 2 ^ k := by
  have e1 : y.toInt = y.toBitVec.toInt := rfl
  have e3 : x.toInt = x.toBitVec.toInt := rfl
  have e2 : (x ||| y).toInt = (x.toBitVec ||| y.toBitVec).toInt := rfl
  rw [e1] at h3 h4
  rw [e3] at h1 h2
  rw [e2]
  rw [BitVec.toInt_eq_toNat_cond] at h1 h2 h3 h4
  rw [BitVec.toInt_eq_toNat_cond, BitVec.toNat_or]
  have l1 := x.toBitVec.isLt
  have l2 := y.toBitVec.isLt
  have hp : (2 : Nat) ^ k ≤ 2 ^ 31 := Nat.pow_le_pow_right (by omega) hk
  have hc : ((2 ^ k : Nat) : Int) = (2 : Int) ^ k := by simp
  have x1 : x.toBitVec.toNat < 2 ^ k := by split at h2 <;> omega
  have y1 : y.toBitVec.toNat < 2 ^ k := by split at h4 <;> omega
  have o1 := Nat.or_lt_two_pow x1 y1
  split <;> omega
def zlog : Nat → Int → Nat
  | 0, _ => 0
  | n + 1, x => bif zle x ((2 ^ (31 - (n + 1)) : Nat) - 1) then 31 - (n + 1) else zlog n x
def zor (i j : zI) (_ _ : zV) : zV ⊕ zI := bif zle 0 i.1 && zle 0 j.1 && Nat.ble (zlog 31 (zmax i.2 j.2)) 31 && zle i.2 ((2 ^ zlog 31 (zmax i.2 j.2) : Nat) - 1) && zle j.2 ((2 ^ zlog 31 (zmax i.2 j.2) : Nat) - 1) then .inr (0, (2 ^ zlog 31 (zmax i.2 j.2) : Nat) - 1) else .inr zfull
theorem zor_ok {r : Nat → Int} {i j : zI} {v1 v2 : zV} (hi : zB r i v1) (hj : zB r j v2) (ii : zint i = true) (jj : zint j = true) : zresI r (Int32.ofInt (zev r v1) ||| Int32.ofInt (zev r v2)) (zor i j v1 v2) := by
  obtain ⟨a1, a2⟩ := hi
  obtain ⟨b1, b2⟩ := hj
  have c1 := zint_ok ii a1 a2
  have c2 := zint_ok jj b1 b2
  have d1 := zq_of c1.1 c1.2
  have d2 := zq_of c2.1 c2.2
  unfold zor
  generalize zlog 31 (zmax i.2 j.2) = k
  cases hz : zle 0 i.1 && zle 0 j.1 && Nat.ble k 31 && zle i.2 ((2 ^ k : Nat) - 1) && zle j.2 ((2 ^ k : Nat) - 1) with
  | false => exact zres_full _ _
  | true =>
    simp only [Bool.and_eq_true] at hz
    have p1 := zle_ok hz.1.1.1.1
    have p2 := zle_ok hz.1.1.1.2
    have p3 := Nat.le_of_ble_eq_true hz.1.1.2
    have p4 := zle_ok hz.1.2
    have p5 := zle_ok hz.2
    have hc : ((2 ^ k : Nat) : Int) = (2 : Int) ^ k := by simp
    have o := zor_b (Int32.ofInt (zev r v1)) (Int32.ofInt (zev r v2)) k p3 (by omega) (by omega) (by omega) (by omega)
    exact ⟨o.1, by dsimp only; omega⟩
theorem zpow_le {a b : Nat} (h : a ≤ b) : (2 : Int) ^ a ≤ 2 ^ b := by
  have q : 2 ^ a ≤ 2 ^ b := Nat.pow_le_pow_right (by omega) h
  have e1 : ((2 ^ a : Nat) : Int) = (2 : Int) ^ a := by simp
  have e2 : ((2 ^ b : Nat) : Int) = (2 : Int) ^ b := by simp
  omega
theorem zshl_c : ∀ n : Nat, n < 32 → ((Int32.ofInt (n : Int) &&& 31).toBitVec.smod 32).toNat = n := by decide +kernel
theorem zshl_b (x : Int32) (n : Nat) (hn : n < 32) (h1 : 0 ≤ x.toInt) (h2 : x.toInt * 2 ^ n ≤ 2147483647) : (x <<< (Int32.ofInt (n : Int) &&& 31)).toInt = x.toInt * 2 ^ n := by
  have e := pk_shl x (Int32.ofInt (n : Int) &&& 31) n (zshl_c n hn)
  have e1 : x.toInt = x.toBitVec.toInt := rfl
  rw [e1] at h1 h2 ⊢
  have e2 : (x <<< (Int32.ofInt (n : Int) &&& 31)).toInt = (x <<< (Int32.ofInt (n : Int) &&& 31)).toBitVec.toInt := rfl
  rw [e2, BitVec.toInt_eq_toNat_cond, e]
  have l1 := x.toBitVec.isLt
  have hx : x.toBitVec.toInt = (x.toBitVec.toNat : Int) := by
    rw [BitVec.toInt_eq_toNat_cond] at h1 ⊢
    split at h1
    · rw [if_pos (by assumption)]
    · omega
  rw [hx] at h1 h2 ⊢
  have hc : ((x.toBitVec.toNat * 2 ^ n : Nat) : Int) = (x.toBitVec.toNat : Int) * 2 ^ n := by simp
  have hm : x.toBitVec.toNat * 2 ^ n % 2 ^ 32 = x.toBitVec.toNat * 2 ^ n := Nat.mod_eq_of_lt (by omega)
  rw [hm, if_pos (by omega), hc]
def zshl (i j : zI) (_ _ : zV) : zV ⊕ zI := bif zle 0 i.1 && zle 0 j.1 && zle j.2 31 && zle (i.2 * 2 ^ j.2.toNat) 2147483647 then .inr (i.1 * 2 ^ j.1.toNat, i.2 * 2 ^ j.2.toNat) else .inr zfull
theorem zshl_ok {r : Nat → Int} {i j : zI} {v1 v2 : zV} (hi : zB r i v1) (hj : zB r j v2) (ii : zint i = true) (jj : zint j = true) : zresI r (Int32.ofInt (zev r v1) <<< (Int32.ofInt (zev r v2) &&& 31)) (zshl i j v1 v2) := by
  obtain ⟨a1, a2⟩ := hi
  obtain ⟨b1, b2⟩ := hj
  have c1 := zint_ok ii a1 a2
  have d1 := zq_of c1.1 c1.2
  unfold zshl
  cases hz : zle 0 i.1 && zle 0 j.1 && zle j.2 31 && zle (i.2 * 2 ^ j.2.toNat) 2147483647 with
  | false => exact zres_full _ _
  | true =>
    simp only [Bool.and_eq_true] at hz
    have p1 := zle_ok hz.1.1.1
    have p2 := zle_ok hz.1.1.2
    have p3 := zle_ok hz.1.2
    have p4 := zle_ok hz.2
    obtain ⟨n, hn⟩ : ∃ n : Nat, zev r v2 = (n : Int) := ⟨(zev r v2).toNat, by omega⟩
    have u1 : (2 : Int) ^ j.1.toNat ≤ 2 ^ n := zpow_le (by omega)
    have u2 : (2 : Int) ^ n ≤ 2 ^ j.2.toNat := zpow_le (by omega)
    have u3 : (0 : Int) < 2 ^ j.1.toNat := Int.pow_pos (by omega)
    have q := zmul_b p1 (Int.le_of_lt u3) a1 a2 u1 u2
    rw [hn]
    have o := zshl_b (Int32.ofInt (zev r v1)) n (by omega) (by omega) (by rw [d1]; omega)
    show _ ≤ _ ∧ _ ≤ _
    rw [o, d1]
    exact q
def zshr (i _ : zI) (_ _ : zV) : zV ⊕ zI := bif zle 0 i.1 then .inr (0, i.2) else .inr zfull
theorem zshr_ok {r : Nat → Int} {i j : zI} {v1 v2 : zV} (hi : zB r i v1) (ii : zint i = true) : zresI r (Int32.ofInt (zev r v1) >>> (Int32.ofInt (zev r v2) &&& 31)) (zshr i j v1 v2) := by
  obtain ⟨a1, a2⟩ := hi
  have c1 := zint_ok ii a1 a2
  have d1 := zq_of c1.1 c1.2
  unfold zshr
  cases hz : zle 0 i.1 with
  | false => exact zres_full _ _
  | true =>
    have p1 := zle_ok hz
    show _ ≤ _ ∧ _ ≤ _
    rw [pk_shr _ _ _ rfl, d1, Int.shiftRight_eq_div_pow]
    have hp : (0 : Int) < ((2 ^ ((Int32.ofInt (zev r v2) &&& 31).toBitVec.smod 32).toNat : Nat) : Int) := by
      have : 0 < 2 ^ ((Int32.ofInt (zev r v2) &&& 31).toBitVec.smod 32).toNat := Nat.pow_pos (by omega)
      omega
    exact ⟨Int.ediv_nonneg (by omega) (by omega), Int.le_trans (Int.ediv_le_self _ (by omega)) a2⟩
