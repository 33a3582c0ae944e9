/-- the same in plain numbers -/
noncomputable def ysN (r H x : Nat) (s : Nat) : Nat := bif r.beq 0 then (match s with | 0 => (x >>> 1) &&& (2 ^ H - 1) | 1 => (x <<< 1) &&& (2 ^ H - 1) | _ => (x <<< 2) &&& (2 ^ H - 1)) else (match s with | 0 => ((x <<< (H - 1)) ||| (x >>> 1)) &&& (2 ^ H - 1) | 1 => ((x <<< 1) ||| (x >>> (H - 1))) &&& (2 ^ H - 1) | _ => ((x <<< (2 % H)) ||| (x >>> (H - 2 % H))) &&& (2 ^ H - 1))
noncomputable def yuN (r H k x : Nat) : Nat := bif k.beq 3 then ysN r H x 0 ||| ysN r H x 1 else ysN r H x (bif k.beq 1 then 0 else bif k.beq 2 then 2 else 1)
noncomputable def yfN (r H k L x : Nat) : Nat := yuN r H k x &&& (127 ^^^ L)
theorem ysN_e : ∀ r : Fin 2, ∀ H : Fin 8, ∀ s : Fin 3, ∀ x : Fin 128, 2 ≤ H.val → ysh ((r.val : Nat) : Int) ((H.val : Nat) : Int) ((x.val : Nat) : Int) (ystp s.val) = ((ysN r.val H.val x.val s.val : Nat) : Int) := by decide +kernel
theorem ynat {n : Nat} (h : n < 128) : (Int32.ofInt (n : Int)).toBitVec.toNat = n := by
  show (BitVec.ofInt 32 (n : Int)).toNat = n
  rw [BitVec.ofInt_natCast, BitVec.toNat_ofNat]
  exact Nat.mod_eq_of_lt (by omega)
theorem yint {x : Int32} (h : x.toBitVec.toNat < 128) : x.toInt = ((x.toBitVec.toNat : Nat) : Int) := by
  show x.toBitVec.toInt = _
  exact BitVec.toInt_eq_toNat_of_lt (by omega)
theorem yorN (a b : Fin 128) : yor ((a.val : Nat) : Int) ((b.val : Nat) : Int) = ((a.val ||| b.val : Nat) : Int) := by
  have e : (Int32.ofInt ((a.val : Nat) : Int) ||| Int32.ofInt ((b.val : Nat) : Int)).toBitVec.toNat = a.val ||| b.val := by
    rw [Int32.toBitVec_or, BitVec.toNat_or, ynat a.isLt, ynat b.isLt]
  have hl : a.val ||| b.val < 128 := Nat.or_lt_two_pow (n := 7) a.isLt b.isLt
  unfold yor
  rw [yint (by rw [e]; exact hl), e]
theorem yanZ : ∀ a : Fin 128, a.val &&& 4294967168 = 0 := by decide +kernel
theorem yanN (a b : Fin 128) : yan ((a.val : Nat) : Int) (yxo ((b.val : Nat) : Int) (-1)) = ((a.val &&& (127 ^^^ b.val) : Nat) : Int) := by
  have m1 : (Int32.ofInt (-1)).toBitVec.toNat = 4294967295 := rfl
  have e : (Int32.ofInt ((a.val : Nat) : Int) &&& (Int32.ofInt ((b.val : Nat) : Int) ^^^ Int32.ofInt (-1))).toBitVec.toNat = a.val &&& (127 ^^^ b.val) := by
    rw [Int32.toBitVec_and, BitVec.toNat_and, Int32.toBitVec_xor, BitVec.toNat_xor, ynat a.isLt, ynat b.isLt, m1]
    apply Nat.eq_of_testBit_eq
    intro i
    have z : (a.val &&& 4294967168).testBit i = false := by rw [yanZ a]; exact Nat.zero_testBit i
    have c : (4294967295 : Nat).testBit i = ((127 : Nat).testBit i ^^ (4294967168 : Nat).testBit i) := by
      rw [← Nat.testBit_xor, show (127 : Nat) ^^^ 4294967168 = 4294967295 by decide +kernel]
    rw [Nat.testBit_and] at z
    rw [Nat.testBit_and, Nat.testBit_and, Nat.testBit_xor, Nat.testBit_xor, c]
    generalize a.val.testBit i = x at z ⊢
    generalize b.val.testBit i = y
    generalize (127 : Nat).testBit i = u
    generalize (4294967168 : Nat).testBit i = v at z ⊢
    revert z
    cases x <;> cases y <;> cases u <;> cases v <;> decide
  have hl : a.val &&& (127 ^^^ b.val) < 128 := Nat.lt_of_le_of_lt Nat.and_le_left a.isLt
  unfold yan yxo
  rw [Int32.ofInt_toInt, yint (by rw [e]; exact hl), e]
theorem ysN_b (r H x s : Nat) : ysN r H x s < 2 ^ H := by
  have p : 0 < 2 ^ H := Nat.two_pow_pos H
  have key : ∀ y : Nat, y &&& (2 ^ H - 1) < 2 ^ H := fun y => by
    have : y &&& (2 ^ H - 1) ≤ 2 ^ H - 1 := Nat.and_le_right
    omega
  unfold ysN
  cases r.beq 0 with
  | true =>
    dsimp only [cond]
    split <;> exact key _
  | false =>
    dsimp only [cond]
    split <;> exact key _
theorem yuN_b (r H k x : Nat) : yuN r H k x < 2 ^ H := by
  unfold yuN
  cases k.beq 3 with
  | true => exact Nat.or_lt_two_pow (ysN_b _ _ _ _) (ysN_b _ _ _ _)
  | false => exact ysN_b _ _ _ _
theorem yfN_b (r H k L x : Nat) : yfN r H k L x < 2 ^ H := Nat.lt_of_le_of_lt Nat.and_le_left (yuN_b r H k x)
theorem yfN_e {r H k L x : Nat} (hr : r < 2) (h8 : H < 8) (h2 : 2 ≤ H) (hk : k < 5) (hL : L < 128) (hx : x < 2 ^ H) : yan (yU r H k x) (yxo L (-1)) = ((yfN r H k L x : Nat) : Int) := by
  have pw : (2 : Nat) ^ H ≤ 128 := Nat.pow_le_pow_right (n := 2) (by omega) (show H ≤ 7 by omega)
  have a := ysN_e ⟨r, hr⟩ ⟨H, h8⟩ ⟨0, by omega⟩ ⟨x, by omega⟩ h2
  have b := ysN_e ⟨r, hr⟩ ⟨H, h8⟩ ⟨1, by omega⟩ ⟨x, by omega⟩ h2
  have c := ysN_e ⟨r, hr⟩ ⟨H, h8⟩ ⟨2, by omega⟩ ⟨x, by omega⟩ h2
  dsimp only at a b c
  rw [show ystp 0 = -1 from rfl] at a
  rw [show ystp 1 = 1 from rfl] at b
  rw [show ystp 2 = 2 from rfl] at c
  have sb : ∀ s, ysN r H x s < 128 := fun s => Nat.lt_of_lt_of_le (ysN_b r H x s) pw
  have e : yU r H k x = ((yuN r H k x : Nat) : Int) := by
    unfold yU yuN
    by_cases h3 : k = 3
    · subst h3
      rw [if_pos (by rfl), a, b, yorN ⟨_, sb 0⟩ ⟨_, sb 1⟩]
      rfl
    · rw [if_neg (by omega)]
      by_cases h1 : k = 1
      · subst h1
        rw [if_pos (by rfl), a]
        rfl
      · rw [if_neg (by omega)]
        by_cases hk2 : k = 2
        · subst hk2
          rw [if_pos (by rfl), c]
          rfl
        · rw [if_neg (by omega), b]
          have q : k = 0 ∨ k = 4 := by omega
          rcases q with rfl | rfl <;> rfl
  rw [e, yanN ⟨_, Nat.lt_of_lt_of_le (yuN_b r H k x) pw⟩ ⟨L, hL⟩]
  rfl
noncomputable def yiN (r H k L : Nat) : Nat → Nat → Nat
  | 0, x => x
  | n + 1, x => yiN r H k L n (yfN r H k L x)
theorem yiN_b (r H k L : Nat) : ∀ n x : Nat, x < 2 ^ H → yiN r H k L n x < 2 ^ H
  | 0, _, h => h
  | n + 1, x, _ => yiN_b r H k L n _ (yfN_b r H k L x)
theorem yit_e {r H k L : Nat} (hr : r < 2) (h8 : H < 8) (h2 : 2 ≤ H) (hk : k < 5) (hL : L < 128) : ∀ n x : Nat, x < 2 ^ H → yit r H k L n x = ((yiN r H k L n x : Nat) : Int)
  | 0, _, _ => rfl
  | n + 1, x, hx => by
    rw [yit, yfN_e hr h8 h2 hk hL hx]
    exact yit_e hr h8 h2 hk hL n _ (yfN_b r H k L x)
/-- the houses from which seven days are walked -/
noncomputable def ygN (r H k L : Nat) : Nat := (bif (yiN r H k L 7 1).beq 0 then 0 else 1) ||| (bif (yiN r H k L 7 2).beq 0 then 0 else 2) ||| (bif (yiN r H k L 7 4).beq 0 then 0 else 4) ||| (bif (yiN r H k L 7 8).beq 0 then 0 else 8) ||| (bif (yiN r H k L 7 16).beq 0 then 0 else 16) ||| (bif (yiN r H k L 7 32).beq 0 then 0 else 32) ||| (bif (yiN r H k L 7 64).beq 0 then 0 else 64)
noncomputable def yck (r H k L : Nat) (G : Nat) : Bool := Nat.rec (motive := fun _ => Bool) true (fun h b => b && (bif h.blt H then ((yiN r H k L 7 (2 ^ h)).beq 0 || (!((G &&& 2 ^ h).beq 0) && !((yfN r H k L (2 ^ h) &&& G).beq 0))) else true)) 7
noncomputable def yckL (r H k : Nat) : Bool := Nat.rec (motive := fun _ => Bool) true (fun L b => b && (bif L.blt (2 ^ H) then yck r H k L (ygN r H k L) else true)) 128
theorem yck_ok : ∀ r : Fin 2, ∀ H : Fin 8, ∀ k : Fin 5, 2 ≤ H.val → yckL r.val H.val k.val = true := by decide +kernel
theorem ymon : ∀ r : Fin 2, ∀ H : Fin 8, ∀ k : Fin 5, ∀ h : Fin 7, ∀ x : Fin 128, 2 ≤ H.val → ((x.val &&& 2 ^ h.val).beq 0 || (yuN r.val H.val k.val (2 ^ h.val) &&& yuN r.val H.val k.val x.val).beq (yuN r.val H.val k.val (2 ^ h.val))) = true := by decide +kernel
