theorem yrec_ok {p : Nat → Bool} : ∀ n : Nat, (Nat.rec (motive := fun _ => Bool) true (fun i b => b && p i) n : Bool) = true → ∀ i : Nat, i < n → p i = true
  | 0, _, i, hi => by omega
  | n + 1, h, i, hi => by
    have h : ((Nat.rec (motive := fun _ => Bool) true (fun i b => b && p i) n : Bool) && p n) = true := h
    rw [Bool.and_eq_true] at h
    by_cases e : i = n
    · subst e
      exact h.2
    · exact yrec_ok n h.1 i (by omega)
theorem yblt {a b : Nat} (h : a < b) : a.blt b = true := by
  simp [Nat.blt, Nat.ble_eq]
  omega
theorem ygb : ∀ b0 b1 b2 b3 b4 b5 b6 : Bool, ∀ h : Fin 7, ((((bif b0 then 0 else 1) ||| (bif b1 then 0 else 2) ||| (bif b2 then 0 else 4) ||| (bif b3 then 0 else 8) ||| (bif b4 then 0 else 16) ||| (bif b5 then 0 else 32) ||| (bif b6 then 0 else 64)) &&& 2 ^ h.val : Nat).beq 0 = match h.val with | 0 => b0 | 1 => b1 | 2 => b2 | 3 => b3 | 4 => b4 | 5 => b5 | _ => b6) := by decide +kernel
theorem ygN_h {r H k L h : Nat} (hh : h < 7) : ((ygN r H k L) &&& 2 ^ h).beq 0 = (yiN r H k L 7 (2 ^ h)).beq 0 := by
  unfold ygN
  rw [ygb _ _ _ _ _ _ _ ⟨h, hh⟩]
  have q : h = 0 ∨ h = 1 ∨ h = 2 ∨ h = 3 ∨ h = 4 ∨ h = 5 ∨ h = 6 := by omega
  rcases q with rfl | rfl | rfl | rfl | rfl | rfl | rfl <;> rfl
theorem yex : ∀ x : Fin 128, ∀ G : Fin 128, ((x.val &&& G.val).beq 0 || (!((x.val &&& 1).beq 0) && !((G.val &&& 1).beq 0)) || (!((x.val &&& 2).beq 0) && !((G.val &&& 2).beq 0)) || (!((x.val &&& 4).beq 0) && !((G.val &&& 4).beq 0)) || (!((x.val &&& 8).beq 0) && !((G.val &&& 8).beq 0)) || (!((x.val &&& 16).beq 0) && !((G.val &&& 16).beq 0)) || (!((x.val &&& 32).beq 0) && !((G.val &&& 32).beq 0)) || (!((x.val &&& 64).beq 0) && !((G.val &&& 64).beq 0))) = true := by decide +kernel
theorem ybeq0 {a : Nat} : a.beq 0 = decide (a = 0) := by
  cases a <;> rfl
theorem yex2 {x G : Nat} (hx : x < 128) (hG : G < 128) (h : ¬ x &&& G = 0) : ∃ b : Nat, b < 7 ∧ (x &&& 2 ^ b).beq 0 = false ∧ (G &&& 2 ^ b).beq 0 = false := by
  have q := yex ⟨x, hx⟩ ⟨G, hG⟩
  dsimp only at q
  have q0 : (x &&& G).beq 0 = false := by rw [ybeq0]; exact decide_eq_false h
  rw [q0] at q
  simp only [Bool.false_or, Bool.or_eq_true, Bool.and_eq_true, Bool.not_eq_true'] at q
  rcases q with (((((q | q) | q) | q) | q) | q) | q
  · exact ⟨0, by omega, q.1, q.2⟩
  · exact ⟨1, by omega, q.1, q.2⟩
  · exact ⟨2, by omega, q.1, q.2⟩
  · exact ⟨3, by omega, q.1, q.2⟩
  · exact ⟨4, by omega, q.1, q.2⟩
  · exact ⟨5, by omega, q.1, q.2⟩
  · exact ⟨6, by omega, q.1, q.2⟩
theorem ygN_b (r H k L : Nat) : ygN r H k L < 128 := by
  unfold ygN
  have z : ∀ (b : Bool) (v : Nat), v < 2 ^ 7 → (bif b then 0 else v) < 2 ^ 7 := fun b v hv => by cases b <;> simp <;> omega
  exact Nat.or_lt_two_pow (Nat.or_lt_two_pow (Nat.or_lt_two_pow (Nat.or_lt_two_pow (Nat.or_lt_two_pow (Nat.or_lt_two_pow (z _ _ (by omega)) (z _ _ (by omega))) (z _ _ (by omega))) (z _ _ (by omega))) (z _ _ (by omega))) (z _ _ (by omega))) (z _ _ (by omega))
theorem yfG {r H k L x : Nat} (hr : r < 2) (h8 : H < 8) (h2 : 2 ≤ H) (hk : k < 5) (hL : L < 2 ^ H) (hx : x < 2 ^ H) (h : ¬ x &&& ygN r H k L = 0) : ¬ yfN r H k L x &&& ygN r H k L = 0 := by
  have pw : (2 : Nat) ^ H ≤ 128 := Nat.pow_le_pow_right (n := 2) (by omega) (show H ≤ 7 by omega)
  obtain ⟨b, b7, b1, b2⟩ := yex2 (show x < 128 by omega) (ygN_b r H k L) h
  have bH : b < H := by
    by_cases q : b < H
    · exact q
    · exfalso
      have z : x &&& 2 ^ b = 0 := by
        have tb : x.testBit b = false := Nat.testBit_lt_two_pow (Nat.lt_of_lt_of_le hx (Nat.pow_le_pow_right (by omega) (by omega)))
        apply Nat.eq_of_testBit_eq
        intro i
        rw [Nat.testBit_and, Nat.zero_testBit]
        by_cases e : b = i
        · subst e
          rw [tb, Bool.false_and]
        · rw [Nat.testBit_two_pow_of_ne e, Bool.and_false]
      rw [z] at b1
      cases b1
  have ck := yck_ok ⟨r, hr⟩ ⟨H, h8⟩ ⟨k, hk⟩ h2
  have ck2 := yrec_ok (p := fun L => bif L.blt (2 ^ H) then yck r H k L (ygN r H k L) else true) 128 ck L (by omega)
  try dsimp only at ck2
  rw [yblt hL] at ck2
  have ck3 := yrec_ok (p := fun h => bif h.blt H then ((yiN r H k L 7 (2 ^ h)).beq 0 || (!((ygN r H k L &&& 2 ^ h).beq 0) && !((yfN r H k L (2 ^ h) &&& ygN r H k L).beq 0))) else true) 7 ck2 b b7
  try dsimp only at ck3
  rw [yblt bH, ← ygN_h b7, b2] at ck3
  simp only [cond_true, Bool.false_or, Bool.not_false, Bool.true_and, Bool.not_eq_true'] at ck3
  have m := ymon ⟨r, hr⟩ ⟨H, h8⟩ ⟨k, hk⟩ ⟨b, b7⟩ ⟨x, by omega⟩ h2
  dsimp only at m
  rw [b1, Bool.false_or, Nat.beq_eq] at m
  intro hz
  have e : yfN r H k L (2 ^ b) &&& ygN r H k L = 0 := by
    unfold yfN at hz ⊢
    rw [← m, Nat.and_assoc (yuN r H k (2 ^ b)), Nat.and_assoc (yuN r H k (2 ^ b)), hz, Nat.and_zero]
  rw [e] at ck3
  cases ck3
theorem yiG {r H k L : Nat} (hr : r < 2) (h8 : H < 8) (h2 : 2 ≤ H) (hk : k < 5) (hL : L < 2 ^ H) : ∀ n x : Nat, x < 2 ^ H → ¬ x &&& ygN r H k L = 0 → ¬ yiN r H k L n x &&& ygN r H k L = 0
  | 0, _, _, h => h
  | n + 1, x, hx, h => yiG hr h8 h2 hk hL n _ (yfN_b r H k L x) (yfG hr h8 h2 hk hL hx h)
theorem yf0 : ∀ r : Fin 2, ∀ H : Fin 8, ∀ k : Fin 5, yuN r.val H.val k.val 0 = 0 := by decide +kernel
theorem yi0 {r H k L : Nat} (hr : r < 2) (h8 : H < 8) (hk : k < 5) : ∀ n : Nat, yiN r H k L n 0 = 0
  | 0 => rfl
  | n + 1 => by
    have e : yfN r H k L 0 = 0 := by
      unfold yfN
      rw [yf0 ⟨r, hr⟩ ⟨H, h8⟩ ⟨k, hk⟩, Nat.zero_and]
    rw [yiN, e]
    exact yi0 hr h8 hk n
theorem yi_add {r H k L : Nat} (n : Nat) : ∀ m x : Nat, yiN r H k L (m + n) x = yiN r H k L n (yiN r H k L m x)
  | 0, x => by rw [Nat.zero_add]; rfl
  | m + 1, x => by
    rw [show m + 1 + n = (m + n) + 1 by omega, yiN, yi_add n m, yiN]
/-- who walks seven days walks for ever -/
theorem yi_ever {r H k L h : Nat} (hr : r < 2) (h8 : H < 8) (h2 : 2 ≤ H) (hk : k < 5) (hL : L < 2 ^ H) (hh : h < H) : (yiN r H k L 129 (2 ^ h) = 0) = (yiN r H k L 7 (2 ^ h) = 0) := by
  refine propext ⟨fun q => ?_, fun q => ?_⟩
  · by_cases z : yiN r H k L 7 (2 ^ h) = 0
    · exact z
    · exfalso
      have b : ¬ 2 ^ h &&& ygN r H k L = 0 := by
        intro e
        have g := ygN_h (r := r) (H := H) (k := k) (L := L) (show h < 7 by omega)
        rw [Nat.and_comm, e, ybeq0, ybeq0, decide_eq_false z] at g
        cases g
      have := yiG hr h8 h2 hk hL 129 (2 ^ h) (Nat.pow_lt_pow_right (by omega) hh) b
      rw [q, Nat.zero_and] at this
      exact this rfl
  · rw [show 129 = 7 + 122 from rfl, yi_add 122 7, q]
    exact yi0 hr h8 hk 122
theorem p_fN {N : Nat} (hN : 10 ≤ N) {σ τ : yS} {H L x k r : Nat} (R : yRH σ τ 17) (hH : τ.1 0 3 = (H : Int)) (hr : τ.1 0 4 = (r : Int)) (hk : k < 5) (hL : L < 2 ^ H) (hx : x < 2 ^ H) : f_X4_fallSet N σ 17 x k L = some (((yfN r H k L x : Nat) : Int), σ) ∧ f_X8_fallen N τ x k L = some (((yfN r H k L x : Nat) : Int), τ) := by
  have b0 := R.2.2.2.1
  have b1 := R.2.2.2.2.1
  have pw : (2 : Nat) ^ H ≤ 128 := Nat.pow_le_pow_right (n := 2) (by omega) (show H ≤ 7 by omega)
  have e := yfN_e (r := r) (H := H) (k := k) (L := L) (x := x) (by omega) (by omega) (by omega) hk (by omega) hx
  obtain ⟨y, -, ey, g7, g8⟩ := p_fallen (N := N) hN (σ := σ) (τ := τ) (t := 17) (L := L) (k := (k : Int)) R hH (by omega) hx
  rw [hr, hH, e] at ey
  rw [ey] at g7 g8
  exact ⟨g7, g8⟩
