/-- one turn of the reference's fallen -/
theorem x8_fturn {N n h : Nat} {τ : yS} {x k U s : Int} {L i : Nat} (k6 : yS → Int → Int → Int → Int → Int → Option (Int × yS)) (hp : 0 < τ.1 0 3) (hL : L < 128) (hU : yor U 0 = U) (hi : (i : Int) < (if k = 3 then 2 else 1)) (hs : ∀ τ1 : yS, f_X8_byOf N τ1 k i = some (s, τ1)) (ho : yof (τ.1 0 4) (τ.1 0 3) h s = -4 ∨ (0 ≤ yof (τ.1 0 4) (τ.1 0 3) h s ∧ yof (τ.1 0 4) (τ.1 0 3) h s < 7)) : f_X8_fallen_b18 N k6 (n + 1) τ x k L (yan U (yxo L (-1))) h i = f_X8_fallen_b18 N k6 n τ x k L (yan (yor U (yB (τ.1 0 4) (τ.1 0 3) x h s)) (yxo L (-1))) h ((i + 1 : Nat) : Int) := by
  have hg : decide ((if k = 3 then 2 else 1) ≤ (i : Int)) = false := decide_eq_false (by omega)
  have i2 : i < 2 := by
    by_cases q : k = 3
    · rw [if_pos q] at hi; omega
    · rw [if_neg q] at hi; omega
  have e3 : yad (i : Int) 1 = ((i + 1 : Nat) : Int) := by rw [yad_e (by omega) (by omega)]; omega
  rw [q_X8_fallen_b18]
  simp only [x8_fallsOf, ycP_ge, ycP_ne, ycP_eq, hg, cond_false, hs, x8_off hp, f_X8_fallen_b73, f_X8_fallen_b74, f_X8_fallen_b90, x8_flag (show (0 : Int) ≤ 0 ∧ (0 : Int) ≤ 1 by omega), x8_flag (show (0 : Int) ≤ 1 ∧ (1 : Int) ≤ 1 by omega), e3]
  have z0 : yor (yan U (yxo (L : Int) (-1))) 0 = yan U (yxo (L : Int) (-1)) := yor_an _ _
  unfold yB
  by_cases hb : yan (ysr x (h : Int)) 1 = 1
  · rcases ho with ho | ho
    · have s0 : ysl 0 0 = 0 := by decide +kernel
      rw [ho]
      simp only [hb, not_true_eq_false, decide_false, cond_false, decide_true, cond_true, and_false, if_false, s0, z0, hU]
    · obtain ⟨q, hq⟩ : ∃ q : Nat, yof (τ.1 0 4) (τ.1 0 3) h s = (q : Int) := ⟨(yof (τ.1 0 4) (τ.1 0 3) h s).toNat, by omega⟩
      rw [hq] at ho ⊢
      have n4 : ¬ (q : Int) = -4 := by omega
      have s0 := ysl0 ⟨q, by omega⟩
      have lb := ylb ⟨L, hL⟩ ⟨q, by omega⟩
      dsimp only at s0 lb
      by_cases hl : yan (ysr (L : Int) (q : Int)) 1 = 0
      · have c := lb.1 hl
        simp only [hb, n4, hl, not_true_eq_false, not_false_eq_true, decide_false, decide_true, cond_false, cond_true, and_self, if_true, yan_or, c]
      · have c := lb.2 hl
        simp only [hb, n4, hl, not_true_eq_false, not_false_eq_true, decide_false, decide_true, cond_false, cond_true, and_self, if_true, yan_or, c, s0, z0]
  · have e1 : ∀ y : Int, (bif decide (¬ yof (τ.1 0 4) (τ.1 0 3) h s = -4) then f_X8_fallen_b18 N k6 n τ x k L (yor (yan U (yxo (L : Int) (-1))) (ysl 0 (yof (τ.1 0 4) (τ.1 0 3) h s))) h ((i + 1 : Nat) : Int) else f_X8_fallen_b18 N k6 n τ x k L (yor (yan U (yxo (L : Int) (-1))) (ysl 0 0)) h ((i + 1 : Nat) : Int)) = f_X8_fallen_b18 N k6 n τ x k L (yan U (yxo (L : Int) (-1))) h ((i + 1 : Nat) : Int) := fun _ => by
      rcases ho with ho | ho
      · have s0 : ysl 0 0 = 0 := by decide +kernel
        rw [ho]
        simp only [not_true_eq_false, decide_false, cond_false, s0, z0]
      · obtain ⟨q, hq⟩ : ∃ q : Nat, yof (τ.1 0 4) (τ.1 0 3) h s = (q : Int) := ⟨(yof (τ.1 0 4) (τ.1 0 3) h s).toNat, by omega⟩
        rw [hq] at ho ⊢
        have n4 : ¬ (q : Int) = -4 := by omega
        have s0 := ysl0 ⟨q, by omega⟩
        dsimp only at s0
        simp only [n4, not_false_eq_true, decide_true, cond_true, s0, z0]
    simp only [hb, not_false_eq_true, decide_true, cond_true, false_and, if_false, hU]
    exact e1 0
theorem x8_byOf_e {N : Nat} {τ : yS} {k i : Int} : f_X8_byOf N τ k i = some (if k = 3 then (if i = 0 then -1 else 1) else if k = 1 then -1 else if k = 2 then 2 else 1, τ) := by
  simp only [f_X8_byOf, f_X8_byOf_b14, f_X8_byOf_b34, ycP_ne]
  by_cases h3 : k = 3
  · by_cases hi : i = 0
    · simp [h3, hi]
    · simp [h3, hi]
  · by_cases h1 : k = 1
    · simp [h1]
    · by_cases h2 : k = 2
      · simp [h2]
      · simp [h1, h2, h3]
theorem x4_stepOf_e {N : Nat} {σ : yS} {k i : Int} : f_X4_stepOf N σ k i = some (if k = 3 then (if i = 0 then -1 else 1) else if k = 1 then -1 else if k = 2 then 2 else 1, σ) := by
  simp only [f_X4_stepOf, f_X4_stepOf_b14, f_X4_stepOf_b16, f_X4_stepOf_b26, ycP_ne, ycP_eq]
  by_cases h3 : k = 3
  · by_cases hi : i = 0
    · simp [h3, hi]
    · simp [h3, hi]
  · by_cases h1 : k = 1
    · simp [h1]
    · by_cases h2 : k = 2
      · simp [h2]
      · simp [h1, h2, h3]
/-- the houses on which a set falls, no lawyer asked -/
noncomputable def yU (r H k x : Int) : Int := if k = 3 then yor (ysh r H x (-1)) (ysh r H x 1) else ysh r H x (if k = 1 then -1 else if k = 2 then 2 else 1)
theorem yU_z (r H k x : Int) : yor (yU r H k x) 0 = yU r H k x := by
  unfold yU
  split
  · exact yor_or _ _
  · exact ysh_z _ _ _ _
theorem x4_fallSet {N : Nat} (hN : 3 ≤ N) {σ : yS} {t : Nat} {x k l : Int} (h : 0 < σ.1 t 0) : f_X4_fallSet N σ t x k l = some (yan (yU (σ.1 t 1) (σ.1 t 0) k x) (yxo l (-1)), σ) := by
  obtain ⟨n, hn⟩ : ∃ n, N = n + 3 := ⟨N - 3, by omega⟩
  have y1 : yad 0 1 = 1 := by decide +kernel
  have y2 : yad 1 1 = 2 := by decide +kernel
  have o0 : ∀ s : Int, yor 0 (ysh (σ.1 t 1) (σ.1 t 0) x s) = ysh (σ.1 t 1) (σ.1 t 0) x s := fun s => by rw [yor_comm, ysh_z]
  have q1 : f_X4_fallSet_b6 N (n + 2 + 1) σ t x k l 0 0 = some (yan (yU (σ.1 t 1) (σ.1 t 0) k x) (yxo l (-1)), σ) := by
    by_cases h3 : k = 3
    · rw [q_X4_fallSet_b6]
      simp only [x4_fallsOf, x4_stepOf_e, h3, if_true, ycP_ge, decide_eq_false (show ¬ (2 : Int) ≤ 0 by omega), cond_false, x4_shiftSet h, y1, o0]
      rw [q_X4_fallSet_b6]
      simp only [x4_fallsOf, x4_stepOf_e, if_true, ycP_ge, decide_eq_false (show ¬ (2 : Int) ≤ 1 by omega), cond_false, x4_shiftSet h, y2, show ¬ (1 : Int) = 0 by omega, if_false]
      rw [q_X4_fallSet_b6]
      simp only [x4_fallsOf, if_true, ycP_ge, decide_eq_true (Int.le_refl (2 : Int)), cond_true, yU]
    · rw [q_X4_fallSet_b6]
      simp only [x4_fallsOf, x4_stepOf_e, h3, if_false, ycP_ge, decide_eq_false (show ¬ (1 : Int) ≤ 0 by omega), cond_false, x4_shiftSet h, y1, o0]
      rw [q_X4_fallSet_b6]
      simp only [x4_fallsOf, h3, if_false, ycP_ge, decide_eq_true (Int.le_refl (1 : Int)), cond_true, yU]
  rw [show n + 2 + 1 = N by omega] at q1
  exact q1
/-- the step of the houses -/
theorem yU_s {r H x h : Nat} {k : Int} (hr : r < 2) (h8 : H < 8) (h2 : 2 ≤ H) (hx : x < 128) (hh : h < H) : (k = 3 → yU r H k ((x % 2 ^ (h + 1) : Nat) : Int) = yor (yor (yU r H k ((x % 2 ^ h : Nat) : Int)) (yB r H x h (-1))) (yB r H x h 1)) ∧ (¬ k = 3 → yU r H k ((x % 2 ^ (h + 1) : Nat) : Int) = yor (yU r H k ((x % 2 ^ h : Nat) : Int)) (yB r H x h (if k = 1 then -1 else if k = 2 then 2 else 1))) := by
  have a := ysh_b ⟨r, hr⟩ ⟨H, h8⟩ ⟨x, hx⟩ ⟨h, by omega⟩ ⟨0, by omega⟩ h2 hh
  have b := ysh_b ⟨r, hr⟩ ⟨H, h8⟩ ⟨x, hx⟩ ⟨h, by omega⟩ ⟨1, by omega⟩ h2 hh
  have c := ysh_b ⟨r, hr⟩ ⟨H, h8⟩ ⟨x, hx⟩ ⟨h, by omega⟩ ⟨2, by omega⟩ h2 hh
  dsimp only at a b c
  rw [show ystp 0 = -1 from rfl] at a
  rw [show ystp 1 = 1 from rfl] at b
  rw [show ystp 2 = 2 from rfl] at c
  refine ⟨fun hk => ?_, fun hk => ?_⟩
  · unfold yU
    rw [if_pos hk, if_pos hk, a, b]
    generalize ysh (r : Int) (H : Int) ((x % 2 ^ h : Nat) : Int) (-1) = X
    generalize ysh (r : Int) (H : Int) ((x % 2 ^ h : Nat) : Int) 1 = Y
    generalize yB (r : Int) (H : Int) (x : Int) (h : Int) (-1) = P
    generalize yB (r : Int) (H : Int) (x : Int) (h : Int) 1 = Q
    rw [yor_assoc X P, ← yor_assoc P Y Q, yor_comm P Y, yor_assoc Y P Q, ← yor_assoc X Y, ← yor_assoc (yor X Y) P Q]
  · unfold yU
    rw [if_neg hk, if_neg hk]
    by_cases h1 : k = 1
    · simp only [h1, if_true]; exact a
    · by_cases h2 : k = 2
      · subst h2
        simp only [show ¬ (2 : Int) = 1 by omega, if_false, if_true]; exact c
      · simp only [h1, h2, if_false]; exact b
theorem x8_fallen_l {N H L x : Nat} (hN : 3 ≤ N) {τ : yS} {r : Nat} {k : Int} (hr : τ.1 0 4 = (r : Int)) (hH : τ.1 0 3 = (H : Int)) (r2 : r < 2) (h8 : H < 8) (h2 : 2 ≤ H) (hL : L < 128) (hx : x < 128) : ∀ (c n h : Nat), h + c = H → f_X8_fallen_b6 N (n + c + 1) τ x k L (yan (yU r H k ((x % 2 ^ h : Nat) : Int)) (yxo L (-1))) h = some (yan (yU r H k ((x % 2 ^ H : Nat) : Int)) (yxo L (-1)), τ)
  | 0, n, h, e => by
    have e : h = H := by omega
    subst e
    rw [q_X8_fallen_b6, hH]
    simp [ycP_ge]
  | c + 1, n, h, e => by
    obtain ⟨M, hM⟩ : ∃ n, N = n + 3 := ⟨N - 3, by omega⟩
    have hp : 0 < τ.1 0 3 := by omega
    have e3 : yad (h : Int) 1 = ((h + 1 : Nat) : Int) := by rw [yad_e (by omega) (by omega)]; omega
    have ob : ∀ s : Nat, s < 3 → yof (τ.1 0 4) (τ.1 0 3) h (ystp s) = -4 ∨ (0 ≤ yof (τ.1 0 4) (τ.1 0 3) h (ystp s) ∧ yof (τ.1 0 4) (τ.1 0 3) h (ystp s) < 7) := fun s hs => by
      have q := yof_b ⟨r, r2⟩ ⟨H, h8⟩ ⟨h, by omega⟩ ⟨s, hs⟩ h2 (by show h < H; omega)
      dsimp only at q
      rw [hr, hH]
      omega
    have us := yU_s (k := k) r2 h8 h2 hx (show h < H by omega)
    have ih := x8_fallen_l hN (k := k) hr hH r2 h8 h2 hL hx c n (h + 1) (by omega)
    rw [show n + (c + 1) + 1 = (n + c + 1) + 1 by omega, q_X8_fallen_b6, hH]
    simp only [ycP_ge, decide_eq_false (show ¬ (H : Int) ≤ (h : Int) by omega), cond_false]
    by_cases h3 : k = 3
    · have t1 := x8_fturn (N := N) (n := M + 2) (h := h) (τ := τ) (x := (x : Int)) (k := k) (U := yU r H k ((x % 2 ^ h : Nat) : Int)) (s := -1) (L := L) (i := 0) (f_X8_fallen_b6 N (n + c + 1)) hp hL (yU_z _ _ _ _) (by rw [if_pos h3]; simp) (fun τ1 => by rw [x8_byOf_e]; simp [h3]) (ob 0 (by omega))
      have t2 := x8_fturn (N := N) (n := M + 1) (h := h) (τ := τ) (x := (x : Int)) (k := k) (U := yor (yU r H k ((x % 2 ^ h : Nat) : Int)) (yB r H x h (-1))) (s := 1) (L := L) (i := 1) (f_X8_fallen_b6 N (n + c + 1)) hp hL (yor_or _ _) (by rw [if_pos h3]; simp) (fun τ1 => by rw [x8_byOf_e]; simp [h3]) (ob 1 (by omega))
      rw [hr, hH] at t1 t2
      rw [show M + 2 + 1 = N by omega] at t1
      refine t1.trans (t2.trans ?_)
      rw [← us.1 h3, q_X8_fallen_b18]
      simp only [x8_fallsOf, ycP_ge, if_pos h3, show decide ((2 : Int) ≤ ((1 + 1 : Nat) : Int)) = true from rfl, cond_true, e3]
      exact ih
    · have t1 := x8_fturn (N := N) (n := M + 2) (h := h) (τ := τ) (x := (x : Int)) (k := k) (U := yU r H k ((x % 2 ^ h : Nat) : Int)) (s := if k = 1 then -1 else if k = 2 then 2 else 1) (L := L) (i := 0) (f_X8_fallen_b6 N (n + c + 1)) hp hL (yU_z _ _ _ _) (by rw [if_neg h3]; simp) (fun τ1 => by rw [x8_byOf_e]; simp [h3]) (by
        by_cases q1 : k = 1
        · simp only [q1, if_true]; exact ob 0 (by omega)
        · by_cases q2 : k = 2
          · subst q2
            simp only [show ¬ (2 : Int) = 1 by omega, if_false, if_true]; exact ob 2 (by omega)
          · simp only [q1, q2, if_false]; exact ob 1 (by omega))
      rw [hr, hH] at t1
      rw [show M + 2 + 1 = N by omega] at t1
      refine t1.trans ?_
      rw [← us.2 h3, q_X8_fallen_b18]
      simp only [x8_fallsOf, ycP_ge, if_neg h3, show decide ((1 : Int) ≤ ((0 + 1 : Nat) : Int)) = true from rfl, cond_true, e3]
      exact ih
/-- on both sides the same houses -/
theorem p_fallen {N : Nat} (hN : 10 ≤ N) {σ τ : yS} {t H L x : Nat} {k : Int} (R : yRH σ τ t) (hH : τ.1 0 3 = (H : Int)) (hL : L < 128) (hx : x < 2 ^ H) : ∃ y : Nat, y < 2 ^ H ∧ (y : Int) = yan (yU (τ.1 0 4) (τ.1 0 3) k x) (yxo L (-1)) ∧ f_X4_fallSet N σ t x k L = some ((y : Int), σ) ∧ f_X8_fallen N τ x k L = some ((y : Int), τ) := by
  obtain ⟨e0, e1, e2, b0, b1, b2, hc⟩ := R
  obtain ⟨r, hr⟩ : ∃ r : Nat, τ.1 0 4 = (r : Int) := ⟨(τ.1 0 4).toNat, by omega⟩
  have h8 : H < 8 := by omega
  have hp : 2 ^ H ≤ 128 := Nat.pow_le_pow_right (n := 2) (by omega) (show H ≤ 7 by omega)
  have mk : ∀ H : Fin 8, ysu (ysl 1 ((H.val : Nat) : Int)) 1 = ((2 ^ H.val : Nat) : Int) - 1 := by decide +kernel
  have mk := mk ⟨H, h8⟩
  dsimp only at mk
  have pos : 0 < 2 ^ H := Nat.two_pow_pos H
  have shb : ∀ s : Int, 0 ≤ ysh (τ.1 0 4) (τ.1 0 3) x s ∧ ysh (τ.1 0 4) (τ.1 0 3) x s < ((2 ^ H : Nat) : Int) := fun s => by
    have key : ∀ z : Int, 0 ≤ yan z (ysu (ysl 1 (τ.1 0 3)) 1) ∧ yan z (ysu (ysl 1 (τ.1 0 3)) 1) < ((2 ^ H : Nat) : Int) := fun z => by
      rw [hH, mk]
      have e := zq_of (z := ((2 ^ H : Nat) : Int) - 1) (by omega) (by omega)
      have q := zand_r (Int32.ofInt z) (Int32.ofInt (((2 ^ H : Nat) : Int) - 1)) (by omega)
      rw [e] at q
      unfold yan
      omega
    unfold ysh
    split
    · exact key _
    · exact key _
  have ub : 0 ≤ yU (τ.1 0 4) (τ.1 0 3) k x ∧ yU (τ.1 0 4) (τ.1 0 3) k x < ((2 ^ H : Nat) : Int) := by
    unfold yU
    split
    · have a := shb (-1)
      have b := shb 1
      generalize ysh (τ.1 0 4) (τ.1 0 3) x (-1) = X at a ⊢
      generalize ysh (τ.1 0 4) (τ.1 0 3) x 1 = Y at b ⊢
      have eX := zq_of (z := X) (by omega) (by omega)
      have eY := zq_of (z := Y) (by omega) (by omega)
      have c2 : (((2 ^ H : Nat) : Int)) = (2 : Int) ^ H := by simp
      have q := zor_b (Int32.ofInt X) (Int32.ofInt Y) H (by omega) (by omega) (by omega) (by omega) (by omega)
      unfold yor
      omega
    · exact shb _
  have fb : 0 ≤ yan (yU (τ.1 0 4) (τ.1 0 3) k x) (yxo L (-1)) ∧ yan (yU (τ.1 0 4) (τ.1 0 3) k x) (yxo L (-1)) < ((2 ^ H : Nat) : Int) := by
    generalize yU (τ.1 0 4) (τ.1 0 3) k x = X at ub ⊢
    have eX := zq_of (z := X) (by omega) (by omega)
    have q := zand_l (Int32.ofInt X) (Int32.ofInt (yxo L (-1))) (by omega)
    unfold yan
    omega
  obtain ⟨y, hy⟩ : ∃ y : Nat, yan (yU (τ.1 0 4) (τ.1 0 3) k x) (yxo L (-1)) = (y : Int) := ⟨(yan (yU (τ.1 0 4) (τ.1 0 3) k x) (yxo L (-1))).toNat, by omega⟩
  have q8 := x8_fallen_l (N := N) (H := H) (L := L) (x := x) (by omega) (τ := τ) (k := k) hr hH (by omega) h8 (by omega) hL (by omega) H (N - H - 1) 0 (by omega)
  have z0 : yan (yU (r : Int) (H : Int) k ((x % 2 ^ 0 : Nat) : Int)) (yxo (L : Int) (-1)) = 0 := by
    rw [Nat.pow_zero, Nat.mod_one]
    have s0 : ∀ s : Nat, s < 3 → ysh (r : Int) (H : Int) 0 (ystp s) = 0 := fun s hs => ysh_0 ⟨r, by omega⟩ ⟨H, h8⟩ ⟨s, hs⟩ (by show 2 ≤ H; omega)
    have u0 : yU (r : Int) (H : Int) k ((0 : Nat) : Int) = 0 := by
      unfold yU
      split
      · have a := s0 0 (by omega)
        have b := s0 1 (by omega)
        rw [show ystp 0 = -1 from rfl] at a
        rw [show ystp 1 = 1 from rfl] at b
        show yor (ysh r H 0 (-1)) (ysh r H 0 1) = 0
        rw [a, b]
        decide +kernel
      · by_cases q1 : k = 1
        · simp only [q1, if_true]; exact s0 0 (by omega)
        · by_cases q2 : k = 2
          · subst q2
            simp only [show ¬ (2 : Int) = 1 by omega, if_false, if_true]; exact s0 2 (by omega)
          · simp only [q1, q2, if_false]; exact s0 1 (by omega)
    rw [u0, yan0]
  rw [z0, show N - H - 1 + H + 1 = N by omega, Nat.mod_eq_of_lt hx, ← hr, ← hH, hy] at q8
  refine ⟨y, by omega, hy.symm, ?_, q8⟩
  rw [x4_fallSet (by omega) (by rw [e0]; omega), e0, e1, hy]
