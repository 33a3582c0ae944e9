theorem ybw5 : ∀ S : Fin 32, ∀ a : Fin 5, 0 ≤ yor ((S.val : Nat) : Int) (ysl 1 ((a.val : Nat) : Int)) ∧ yor ((S.val : Nat) : Int) (ysl 1 ((a.val : Nat) : Int)) < 32 := by decide +kernel
theorem yRD_hs {σ τ σ' τ' : yS} {A : Nat} {v n s : Int} (R : yRD σ τ) (hA : A < 7) (r : σ'.2 = σ.2) (w7 : ∀ i b : Nat, ¬ (i = 2 ∧ ((1 ≤ b ∧ b ≤ 5) ∨ b = 8 ∨ b = 11 ∨ b = 12)) → ¬ (40 ≤ i ∧ i ≤ 41 ∧ b = A) → σ'.1 i b = σ.1 i b) (w8 : ∀ i b : Nat, ¬ (i = 0 ∧ ((18 ≤ b ∧ b ≤ 23) ∨ b = 14 ∨ b = 15)) → ¬ (i = 7 ∧ b = 0) → ¬ (i = 5 ∧ (b = A ∨ b = 7 + A)) → τ'.1 i b = τ.1 i b) (x0 : σ'.1 2 8 = v) (y0 : τ'.1 7 0 = v) (vb : 0 ≤ v ∧ v < 128) (x1 : σ'.1 40 A = n) (y1 : τ'.1 5 A = n) (x2 : σ'.1 41 A = s) (y2 : τ'.1 5 (7 + A) = s) (sb : 0 ≤ s ∧ s < 32) (gr : yGr (σ'.1 2 11) (τ'.1 0 14) 6 ∧ τ.1 0 14 ≤ τ'.1 0 14) (gd : yGr (σ'.1 2 12) (τ'.1 0 15) 4 ∧ τ.1 0 15 ≤ τ'.1 0 15) : yRD σ' τ' := by
  obtain ⟨⟨q1, q2, q3, q4, q5, q6, q7⟩, T, G, K, z, ⟨s1, s2, s3⟩, ⟨a1, a2, a3, a4⟩, b, g1, g2⟩ := R
  have low : ∀ j : Nat, 14 ≤ j → τ'.1 5 j = τ.1 5 j := fun j hj => w8 5 j (by omega) (by omega) (by omega)
  have mid : ∀ i : Nat, i < 7 → ¬ i = A → τ'.1 5 i = τ.1 5 i ∧ τ'.1 5 (7 + i) = τ.1 5 (7 + i) := fun i hi e => ⟨w8 5 _ (by omega) (by omega) (by omega), w8 5 _ (by omega) (by omega) (by omega)⟩
  have G2 := yGe_m (hs' := τ'.1 0 14 + 1) (ds' := τ'.1 0 15 + 1) (by omega) (by omega) G
  have K2 := yGk_m (hs' := τ'.1 0 14 + 1) (ds' := τ'.1 0 15 + 1) (by omega) (by omega) K
  refine ⟨⟨?_, ?_, ?_, ?_, ?_, ?_, fun e he => ?_⟩, ?_, ?_, ?_, ?_, ?_, ⟨?_, ?_, ?_, ?_⟩, fun j hj => ?_, gr.1, gd.1⟩
  · rw [w7 _ _ (by decide) (by omega), w8 _ _ (by decide) (by decide) (by omega)]; exact q1
  · rw [w7 _ _ (by decide) (by omega), w8 _ _ (by decide) (by decide) (by omega)]; exact q2
  · rw [w7 _ _ (by decide) (by omega), w8 _ _ (by decide) (by decide) (by omega)]; exact q3
  · rw [w8 _ _ (by decide) (by decide) (by omega)]; exact q4
  · rw [w8 _ _ (by decide) (by decide) (by omega)]; exact q5
  · rw [w8 _ _ (by decide) (by decide) (by omega)]; exact q6
  · rw [w8 _ _ (by decide) (by decide) (by omega)] at he
    rw [w7 _ _ (by omega) (by omega), w8 _ _ (by omega) (by omega) (by omega)]; exact q7 e he
  · obtain ⟨t1, t2, ⟨t3, t4⟩, ⟨t5, t6⟩, ⟨d0, d1, d2, d3⟩, t7⟩ := T
    refine ⟨fun i hi => ?_, fun j hj => ?_, ⟨?_, fun i hi => ?_⟩, ⟨?_, fun i hi => ?_⟩, ⟨?_, ?_, ?_, ?_⟩, ?_⟩
    all_goals try dsimp only
    · rw [w7 38 _ (by omega) (by omega), w7 (38 + 4) _ (by omega) (by omega), w7 (38 + 5) _ (by omega) (by omega), w7 (38 + 6) _ (by omega) (by omega), low (14 + i) (by omega), low (21 + i) (by omega), low (28 + i) (by omega), low (35 + i) (by omega)]
      obtain ⟨u0, u1, u2, u3, u4, u5⟩ := t1 i hi
      by_cases e : i = A
      · subst e
        exact ⟨x1.trans y1.symm, x2.trans y2.symm, u2, u3, u4, u5⟩
      · obtain ⟨m1, m2⟩ := mid i hi e
        rw [m1, m2, w7 (38 + 2) _ (by omega) (by omega), w7 (38 + 3) _ (by omega) (by omega)]
        exact ⟨u0, u1, u2, u3, u4, u5⟩
    · rw [w7 _ _ (by omega) (by omega), low _ (by omega)]; exact t2 j hj
    · rw [r, w7 _ _ (by omega) (by omega), low _ (by omega)]; exact t3
    · dsimp only at hi
      rw [low _ (by omega)] at hi
      rw [r, w7 _ _ (by omega) (by omega), w7 _ _ (by omega) (by omega), w7 _ _ (by omega) (by omega), w7 _ _ (by omega) (by omega), low (78 + 4 * i) (by omega), low (79 + 4 * i) (by omega), low (80 + 4 * i) (by omega), low (81 + 4 * i) (by omega)]; exact t4 i hi
    · rw [w7 _ _ (by omega) (by omega), low _ (by omega)]; exact t5
    · dsimp only at hi
      rw [low _ (by omega)] at hi
      rw [w7 _ _ (by omega) (by omega), w7 _ _ (by omega) (by omega), low _ (by omega), low _ (by omega)]; exact t6 i hi
    · rw [w7 _ _ (by omega) (by omega), low _ (by omega)]; exact d0
    · rw [w7 _ _ (by omega) (by omega), low _ (by omega)]; exact d1
    · rw [w7 _ _ (by omega) (by omega), low _ (by omega)]; exact d2
    · rw [w7 _ _ (by omega) (by omega), low _ (by omega)]; exact d3
    · rw [r]; exact t7
  · obtain ⟨c0, c1, c2, c3, c4, c5⟩ := G2
    refine ⟨by rw [w7 _ _ (by omega) (by omega)]; exact c0, fun i hi => ?_, ?_, fun i hi => ?_, ?_, fun i hi => ?_⟩
    all_goals try dsimp only
    · rw [low (14 + i) (by omega), low (21 + i) (by omega), low (28 + i) (by omega), low (35 + i) (by omega)]
      obtain ⟨u0, u1⟩ := c1 i hi
      by_cases e : i = A
      · subst e
        rw [y2]
        exact ⟨sb, u1⟩
      · rw [(mid i hi e).2]
        exact ⟨u0, u1⟩
    · rw [low _ (by omega)]; exact c2
    · dsimp only at hi
      rw [low _ (by omega)] at hi
      rw [low _ (by omega), low _ (by omega), low _ (by omega), low _ (by omega)]; exact c3 i hi
    · rw [low _ (by omega)]; exact c4
    · dsimp only at hi
      rw [low _ (by omega)] at hi
      rw [low _ (by omega), low _ (by omega)]; exact c5 i hi
  · obtain ⟨k1, k2, k3⟩ := K2
    refine ⟨fun j hj => ?_, fun i hi q => ?_, fun i hi q => ?_⟩
    · dsimp only
      rw [low _ (by omega)]; exact k1 j hj
    · dsimp only at q ⊢
      rw [low _ (by omega)] at q ⊢
      exact k2 i hi q
    · dsimp only
      rw [low _ (by omega)]; exact k3 i hi q
  · rw [low _ (by omega)]; exact z
  · rw [w7 _ _ (by decide) (by omega), w8 _ _ (by decide) (by decide) (by omega)]; exact ⟨s1, s2, s3⟩
  · rw [x0, y0]
  · rw [w7 _ _ (by decide) (by omega), w8 _ _ (by decide) (by decide) (by omega)]; exact a2
  · rw [w7 _ _ (by decide) (by omega), w8 _ _ (by decide) (by decide) (by omega)]; exact a3
  · rw [w7 38 6 (by decide) (by omega), w7 2 9 (by decide) (by omega)]; exact a4
  · by_cases e : j = 0
    · subst e
      rw [y0]; exact vb
    · rw [w8 _ _ (by omega) (by omega) (by omega)]; exact b j hj
/-- what the loop over a house's deeds does, once, in the reference -/
noncomputable def yCn (N : Nat) (τ : yS) (A : Int) (ih : yS → Int → Option (Int × yS)) : Option (Int × yS) := match f_X8_lookedDeed N τ with
        | none => none
        | some r1 => bif ycP .ne (r1.2.1 0 22) 0 then
            f_X8_readCan_b68 N ih r1.2 A
          else
            bif yin (yad 7 A) 131 then
              bif ycP .ne (yan (ysr (r1.2.1 5 (yad 7 A).toNat) r1.1) 1) 0 then
                f_X8_readCan_b49 N ih r1.2 A r1.1 0
              else
                f_X8_readCan_b49 N ih r1.2 A r1.1 1
            else none
theorem p_can1 {N : Nat} (hN : 400 ≤ N) {σ τ : yS} {A : Nat} (hA : A < 7) (HH : yLx σ τ ∧ yTk σ τ) (R : yRD σ τ) : ∃ (a v u : Int) (σ1 σ3 σ' τ' : yS), f_X1_numberHere N σ 0 4 = some (a, σ1) ∧ ymx (σ1.1 2 12) a = u ∧ f_X1_tellOnce N (yw σ1 2 12 u) ((yw σ1 2 12 u).1 (38 + 3) A) a = some (v, σ3) ∧ f_X1_readToken N (yw σ3 (38 + 3) A v) = some (0, σ') ∧ (∀ k0 : yS → Int → Option (Int × yS), yCn N τ (A : Int) k0 = k0 τ' (A : Int)) ∧ yE σ' τ' ∧ σ'.2 = σ.2 ∧ (∀ i b : Nat, ¬ (i = 2 ∧ ((1 ≤ b ∧ b ≤ 5) ∨ b = 12)) → ¬ (i = 41 ∧ b = A) → σ'.1 i b = σ.1 i b) ∧ (∀ i b : Nat, ¬ (i = 0 ∧ ((18 ≤ b ∧ b ≤ 23) ∨ b = 15)) → ¬ (i = 5 ∧ b = 7 + A) → τ'.1 i b = τ.1 i b) ∧ σ.1 2 1 ≤ σ'.1 2 1 ∧ (σ'.1 2 4 = 0 → ¬ σ'.1 2 2 = 0 → σ.1 2 1 < σ'.1 2 1) ∧ (σ'.1 2 4 = 0 → yRD σ' τ') := by
  have gd := R.2.2.2.2.2.2.2.2.2
  have sk : σ.1 41 A = τ.1 5 (7 + A) := (R.2.1.1 A hA).2.1
  have sb : 0 ≤ τ.1 5 (7 + A) ∧ τ.1 5 (7 + A) < 32 := (R.2.2.1.2.1 A hA).1
  have e7 : yad 7 (A : Int) = ((7 + A : Nat) : Int) := by rw [yad_e (by omega) (by omega)]; omega
  have j7 : yin ((7 + A : Nat) : Int) 131 = true := by rw [yin_d]; exact decide_eq_true (by omega)
  obtain ⟨a, b, σ1, τ1, n7, n8, E1, ha, hb, s1, w7, w8, mo1, ok1⟩ := p_deedHere (N := N) hN (Or.inl HH) (fun _ => gd)
  obtain ⟨u, hu⟩ : ∃ u : Int, ymx (σ1.1 2 12) a = u := ⟨_, rfl⟩
  rw [hu] at E1 ok1
  have n4 : (yw σ1 2 12 u).1 2 4 = σ1.1 2 4 := yw_n (by decide)
  have n41 : (yw σ1 2 12 u).1 (38 + 3) A = σ.1 41 A := (yw_n (fun q => absurd q.2 (by decide))).trans (w7 41 A (fun q => absurd q.1 (by decide)))
  have t75 : τ1.1 5 (7 + A) = τ.1 5 (7 + A) := w8 5 _ (fun q => absurd q.1 (by decide))
  have fe := yE_f E1
  by_cases f0 : σ1.1 2 4 = 0
  · obtain ⟨e1, e2, e3, e4⟩ := ok1 f0
    subst e1
    have f22 : τ1.1 0 22 = 0 := by rw [← fe.1, n4]; exact f0
    obtain ⟨S, hS⟩ : ∃ S : Nat, τ.1 5 (7 + A) = (S : Int) := ⟨(τ.1 5 (7 + A)).toNat, by omega⟩
    obtain ⟨D, hD⟩ : ∃ D : Nat, a = (D : Int) := ⟨a.toNat, by omega⟩
    have bs := ybw5 ⟨S, by omega⟩ ⟨D, by omega⟩
    have bb := ybit7 ⟨S, by omega⟩ ⟨D, by omega⟩
    dsimp only at bs bb
    rw [← hD, ← hS] at bs bb
    have H1 := yE_ok E1 (n4.trans f0)
    have rf : ∀ (fl : Int) (τ3 τ4 : yS), (∀ q : Int, q = yan (ysr (τ.1 5 (7 + A)) a) 1 → ((¬ q = 0 ∧ fl = 0) ∨ (q = 0 ∧ fl = 1))) → f_X8_needs N τ1 fl 4 = some (0, τ3) → τ3.1 5 (7 + A) = τ.1 5 (7 + A) → f_X8_next N (yw τ3 5 (7 + A) (yor (τ.1 5 (7 + A)) (ysl 1 a))) = some (0, τ4) → ∀ k0 : yS → Int → Option (Int × yS), yCn N τ (A : Int) k0 = k0 τ4 (A : Int) := fun fl τ3 τ4 hq hn ht hx k0 => by
      have q := hq _ rfl
      unfold yCn
      rw [n8]
      show (bif ycP .ne (τ1.1 0 22) 0 then f_X8_readCan_b68 N k0 τ1 A else bif yin (yad 7 (A : Int)) 131 then bif ycP .ne (yan (ysr (τ1.1 5 (yad 7 (A : Int)).toNat) a) 1) 0 then f_X8_readCan_b49 N k0 τ1 A a 0 else f_X8_readCan_b49 N k0 τ1 A a 1 else none) = _
      rw [f22, ybz2, e7, j7, cond_true, Int.toNat_natCast, t75, ycP_ne]
      have fin : f_X8_readCan_b49 N k0 τ1 A a fl = k0 τ4 (A : Int) := by
        unfold f_X8_readCan_b49
        rw [hn]
        show (bif yin (yad 7 (A : Int)) 131 then f_X8_readCan_b68 N k0 (yw τ3 5 (yad 7 (A : Int)).toNat (yor (τ3.1 5 (yad 7 (A : Int)).toNat) (ysl 1 a))) A else none) = _
        rw [e7, j7, cond_true, Int.toNat_natCast, ht]
        unfold f_X8_readCan_b68
        rw [hx]
      rcases q with ⟨q1, q2⟩ | ⟨q1, q2⟩
      · rw [decide_eq_true q1, cond_true]
        rw [q2] at fin
        exact fin
      · rw [decide_eq_false (fun r => r q1), cond_false]
        rw [q2] at fin
        exact fin
    by_cases hd : yan (ysr (τ.1 5 (7 + A)) a) 1 = 1
    · obtain ⟨p1, p2, p3⟩ := p_fail (N := N) H1 (show (0 : Int) < 4 by decide)
      have Es : yE (yw (yw (yw (yw σ1 2 12 u) 2 4 4) 2 5 ((yw σ1 2 12 u).1 2 3)) (38 + 3) A (yor ((yw σ1 2 12 u).1 (38 + 3) A) (ysl 1 a))) (yw (yw (yw τ1 0 22 4) 0 23 (τ1.1 0 19)) 5 (7 + A) (yor (τ.1 5 (7 + A)) (ysl 1 a))) := yE_w8 (yE_w7 p3 ⟨fun q => absurd q.1 (by decide), by decide, by decide⟩) (by omega)
      obtain ⟨σ', τ', t7, t8, E', i7, i8, mo, z', st, nb⟩ := p_next (N := N) hN Es
      have mz : (yw (yw (yw (yw σ1 2 12 u) 2 4 4) 2 5 ((yw σ1 2 12 u).1 2 3)) (38 + 3) A (yor ((yw σ1 2 12 u).1 (38 + 3) A) (ysl 1 a))).1 2 1 = σ.1 2 1 := by
        rw [yw_n (fun q => absurd q.2 (by decide)), yw_n (by decide), yw_n (by decide), yw_n (by decide)]; exact mo1
      have zz : ¬ σ'.1 2 4 = 0 := fun q => by
        have q2 := z' q
        rw [yw_n (fun q => absurd q.2 (by decide)), yw_n (by decide), yw_p] at q2
        exact absurd q2 (by decide)
      refine ⟨a, yor ((yw σ1 2 12 u).1 (38 + 3) A) (ysl 1 a), u, σ1, _, σ', τ', n7, hu, x1_once.2 (by rw [n41, sk]; exact hd) _ p1, t7, rf 0 _ τ' (fun q hq => Or.inl ⟨by rw [hq, hd]; decide, rfl⟩) p2 ?_ t8, E', ?_, fun i c h1 h2 => ?_, fun i c h1 h2 => ?_, ?_, fun q => absurd q zz, fun q => absurd q zz⟩
      · rw [yw_n (fun q => absurd q.2 (by decide)), yw_n (fun q => absurd q.2 (by decide))]; exact t75
      · exact i7.1.trans s1
      · rw [i7.2 i c (by omega), yw_n (by omega), yw_n (by omega), yw_n (by omega), yw_n (by omega)]; exact w7 i c (by omega)
      · rw [i8 i c (by omega), yw_n (by omega), yw_n (by omega), yw_n (by omega)]; exact w8 i c (by omega)
      · rw [mz] at mo; exact mo
    · have hz : yan (ysr (τ.1 5 (7 + A)) a) 1 = 0 := by
        rcases bb with h | h
        · exact h
        · exact absurd h hd
      have Es : yE (yw (yw σ1 2 12 u) (38 + 3) A (yor ((yw σ1 2 12 u).1 (38 + 3) A) (ysl 1 a))) (yw τ1 5 (7 + A) (yor (τ.1 5 (7 + A)) (ysl 1 a))) := yE_w8 (yE_w7 E1 ⟨fun q => absurd q.1 (by decide), by decide, by decide⟩) (by omega)
      obtain ⟨σ', τ', t7, t8, E', i7, i8, mo, z', st, nb⟩ := p_next (N := N) hN Es
      have mz : (yw (yw σ1 2 12 u) (38 + 3) A (yor ((yw σ1 2 12 u).1 (38 + 3) A) (ysl 1 a))).1 2 1 = σ.1 2 1 := by
        rw [yw_n (fun q => absurd q.2 (by decide)), yw_n (by decide)]; exact mo1
      rw [mz] at mo st
      have V7 : ∀ i c : Nat, ¬ (i = 2 ∧ ((1 ≤ c ∧ c ≤ 5) ∨ c = 12)) → ¬ (i = 41 ∧ c = A) → σ'.1 i c = σ.1 i c := fun i c h1 h2 => by
        rw [i7.2 i c (by omega), yw_n (by omega), yw_n (by omega)]; exact w7 i c (by omega)
      have V8 : ∀ i c : Nat, ¬ (i = 0 ∧ ((18 ≤ c ∧ c ≤ 23) ∨ c = 15)) → ¬ (i = 5 ∧ c = 7 + A) → τ'.1 i c = τ.1 i c := fun i c h1 h2 => by
        rw [i8 i c (by omega), yw_n (by omega)]; exact w8 i c (by omega)
      have rr : σ'.2 = σ.2 := i7.1.trans s1
      refine ⟨a, yor ((yw σ1 2 12 u).1 (38 + 3) A) (ysl 1 a), u, σ1, _, σ', τ', n7, hu, x1_once.1 (by rw [n41, sk]; exact hd), t7, rf 1 τ1 τ' (fun q hq => Or.inr ⟨by rw [hq]; exact hz, rfl⟩) x8_ngood t75 t8, E', rr, V7, V8, mo, st, fun q => ?_⟩
      have m8 : σ'.1 2 8 = σ.1 2 8 := V7 2 8 (by decide) (by omega)
      have m11 : σ'.1 2 11 = σ.1 2 11 := V7 2 11 (by decide) (by omega)
      have m12 : σ'.1 2 12 = u := (i7.2 2 12 (by decide)).trans ((yw_n (fun q => absurd q.2 (by decide))).trans yw_p)
      have o14 : τ'.1 0 14 = τ.1 0 14 := V8 0 14 (by decide) (by omega)
      have o15 : τ'.1 0 15 = τ1.1 0 15 := (i8 0 15 (by decide)).trans (yw_n (by omega))
      refine yRD_hs (A := A) (v := σ.1 2 8) (n := σ.1 40 A) (s := yor (τ.1 5 (7 + A)) (ysl 1 a)) R hA rr (fun i c h1 h2 => V7 i c (by omega) (by omega)) (fun i c h1 h2 h3 => V8 i c (by omega) (by omega)) m8 ((V8 7 0 (by decide) (by omega)).trans R.2.2.2.2.2.2.1.1.symm) (by rw [R.2.2.2.2.2.2.1.1]; exact R.2.2.2.2.2.2.2.1 0 (by decide)) (V7 40 A (by omega) (by omega)) ((V8 5 A (by omega) (by omega)).trans (R.2.1.1 A hA).1.symm) ?_ ?_ bs ⟨?_, ?_⟩ ⟨?_, ?_⟩
      · rw [i7.2 41 A (by omega)]
        show (yw (yw σ1 2 12 u) (38 + 3) A _).1 (38 + 3) A = _
        rw [yw_p, n41, sk]
      · rw [i8 5 (7 + A) (by omega), yw_p]
      · rw [m11, o14]; exact R.2.2.2.2.2.2.2.2.1
      · rw [o14]; exact Int.le_refl _
      · rw [m12, o15]; exact Or.inr ⟨e4.1, e4.2.2.2.1, e4.2.2.2.2⟩
      · rw [o15]; exact e4.2.1
  · have f22 : ¬ τ1.1 0 22 = 0 := by rw [← fe.1, n4]; exact f0
    obtain ⟨v, hv⟩ := x1_obad (N := N) (x := (yw σ1 2 12 u).1 (38 + 3) A) (i := a) (yB7_e E1 (by rw [n4]; exact f0))
    have Es : yE (yw (yw σ1 2 12 u) (38 + 3) A v) τ1 := yE_w7 E1 ⟨fun q => absurd q.1 (by decide), by decide, by decide⟩
    obtain ⟨σ', τ', t7, t8, E', i7, i8, mo, z', st, nb⟩ := p_next (N := N) hN Es
    have mz : (yw (yw σ1 2 12 u) (38 + 3) A v).1 2 1 = σ.1 2 1 := by
      rw [yw_n (fun q => absurd q.2 (by decide)), yw_n (by decide)]; exact mo1
    have zz : ¬ σ'.1 2 4 = 0 := fun q => by
      have q2 := z' q
      rw [yw_n (fun q => absurd q.2 (by decide)), yw_n (by decide)] at q2
      exact f0 q2
    refine ⟨a, v, u, σ1, _, σ', τ', n7, hu, hv, t7, fun k0 => ?_, E', i7.1.trans s1, fun i c h1 h2 => ?_, fun i c h1 h2 => ?_, ?_, fun q => absurd q zz, fun q => absurd q zz⟩
    · unfold yCn
      rw [n8]
      show (bif ycP .ne (τ1.1 0 22) 0 then f_X8_readCan_b68 N k0 τ1 A else _) = _
      rw [ycP_ne, decide_eq_true f22, cond_true]
      unfold f_X8_readCan_b68
      rw [t8]
    · rw [i7.2 i c (by omega), yw_n (by omega), yw_n (by omega)]; exact w7 i c (by omega)
    · rw [i8 i c (by omega)]; exact w8 i c (by omega)
    · rw [mz] at mo; exact mo
