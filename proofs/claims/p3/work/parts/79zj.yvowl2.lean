theorem yle_t {a b c d : Int} (h1 : a ≤ b) (h2 : c = b) (h3 : c ≤ d) : a ≤ d := by omega
theorem yE_5 {σ τ : yS} {v m : Nat} {a k p d x : Int} (hv : v = 46 ∨ v = 51) (E : yE σ τ) : yE (yw (yw (yw (yw (yw σ (v + 1) m a) (v + 2) m k) (v + 3) m p) (v + 4) m d) v 0 x) τ := yE_w7 (yE_w7 (yE_w7 (yE_w7 (yE_w7 E (by omega)) (by omega)) (by omega)) (by omega)) (by omega)
theorem yv7 {σ σ2 σ8 σ9 σa : yS} {v m : Nat} {a k p d x : Int} (hv : v = 46 ∨ v = 51) (r2 : σ2.2 = σ.2) (k2 : ∀ i n : Nat, ¬ (i = 2 ∧ (1 ≤ n ∧ n ≤ 5 ∨ n = 11)) → σ2.1 i n = σ.1 i n) (k8 : yK7 σ2 σ8) (r9 : σ9.2 = σ8.2) (k9 : ∀ i n : Nat, ¬ (i = 2 ∧ (1 ≤ n ∧ n ≤ 5 ∨ n = 12)) → σ9.1 i n = σ8.1 i n) (ka : yK7 (yw (yw (yw (yw (yw σ9 (v + 1) m a) (v + 2) m k) (v + 3) m p) (v + 4) m d) v 0 x) σa) : σa.2 = σ.2 ∧ (∀ i n : Nat, ¬ (i = 2 ∧ ((1 ≤ n ∧ n ≤ 5) ∨ n = 11 ∨ n = 12)) → ¬ (v + 1 ≤ i ∧ i ≤ v + 4 ∧ n = m) → ¬ (i = v ∧ n = 0) → σa.1 i n = σ.1 i n) ∧ (σa.1 (v + 1) m = a ∧ σa.1 (v + 2) m = k ∧ σa.1 (v + 3) m = p ∧ σa.1 (v + 4) m = d ∧ σa.1 v 0 = x) ∧ σa.1 2 11 = σ2.1 2 11 ∧ σa.1 2 12 = σ9.1 2 12 ∧ (yw (yw (yw (yw (yw σ9 (v + 1) m a) (v + 2) m k) (v + 3) m p) (v + 4) m d) v 0 x).1 2 1 = σ9.1 2 1 ∧ (yw (yw (yw (yw (yw σ9 (v + 1) m a) (v + 2) m k) (v + 3) m p) (v + 4) m d) v 0 x).1 2 4 = σ9.1 2 4 := by
  have s2 : ∀ n : Nat, (yw (yw (yw (yw (yw σ9 (v + 1) m a) (v + 2) m k) (v + 3) m p) (v + 4) m d) v 0 x).1 2 n = σ9.1 2 n := fun n => by rw [yw_n (by omega), yw_n (by omega), yw_n (by omega), yw_n (by omega), yw_n (by omega)]
  refine ⟨ka.1.trans (r9.trans (k8.1.trans r2)), fun i n h1 h2 h3 => ?_, ⟨?_, ?_, ?_, ?_, ?_⟩, ?_, ?_, s2 1, s2 4⟩
  · rw [ka.2 i n (by omega), yw_n (by omega), yw_n (by omega), yw_n (by omega), yw_n (by omega), yw_n (by omega), k9 i n (by omega), k8.2 i n (by omega), k2 i n (by omega)]
  · rw [ka.2 _ _ (by omega), yw_n (by omega), yw_n (by omega), yw_n (by omega), yw_n (by omega), yw_p]
  · rw [ka.2 _ _ (by omega), yw_n (by omega), yw_n (by omega), yw_n (by omega), yw_p]
  · rw [ka.2 _ _ (by omega), yw_n (by omega), yw_n (by omega), yw_p]
  · rw [ka.2 _ _ (by omega), yw_n (by omega), yw_p]
  · rw [ka.2 _ _ (by omega), yw_p]
  · rw [ka.2 _ _ (by omega), s2, k9 _ _ (by omega), k8.2 _ _ (by omega)]
  · rw [ka.2 _ _ (by omega), s2]
theorem yv8 {τ τ2 τ3 τ5 τ8 τ9 τa : yS} {m : Nat} {b kb pb e x : Int} (m10 : m < 10) (k2 : ∀ i n : Nat, ¬ (i = 0 ∧ (18 ≤ n ∧ n ≤ 23 ∨ n = 14)) → τ2.1 i n = τ.1 i n) (k3 : yK8 τ2 τ3) (k5 : yK8 (yw τ3 5 (78 + 4 * m) b) τ5) (k8 : yK8 (yw τ5 5 (79 + 4 * m) kb) τ8) (k9 : ∀ i n : Nat, ¬ (i = 0 ∧ (18 ≤ n ∧ n ≤ 23 ∨ n = 15)) → τ9.1 i n = (yw τ8 5 (80 + 4 * m) pb).1 i n) (ka : yK8 τ9 τa) : (∀ i n : Nat, ¬ (i = 0 ∧ ((18 ≤ n ∧ n ≤ 23) ∨ n = 14 ∨ n = 15)) → ¬ (i = 5 ∧ ((78 + 4 * m ≤ n ∧ n ≤ 81 + 4 * m) ∨ n = 77)) → (yw (yw τa 5 (81 + 4 * m) e) 5 77 x).1 i n = τ.1 i n) ∧ ((yw (yw τa 5 (81 + 4 * m) e) 5 77 x).1 5 (78 + 4 * m) = b ∧ (yw (yw τa 5 (81 + 4 * m) e) 5 77 x).1 5 (79 + 4 * m) = kb ∧ (yw (yw τa 5 (81 + 4 * m) e) 5 77 x).1 5 (80 + 4 * m) = pb ∧ (yw (yw τa 5 (81 + 4 * m) e) 5 77 x).1 5 (81 + 4 * m) = e) ∧ (yw (yw τa 5 (81 + 4 * m) e) 5 77 x).1 0 14 = τ2.1 0 14 ∧ (yw (yw τa 5 (81 + 4 * m) e) 5 77 x).1 0 15 = τ9.1 0 15 ∧ (yw τa 5 (81 + 4 * m) e).1 5 77 = τ.1 5 77 := by
  refine ⟨fun i n h1 h2 => ?_, ⟨?_, ?_, ?_, ?_⟩, ?_, ?_, ?_⟩
  · rw [yw_n (by omega), yw_n (by omega), ka i n (by omega), k9 i n (by omega), yw_n (by omega), k8 i n (by omega), yw_n (by omega), k5 i n (by omega), yw_n (by omega), k3 i n (by omega), k2 i n (by omega)]
  · rw [yw_n (by omega), yw_n (by omega), ka _ _ (by omega), k9 _ _ (by omega), yw_n (by omega), k8 _ _ (by omega), yw_n (by omega), k5 _ _ (by omega), yw_p]
  · rw [yw_n (by omega), yw_n (by omega), ka _ _ (by omega), k9 _ _ (by omega), yw_n (by omega), k8 _ _ (by omega), yw_p]
  · rw [yw_n (by omega), yw_n (by omega), ka _ _ (by omega), k9 _ _ (by omega), yw_p]
  · rw [yw_n (by omega), yw_p]
  · rw [yw_n (by omega), yw_n (by omega), ka _ _ (by omega), k9 _ _ (by omega), yw_n (by omega), k8 _ _ (by omega), yw_n (by omega), k5 _ _ (by omega), yw_n (by omega), k3 _ _ (by omega)]
  · rw [yw_n (by omega), yw_n (by omega), ka _ _ (by omega)]
  · rw [yw_n (by omega), ka _ _ (by omega), k9 _ _ (by omega), yw_n (by omega), k8 _ _ (by omega), yw_n (by omega), k5 _ _ (by omega), yw_n (by omega), k3 _ _ (by omega), k2 _ _ (by omega)]
/-- a vow's line behind its first word -/
theorem p_vow2 {N : Nat} (hN : 400 ≤ N) {σ0 σ τ : yS} {v m : Nat} (hv : v = 46 ∨ v = 51) (m10 : m < 10) (hr : f_X1_readToken N σ0 = some (0, σ)) (E : yE σ τ) (G1 : yGr (σ.1 2 11) (τ.1 0 14) 6) (G2 : yGr (σ.1 2 12) (τ.1 0 15) 4) : ∃ (a k p d b kb pb e : Int) (σ2 σ4 σ6 σ7 σ9 σa τ3 τ5 τ8 τa : yS), f_X1_needHouse N σ0 = some (a, σ2) ∧ f_X1_needKind N σ2 = some (k, σ4) ∧ f_X1_needNumber N σ4 0 9 = some (p, σ6) ∧ (∀ K : yS → Option (Int × yS), (match f_X7_isDepth N σ6 p with
      | none => none
      | some r4 => bif ycP .ne r4.1 0 then K r4.2 else match f_X1_complain N r4.2 3 (r4.2.1 2 3) with
        | none => none
        | some r8 => K r8.2) = K σ7) ∧ f_X1_needDeed N σ7 = some (d, σ9) ∧ f_X1_readToken N (yw (yw (yw (yw (yw σ9 (v + 1) m a) (v + 2) m k) (v + 3) m p) (v + 4) m d) v 0 ((m : Int) + 1)) = some (0, σa) ∧ f_X8_readAHouse N τ = some (b, τ3) ∧ f_X8_readKind N (yw τ3 5 (78 + 4 * m) b) = some (kb, τ5) ∧ f_X8_readDeep N (yw τ5 5 (79 + 4 * m) kb) = some (pb, τ8) ∧ f_X8_readADeed N (yw τ8 5 (80 + 4 * m) pb) = some (e, τa) ∧ yE σa τa ∧ σa.2 = σ.2 ∧ σ7.2 = σ.2 ∧ σ9.1 v 0 = σ.1 v 0 ∧ (∀ i n : Nat, ¬ (i = 2 ∧ ((1 ≤ n ∧ n ≤ 5) ∨ n = 11 ∨ n = 12)) → ¬ (v + 1 ≤ i ∧ i ≤ v + 4 ∧ n = m) → ¬ (i = v ∧ n = 0) → σa.1 i n = σ.1 i n) ∧ (σa.1 (v + 1) m = a ∧ σa.1 (v + 2) m = k ∧ σa.1 (v + 3) m = p ∧ σa.1 (v + 4) m = d ∧ σa.1 v 0 = (m : Int) + 1) ∧ (∀ i n : Nat, ¬ (i = 0 ∧ ((18 ≤ n ∧ n ≤ 23) ∨ n = 14 ∨ n = 15)) → ¬ (i = 5 ∧ ((78 + 4 * m ≤ n ∧ n ≤ 81 + 4 * m) ∨ n = 77)) → (yw (yw τa 5 (81 + 4 * m) e) 5 77 ((m : Int) + 1)).1 i n = τ.1 i n) ∧ ((yw (yw τa 5 (81 + 4 * m) e) 5 77 ((m : Int) + 1)).1 5 (78 + 4 * m) = b ∧ (yw (yw τa 5 (81 + 4 * m) e) 5 77 ((m : Int) + 1)).1 5 (79 + 4 * m) = kb ∧ (yw (yw τa 5 (81 + 4 * m) e) 5 77 ((m : Int) + 1)).1 5 (80 + 4 * m) = pb ∧ (yw (yw τa 5 (81 + 4 * m) e) 5 77 ((m : Int) + 1)).1 5 (81 + 4 * m) = e) ∧ (yw τa 5 (81 + 4 * m) e).1 5 77 = τ.1 5 77 ∧ ((0 ≤ a ∧ a ≤ 6) ∧ (0 ≤ k ∧ k ≤ 4) ∧ (0 ≤ p ∧ p ≤ 9) ∧ (0 ≤ d ∧ d ≤ 4)) ∧ σ.1 2 1 ≤ σa.1 2 1 ∧ (σa.1 2 4 = 0 → ¬ σa.1 2 2 = 0 → σ.1 2 1 < σa.1 2 1) ∧ (σa.1 2 4 = 0 → (a = b ∧ k = kb ∧ p = pb ∧ d = e) ∧ (σa.1 2 11 = (yw (yw τa 5 (81 + 4 * m) e) 5 77 ((m : Int) + 1)).1 0 14 ∧ τ.1 0 14 ≤ (yw (yw τa 5 (81 + 4 * m) e) 5 77 ((m : Int) + 1)).1 0 14 ∧ a ≤ (yw (yw τa 5 (81 + 4 * m) e) 5 77 ((m : Int) + 1)).1 0 14 ∧ 0 ≤ (yw (yw τa 5 (81 + 4 * m) e) 5 77 ((m : Int) + 1)).1 0 14 ∧ (yw (yw τa 5 (81 + 4 * m) e) 5 77 ((m : Int) + 1)).1 0 14 ≤ 6) ∧ (σa.1 2 12 = (yw (yw τa 5 (81 + 4 * m) e) 5 77 ((m : Int) + 1)).1 0 15 ∧ τ.1 0 15 ≤ (yw (yw τa 5 (81 + 4 * m) e) 5 77 ((m : Int) + 1)).1 0 15 ∧ d ≤ (yw (yw τa 5 (81 + 4 * m) e) 5 77 ((m : Int) + 1)).1 0 15 ∧ 0 ≤ (yw (yw τa 5 (81 + 4 * m) e) 5 77 ((m : Int) + 1)).1 0 15 ∧ (yw (yw τa 5 (81 + 4 * m) e) 5 77 ((m : Int) + 1)).1 0 15 ≤ 4)) := by
  have nv : ¬ v = 2 := by omega
  have ne5 : ∀ j : Nat, ¬ ((5 : Nat) = 0 ∧ 17 ≤ j ∧ j ≤ 23) ∧ ¬ (5 : Nat) = 8 := fun j => ⟨fun q => absurd q.1 (by decide), by decide⟩
  have yn5 : ∀ (S : yS) (c n : Nat) (z : Int), (yw S 5 c z).1 0 n = S.1 0 n := fun S c n z => yw_n (fun q => absurd q.2 (by decide))
  obtain ⟨a, b, σ2, τ2, h7, h8, E2, ha, hb, s2, v7, v8, mo2, ok2⟩ := p_needHouse (N := N) hN hr E (fun _ => G1)
  obtain ⟨σ3, τ3, t7, t8, E3, i7, i8, mo3, z3, st3, nb3⟩ := p_next (N := N) hN E2
  obtain ⟨k, kb, σ4, τ4, kd7, kd8, E4, kk7, kk8, hk, hkb, okk, mo4, -⟩ := p_kind (N := N) t7 (yE_w8 (i := 5) (k := 78 + 4 * m) (z := b) E3 (ne5 _))
  obtain ⟨σ5, τ5, p7, p8, E5, o7, o8, mo5, z5, st5, nb5⟩ := p_next (N := N) hN E4
  obtain ⟨p, pb, σ6, τ6, n7, n8, E6, l7, l8, hp, hpb, okn, mo6⟩ := p_needNumber (N := N) hN (lo := 0) (hi := 9) p7 (by decide) (yE_w8 (i := 5) (k := 79 + 4 * m) (z := kb) E5 (ne5 _))
  obtain ⟨σ7, τ7, dp7, dp8, E7, q7, q8, mo7, okd⟩ := p_depth (N := N) hp.1 n8 E6 (fun z => (okn z).1)
  obtain ⟨σ8, τ8, r7, r8, E8, y7, y8, mo8, z8, st8, nb8⟩ := p_next (N := N) hN E7
  have K7 : yK7 σ2 σ8 := yK7_t (yK7_t (yK7_t (yK7_t (yK7_t i7 kk7) o7) l7) q7) y7
  have K5 := yK8_t kk8 o8
  have K8 := yK8_t (yK8_t l8 q8) y8
  have p12 : σ8.1 2 12 = σ.1 2 12 := (K7.2 2 12 (by decide)).trans (v7 2 12 (by decide))
  have p15 : (yw τ8 5 (80 + 4 * m) pb).1 0 15 = τ.1 0 15 := (yn5 _ _ _ _).trans ((K8 0 15 (by decide)).trans ((yn5 _ _ _ _).trans ((K5 0 15 (by decide)).trans ((yn5 _ _ _ _).trans ((i8 0 15 (by decide)).trans (v8 0 15 (by decide)))))))
  obtain ⟨d, e, σ9, τ9, d7, d8, E9, hd, he, s9, x7, x8, mo9, ok9⟩ := p_needDeed (N := N) hN r7 (yE_w8 (i := 5) (k := 80 + 4 * m) (z := pb) E8 (ne5 _)) (fun _ => by rw [p12, p15]; exact G2)
  obtain ⟨σa, τa, pa7, pa8, Ea, oa7, oa8, moa, za, sta, nba⟩ := p_next (N := N) hN (yE_5 (m := m) (a := a) (k := k) (p := p) (d := d) (x := (m : Int) + 1) hv E9)
  obtain ⟨F1, F2, F3, F4, F5, F6, F7⟩ := yv7 hv s2 v7 K7 s9 x7 oa7
  obtain ⟨H1, H2, H3, H4, H5⟩ := yv8 (e := e) (x := (m : Int) + 1) m10 v8 i8 K5 K8 x8 oa8
  have s7 : σ7.2 = σ.2 := q7.1.trans (l7.1.trans (o7.1.trans (kk7.1.trans (i7.1.trans s2))))
  have s9v : σ9.1 v 0 = σ.1 v 0 := by
    exact (x7 v 0 (fun q => nv q.1)).trans ((K7.2 v 0 (fun q => nv q.1)).trans (v7 v 0 (fun q => nv q.1)))
  have mm : σ.1 2 1 ≤ σ8.1 2 1 := yle_t (yle_t (yle_t (Int.le_refl _) mo2 mo3) mo4 mo5) (mo7.trans mo6) mo8
  refine ⟨a, k, p, d, b, kb, pb, e, σ2, σ4, σ6, σ7, σ9, σa, τ3, τ5, τ8, τa, h7, kd7, n7, dp7, d7, pa7, ?_, ?_, ?_, ?_, Ea, F1, s7, s9v, F2, F3, H1, H2, H5, ⟨ha, hk, hp, hd⟩, yle4 mm mo9 moa F6, fun z q => ylt4 mm mo9 (sta z q) F6, fun z => ?_⟩
  · unfold f_X8_readAHouse
    rw [h8]
    show (match f_X8_next N τ2 with
      | none => none
      | some r2 => some (b, r2.2)) = _
    rw [t8]
  · rw [kd8, p8]
  · rw [dp8, r8]
  · unfold f_X8_readADeed
    rw [d8]
    show (match f_X8_next N τ9 with
      | none => none
      | some r2 => some (e, r2.2)) = _
    rw [pa8]
  · have z9 : σ9.1 2 4 = 0 := F7.symm.trans (za z)
    obtain ⟨y1, y2, y3⟩ := ok9 z9
    have z7 : σ7.1 2 4 = 0 := z8 y2
    obtain ⟨w1, w2⟩ := okd z7
    have z6 : σ6.1 2 4 = 0 := w1 ▸ z7
    obtain ⟨w3, w4, w5⟩ := okn z6
    have z5' : σ5.1 2 4 = 0 := w4 ▸ z6
    have z4 : σ4.1 2 4 = 0 := z5 z5'
    obtain ⟨w6, w7, w8⟩ := okk z4
    have z3' : σ3.1 2 4 = 0 := w7 ▸ z4
    obtain ⟨w9, -, w10⟩ := ok2 (z3 z3')
    rw [F4, F5, H3, H4, ← p15]
    exact ⟨⟨w9, w6, w3, y1⟩, w10, y3⟩
theorem p_lvow {N : Nat} (hN : 400 ≤ N) {σ τ : yS} (HH : yLx σ τ ∧ yTk σ τ) (R : yRD σ τ) (h10 : ¬ τ.1 5 77 = 10) : yLL N σ τ (f_X1_readVow N σ 38) (f_X8_readLine_b156 N τ 6 (τ.1 0 10)) := by
  have s23 := R.2.2.2.2.2.1.2
  have b77 : 0 ≤ τ.1 5 77 ∧ τ.1 5 77 ≤ 10 := R.2.2.1.2.2.1
  have s77 : σ.1 (σ.2 38 11) 0 = τ.1 5 77 := R.2.1.2.2.1.1
  have t7' := R.2.1.2.2.2.2.2
  obtain ⟨v, hv⟩ : ∃ v : Nat, σ.2 38 11 = v := ⟨_, rfl⟩
  rw [hv] at s77 t7'
  have hv2 : v = 46 ∨ v = 51 := by omega
  obtain ⟨m, hm⟩ : ∃ m : Nat, τ.1 5 77 = (m : Int) := ⟨(τ.1 5 77).toNat, by omega⟩
  have m10 : m < 10 := by omega
  have sm : σ.1 v 0 = (m : Int) := s77.trans hm
  have e0 : yad 78 (ymu 4 (m : Int)) = ((78 + 4 * m : Nat) : Int) := by rw [ymu_e (by omega) (by omega), yad_e (by omega) (by omega)]; omega
  have e1 : yad ((78 + 4 * m : Nat) : Int) 1 = ((79 + 4 * m : Nat) : Int) := by rw [yad_e (by omega) (by omega)]; omega
  have e2 : yad ((78 + 4 * m : Nat) : Int) 2 = ((80 + 4 * m : Nat) : Int) := by rw [yad_e (by omega) (by omega)]; omega
  have e3 : yad ((78 + 4 * m : Nat) : Int) 3 = ((81 + 4 * m : Nat) : Int) := by rw [yad_e (by omega) (by omega)]; omega
  have j0 : yin ((78 + 4 * m : Nat) : Int) 131 = true := by rw [yin_d]; exact decide_eq_true (by omega)
  have j1 : yin ((79 + 4 * m : Nat) : Int) 131 = true := by rw [yin_d]; exact decide_eq_true (by omega)
  have j2 : yin ((80 + 4 * m : Nat) : Int) 131 = true := by rw [yin_d]; exact decide_eq_true (by omega)
  have j3 : yin ((81 + 4 * m : Nat) : Int) 131 = true := by rw [yin_d]; exact decide_eq_true (by omega)
  have em : yad (m : Int) 1 = (m : Int) + 1 := yad_e (by omega) (by omega)
  have lt10 : σ.1 v 0 < 10 := by omega
  have nv : ¬ v = 2 := by omega
  have v38 : ¬ v + 1 ≤ 38 ∧ ¬ v + 1 ≤ 2 ∧ ¬ (56 ≤ v + 4) ∧ ¬ (2 = v) ∧ ¬ (38 = v) ∧ ¬ (56 = v) ∧ 38 ≤ v ∧ v + 4 < 59 := by omega
  have vr : ∀ i : Nat, v + 1 ≤ i ∧ i ≤ v + 4 → 38 ≤ i ∧ i < 59 := fun i hi => by omega
  have mb : 0 ≤ (m : Int) + 1 ∧ (m : Int) + 1 ≤ 10 := by omega
  have n5 : ¬ (5 : Nat) = 0 := by decide
  clear b77 s77 h10 t7'
  have E0 : yE σ (yw τ 0 10 (τ.1 0 10)) := yE_w8 (Or.inl HH) (by decide)
  obtain ⟨σ1, τ1, g7, g8, E1, k7, k8, mo1, z1, st1, nb1⟩ := p_next (N := N) hN E0
  have u8 := y8_0 k8 rfl
  have c0 : f_X1_readVow N σ 38 = f_X1_readVow_b21 N σ 38 := by
    unfold f_X1_readVow
    rw [hv, ycP_lt, decide_eq_true lt10, cond_true]
  by_cases f1 : τ1.1 0 22 = 0
  · have gr := R.2.2.2.2.2.2.2.2.1
    have gd := R.2.2.2.2.2.2.2.2.2
    have G1 : yGr (σ1.1 2 11) (τ1.1 0 14) 6 := by rw [k7.2 2 11 (by decide), u8 0 14 (by decide)]; exact gr
    have G2 : yGr (σ1.1 2 12) (τ1.1 0 15) 4 := by rw [k7.2 2 12 (by decide), u8 0 15 (by decide)]; exact gd
    obtain ⟨a, k, p, d, b, kb, pb, e, σ2, σ4, σ6, σ7, σ9, σa, τ3, τ5, τ8, τa, h7, kd7, n7, dp7, d7, pa7, h8, kd8, dp8, d8, Ea, F1, s7, s9, F2, F3, H1, H2, H5, ⟨ha, hk, hp, hd⟩, mo, st, ok⟩ := p_vow2 (N := N) hN hv2 m10 g7 E1 G1 G2
    have s90 : σ9.1 v 0 = (m : Int) := s9.trans ((k7.2 v 0 (fun q => nv q.1)).trans sm)
    have ap := x5_app (N := N) (h := a) (k := k) (p := p) (d := d) s90 m10
    have rv : σ7.2 = σ.2 := s7.trans k7.1
    have c7 : f_X1_readVow N σ 38 = some (0, σa) := by
      rw [c0]
      unfold f_X1_readVow_b21
      rw [h7]
      show (match f_X1_needKind N σ2 with
        | none => none
        | some r2 => _) = _
      rw [kd7]
      show (match f_X1_needNumber N σ4 0 9 with
        | none => none
        | some r3 => _) = _
      rw [n7]
      refine (dp7 (fun s => f_X1_readVow_b57 N s 38 a k p)).trans ?_
      unfold f_X1_readVow_b57
      rw [d7, rv, hv]
      show (match f_X5_append N σ9 v a k p d with
        | none => none
        | some r6 => _) = _
      rw [ap]
      simp only [pa7]
    have t77 : τ1.1 5 77 = (m : Int) := (u8 5 77 (by decide)).trans hm
    have r77 : (yw τa 5 (81 + 4 * m) e).1 5 77 = (m : Int) := H5.trans t77
    have rL : f_X8_readLineOf N τ1 6 = some (0, yw (yw τa 5 (81 + 4 * m) e) 5 77 ((m : Int) + 1)) := by
      unfold f_X8_readLineOf
      rw [yeq_d, decide_eq_false (by decide), cond_false, yeq_d, decide_eq_false (by decide), cond_false, yeq_d, decide_eq_false (by decide), cond_false, yeq_d, decide_eq_true rfl, cond_true]
      simp only [h8, t77, e0, j0, cond_true, Int.toNat_natCast, kd8, e1, j1, dp8, e2, j2, d8, e3, j3, f_X8_readLineOf_b159, f_X8_readLineOf_b220]
      rw [show yin 77 131 = true from by decide +kernel, cond_true, cond_true, show (77 : Int).toNat = 77 from rfl, r77, em]
    have V7 : ∀ i n : Nat, ¬ (i = 2 ∧ ((1 ≤ n ∧ n ≤ 5) ∨ n = 11 ∨ n = 12)) → ¬ (v + 1 ≤ i ∧ i ≤ v + 4 ∧ n = m) → ¬ (i = v ∧ n = 0) → σa.1 i n = σ.1 i n := fun i n q1 q2 q3 => (F2 i n q1 q2 q3).trans (k7.2 i n (fun q => q1 ⟨q.1, Or.inl q.2⟩))
    have V8 : ∀ i n : Nat, ¬ (i = 0 ∧ ((18 ≤ n ∧ n ≤ 23) ∨ n = 14 ∨ n = 15)) → ¬ (i = 5 ∧ ((78 + 4 * m ≤ n ∧ n ≤ 81 + 4 * m) ∨ n = 77)) → (yw (yw τa 5 (81 + 4 * m) e) 5 77 ((m : Int) + 1)).1 i n = τ.1 i n := fun i n q1 q2 => (H1 i n q1 q2).trans (u8 i n (fun q => q1 ⟨q.1, Or.inl q.2⟩))
    have rr : σa.2 = σ.2 := F1.trans k7.1
    have l6 : σa.1 2 6 = σ.1 2 6 := V7 2 6 (by decide) (fun q => v38.2.1 q.1) (fun q => v38.2.2.2.1 q.1)
    have Z7 : yZ7 σ σa := ⟨rr, fun i n h1 h2 => V7 i n (fun q => h1 q.1) (fun q => h2 (vr i ⟨q.1, q.2.1⟩)) (fun q => h2 ⟨q.1.symm ▸ v38.2.2.2.2.2.2.1, Nat.lt_of_le_of_lt (Nat.le_trans (Nat.le_of_eq q.1) (Nat.le_add_right v 4)) v38.2.2.2.2.2.2.2⟩)⟩
    refine ⟨0, σa, yw (yw τa 5 (81 + 4 * m) e) 5 77 ((m : Int) + 1), c7, (x8_b156 s23 g8).2 f1 _ rL, yE_w8 (yE_w8 Ea ⟨fun q => n5 q.1, by decide⟩) (by decide), Z7, fun i n h1 h2 h3 h4 => V8 i n (fun q => h4 ⟨q.1, q.2.elim (fun w => Or.inr (Or.inr (Or.inr w))) (fun w => w.elim (fun w => Or.inr (Or.inl w)) (fun w => Or.inr (Or.inr (Or.inl w))))⟩) (fun q => h1 q.1), l6, fun z => ⟨?_, Int.le_trans mo1 mo, fun q => Int.lt_of_le_of_lt mo1 (st z (by rw [q]; decide))⟩, fun z => ?_⟩
    · obtain ⟨⟨w1, w2, w3, w4⟩, w5, w6⟩ := ok z
      rw [u8 0 14 (by decide)] at w5
      rw [u8 0 15 (by decide)] at w6
      exact yRD_vow R hv hm m10 ha hk hp hd rr V7 F3.1 F3.2.1 F3.2.2.1 F3.2.2.2.1 F3.2.2.2.2 V8 (H2.1.trans w1.symm) (H2.2.1.trans w2.symm) (H2.2.2.1.trans w3.symm) (H2.2.2.2.trans w4.symm) yw_p w5 w6
    · obtain ⟨y1, y2, y3, y4⟩ := yRD_Q R
      refine ⟨by unfold yTr at y1 ⊢; rw [rr]; exact y1, by rw [V7 38 2 (by decide) (fun q => v38.1 q.1) (fun q => v38.2.2.2.2.1 q.1)]; exact y2, ?_, by rw [V7 56 0 (by decide) (fun q => v38.2.2.1 q.2.1) (fun q => v38.2.2.2.2.2.1 q.1)]; exact y4⟩
      rw [rr, hv, F3.2.2.2.2]; exact mb
  · have fe := yE_f E1
    have B1 : yB7 σ1 := yB7_e E1 (by omega)
    have Q1 : yQ7 σ1 := yQ7_f (yRD_Q R) k7.1 ⟨k7.2 _ _ (by decide), k7.2 _ _ (by decide), k7.2 _ _ (by decide), k7.2 _ _ (by decide)⟩
    have F := x1_bvow hN B1 Q1
    have eq : f_X1_readVow N σ 38 = f_X1_readVow_b21 N σ1 38 := by
      rw [c0]
      simp only [f_X1_readVow_b21, x1_hsame g7 B1]
    rw [eq]
    exact p_lfirst s23 g8 E1 f1 F (yZ7_k k7) k8 (k7.2 _ _ (by decide))
