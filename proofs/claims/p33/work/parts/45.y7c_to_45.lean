section
noncomputable def pr_X7_withBit : List (Nat × Instr × Nat) := [(0, .iload_n 2, 1), (1, .ifCond .eq 11, 3), (4, .iload_n 0, 1), (5, .iconst 1, 1), (6, .iload_n 1, 1), (7, .ishl, 1), (8, .ior, 1), (9, .goto 10, 3), (12, .iload_n 0, 1), (13, .iconst 1, 1), (14, .iload_n 1, 1), (15, .ishl, 1), (16, .iconst (-1), 1), (17, .ixor, 1), (18, .iand, 1), (19, .ireturn, 1)]
set_option maxRecDepth 100000 in
theorem hp_X7_withBit : pr_X7_withBit.all (fun x => decide (decode cX7_withBit x.1 = .ok x.2)) = true := by decide +kernel
noncomputable def f_X7_withBit_b19 (N : Nat) (σ : yS) (s0 : Int) : Option (Int × yS) :=
  some (s0, σ)
noncomputable def f_X7_withBit (N : Nat) (σ : yS) (x0 : Int) (x1 : Int) (x2 : Int) : Option (Int × yS) :=
  bif ycP .eq x2 0 then
    f_X7_withBit_b19 N σ (yan x0 (yxo (ysl 1 x1) ((-1))))
  else
    f_X7_withBit_b19 N σ (yor x0 (ysl 1 x1))
noncomputable def F_X7_withBit (N : Nat) : yF := fun as σ => match as with
  | [.inl (.inl x0), .inl (.inl x1), .inl (.inl x2)] => (f_X7_withBit N σ x0 x1 x2).map (fun r => (some (.inl (.inl r.1)), r.2))
  | _ => none
theorem e_X7_withBit {N : Nat} {σ : yS} {x0 : Int} {x1 : Int} {x2 : Int} {r : Int × yS} (h : f_X7_withBit N σ x0 x1 x2 = some r) : F_X7_withBit N [.inl (.inl x0), .inl (.inl x1), .inl (.inl x2)] σ = some (some (.inl (.inl r.1)), r.2) := by
  show (f_X7_withBit N σ x0 x1 x2).map (fun r => ((some (.inl (.inl r.1)), r.2) : yR)) = _
  rw [h]
  rfl
noncomputable def tb_X7_withBit (N : Nat) : yTb := ([], [], [], [], [], [], [])
abbrev G_X7_withBit (N : Nat) (X : zXT) (sh : List yH) (l : Launch) (rm : Room) : yC → yR → Prop := yGoes X vwCl yct sh l rm cX7_withBit 3 wsX7_withBit RX7 (tb_X7_withBit N) pr_X7_withBit 1
set_option maxRecDepth 100000 in
set_option maxHeartbeats 4000000 in
theorem t_X7_withBit_b19 {N : Nat} {X : zXT} {sh : List yH} {l : Launch} {rm : Room} (σ : yS) (s0 : Int) (res : Int × yS) (h : f_X7_withBit_b19 N σ s0 = some res) : G_X7_withBit N X sh l rm (19, [], [.inl (.inl s0)], σ) (some (.inl (.inl res.1)), res.2) := by
  unfold f_X7_withBit_b19 at h
  have h := Option.some.inj h
  subst h
  dsimp only
  exact yG_r rfl rfl
set_option maxRecDepth 100000 in
set_option maxHeartbeats 4000000 in
theorem t_X7_withBit {N : Nat} {X : zXT} {sh : List yH} {l : Launch} {rm : Room} (σ : yS) (x0 : Int) (x1 : Int) (x2 : Int) (res : Int × yS) (h : f_X7_withBit N σ x0 x1 x2 = some res) : G_X7_withBit N X sh l rm (0, [(0, .inl (.inl x0)), (1, .inl (.inl x1)), (2, .inl (.inl x2))], [], σ) (some (.inl (.inl res.1)), res.2) := by
  unfold f_X7_withBit at h
  refine yG_n (n := 1) (C' := (1, [(0, .inl (.inl x0)), (1, .inl (.inl x1)), (2, .inl (.inl x2))], [.inl (.inl x2)], σ)) rfl ?_
  cases hg1 : ycP .eq x2 0 with
  | true =>
    rw [hg1] at h
    dsimp only [cond] at h
    refine yG_t (C' := (12, [(0, .inl (.inl x0)), (1, .inl (.inl x1)), (2, .inl (.inl x2))], [], σ)) rfl hg1 ?_
    refine yG_n (n := 7) (C' := (19, [(0, .inl (.inl x0)), (1, .inl (.inl x1)), (2, .inl (.inl x2))], [.inl (.inl (yan x0 (yxo (ysl 1 x1) ((-1)))))], σ)) rfl ?_
    exact yG_w [] rfl (t_X7_withBit_b19 σ (yan x0 (yxo (ysl 1 x1) ((-1)))) res h)
  | false =>
    rw [hg1] at h
    dsimp only [cond] at h
    refine yG_f (C' := (4, [(0, .inl (.inl x0)), (1, .inl (.inl x1)), (2, .inl (.inl x2))], [], σ)) rfl hg1 ?_
    refine yG_n (n := 6) (C' := (19, [(0, .inl (.inl x0)), (1, .inl (.inl x1)), (2, .inl (.inl x2))], [.inl (.inl (yor x0 (ysl 1 x1)))], σ)) rfl ?_
    exact yG_w [] rfl (t_X7_withBit_b19 σ (yor x0 (ysl 1 x1)) res h)
set_option maxRecDepth 100000 in
set_option maxHeartbeats 4000000 in
theorem m_X7_withBit {N : Nat} {X : zXT} (hX : zXok X) (hN : zXn X) (l : Launch) {sh : List yH} : yMet X vwCl yct sh l yX7_withBit wsX7_withBit { frames := 1, cells := 0, slots := 0, locals := 64 } (F_X7_withBit N) :=
  ymeth (tb := tb_X7_withBit N) (pr := pr_X7_withBit) (rt := 1) (own := RX7) hX (by decide +kernel) rfl rfl ⟨Nat.le_of_ble_eq_true rfl, Nat.le_of_ble_eq_true rfl⟩
    (zfl_all (fun _ h => absurd h List.not_mem_nil))
    (zco_all (fun _ h => absurd h List.not_mem_nil)) (zlc_all (fun _ h => absurd h List.not_mem_nil))
    (fun _ h => absurd h List.not_mem_nil)
    (fun _ h => absurd h List.not_mem_nil)
    (zmm_all (fun _ h => absurd h List.not_mem_nil)) (fun _ h => absurd h List.not_mem_nil) (zpr_all hp_X7_withBit) (fun as σ res h => by
      unfold F_X7_withBit at h
      split at h
      · rename_i x0 x1 x2
        cases hr : f_X7_withBit N σ x0 x1 x2 with
        | none => rw [hr] at h; cases h
        | some r =>
          rw [hr] at h
          cases h
          exact ⟨Nat.le_of_ble_eq_true rfl, t_X7_withBit σ x0 x1 x2 r hr⟩
      · cases h)
noncomputable def pr_X7_can : List (Nat × Instr × Nat) := [(0, .aload_n 0, 1), (1, .getfield 10, 3), (4, .iload_n 1, 1), (5, .invokevirtual 118, 3), (8, .ifCond .eq 14, 3), (11, .aload_n 0, 1), (12, .getfield 10, 3), (15, .iload_n 2, 1), (16, .invokevirtual 150, 3), (19, .ifCond .ne 5, 3), (22, .iconst (-1), 1), (23, .ireturn, 1), (24, .aload_n 0, 1), (25, .getfield 10, 3), (28, .getfield 125, 3), (31, .iload_n 1, 1), (32, .iaload, 1), (33, .iload_n 2, 1), (34, .invokestatic 131, 3), (37, .istore 4, 2), (39, .aload_n 0, 1), (40, .getfield 10, 3), (43, .getfield 125, 3), (46, .iload_n 1, 1), (47, .aload_n 0, 1), (48, .getfield 10, 3), (51, .getfield 125, 3), (54, .iload_n 1, 1), (55, .iaload, 1), (56, .iload_n 2, 1), (57, .iload_n 3, 1), (58, .invokestatic 170, 3), (61, .iastore, 1), (62, .iload 4, 2), (64, .ireturn, 1)]
set_option maxRecDepth 100000 in
theorem hp_X7_can : pr_X7_can.all (fun x => decide (decode cX7_can x.1 = .ok x.2)) = true := by decide +kernel
noncomputable def f_X7_can_b22 (N : Nat) (σ : yS) : Option (Int × yS) :=
  some ((-1), σ)
noncomputable def f_X7_can (N : Nat) (σ : yS) (x1 : Int) (x2 : Int) (x3 : Int) : Option (Int × yS) :=
  match f_X4_isHouse N σ 17 x1 with
  | none => none
  | some r1 => bif ycP .eq r1.1 0 then
      f_X7_can_b22 N r1.2
    else
      match f_X4_isDeed N r1.2 17 x2 with
      | none => none
      | some r2 => bif ycP .ne r2.1 0 then
          bif yin x1 7 then
            match f_X7_bit N r2.2 (r2.2.1 20 x1.toNat) x2 with
            | none => none
            | some r3 => match f_X7_withBit N r3.2 (r3.2.1 20 x1.toNat) x2 x3 with
              | none => none
              | some r4 => some (r3.1, yw r4.2 20 x1.toNat r4.1)
          else none
        else
          f_X7_can_b22 N r2.2
noncomputable def F_X7_can (N : Nat) : yF := fun as σ => match as with
  | [.inr (.inl 7, 0), .inl (.inl x1), .inl (.inl x2), .inl (.inl x3)] => (f_X7_can N σ x1 x2 x3).map (fun r => (some (.inl (.inl r.1)), r.2))
  | _ => none
theorem e_X7_can {N : Nat} {σ : yS} {x1 : Int} {x2 : Int} {x3 : Int} {r : Int × yS} (h : f_X7_can N σ x1 x2 x3 = some r) : F_X7_can N [.inr (.inl 7, 0), .inl (.inl x1), .inl (.inl x2), .inl (.inl x3)] σ = some (some (.inl (.inl r.1)), r.2) := by
  show (f_X7_can N σ x1 x2 x3).map (fun r => ((some (.inl (.inl r.1)), r.2) : yR)) = _
  rw [h]
  rfl
noncomputable def tb_X7_can (N : Nat) : yTb := ([(10, 7, 0, 3), (125, 4, 5, 3)], [], [], [(118, 2, 4, F_X4_isHouse N), (150, 2, 4, F_X4_isDeed N)], [(131, 2, F_X7_bit N), (170, 3, F_X7_withBit N)], [], [])
abbrev G_X7_can (N : Nat) (X : zXT) (sh : List yH) (l : Launch) (rm : Room) : yC → yR → Prop := yGoes X vwCl yct sh l rm cX7_can 5 wsX7_can RX7 (tb_X7_can N) pr_X7_can 1
set_option maxRecDepth 100000 in
set_option maxHeartbeats 4000000 in
theorem t_X7_can_b22 {N : Nat} {X : zXT} {sh : List yH} {l : Launch} {rm : Room} (σ : yS) (res : Int × yS) (h : f_X7_can_b22 N σ = some res) : G_X7_can N X sh l rm (22, [], [], σ) (some (.inl (.inl res.1)), res.2) := by
  unfold f_X7_can_b22 at h
  refine yG_n (n := 1) (C' := (23, [], [.inl (.inl ((-1)))], σ)) rfl ?_
  have h := Option.some.inj h
  subst h
  dsimp only
  exact yG_r rfl rfl
set_option maxRecDepth 100000 in
set_option maxHeartbeats 4000000 in
theorem t_X7_can {N : Nat} {X : zXT} {sh : List yH} {l : Launch} {rm : Room} (σ : yS) (x1 : Int) (x2 : Int) (x3 : Int) (res : Int × yS) (h : f_X7_can N σ x1 x2 x3 = some res) : G_X7_can N X sh l rm (0, [(0, .inr (.inl 7, 0)), (1, .inl (.inl x1)), (2, .inl (.inl x2)), (3, .inl (.inl x3))], [], σ) (some (.inl (.inl res.1)), res.2) := by
  unfold f_X7_can at h
  refine yG_n (n := 3) (C' := (5, [(0, .inr (.inl 7, 0)), (1, .inl (.inl x1)), (2, .inl (.inl x2)), (3, .inl (.inl x3))], [.inl (.inl x1), .inr (.inl 4, 17)], σ)) rfl ?_
  cases hr1 : f_X4_isHouse N σ 17 x1 with
  | none => rw [hr1] at h; dsimp only at h; cases h
  | some r1 =>
    rw [hr1] at h
    dsimp only at h
    refine yG_c (C1 := (8, [(0, .inr (.inl 7, 0)), (1, .inl (.inl x1)), (2, .inl (.inl x2)), (3, .inl (.inl x3))], [.inl (.inl r1.1)], r1.2)) rfl (e_X4_isHouse hr1) rfl ?_
    cases hg2 : ycP .eq r1.1 0 with
    | true =>
      rw [hg2] at h
      dsimp only [cond] at h
      refine yG_t (C' := (22, [(0, .inr (.inl 7, 0)), (1, .inl (.inl x1)), (2, .inl (.inl x2)), (3, .inl (.inl x3))], [], r1.2)) rfl hg2 ?_
      exact yG_w [] rfl (t_X7_can_b22 r1.2 res h)
    | false =>
      rw [hg2] at h
      dsimp only [cond] at h
      refine yG_f (C' := (11, [(0, .inr (.inl 7, 0)), (1, .inl (.inl x1)), (2, .inl (.inl x2)), (3, .inl (.inl x3))], [], r1.2)) rfl hg2 ?_
      refine yG_n (n := 3) (C' := (16, [(0, .inr (.inl 7, 0)), (1, .inl (.inl x1)), (2, .inl (.inl x2)), (3, .inl (.inl x3))], [.inl (.inl x2), .inr (.inl 4, 17)], r1.2)) rfl ?_
      cases hr3 : f_X4_isDeed N r1.2 17 x2 with
      | none => rw [hr3] at h; dsimp only at h; cases h
      | some r2 =>
        rw [hr3] at h
        dsimp only at h
        refine yG_c (C1 := (19, [(0, .inr (.inl 7, 0)), (1, .inl (.inl x1)), (2, .inl (.inl x2)), (3, .inl (.inl x3))], [.inl (.inl r2.1)], r2.2)) rfl (e_X4_isDeed hr3) rfl ?_
        cases hg4 : ycP .ne r2.1 0 with
        | true =>
          rw [hg4] at h
          dsimp only [cond] at h
          refine yG_t (C' := (24, [(0, .inr (.inl 7, 0)), (1, .inl (.inl x1)), (2, .inl (.inl x2)), (3, .inl (.inl x3))], [], r2.2)) rfl hg4 ?_
          refine yG_n (n := 4) (C' := (32, [(0, .inr (.inl 7, 0)), (1, .inl (.inl x1)), (2, .inl (.inl x2)), (3, .inl (.inl x3))], [.inl (.inl x1), .inr (.inr (0, 7), 20)], r2.2)) rfl ?_
          cases hg5 : yin x1 7 with
          | false => rw [hg5] at h; dsimp only [cond] at h; cases h
          | true =>
            rw [hg5] at h
            dsimp only [cond] at h
            refine yG_t (C' := (33, [(0, .inr (.inl 7, 0)), (1, .inl (.inl x1)), (2, .inl (.inl x2)), (3, .inl (.inl x3))], [.inl (.inl (r2.2.1 20 x1.toNat))], r2.2)) rfl hg5 ?_
            refine yG_n (n := 1) (C' := (34, [(0, .inr (.inl 7, 0)), (1, .inl (.inl x1)), (2, .inl (.inl x2)), (3, .inl (.inl x3))], [.inl (.inl x2), .inl (.inl (r2.2.1 20 x1.toNat))], r2.2)) rfl ?_
            cases hr6 : f_X7_bit N r2.2 (r2.2.1 20 x1.toNat) x2 with
            | none => rw [hr6] at h; dsimp only at h; cases h
            | some r3 =>
              rw [hr6] at h
              dsimp only at h
              refine yG_c (C1 := (37, [(0, .inr (.inl 7, 0)), (1, .inl (.inl x1)), (2, .inl (.inl x2)), (3, .inl (.inl x3))], [.inl (.inl r3.1)], r3.2)) rfl (e_X7_bit hr6) rfl ?_
              refine yG_n (n := 9) (C' := (55, [(4, .inl (.inl r3.1)), (0, .inr (.inl 7, 0)), (1, .inl (.inl x1)), (2, .inl (.inl x2)), (3, .inl (.inl x3))], [.inl (.inl x1), .inr (.inr (0, 7), 20), .inl (.inl x1), .inr (.inr (0, 7), 20)], r3.2)) rfl ?_
              refine yG_t (C' := (56, [(4, .inl (.inl r3.1)), (0, .inr (.inl 7, 0)), (1, .inl (.inl x1)), (2, .inl (.inl x2)), (3, .inl (.inl x3))], [.inl (.inl (r3.2.1 20 x1.toNat)), .inl (.inl x1), .inr (.inr (0, 7), 20)], r3.2)) rfl hg5 ?_
              refine yG_n (n := 2) (C' := (58, [(4, .inl (.inl r3.1)), (0, .inr (.inl 7, 0)), (1, .inl (.inl x1)), (2, .inl (.inl x2)), (3, .inl (.inl x3))], [.inl (.inl x3), .inl (.inl x2), .inl (.inl (r3.2.1 20 x1.toNat)), .inl (.inl x1), .inr (.inr (0, 7), 20)], r3.2)) rfl ?_
              cases hr7 : f_X7_withBit N r3.2 (r3.2.1 20 x1.toNat) x2 x3 with
              | none => rw [hr7] at h; dsimp only at h; cases h
              | some r4 =>
                rw [hr7] at h
                dsimp only at h
                refine yG_c (C1 := (61, [(4, .inl (.inl r3.1)), (0, .inr (.inl 7, 0)), (1, .inl (.inl x1)), (2, .inl (.inl x2)), (3, .inl (.inl x3))], [.inl (.inl r4.1), .inl (.inl x1), .inr (.inr (0, 7), 20)], r4.2)) rfl (e_X7_withBit hr7) rfl ?_
                refine yG_t (C' := (62, [(4, .inl (.inl r3.1)), (0, .inr (.inl 7, 0)), (1, .inl (.inl x1)), (2, .inl (.inl x2)), (3, .inl (.inl x3))], [], yw r4.2 20 x1.toNat r4.1)) rfl hg5 ?_
                refine yG_n (n := 1) (C' := (64, [(4, .inl (.inl r3.1)), (0, .inr (.inl 7, 0)), (1, .inl (.inl x1)), (2, .inl (.inl x2)), (3, .inl (.inl x3))], [.inl (.inl r3.1)], yw r4.2 20 x1.toNat r4.1)) rfl ?_
                have h := Option.some.inj h
                subst h
                dsimp only
                exact yG_r rfl rfl
        | false =>
          rw [hg4] at h
          dsimp only [cond] at h
          refine yG_f (C' := (22, [(0, .inr (.inl 7, 0)), (1, .inl (.inl x1)), (2, .inl (.inl x2)), (3, .inl (.inl x3))], [], r2.2)) rfl hg4 ?_
          exact yG_w [] rfl (t_X7_can_b22 r2.2 res h)
set_option maxRecDepth 100000 in
set_option maxHeartbeats 4000000 in
theorem m_X7_can {N : Nat} {X : zXT} (hX : zXok X) (hN : zXn X) (l : Launch) {sh : List yH} : yMet X vwCl yct sh l yX7_can wsX7_can { frames := 3, cells := 0, slots := 0, locals := 107 } (F_X7_can N) :=
  ymeth (tb := tb_X7_can N) (pr := pr_X7_can) (rt := 1) (own := RX7) hX (by decide +kernel) rfl rfl ⟨Nat.le_of_ble_eq_true rfl, Nat.le_of_ble_eq_true rfl⟩
    (zfl_all (List.forall_mem_cons.mpr ⟨zfl_X7 (fun w h => List.mem_cons_of_mem _ (List.mem_append_left _ (List.mem_append_right _ h))) (List.mem_of_getElem? (i := 1) rfl) (by decide) (by decide), List.forall_mem_cons.mpr ⟨zfl_X4 (fun w h => List.mem_cons_of_mem _ (List.mem_append_right _ h)) (List.mem_of_getElem? (i := 2) rfl) (by decide) (by decide), fun _ h => absurd h List.not_mem_nil⟩⟩))
    (zco_all (fun _ h => absurd h List.not_mem_nil)) (zlc_all (fun _ h => absurd h List.not_mem_nil))
    (List.forall_mem_cons.mpr ⟨ycal_V hX (m_X4_isHouse hX hN l) rfl (fun s args hts => cwV 1 hts gX7_can_X4_isHouse rfl rfl rfl (by decide +kernel) ⟨Nat.le_of_ble_eq_true rfl, Nat.le_of_ble_eq_true rfl⟩), List.forall_mem_cons.mpr ⟨ycal_V hX (m_X4_isDeed hX hN l) rfl (fun s args hts => cwV 1 hts gX7_can_X4_isDeed rfl rfl rfl (by decide +kernel) ⟨Nat.le_of_ble_eq_true rfl, Nat.le_of_ble_eq_true rfl⟩), fun _ h => absurd h List.not_mem_nil⟩⟩)
    (List.forall_mem_cons.mpr ⟨ycal_S hX (m_X7_bit hX hN l) (fun s args hts => va_cwS 2 hts gX7_can_X7_bit rfl rfl rfl (by decide +kernel) ⟨Nat.le_of_ble_eq_true rfl, Nat.le_of_ble_eq_true rfl⟩), List.forall_mem_cons.mpr ⟨ycal_S hX (m_X7_withBit hX hN l) (fun s args hts => va_cwS 3 hts gX7_can_X7_withBit rfl rfl rfl (by decide +kernel) ⟨Nat.le_of_ble_eq_true rfl, Nat.le_of_ble_eq_true rfl⟩), fun _ h => absurd h List.not_mem_nil⟩⟩)
    (zmm_all (fun _ h => absurd h List.not_mem_nil)) (fun _ h => absurd h List.not_mem_nil) (zpr_all hp_X7_can) (fun as σ res h => by
      unfold F_X7_can at h
      split at h
      · rename_i x1 x2 x3
        cases hr : f_X7_can N σ x1 x2 x3 with
        | none => rw [hr] at h; cases h
        | some r =>
          rw [hr] at h
          cases h
          exact ⟨Nat.le_of_ble_eq_true rfl, t_X7_can σ x1 x2 x3 r hr⟩
      · cases h)
noncomputable def pr_X7_cost : List (Nat × Instr × Nat) := [(0, .aload_n 0, 1), (1, .getfield 10, 3), (4, .iload_n 1, 1), (5, .invokevirtual 150, 3), (8, .ifCond .eq 15, 3), (11, .aload_n 0, 1), (12, .getfield 10, 3), (15, .getfield 153, 3), (18, .iload_n 1, 1), (19, .iaload, 1), (20, .goto 4, 3), (23, .iconst (-1), 1), (24, .ireturn, 1)]
set_option maxRecDepth 100000 in
theorem hp_X7_cost : pr_X7_cost.all (fun x => decide (decode cX7_cost x.1 = .ok x.2)) = true := by decide +kernel
noncomputable def f_X7_cost_b24 (N : Nat) (σ : yS) (s0 : Int) : Option (Int × yS) :=
  some (s0, σ)
noncomputable def f_X7_cost (N : Nat) (σ : yS) (x1 : Int) : Option (Int × yS) :=
  match f_X4_isDeed N σ 17 x1 with
  | none => none
  | some r1 => bif ycP .eq r1.1 0 then
      f_X7_cost_b24 N r1.2 ((-1))
    else
      bif yin x1 5 then
        f_X7_cost_b24 N r1.2 (r1.2.1 18 x1.toNat)
      else none
noncomputable def F_X7_cost (N : Nat) : yF := fun as σ => match as with
  | [.inr (.inl 7, 0), .inl (.inl x1)] => (f_X7_cost N σ x1).map (fun r => (some (.inl (.inl r.1)), r.2))
  | _ => none
theorem e_X7_cost {N : Nat} {σ : yS} {x1 : Int} {r : Int × yS} (h : f_X7_cost N σ x1 = some r) : F_X7_cost N [.inr (.inl 7, 0), .inl (.inl x1)] σ = some (some (.inl (.inl r.1)), r.2) := by
  show (f_X7_cost N σ x1).map (fun r => ((some (.inl (.inl r.1)), r.2) : yR)) = _
  rw [h]
  rfl
noncomputable def tb_X7_cost (N : Nat) : yTb := ([(10, 7, 0, 3), (153, 4, 3, 3)], [], [], [(150, 2, 4, F_X4_isDeed N)], [], [], [])
abbrev G_X7_cost (N : Nat) (X : zXT) (sh : List yH) (l : Launch) (rm : Room) : yC → yR → Prop := yGoes X vwCl yct sh l rm cX7_cost 2 wsX7_cost RX7 (tb_X7_cost N) pr_X7_cost 1
set_option maxRecDepth 100000 in
set_option maxHeartbeats 4000000 in
theorem t_X7_cost_b24 {N : Nat} {X : zXT} {sh : List yH} {l : Launch} {rm : Room} (σ : yS) (s0 : Int) (res : Int × yS) (h : f_X7_cost_b24 N σ s0 = some res) : G_X7_cost N X sh l rm (24, [], [.inl (.inl s0)], σ) (some (.inl (.inl res.1)), res.2) := by
  unfold f_X7_cost_b24 at h
  have h := Option.some.inj h
  subst h
  dsimp only
  exact yG_r rfl rfl
set_option maxRecDepth 100000 in
set_option maxHeartbeats 4000000 in
theorem t_X7_cost {N : Nat} {X : zXT} {sh : List yH} {l : Launch} {rm : Room} (σ : yS) (x1 : Int) (res : Int × yS) (h : f_X7_cost N σ x1 = some res) : G_X7_cost N X sh l rm (0, [(0, .inr (.inl 7, 0)), (1, .inl (.inl x1))], [], σ) (some (.inl (.inl res.1)), res.2) := by
  unfold f_X7_cost at h
  refine yG_n (n := 3) (C' := (5, [(0, .inr (.inl 7, 0)), (1, .inl (.inl x1))], [.inl (.inl x1), .inr (.inl 4, 17)], σ)) rfl ?_
  cases hr1 : f_X4_isDeed N σ 17 x1 with
  | none => rw [hr1] at h; dsimp only at h; cases h
  | some r1 =>
    rw [hr1] at h
    dsimp only at h
    refine yG_c (C1 := (8, [(0, .inr (.inl 7, 0)), (1, .inl (.inl x1))], [.inl (.inl r1.1)], r1.2)) rfl (e_X4_isDeed hr1) rfl ?_
    cases hg2 : ycP .eq r1.1 0 with
    | true =>
      rw [hg2] at h
      dsimp only [cond] at h
      refine yG_t (C' := (23, [(0, .inr (.inl 7, 0)), (1, .inl (.inl x1))], [], r1.2)) rfl hg2 ?_
      refine yG_n (n := 1) (C' := (24, [(0, .inr (.inl 7, 0)), (1, .inl (.inl x1))], [.inl (.inl ((-1)))], r1.2)) rfl ?_
      exact yG_w [] rfl (t_X7_cost_b24 r1.2 ((-1)) res h)
    | false =>
      rw [hg2] at h
      dsimp only [cond] at h
      refine yG_f (C' := (11, [(0, .inr (.inl 7, 0)), (1, .inl (.inl x1))], [], r1.2)) rfl hg2 ?_
      refine yG_n (n := 4) (C' := (19, [(0, .inr (.inl 7, 0)), (1, .inl (.inl x1))], [.inl (.inl x1), .inr (.inr (0, 5), 18)], r1.2)) rfl ?_
      cases hg3 : yin x1 5 with
      | false => rw [hg3] at h; dsimp only [cond] at h; cases h
      | true =>
        rw [hg3] at h
        dsimp only [cond] at h
        refine yG_t (C' := (20, [(0, .inr (.inl 7, 0)), (1, .inl (.inl x1))], [.inl (.inl (r1.2.1 18 x1.toNat))], r1.2)) rfl hg3 ?_
        refine yG_n (n := 1) (C' := (24, [(0, .inr (.inl 7, 0)), (1, .inl (.inl x1))], [.inl (.inl (r1.2.1 18 x1.toNat))], r1.2)) rfl ?_
        exact yG_w [] rfl (t_X7_cost_b24 r1.2 (r1.2.1 18 x1.toNat) res h)
set_option maxRecDepth 100000 in
set_option maxHeartbeats 4000000 in
theorem m_X7_cost {N : Nat} {X : zXT} (hX : zXok X) (hN : zXn X) (l : Launch) {sh : List yH} : yMet X vwCl yct sh l yX7_cost wsX7_cost { frames := 3, cells := 0, slots := 0, locals := 107 } (F_X7_cost N) :=
  ymeth (tb := tb_X7_cost N) (pr := pr_X7_cost) (rt := 1) (own := RX7) hX (by decide +kernel) rfl rfl ⟨Nat.le_of_ble_eq_true rfl, Nat.le_of_ble_eq_true rfl⟩
    (zfl_all (List.forall_mem_cons.mpr ⟨zfl_X7 (fun w h => List.mem_cons_of_mem _ (List.mem_append_left _ (List.mem_append_right _ h))) (List.mem_of_getElem? (i := 1) rfl) (by decide) (by decide), List.forall_mem_cons.mpr ⟨zfl_X4 (fun w h => List.mem_cons_of_mem _ (List.mem_append_right _ h)) (List.mem_of_getElem? (i := 2) rfl) (by decide) (by decide), fun _ h => absurd h List.not_mem_nil⟩⟩))
    (zco_all (fun _ h => absurd h List.not_mem_nil)) (zlc_all (fun _ h => absurd h List.not_mem_nil))
    (List.forall_mem_cons.mpr ⟨ycal_V hX (m_X4_isDeed hX hN l) rfl (fun s args hts => cwV 1 hts gX7_cost_X4_isDeed rfl rfl rfl (by decide +kernel) ⟨Nat.le_of_ble_eq_true rfl, Nat.le_of_ble_eq_true rfl⟩), fun _ h => absurd h List.not_mem_nil⟩)
    (fun _ h => absurd h List.not_mem_nil)
    (zmm_all (fun _ h => absurd h List.not_mem_nil)) (fun _ h => absurd h List.not_mem_nil) (zpr_all hp_X7_cost) (fun as σ res h => by
      unfold F_X7_cost at h
      split at h
      · rename_i x1
        cases hr : f_X7_cost N σ x1 with
        | none => rw [hr] at h; cases h
        | some r =>
          rw [hr] at h
          cases h
          exact ⟨Nat.le_of_ble_eq_true rfl, t_X7_cost σ x1 r hr⟩
      · cases h)
noncomputable def pr_X4_allDone : List (Nat × Instr × Nat) := [(0, .iconst 0, 1), (1, .istore_n 1, 1), (2, .iconst 0, 1), (3, .istore_n 2, 1), (4, .iload_n 2, 1), (5, .bipush 35, 2), (7, .if_icmp .ge 18, 3), (10, .iload_n 1, 1), (11, .aload_n 0, 1), (12, .getfield 34, 3), (15, .iload_n 2, 1), (16, .iaload, 1), (17, .iadd, 1), (18, .istore_n 1, 1), (19, .iinc 2 1, 3), (22, .goto (-18), 3), (25, .iload_n 1, 1), (26, .ireturn, 1)]
set_option maxRecDepth 100000 in
theorem hp_X4_allDone : pr_X4_allDone.all (fun x => decide (decode cX4_allDone x.1 = .ok x.2)) = true := by decide +kernel
noncomputable def f_X4_allDone_b4 (N : Nat) : Nat → yS → Nat → Int → Int → Option (Int × yS) := yfix (fun _ _ _ _ => none) (fun ih σ x0 x1 x2 =>
    bif ycP .ge x2 35 then
      some (x1, σ)
    else
      bif yin x2 35 then
        ih σ x0 (yad x1 (σ.1 (x0 + 7) x2.toNat)) (yad x2 1)
      else none)
theorem q_X4_allDone_b4 (N : Nat) (n : Nat) (σ : yS) (x0 : Nat) (x1 : Int) (x2 : Int) : f_X4_allDone_b4 N (n + 1) σ x0 x1 x2 =
    (bif ycP .ge x2 35 then
      some (x1, σ)
    else
      bif yin x2 35 then
        (f_X4_allDone_b4 N n) σ x0 (yad x1 (σ.1 (x0 + 7) x2.toNat)) (yad x2 1)
      else none) := rfl
noncomputable def f_X4_allDone (N : Nat) (σ : yS) (x0 : Nat) : Option (Int × yS) :=
  f_X4_allDone_b4 N N σ x0 0 0
noncomputable def F_X4_allDone (N : Nat) : yF := fun as σ => match as with
  | [.inr (.inl 4, x0)] => (f_X4_allDone N σ x0).map (fun r => (some (.inl (.inl r.1)), r.2))
  | _ => none
theorem e_X4_allDone {N : Nat} {σ : yS} {x0 : Nat} {r : Int × yS} (h : f_X4_allDone N σ x0 = some r) : F_X4_allDone N [.inr (.inl 4, x0)] σ = some (some (.inl (.inl r.1)), r.2) := by
  show (f_X4_allDone N σ x0).map (fun r => ((some (.inl (.inl r.1)), r.2) : yR)) = _
  rw [h]
  rfl
noncomputable def tb_X4_allDone (N : Nat) : yTb := ([(34, 4, 10, 3)], [], [], [], [], [], [])
abbrev G_X4_allDone (N : Nat) (X : zXT) (sh : List yH) (l : Launch) (rm : Room) : yC → yR → Prop := yGoes X vwCl yct sh l rm cX4_allDone 3 wsX4_allDone RX4 (tb_X4_allDone N) pr_X4_allDone 1
set_option maxRecDepth 100000 in
set_option maxHeartbeats 4000000 in
theorem t_X4_allDone_b4 {N : Nat} {X : zXT} {sh : List yH} {l : Launch} {rm : Room} : ∀ (n : Nat) (σ : yS) (x0 : Nat) (x1 : Int) (x2 : Int) (res : Int × yS), f_X4_allDone_b4 N n σ x0 x1 x2 = some res → G_X4_allDone N X sh l rm (4, [(0, .inr (.inl 4, x0)), (1, .inl (.inl x1)), (2, .inl (.inl x2))], [], σ) (some (.inl (.inl res.1)), res.2) := by
  intro n
  induction n with
  | zero => intro σ x0 x1 x2 res h; exact (yno h).elim
  | succ n ih =>
    intro σ x0 x1 x2 res h
    rw [q_X4_allDone_b4] at h
    refine yG_n (n := 2) (C' := (7, [(0, .inr (.inl 4, x0)), (1, .inl (.inl x1)), (2, .inl (.inl x2))], [.inl (.inl 35), .inl (.inl x2)], σ)) rfl ?_
    cases hg1 : ycP .ge x2 35 with
    | true =>
      rw [hg1] at h
      dsimp only [cond] at h
      refine yG_t (C' := (25, [(0, .inr (.inl 4, x0)), (1, .inl (.inl x1)), (2, .inl (.inl x2))], [], σ)) rfl hg1 ?_
      refine yG_n (n := 1) (C' := (26, [(0, .inr (.inl 4, x0)), (1, .inl (.inl x1)), (2, .inl (.inl x2))], [.inl (.inl x1)], σ)) rfl ?_
      have h := Option.some.inj h
      subst h
      dsimp only
      exact yG_r rfl rfl
    | false =>
      rw [hg1] at h
      dsimp only [cond] at h
      refine yG_f (C' := (10, [(0, .inr (.inl 4, x0)), (1, .inl (.inl x1)), (2, .inl (.inl x2))], [], σ)) rfl hg1 ?_
      refine yG_n (n := 4) (C' := (16, [(0, .inr (.inl 4, x0)), (1, .inl (.inl x1)), (2, .inl (.inl x2))], [.inl (.inl x2), .inr (.inr (0, 35), x0 + 7), .inl (.inl x1)], σ)) rfl ?_
      cases hg2 : yin x2 35 with
      | false => rw [hg2] at h; dsimp only [cond] at h; cases h
      | true =>
        rw [hg2] at h
        dsimp only [cond] at h
        refine yG_t (C' := (17, [(0, .inr (.inl 4, x0)), (1, .inl (.inl x1)), (2, .inl (.inl x2))], [.inl (.inl (σ.1 (x0 + 7) x2.toNat)), .inl (.inl x1)], σ)) rfl hg2 ?_
        refine yG_n (n := 4) (C' := (4, [(2, .inl (.inl (yad x2 1))), (1, .inl (.inl (yad x1 (σ.1 (x0 + 7) x2.toNat)))), (0, .inr (.inl 4, x0))], [], σ)) rfl ?_
        exact yG_w [2, 1, 0] rfl (ih σ x0 (yad x1 (σ.1 (x0 + 7) x2.toNat)) (yad x2 1) res h)
set_option maxRecDepth 100000 in
set_option maxHeartbeats 4000000 in
theorem t_X4_allDone {N : Nat} {X : zXT} {sh : List yH} {l : Launch} {rm : Room} (σ : yS) (x0 : Nat) (res : Int × yS) (h : f_X4_allDone N σ x0 = some res) : G_X4_allDone N X sh l rm (0, [(0, .inr (.inl 4, x0))], [], σ) (some (.inl (.inl res.1)), res.2) := by
  unfold f_X4_allDone at h
  refine yG_n (n := 4) (C' := (4, [(2, .inl (.inl 0)), (1, .inl (.inl 0)), (0, .inr (.inl 4, x0))], [], σ)) rfl ?_
  exact yG_w [2, 1, 0] rfl (t_X4_allDone_b4 N σ x0 0 0 res h)
set_option maxRecDepth 100000 in
set_option maxHeartbeats 4000000 in
theorem m_X4_allDone {N : Nat} {X : zXT} (hX : zXok X) (hN : zXn X) (l : Launch) {sh : List yH} : yMet X vwCl yct sh l yX4_allDone wsX4_allDone { frames := 1, cells := 0, slots := 0, locals := 64 } (F_X4_allDone N) :=
  ymeth (tb := tb_X4_allDone N) (pr := pr_X4_allDone) (rt := 1) (own := RX4) hX (by decide +kernel) rfl rfl ⟨Nat.le_of_ble_eq_true rfl, Nat.le_of_ble_eq_true rfl⟩
    (zfl_all (List.forall_mem_cons.mpr ⟨zfl_X4 (fun w h => List.mem_cons_of_mem _ (List.mem_append_right _ h)) (List.mem_of_getElem? (i := 1) rfl) (by decide) (by decide), fun _ h => absurd h List.not_mem_nil⟩))
    (zco_all (fun _ h => absurd h List.not_mem_nil)) (zlc_all (fun _ h => absurd h List.not_mem_nil))
    (fun _ h => absurd h List.not_mem_nil)
    (fun _ h => absurd h List.not_mem_nil)
    (zmm_all (fun _ h => absurd h List.not_mem_nil)) (fun _ h => absurd h List.not_mem_nil) (zpr_all hp_X4_allDone) (fun as σ res h => by
      unfold F_X4_allDone at h
      split at h
      · rename_i x0
        cases hr : f_X4_allDone N σ x0 with
        | none => rw [hr] at h; cases h
        | some r =>
          rw [hr] at h
          cases h
          exact ⟨Nat.le_of_ble_eq_true rfl, t_X4_allDone σ x0 r hr⟩
      · cases h)
noncomputable def pr_X4_allPurses : List (Nat × Instr × Nat) := [(0, .iconst 0, 1), (1, .istore_n 1, 1), (2, .iconst 0, 1), (3, .istore_n 2, 1), (4, .iload_n 2, 1), (5, .aload_n 0, 1), (6, .getfield 9, 3), (9, .if_icmp .ge 18, 3), (12, .iload_n 1, 1), (13, .aload_n 0, 1), (14, .getfield 19, 3), (17, .iload_n 2, 1), (18, .iaload, 1), (19, .iadd, 1), (20, .istore_n 1, 1), (21, .iinc 2 1, 3), (24, .goto (-20), 3), (27, .iload_n 1, 1), (28, .ireturn, 1)]
set_option maxRecDepth 100000 in
theorem hp_X4_allPurses : pr_X4_allPurses.all (fun x => decide (decode cX4_allPurses x.1 = .ok x.2)) = true := by decide +kernel
noncomputable def f_X4_allPurses_b4 (N : Nat) : Nat → yS → Nat → Int → Int → Option (Int × yS) := yfix (fun _ _ _ _ => none) (fun ih σ x0 x1 x2 =>
    bif ycP .ge x2 (σ.1 x0 0) then
      some (x1, σ)
    else
      bif yin x2 7 then
        ih σ x0 (yad x1 (σ.1 (x0 + 2) x2.toNat)) (yad x2 1)
      else none)
theorem q_X4_allPurses_b4 (N : Nat) (n : Nat) (σ : yS) (x0 : Nat) (x1 : Int) (x2 : Int) : f_X4_allPurses_b4 N (n + 1) σ x0 x1 x2 =
    (bif ycP .ge x2 (σ.1 x0 0) then
      some (x1, σ)
    else
      bif yin x2 7 then
        (f_X4_allPurses_b4 N n) σ x0 (yad x1 (σ.1 (x0 + 2) x2.toNat)) (yad x2 1)
      else none) := rfl
noncomputable def f_X4_allPurses (N : Nat) (σ : yS) (x0 : Nat) : Option (Int × yS) :=
  f_X4_allPurses_b4 N N σ x0 0 0
noncomputable def F_X4_allPurses (N : Nat) : yF := fun as σ => match as with
  | [.inr (.inl 4, x0)] => (f_X4_allPurses N σ x0).map (fun r => (some (.inl (.inl r.1)), r.2))
  | _ => none
theorem e_X4_allPurses {N : Nat} {σ : yS} {x0 : Nat} {r : Int × yS} (h : f_X4_allPurses N σ x0 = some r) : F_X4_allPurses N [.inr (.inl 4, x0)] σ = some (some (.inl (.inl r.1)), r.2) := by
  show (f_X4_allPurses N σ x0).map (fun r => ((some (.inl (.inl r.1)), r.2) : yR)) = _
  rw [h]
  rfl
noncomputable def tb_X4_allPurses (N : Nat) : yTb := ([(9, 4, 0, 0), (19, 4, 4, 3)], [], [], [], [], [], [])
abbrev G_X4_allPurses (N : Nat) (X : zXT) (sh : List yH) (l : Launch) (rm : Room) : yC → yR → Prop := yGoes X vwCl yct sh l rm cX4_allPurses 3 wsX4_allPurses RX4 (tb_X4_allPurses N) pr_X4_allPurses 1
set_option maxRecDepth 100000 in
set_option maxHeartbeats 4000000 in
theorem t_X4_allPurses_b4 {N : Nat} {X : zXT} {sh : List yH} {l : Launch} {rm : Room} : ∀ (n : Nat) (σ : yS) (x0 : Nat) (x1 : Int) (x2 : Int) (res : Int × yS), f_X4_allPurses_b4 N n σ x0 x1 x2 = some res → G_X4_allPurses N X sh l rm (4, [(0, .inr (.inl 4, x0)), (1, .inl (.inl x1)), (2, .inl (.inl x2))], [], σ) (some (.inl (.inl res.1)), res.2) := by
  intro n
  induction n with
  | zero => intro σ x0 x1 x2 res h; exact (yno h).elim
  | succ n ih =>
    intro σ x0 x1 x2 res h
    rw [q_X4_allPurses_b4] at h
    refine yG_n (n := 3) (C' := (9, [(0, .inr (.inl 4, x0)), (1, .inl (.inl x1)), (2, .inl (.inl x2))], [.inl (.inl (σ.1 x0 0)), .inl (.inl x2)], σ)) rfl ?_
    cases hg1 : ycP .ge x2 (σ.1 x0 0) with
    | true =>
      rw [hg1] at h
      dsimp only [cond] at h
      refine yG_t (C' := (27, [(0, .inr (.inl 4, x0)), (1, .inl (.inl x1)), (2, .inl (.inl x2))], [], σ)) rfl hg1 ?_
      refine yG_n (n := 1) (C' := (28, [(0, .inr (.inl 4, x0)), (1, .inl (.inl x1)), (2, .inl (.inl x2))], [.inl (.inl x1)], σ)) rfl ?_
      have h := Option.some.inj h
      subst h
      dsimp only
      exact yG_r rfl rfl
    | false =>
      rw [hg1] at h
      dsimp only [cond] at h
      refine yG_f (C' := (12, [(0, .inr (.inl 4, x0)), (1, .inl (.inl x1)), (2, .inl (.inl x2))], [], σ)) rfl hg1 ?_
      refine yG_n (n := 4) (C' := (18, [(0, .inr (.inl 4, x0)), (1, .inl (.inl x1)), (2, .inl (.inl x2))], [.inl (.inl x2), .inr (.inr (0, 7), x0 + 2), .inl (.inl x1)], σ)) rfl ?_
      cases hg2 : yin x2 7 with
      | false => rw [hg2] at h; dsimp only [cond] at h; cases h
      | true =>
        rw [hg2] at h
        dsimp only [cond] at h
        refine yG_t (C' := (19, [(0, .inr (.inl 4, x0)), (1, .inl (.inl x1)), (2, .inl (.inl x2))], [.inl (.inl (σ.1 (x0 + 2) x2.toNat)), .inl (.inl x1)], σ)) rfl hg2 ?_
        refine yG_n (n := 4) (C' := (4, [(2, .inl (.inl (yad x2 1))), (1, .inl (.inl (yad x1 (σ.1 (x0 + 2) x2.toNat)))), (0, .inr (.inl 4, x0))], [], σ)) rfl ?_
        exact yG_w [2, 1, 0] rfl (ih σ x0 (yad x1 (σ.1 (x0 + 2) x2.toNat)) (yad x2 1) res h)
set_option maxRecDepth 100000 in
set_option maxHeartbeats 4000000 in
theorem t_X4_allPurses {N : Nat} {X : zXT} {sh : List yH} {l : Launch} {rm : Room} (σ : yS) (x0 : Nat) (res : Int × yS) (h : f_X4_allPurses N σ x0 = some res) : G_X4_allPurses N X sh l rm (0, [(0, .inr (.inl 4, x0))], [], σ) (some (.inl (.inl res.1)), res.2) := by
  unfold f_X4_allPurses at h
  refine yG_n (n := 4) (C' := (4, [(2, .inl (.inl 0)), (1, .inl (.inl 0)), (0, .inr (.inl 4, x0))], [], σ)) rfl ?_
  exact yG_w [2, 1, 0] rfl (t_X4_allPurses_b4 N σ x0 0 0 res h)
set_option maxRecDepth 100000 in
set_option maxHeartbeats 4000000 in
theorem m_X4_allPurses {N : Nat} {X : zXT} (hX : zXok X) (hN : zXn X) (l : Launch) {sh : List yH} : yMet X vwCl yct sh l yX4_allPurses wsX4_allPurses { frames := 1, cells := 0, slots := 0, locals := 64 } (F_X4_allPurses N) :=
  ymeth (tb := tb_X4_allPurses N) (pr := pr_X4_allPurses) (rt := 1) (own := RX4) hX (by decide +kernel) rfl rfl ⟨Nat.le_of_ble_eq_true rfl, Nat.le_of_ble_eq_true rfl⟩
    (zfl_all (List.forall_mem_cons.mpr ⟨zfl_X4 (fun w h => List.mem_cons_of_mem _ (List.mem_append_right _ h)) (List.mem_of_getElem? (i := 1) rfl) (by decide) (by decide), List.forall_mem_cons.mpr ⟨zfl_X4 (fun w h => List.mem_cons_of_mem _ (List.mem_append_right _ h)) (List.mem_of_getElem? (i := 2) rfl) (by decide) (by decide), fun _ h => absurd h List.not_mem_nil⟩⟩))
    (zco_all (fun _ h => absurd h List.not_mem_nil)) (zlc_all (fun _ h => absurd h List.not_mem_nil))
    (fun _ h => absurd h List.not_mem_nil)
    (fun _ h => absurd h List.not_mem_nil)
    (zmm_all (fun _ h => absurd h List.not_mem_nil)) (fun _ h => absurd h List.not_mem_nil) (zpr_all hp_X4_allPurses) (fun as σ res h => by
      unfold F_X4_allPurses at h
      split at h
      · rename_i x0
        cases hr : f_X4_allPurses N σ x0 with
        | none => rw [hr] at h; cases h
        | some r =>
          rw [hr] at h
          cases h
          exact ⟨Nat.le_of_ble_eq_true rfl, t_X4_allPurses σ x0 r hr⟩
      · cases h)
noncomputable def pr_J6_bitCount_0f7a4 : List (Nat × Instr × Nat) := [(0, .iload_n 0, 1), (1, .iload_n 0, 1), (2, .iconst 1, 1), (3, .iushr, 1), (4, .ldc_w 265, 3), (7, .iand, 1), (8, .isub, 1), (9, .istore_n 0, 1), (10, .iload_n 0, 1), (11, .ldc_w 266, 3), (14, .iand, 1), (15, .iload_n 0, 1), (16, .iconst 2, 1), (17, .iushr, 1), (18, .ldc_w 266, 3), (21, .iand, 1), (22, .iadd, 1), (23, .istore_n 0, 1), (24, .iload_n 0, 1), (25, .iload_n 0, 1), (26, .iconst 4, 1), (27, .iushr, 1), (28, .iadd, 1), (29, .ldc_w 267, 3), (32, .iand, 1), (33, .istore_n 0, 1), (34, .iload_n 0, 1), (35, .iload_n 0, 1), (36, .bipush 8, 2), (38, .iushr, 1), (39, .iadd, 1), (40, .istore_n 0, 1), (41, .iload_n 0, 1), (42, .iload_n 0, 1), (43, .bipush 16, 2), (45, .iushr, 1), (46, .iadd, 1), (47, .istore_n 0, 1), (48, .iload_n 0, 1), (49, .bipush 63, 2), (51, .iand, 1), (52, .ireturn, 1)]
set_option maxRecDepth 100000 in
theorem hp_J6_bitCount_0f7a4 : pr_J6_bitCount_0f7a4.all (fun x => decide (decode cJ6_bitCount_0f7a4 x.1 = .ok x.2)) = true := by decide +kernel
noncomputable def f_J6_bitCount_0f7a4 (N : Nat) (σ : yS) (x0 : Int) : Option (Int × yS) :=
  some (yan (yad (yad (yan (yad (yad (yan (ysu x0 (yan (yus x0 1) 1431655765)) 858993459) (yan (yus (ysu x0 (yan (yus x0 1) 1431655765)) 2) 858993459)) (yus (yad (yan (ysu x0 (yan (yus x0 1) 1431655765)) 858993459) (yan (yus (ysu x0 (yan (yus x0 1) 1431655765)) 2) 858993459)) 4)) 252645135) (yus (yan (yad (yad (yan (ysu x0 (yan (yus x0 1) 1431655765)) 858993459) (yan (yus (ysu x0 (yan (yus x0 1) 1431655765)) 2) 858993459)) (yus (yad (yan (ysu x0 (yan (yus x0 1) 1431655765)) 858993459) (yan (yus (ysu x0 (yan (yus x0 1) 1431655765)) 2) 858993459)) 4)) 252645135) 8)) (yus (yad (yan (yad (yad (yan (ysu x0 (yan (yus x0 1) 1431655765)) 858993459) (yan (yus (ysu x0 (yan (yus x0 1) 1431655765)) 2) 858993459)) (yus (yad (yan (ysu x0 (yan (yus x0 1) 1431655765)) 858993459) (yan (yus (ysu x0 (yan (yus x0 1) 1431655765)) 2) 858993459)) 4)) 252645135) (yus (yan (yad (yad (yan (ysu x0 (yan (yus x0 1) 1431655765)) 858993459) (yan (yus (ysu x0 (yan (yus x0 1) 1431655765)) 2) 858993459)) (yus (yad (yan (ysu x0 (yan (yus x0 1) 1431655765)) 858993459) (yan (yus (ysu x0 (yan (yus x0 1) 1431655765)) 2) 858993459)) 4)) 252645135) 8)) 16)) 63, σ)
noncomputable def F_J6_bitCount_0f7a4 (N : Nat) : yF := fun as σ => match as with
  | [.inl (.inl x0)] => (f_J6_bitCount_0f7a4 N σ x0).map (fun r => (some (.inl (.inl r.1)), r.2))
  | _ => none
theorem e_J6_bitCount_0f7a4 {N : Nat} {σ : yS} {x0 : Int} {r : Int × yS} (h : f_J6_bitCount_0f7a4 N σ x0 = some r) : F_J6_bitCount_0f7a4 N [.inl (.inl x0)] σ = some (some (.inl (.inl r.1)), r.2) := by
  show (f_J6_bitCount_0f7a4 N σ x0).map (fun r => ((some (.inl (.inl r.1)), r.2) : yR)) = _
  rw [h]
  rfl
noncomputable def tb_J6_bitCount_0f7a4 (N : Nat) : yTb := ([], [(265, 1431655765), (266, 858993459), (267, 252645135)], [], [], [], [], [])
abbrev G_J6_bitCount_0f7a4 (N : Nat) (X : zXT) (sh : List yH) (l : Launch) (rm : Room) : yC → yR → Prop := yGoes X vwCl yct sh l rm cJ6_bitCount_0f7a4 1 wsJ6_bitCount_0f7a4 RJ6 (tb_J6_bitCount_0f7a4 N) pr_J6_bitCount_0f7a4 1
set_option maxRecDepth 100000 in
set_option maxHeartbeats 4000000 in
theorem t_J6_bitCount_0f7a4 {N : Nat} {X : zXT} {sh : List yH} {l : Launch} {rm : Room} (σ : yS) (x0 : Int) (res : Int × yS) (h : f_J6_bitCount_0f7a4 N σ x0 = some res) : G_J6_bitCount_0f7a4 N X sh l rm (0, [(0, .inl (.inl x0))], [], σ) (some (.inl (.inl res.1)), res.2) := by
  unfold f_J6_bitCount_0f7a4 at h
  refine yG_n (n := 6) (C' := (8, [(0, .inl (.inl x0))], [.inl (.inl (yan (yus x0 1) 1431655765)), .inl (.inl x0)], σ)) rfl ?_
  refine yG_n (n := 5) (C' := (15, [(0, .inl (.inl (ysu x0 (yan (yus x0 1) 1431655765))))], [.inl (.inl (yan (ysu x0 (yan (yus x0 1) 1431655765)) 858993459))], σ)) rfl ?_
  refine yG_n (n := 5) (C' := (22, [(0, .inl (.inl (ysu x0 (yan (yus x0 1) 1431655765))))], [.inl (.inl (yan (yus (ysu x0 (yan (yus x0 1) 1431655765)) 2) 858993459)), .inl (.inl (yan (ysu x0 (yan (yus x0 1) 1431655765)) 858993459))], σ)) rfl ?_
  refine yG_n (n := 1) (C' := (23, [(0, .inl (.inl (ysu x0 (yan (yus x0 1) 1431655765))))], [.inl (.inl (yad (yan (ysu x0 (yan (yus x0 1) 1431655765)) 858993459) (yan (yus (ysu x0 (yan (yus x0 1) 1431655765)) 2) 858993459)))], σ)) rfl ?_
  refine yG_n (n := 6) (C' := (29, [(0, .inl (.inl (yad (yan (ysu x0 (yan (yus x0 1) 1431655765)) 858993459) (yan (yus (ysu x0 (yan (yus x0 1) 1431655765)) 2) 858993459))))], [.inl (.inl (yad (yad (yan (ysu x0 (yan (yus x0 1) 1431655765)) 858993459) (yan (yus (ysu x0 (yan (yus x0 1) 1431655765)) 2) 858993459)) (yus (yad (yan (ysu x0 (yan (yus x0 1) 1431655765)) 858993459) (yan (yus (ysu x0 (yan (yus x0 1) 1431655765)) 2) 858993459)) 4)))], σ)) rfl ?_
  refine yG_n (n := 2) (C' := (33, [(0, .inl (.inl (yad (yan (ysu x0 (yan (yus x0 1) 1431655765)) 858993459) (yan (yus (ysu x0 (yan (yus x0 1) 1431655765)) 2) 858993459))))], [.inl (.inl (yan (yad (yad (yan (ysu x0 (yan (yus x0 1) 1431655765)) 858993459) (yan (yus (ysu x0 (yan (yus x0 1) 1431655765)) 2) 858993459)) (yus (yad (yan (ysu x0 (yan (yus x0 1) 1431655765)) 858993459) (yan (yus (ysu x0 (yan (yus x0 1) 1431655765)) 2) 858993459)) 4)) 252645135))], σ)) rfl ?_
  refine yG_n (n := 6) (C' := (40, [(0, .inl (.inl (yan (yad (yad (yan (ysu x0 (yan (yus x0 1) 1431655765)) 858993459) (yan (yus (ysu x0 (yan (yus x0 1) 1431655765)) 2) 858993459)) (yus (yad (yan (ysu x0 (yan (yus x0 1) 1431655765)) 858993459) (yan (yus (ysu x0 (yan (yus x0 1) 1431655765)) 2) 858993459)) 4)) 252645135)))], [.inl (.inl (yad (yan (yad (yad (yan (ysu x0 (yan (yus x0 1) 1431655765)) 858993459) (yan (yus (ysu x0 (yan (yus x0 1) 1431655765)) 2) 858993459)) (yus (yad (yan (ysu x0 (yan (yus x0 1) 1431655765)) 858993459) (yan (yus (ysu x0 (yan (yus x0 1) 1431655765)) 2) 858993459)) 4)) 252645135) (yus (yan (yad (yad (yan (ysu x0 (yan (yus x0 1) 1431655765)) 858993459) (yan (yus (ysu x0 (yan (yus x0 1) 1431655765)) 2) 858993459)) (yus (yad (yan (ysu x0 (yan (yus x0 1) 1431655765)) 858993459) (yan (yus (ysu x0 (yan (yus x0 1) 1431655765)) 2) 858993459)) 4)) 252645135) 8)))], σ)) rfl ?_
  refine yG_n (n := 6) (C' := (47, [(0, .inl (.inl (yad (yan (yad (yad (yan (ysu x0 (yan (yus x0 1) 1431655765)) 858993459) (yan (yus (ysu x0 (yan (yus x0 1) 1431655765)) 2) 858993459)) (yus (yad (yan (ysu x0 (yan (yus x0 1) 1431655765)) 858993459) (yan (yus (ysu x0 (yan (yus x0 1) 1431655765)) 2) 858993459)) 4)) 252645135) (yus (yan (yad (yad (yan (ysu x0 (yan (yus x0 1) 1431655765)) 858993459) (yan (yus (ysu x0 (yan (yus x0 1) 1431655765)) 2) 858993459)) (yus (yad (yan (ysu x0 (yan (yus x0 1) 1431655765)) 858993459) (yan (yus (ysu x0 (yan (yus x0 1) 1431655765)) 2) 858993459)) 4)) 252645135) 8))))], [.inl (.inl (yad (yad (yan (yad (yad (yan (ysu x0 (yan (yus x0 1) 1431655765)) 858993459) (yan (yus (ysu x0 (yan (yus x0 1) 1431655765)) 2) 858993459)) (yus (yad (yan (ysu x0 (yan (yus x0 1) 1431655765)) 858993459) (yan (yus (ysu x0 (yan (yus x0 1) 1431655765)) 2) 858993459)) 4)) 252645135) (yus (yan (yad (yad (yan (ysu x0 (yan (yus x0 1) 1431655765)) 858993459) (yan (yus (ysu x0 (yan (yus x0 1) 1431655765)) 2) 858993459)) (yus (yad (yan (ysu x0 (yan (yus x0 1) 1431655765)) 858993459) (yan (yus (ysu x0 (yan (yus x0 1) 1431655765)) 2) 858993459)) 4)) 252645135) 8)) (yus (yad (yan (yad (yad (yan (ysu x0 (yan (yus x0 1) 1431655765)) 858993459) (yan (yus (ysu x0 (yan (yus x0 1) 1431655765)) 2) 858993459)) (yus (yad (yan (ysu x0 (yan (yus x0 1) 1431655765)) 858993459) (yan (yus (ysu x0 (yan (yus x0 1) 1431655765)) 2) 858993459)) 4)) 252645135) (yus (yan (yad (yad (yan (ysu x0 (yan (yus x0 1) 1431655765)) 858993459) (yan (yus (ysu x0 (yan (yus x0 1) 1431655765)) 2) 858993459)) (yus (yad (yan (ysu x0 (yan (yus x0 1) 1431655765)) 858993459) (yan (yus (ysu x0 (yan (yus x0 1) 1431655765)) 2) 858993459)) 4)) 252645135) 8)) 16)))], σ)) rfl ?_
  refine yG_n (n := 4) (C' := (52, [(0, .inl (.inl (yad (yad (yan (yad (yad (yan (ysu x0 (yan (yus x0 1) 1431655765)) 858993459) (yan (yus (ysu x0 (yan (yus x0 1) 1431655765)) 2) 858993459)) (yus (yad (yan (ysu x0 (yan (yus x0 1) 1431655765)) 858993459) (yan (yus (ysu x0 (yan (yus x0 1) 1431655765)) 2) 858993459)) 4)) 252645135) (yus (yan (yad (yad (yan (ysu x0 (yan (yus x0 1) 1431655765)) 858993459) (yan (yus (ysu x0 (yan (yus x0 1) 1431655765)) 2) 858993459)) (yus (yad (yan (ysu x0 (yan (yus x0 1) 1431655765)) 858993459) (yan (yus (ysu x0 (yan (yus x0 1) 1431655765)) 2) 858993459)) 4)) 252645135) 8)) (yus (yad (yan (yad (yad (yan (ysu x0 (yan (yus x0 1) 1431655765)) 858993459) (yan (yus (ysu x0 (yan (yus x0 1) 1431655765)) 2) 858993459)) (yus (yad (yan (ysu x0 (yan (yus x0 1) 1431655765)) 858993459) (yan (yus (ysu x0 (yan (yus x0 1) 1431655765)) 2) 858993459)) 4)) 252645135) (yus (yan (yad (yad (yan (ysu x0 (yan (yus x0 1) 1431655765)) 858993459) (yan (yus (ysu x0 (yan (yus x0 1) 1431655765)) 2) 858993459)) (yus (yad (yan (ysu x0 (yan (yus x0 1) 1431655765)) 858993459) (yan (yus (ysu x0 (yan (yus x0 1) 1431655765)) 2) 858993459)) 4)) 252645135) 8)) 16))))], [.inl (.inl (yan (yad (yad (yan (yad (yad (yan (ysu x0 (yan (yus x0 1) 1431655765)) 858993459) (yan (yus (ysu x0 (yan (yus x0 1) 1431655765)) 2) 858993459)) (yus (yad (yan (ysu x0 (yan (yus x0 1) 1431655765)) 858993459) (yan (yus (ysu x0 (yan (yus x0 1) 1431655765)) 2) 858993459)) 4)) 252645135) (yus (yan (yad (yad (yan (ysu x0 (yan (yus x0 1) 1431655765)) 858993459) (yan (yus (ysu x0 (yan (yus x0 1) 1431655765)) 2) 858993459)) (yus (yad (yan (ysu x0 (yan (yus x0 1) 1431655765)) 858993459) (yan (yus (ysu x0 (yan (yus x0 1) 1431655765)) 2) 858993459)) 4)) 252645135) 8)) (yus (yad (yan (yad (yad (yan (ysu x0 (yan (yus x0 1) 1431655765)) 858993459) (yan (yus (ysu x0 (yan (yus x0 1) 1431655765)) 2) 858993459)) (yus (yad (yan (ysu x0 (yan (yus x0 1) 1431655765)) 858993459) (yan (yus (ysu x0 (yan (yus x0 1) 1431655765)) 2) 858993459)) 4)) 252645135) (yus (yan (yad (yad (yan (ysu x0 (yan (yus x0 1) 1431655765)) 858993459) (yan (yus (ysu x0 (yan (yus x0 1) 1431655765)) 2) 858993459)) (yus (yad (yan (ysu x0 (yan (yus x0 1) 1431655765)) 858993459) (yan (yus (ysu x0 (yan (yus x0 1) 1431655765)) 2) 858993459)) 4)) 252645135) 8)) 16)) 63))], σ)) rfl ?_
  have h := Option.some.inj h
  subst h
  dsimp only
  exact yG_r rfl rfl
set_option maxRecDepth 100000 in
set_option maxHeartbeats 4000000 in
theorem m_J6_bitCount_0f7a4 {N : Nat} {X : zXT} (hX : zXok X) (hN : zXn X) (l : Launch) {sh : List yH} : yMet X vwCl yct sh l yJ6_bitCount_0f7a4 wsJ6_bitCount_0f7a4 { frames := 1, cells := 0, slots := 0, locals := 64 } (F_J6_bitCount_0f7a4 N) :=
  ymeth (tb := tb_J6_bitCount_0f7a4 N) (pr := pr_J6_bitCount_0f7a4) (rt := 1) (own := RJ6) hX (by decide +kernel) rfl rfl ⟨Nat.le_of_ble_eq_true rfl, Nat.le_of_ble_eq_true rfl⟩
    (zfl_all (fun _ h => absurd h List.not_mem_nil))
    (zco_all (List.forall_mem_cons.mpr ⟨(List.mem_of_getElem? (i := 1) rfl), List.forall_mem_cons.mpr ⟨(List.mem_of_getElem? (i := 2) rfl), List.forall_mem_cons.mpr ⟨(List.mem_of_getElem? (i := 3) rfl), fun _ h => absurd h List.not_mem_nil⟩⟩⟩)) (zlc_all (fun _ h => absurd h List.not_mem_nil))
    (fun _ h => absurd h List.not_mem_nil)
    (fun _ h => absurd h List.not_mem_nil)
    (zmm_all (fun _ h => absurd h List.not_mem_nil)) (fun _ h => absurd h List.not_mem_nil) (zpr_all hp_J6_bitCount_0f7a4) (fun as σ res h => by
      unfold F_J6_bitCount_0f7a4 at h
      split at h
      · rename_i x0
        cases hr : f_J6_bitCount_0f7a4 N σ x0 with
        | none => rw [hr] at h; cases h
        | some r =>
          rw [hr] at h
          cases h
          exact ⟨Nat.le_of_ble_eq_true rfl, t_J6_bitCount_0f7a4 σ x0 r hr⟩
      · cases h)
noncomputable def pr_X2_isNothing : List (Nat × Instr × Nat) := [(0, .aload_n 0, 1), (1, .getfield 11, 3), (4, .iconst (-1), 1), (5, .if_icmp .ne 7, 3), (8, .iconst 1, 1), (9, .goto 4, 3), (12, .iconst 0, 1), (13, .ireturn, 1)]
set_option maxRecDepth 100000 in
theorem hp_X2_isNothing : pr_X2_isNothing.all (fun x => decide (decode cX2_isNothing x.1 = .ok x.2)) = true := by decide +kernel
noncomputable def f_X2_isNothing_b13 (N : Nat) (σ : yS) (s0 : Int) : Option (Int × yS) :=
  bif yb1 s0 then some (s0, σ) else none
noncomputable def f_X2_isNothing (N : Nat) (σ : yS) (x0 : Nat) : Option (Int × yS) :=
  bif ycP .ne (σ.1 x0 0) ((-1)) then
    f_X2_isNothing_b13 N σ 0
  else
    f_X2_isNothing_b13 N σ 1
noncomputable def F_X2_isNothing (N : Nat) : yF := fun as σ => match as with
  | [.inr (.inl 2, x0)] => (f_X2_isNothing N σ x0).map (fun r => (some (.inl (.inl r.1)), r.2))
  | _ => none
theorem e_X2_isNothing {N : Nat} {σ : yS} {x0 : Nat} {r : Int × yS} (h : f_X2_isNothing N σ x0 = some r) : F_X2_isNothing N [.inr (.inl 2, x0)] σ = some (some (.inl (.inl r.1)), r.2) := by
  show (f_X2_isNothing N σ x0).map (fun r => ((some (.inl (.inl r.1)), r.2) : yR)) = _
  rw [h]
  rfl
noncomputable def tb_X2_isNothing (N : Nat) : yTb := ([(11, 2, 0, 0)], [], [], [], [], [], [])
abbrev G_X2_isNothing (N : Nat) (X : zXT) (sh : List yH) (l : Launch) (rm : Room) : yC → yR → Prop := yGoes X vwCl yct sh l rm cX2_isNothing 1 wsX2_isNothing RX2 (tb_X2_isNothing N) pr_X2_isNothing 2
set_option maxRecDepth 100000 in
set_option maxHeartbeats 4000000 in
theorem t_X2_isNothing_b13 {N : Nat} {X : zXT} {sh : List yH} {l : Launch} {rm : Room} (σ : yS) (s0 : Int) (res : Int × yS) (h : f_X2_isNothing_b13 N σ s0 = some res) : G_X2_isNothing N X sh l rm (13, [], [.inl (.inl s0)], σ) (some (.inl (.inl res.1)), res.2) := by
  unfold f_X2_isNothing_b13 at h
  cases hg1 : yb1 s0 with
  | false => rw [hg1] at h; dsimp only [cond] at h; cases h
  | true =>
    rw [hg1] at h
    dsimp only [cond] at h
    have h := Option.some.inj h
    subst h
    dsimp only
    exact yG_r rfl hg1
set_option maxRecDepth 100000 in
set_option maxHeartbeats 4000000 in
theorem t_X2_isNothing {N : Nat} {X : zXT} {sh : List yH} {l : Launch} {rm : Room} (σ : yS) (x0 : Nat) (res : Int × yS) (h : f_X2_isNothing N σ x0 = some res) : G_X2_isNothing N X sh l rm (0, [(0, .inr (.inl 2, x0))], [], σ) (some (.inl (.inl res.1)), res.2) := by
  unfold f_X2_isNothing at h
  refine yG_n (n := 3) (C' := (5, [(0, .inr (.inl 2, x0))], [.inl (.inl ((-1))), .inl (.inl (σ.1 x0 0))], σ)) rfl ?_
  cases hg2 : ycP .ne (σ.1 x0 0) ((-1)) with
  | true =>
    rw [hg2] at h
    dsimp only [cond] at h
    refine yG_t (C' := (12, [(0, .inr (.inl 2, x0))], [], σ)) rfl hg2 ?_
    refine yG_n (n := 1) (C' := (13, [(0, .inr (.inl 2, x0))], [.inl (.inl 0)], σ)) rfl ?_
    exact yG_w [] rfl (t_X2_isNothing_b13 σ 0 res h)
  | false =>
    rw [hg2] at h
    dsimp only [cond] at h
    refine yG_f (C' := (8, [(0, .inr (.inl 2, x0))], [], σ)) rfl hg2 ?_
    refine yG_n (n := 2) (C' := (13, [(0, .inr (.inl 2, x0))], [.inl (.inl 1)], σ)) rfl ?_
    exact yG_w [] rfl (t_X2_isNothing_b13 σ 1 res h)
set_option maxRecDepth 100000 in
set_option maxHeartbeats 4000000 in
theorem m_X2_isNothing {N : Nat} {X : zXT} (hX : zXok X) (hN : zXn X) (l : Launch) {sh : List yH} : yMet X vwCl yct sh l yX2_isNothing wsX2_isNothing { frames := 1, cells := 0, slots := 0, locals := 64 } (F_X2_isNothing N) :=
  ymeth (tb := tb_X2_isNothing N) (pr := pr_X2_isNothing) (rt := 2) (own := RX2) hX (by decide +kernel) rfl rfl ⟨Nat.le_of_ble_eq_true rfl, Nat.le_of_ble_eq_true rfl⟩
    (zfl_all (List.forall_mem_cons.mpr ⟨zfl_X2 (fun w h => List.mem_cons_of_mem _ (List.mem_append_right _ h)) (List.mem_of_getElem? (i := 1) rfl) (by decide) (by decide), fun _ h => absurd h List.not_mem_nil⟩))
    (zco_all (fun _ h => absurd h List.not_mem_nil)) (zlc_all (fun _ h => absurd h List.not_mem_nil))
    (fun _ h => absurd h List.not_mem_nil)
    (fun _ h => absurd h List.not_mem_nil)
    (zmm_all (fun _ h => absurd h List.not_mem_nil)) (fun _ h => absurd h List.not_mem_nil) (zpr_all hp_X2_isNothing) (fun as σ res h => by
      unfold F_X2_isNothing at h
      split at h
      · rename_i x0
        cases hr : f_X2_isNothing N σ x0 with
        | none => rw [hr] at h; cases h
        | some r =>
          rw [hr] at h
          cases h
          exact ⟨Nat.le_of_ble_eq_true rfl, t_X2_isNothing σ x0 r hr⟩
      · cases h)
noncomputable def pr_X5_manyForEver : List (Nat × Instr × Nat) := [(0, .iconst 0, 1), (1, .istore_n 1, 1), (2, .iconst 0, 1), (3, .istore_n 2, 1), (4, .iload_n 2, 1), (5, .aload_n 0, 1), (6, .getfield 24, 3), (9, .if_icmp .ge 23, 3), (12, .aload_n 0, 1), (13, .getfield 18, 3), (16, .iload_n 2, 1), (17, .iaload, 1), (18, .bipush 9, 2), (20, .if_icmp .ne 6, 3), (23, .iinc 1 1, 3), (26, .iinc 2 1, 3), (29, .goto (-25), 3), (32, .iload_n 1, 1), (33, .ireturn, 1)]
set_option maxRecDepth 100000 in
theorem hp_X5_manyForEver : pr_X5_manyForEver.all (fun x => decide (decode cX5_manyForEver x.1 = .ok x.2)) = true := by decide +kernel
noncomputable def f_X5_manyForEver_b26 (N : Nat) (k4 : yS → Nat → Int → Int → Option (Int × yS)) (σ : yS) (x0 : Nat) (x1 : Int) (x2 : Int) : Option (Int × yS) :=
  k4 σ x0 x1 (yad x2 1)
noncomputable def f_X5_manyForEver_b4 (N : Nat) : Nat → yS → Nat → Int → Int → Option (Int × yS) := yfix (fun _ _ _ _ => none) (fun ih σ x0 x1 x2 =>
    bif ycP .ge x2 (σ.1 x0 0) then
      some (x1, σ)
    else
      bif yin x2 10 then
        bif ycP .ne (σ.1 (x0 + 3) x2.toNat) 9 then
          f_X5_manyForEver_b26 N ih σ x0 x1 x2
        else
          f_X5_manyForEver_b26 N ih σ x0 (yad x1 1) x2
      else none)
theorem q_X5_manyForEver_b4 (N : Nat) (n : Nat) (σ : yS) (x0 : Nat) (x1 : Int) (x2 : Int) : f_X5_manyForEver_b4 N (n + 1) σ x0 x1 x2 =
    (bif ycP .ge x2 (σ.1 x0 0) then
      some (x1, σ)
    else
      bif yin x2 10 then
        bif ycP .ne (σ.1 (x0 + 3) x2.toNat) 9 then
          f_X5_manyForEver_b26 N (f_X5_manyForEver_b4 N n) σ x0 x1 x2
        else
          f_X5_manyForEver_b26 N (f_X5_manyForEver_b4 N n) σ x0 (yad x1 1) x2
      else none) := rfl
noncomputable def f_X5_manyForEver (N : Nat) (σ : yS) (x0 : Nat) : Option (Int × yS) :=
  f_X5_manyForEver_b4 N N σ x0 0 0
noncomputable def F_X5_manyForEver (N : Nat) : yF := fun as σ => match as with
  | [.inr (.inl 5, x0)] => (f_X5_manyForEver N σ x0).map (fun r => (some (.inl (.inl r.1)), r.2))
  | _ => none
theorem e_X5_manyForEver {N : Nat} {σ : yS} {x0 : Nat} {r : Int × yS} (h : f_X5_manyForEver N σ x0 = some r) : F_X5_manyForEver N [.inr (.inl 5, x0)] σ = some (some (.inl (.inl r.1)), r.2) := by
  show (f_X5_manyForEver N σ x0).map (fun r => ((some (.inl (.inl r.1)), r.2) : yR)) = _
  rw [h]
  rfl
noncomputable def tb_X5_manyForEver (N : Nat) : yTb := ([(18, 5, 3, 3), (24, 5, 0, 0)], [], [], [], [], [], [])
abbrev G_X5_manyForEver (N : Nat) (X : zXT) (sh : List yH) (l : Launch) (rm : Room) : yC → yR → Prop := yGoes X vwCl yct sh l rm cX5_manyForEver 3 wsX5_manyForEver RX5 (tb_X5_manyForEver N) pr_X5_manyForEver 1
set_option maxRecDepth 100000 in
set_option maxHeartbeats 4000000 in
theorem t_X5_manyForEver_b26 {N : Nat} {X : zXT} {sh : List yH} {l : Launch} {rm : Room} (k4 : yS → Nat → Int → Int → Option (Int × yS)) (hk4 : ∀ (σ : yS) (x0 : Nat) (x1 : Int) (x2 : Int) (res : Int × yS), k4 σ x0 x1 x2 = some res → G_X5_manyForEver N X sh l rm (4, [(0, .inr (.inl 5, x0)), (1, .inl (.inl x1)), (2, .inl (.inl x2))], [], σ) (some (.inl (.inl res.1)), res.2)) (σ : yS) (x0 : Nat) (x1 : Int) (x2 : Int) (res : Int × yS) (h : f_X5_manyForEver_b26 N k4 σ x0 x1 x2 = some res) : G_X5_manyForEver N X sh l rm (26, [(0, .inr (.inl 5, x0)), (1, .inl (.inl x1)), (2, .inl (.inl x2))], [], σ) (some (.inl (.inl res.1)), res.2) := by
  unfold f_X5_manyForEver_b26 at h
  refine yG_n (n := 2) (C' := (4, [(2, .inl (.inl (yad x2 1))), (0, .inr (.inl 5, x0)), (1, .inl (.inl x1))], [], σ)) rfl ?_
  exact yG_w [1, 2, 0] rfl (hk4 σ x0 x1 (yad x2 1) res h)
set_option maxRecDepth 100000 in
set_option maxHeartbeats 4000000 in
theorem t_X5_manyForEver_b4 {N : Nat} {X : zXT} {sh : List yH} {l : Launch} {rm : Room} : ∀ (n : Nat) (σ : yS) (x0 : Nat) (x1 : Int) (x2 : Int) (res : Int × yS), f_X5_manyForEver_b4 N n σ x0 x1 x2 = some res → G_X5_manyForEver N X sh l rm (4, [(0, .inr (.inl 5, x0)), (1, .inl (.inl x1)), (2, .inl (.inl x2))], [], σ) (some (.inl (.inl res.1)), res.2) := by
  intro n
  induction n with
  | zero => intro σ x0 x1 x2 res h; exact (yno h).elim
  | succ n ih =>
    intro σ x0 x1 x2 res h
    rw [q_X5_manyForEver_b4] at h
    refine yG_n (n := 3) (C' := (9, [(0, .inr (.inl 5, x0)), (1, .inl (.inl x1)), (2, .inl (.inl x2))], [.inl (.inl (σ.1 x0 0)), .inl (.inl x2)], σ)) rfl ?_
    cases hg1 : ycP .ge x2 (σ.1 x0 0) with
    | true =>
      rw [hg1] at h
      dsimp only [cond] at h
      refine yG_t (C' := (32, [(0, .inr (.inl 5, x0)), (1, .inl (.inl x1)), (2, .inl (.inl x2))], [], σ)) rfl hg1 ?_
      refine yG_n (n := 1) (C' := (33, [(0, .inr (.inl 5, x0)), (1, .inl (.inl x1)), (2, .inl (.inl x2))], [.inl (.inl x1)], σ)) rfl ?_
      have h := Option.some.inj h
      subst h
      dsimp only
      exact yG_r rfl rfl
    | false =>
      rw [hg1] at h
      dsimp only [cond] at h
      refine yG_f (C' := (12, [(0, .inr (.inl 5, x0)), (1, .inl (.inl x1)), (2, .inl (.inl x2))], [], σ)) rfl hg1 ?_
      refine yG_n (n := 3) (C' := (17, [(0, .inr (.inl 5, x0)), (1, .inl (.inl x1)), (2, .inl (.inl x2))], [.inl (.inl x2), .inr (.inr (0, 10), x0 + 3)], σ)) rfl ?_
      cases hg2 : yin x2 10 with
      | false => rw [hg2] at h; dsimp only [cond] at h; cases h
      | true =>
        rw [hg2] at h
        dsimp only [cond] at h
        refine yG_t (C' := (18, [(0, .inr (.inl 5, x0)), (1, .inl (.inl x1)), (2, .inl (.inl x2))], [.inl (.inl (σ.1 (x0 + 3) x2.toNat))], σ)) rfl hg2 ?_
        refine yG_n (n := 1) (C' := (20, [(0, .inr (.inl 5, x0)), (1, .inl (.inl x1)), (2, .inl (.inl x2))], [.inl (.inl 9), .inl (.inl (σ.1 (x0 + 3) x2.toNat))], σ)) rfl ?_
        cases hg3 : ycP .ne (σ.1 (x0 + 3) x2.toNat) 9 with
        | true =>
          rw [hg3] at h
          dsimp only [cond] at h
          refine yG_t (C' := (26, [(0, .inr (.inl 5, x0)), (1, .inl (.inl x1)), (2, .inl (.inl x2))], [], σ)) rfl hg3 ?_
          exact t_X5_manyForEver_b26 (f_X5_manyForEver_b4 N n) ih σ x0 x1 x2 res h
        | false =>
          rw [hg3] at h
          dsimp only [cond] at h
          refine yG_f (C' := (23, [(0, .inr (.inl 5, x0)), (1, .inl (.inl x1)), (2, .inl (.inl x2))], [], σ)) rfl hg3 ?_
          refine yG_n (n := 1) (C' := (26, [(1, .inl (.inl (yad x1 1))), (0, .inr (.inl 5, x0)), (2, .inl (.inl x2))], [], σ)) rfl ?_
          exact yG_w [1, 0, 2] rfl (t_X5_manyForEver_b26 (f_X5_manyForEver_b4 N n) ih σ x0 (yad x1 1) x2 res h)
set_option maxRecDepth 100000 in
set_option maxHeartbeats 4000000 in
theorem t_X5_manyForEver {N : Nat} {X : zXT} {sh : List yH} {l : Launch} {rm : Room} (σ : yS) (x0 : Nat) (res : Int × yS) (h : f_X5_manyForEver N σ x0 = some res) : G_X5_manyForEver N X sh l rm (0, [(0, .inr (.inl 5, x0))], [], σ) (some (.inl (.inl res.1)), res.2) := by
  unfold f_X5_manyForEver at h
  refine yG_n (n := 4) (C' := (4, [(2, .inl (.inl 0)), (1, .inl (.inl 0)), (0, .inr (.inl 5, x0))], [], σ)) rfl ?_
  exact yG_w [2, 1, 0] rfl (t_X5_manyForEver_b4 N σ x0 0 0 res h)
set_option maxRecDepth 100000 in
set_option maxHeartbeats 4000000 in
theorem m_X5_manyForEver {N : Nat} {X : zXT} (hX : zXok X) (hN : zXn X) (l : Launch) {sh : List yH} : yMet X vwCl yct sh l yX5_manyForEver wsX5_manyForEver { frames := 1, cells := 0, slots := 0, locals := 64 } (F_X5_manyForEver N) :=
  ymeth (tb := tb_X5_manyForEver N) (pr := pr_X5_manyForEver) (rt := 1) (own := RX5) hX (by decide +kernel) rfl rfl ⟨Nat.le_of_ble_eq_true rfl, Nat.le_of_ble_eq_true rfl⟩
    (zfl_all (List.forall_mem_cons.mpr ⟨zfl_X5 (fun w h => List.mem_cons_of_mem _ (List.mem_append_right _ h)) (List.mem_of_getElem? (i := 2) rfl) (by decide) (by decide), List.forall_mem_cons.mpr ⟨zfl_X5 (fun w h => List.mem_cons_of_mem _ (List.mem_append_right _ h)) (List.mem_of_getElem? (i := 1) rfl) (by decide) (by decide), fun _ h => absurd h List.not_mem_nil⟩⟩))
    (zco_all (fun _ h => absurd h List.not_mem_nil)) (zlc_all (fun _ h => absurd h List.not_mem_nil))
    (fun _ h => absurd h List.not_mem_nil)
    (fun _ h => absurd h List.not_mem_nil)
    (zmm_all (fun _ h => absurd h List.not_mem_nil)) (fun _ h => absurd h List.not_mem_nil) (zpr_all hp_X5_manyForEver) (fun as σ res h => by
      unfold F_X5_manyForEver at h
      split at h
      · rename_i x0
        cases hr : f_X5_manyForEver N σ x0 with
        | none => rw [hr] at h; cases h
        | some r =>
          rw [hr] at h
          cases h
          exact ⟨Nat.le_of_ble_eq_true rfl, t_X5_manyForEver σ x0 r hr⟩
      · cases h)
noncomputable def pr_X7_count : List (Nat × Instr × Nat) := [(0, .iload_n 1, 1), (1, .tableswitch 124 0 6 #[43, 51, 59, 70, 78, 86, 113], 43), (44, .aload_n 0, 1), (45, .getfield 10, 3), (48, .invokevirtual 290, 3), (51, .ireturn, 1), (52, .aload_n 0, 1), (53, .getfield 10, 3), (56, .invokevirtual 293, 3), (59, .ireturn, 1), (60, .aload_n 0, 1), (61, .getfield 10, 3), (64, .getfield 128, 3), (67, .invokestatic 194, 3), (70, .ireturn, 1), (71, .aload_n 0, 1), (72, .getfield 76, 3), (75, .invokestatic 194, 3), (78, .ireturn, 1), (79, .aload_n 0, 1), (80, .getfield 34, 3), (83, .getfield 59, 3), (86, .ireturn, 1), (87, .aload_n 0, 1), (88, .getfield 44, 3), (91, .iconst 0, 1), (92, .aaload, 1), (93, .invokevirtual 296, 3), (96, .ifCond .eq 8, 3), (99, .bipush (-4), 2), (101, .goto 12, 3), (104, .aload_n 0, 1), (105, .getfield 44, 3), (108, .iconst 0, 1), (109, .aaload, 1), (110, .getfield 300, 3), (113, .ireturn, 1), (114, .aload_n 0, 1), (115, .getfield 10, 3), (118, .getfield 92, 3), (121, .invokevirtual 301, 3), (124, .ireturn, 1), (125, .iconst (-1), 1), (126, .ireturn, 1)]
set_option maxRecDepth 100000 in
theorem hp_X7_count : pr_X7_count.all (fun x => decide (decode cX7_count x.1 = .ok x.2)) = true := by decide +kernel
noncomputable def f_X7_count_b113 (N : Nat) (σ : yS) (s0 : Int) : Option (Int × yS) :=
  some (s0, σ)
noncomputable def f_X7_count (N : Nat) (σ : yS) (x1 : Int) : Option (Int × yS) :=
  bif zle x1 0 && zle 0 x1 then
    match f_X4_allDone N σ 17 with
    | none => none
    | some r1 => some (r1.1, r1.2)
  else
    bif zle x1 1 && zle 1 x1 then
    match f_X4_allPurses N σ 17 with
    | none => none
    | some r2 => some (r2.1, r2.2)
  else
    bif zle x1 2 && zle 2 x1 then
    match f_J6_bitCount_0f7a4 N σ (σ.1 17 6) with
    | none => none
    | some r3 => some (r3.1, r3.2)
  else
    bif zle x1 3 && zle 3 x1 then
    match f_J6_bitCount_0f7a4 N σ (σ.1 0 7) with
    | none => none
    | some r4 => some (r4.1, r4.2)
  else
    bif zle x1 4 && zle 4 x1 then
    some (σ.1 3 0, σ)
  else
    bif zle x1 5 && zle 5 x1 then
    match f_X2_isNothing N σ (σ.2 8 0) with
    | none => none
    | some r5 => bif ycP .eq r5.1 0 then
        f_X7_count_b113 N r5.2 (r5.2.1 (r5.2.2 8 0) 1)
      else
        f_X7_count_b113 N r5.2 ((-4))
  else
    bif zle x1 6 && zle 6 x1 then
    match f_X5_manyForEver N σ (σ.2 17 11) with
    | none => none
    | some r6 => some (r6.1, r6.2)
  else
    some ((-1), σ)
noncomputable def F_X7_count (N : Nat) : yF := fun as σ => match as with
  | [.inr (.inl 7, 0), .inl (.inl x1)] => (f_X7_count N σ x1).map (fun r => (some (.inl (.inl r.1)), r.2))
  | _ => none
theorem e_X7_count {N : Nat} {σ : yS} {x1 : Int} {r : Int × yS} (h : f_X7_count N σ x1 = some r) : F_X7_count N [.inr (.inl 7, 0), .inl (.inl x1)] σ = some (some (.inl (.inl r.1)), r.2) := by
  show (f_X7_count N σ x1).map (fun r => ((some (.inl (.inl r.1)), r.2) : yR)) = _
  rw [h]
  rfl
noncomputable def tb_X7_count (N : Nat) : yTb := ([(10, 7, 0, 3), (34, 7, 4, 3), (44, 7, 6, 3), (59, 3, 0, 0), (76, 7, 7, 0), (92, 4, 11, 2), (128, 4, 6, 0), (300, 2, 1, 0)], [], [], [(290, 1, 4, F_X4_allDone N), (293, 1, 4, F_X4_allPurses N), (296, 1, 2, F_X2_isNothing N), (301, 1, 5, F_X5_manyForEver N)], [(194, 1, F_J6_bitCount_0f7a4 N)], [], [])
abbrev G_X7_count (N : Nat) (X : zXT) (sh : List yH) (l : Launch) (rm : Room) : yC → yR → Prop := yGoes X vwCl yct sh l rm cX7_count 2 wsX7_count RX7 (tb_X7_count N) pr_X7_count 1
set_option maxRecDepth 100000 in
set_option maxHeartbeats 4000000 in
theorem t_X7_count_b113 {N : Nat} {X : zXT} {sh : List yH} {l : Launch} {rm : Room} (σ : yS) (s0 : Int) (res : Int × yS) (h : f_X7_count_b113 N σ s0 = some res) : G_X7_count N X sh l rm (113, [], [.inl (.inl s0)], σ) (some (.inl (.inl res.1)), res.2) := by
  unfold f_X7_count_b113 at h
  have h := Option.some.inj h
  subst h
  dsimp only
  exact yG_r rfl rfl
set_option maxRecDepth 100000 in
set_option maxHeartbeats 4000000 in
theorem t_X7_count {N : Nat} {X : zXT} {sh : List yH} {l : Launch} {rm : Room} (σ : yS) (x1 : Int) (res : Int × yS) (h : f_X7_count N σ x1 = some res) : G_X7_count N X sh l rm (0, [(0, .inr (.inl 7, 0)), (1, .inl (.inl x1))], [], σ) (some (.inl (.inl res.1)), res.2) := by
  unfold f_X7_count at h
  refine yG_n (n := 1) (C' := (1, [(0, .inr (.inl 7, 0)), (1, .inl (.inl x1))], [.inl (.inl x1)], σ)) rfl ?_
  refine yG_n (n := 1) (C' := ((bif zle x1 0 && zle 0 x1 then 44 else (bif zle x1 1 && zle 1 x1 then 52 else (bif zle x1 2 && zle 2 x1 then 60 else (bif zle x1 3 && zle 3 x1 then 71 else (bif zle x1 4 && zle 4 x1 then 79 else (bif zle x1 5 && zle 5 x1 then 87 else (bif zle x1 6 && zle 6 x1 then 114 else 125))))))), [(0, .inr (.inl 7, 0)), (1, .inl (.inl x1))], [], σ)) rfl ?_
  cases hg1 : (zle x1 0 && zle 0 x1) with
  | true =>
    rw [hg1] at h
    dsimp only [cond] at h
    show G_X7_count N X sh l rm (44, [(0, .inr (.inl 7, 0)), (1, .inl (.inl x1))], [], σ) ((some (.inl (.inl res.1)), res.2))
    refine yG_n (n := 2) (C' := (48, [(0, .inr (.inl 7, 0)), (1, .inl (.inl x1))], [.inr (.inl 4, 17)], σ)) rfl ?_
    cases hr2 : f_X4_allDone N σ 17 with
    | none => rw [hr2] at h; dsimp only at h; cases h
    | some r1 =>
      rw [hr2] at h
      dsimp only at h
      refine yG_c (C1 := (51, [(0, .inr (.inl 7, 0)), (1, .inl (.inl x1))], [.inl (.inl r1.1)], r1.2)) rfl (e_X4_allDone hr2) rfl ?_
      have h := Option.some.inj h
      subst h
      dsimp only
      exact yG_r rfl rfl
  | false =>
    rw [hg1] at h
    dsimp only [cond] at h
    show G_X7_count N X sh l rm ((bif zle x1 1 && zle 1 x1 then 52 else (bif zle x1 2 && zle 2 x1 then 60 else (bif zle x1 3 && zle 3 x1 then 71 else (bif zle x1 4 && zle 4 x1 then 79 else (bif zle x1 5 && zle 5 x1 then 87 else (bif zle x1 6 && zle 6 x1 then 114 else 125)))))), [(0, .inr (.inl 7, 0)), (1, .inl (.inl x1))], [], σ) (some (.inl (.inl res.1)), res.2)
    cases hg3 : (zle x1 1 && zle 1 x1) with
    | true =>
      rw [hg3] at h
      dsimp only [cond] at h
      show G_X7_count N X sh l rm (52, [(0, .inr (.inl 7, 0)), (1, .inl (.inl x1))], [], σ) ((some (.inl (.inl res.1)), res.2))
      refine yG_n (n := 2) (C' := (56, [(0, .inr (.inl 7, 0)), (1, .inl (.inl x1))], [.inr (.inl 4, 17)], σ)) rfl ?_
      cases hr4 : f_X4_allPurses N σ 17 with
      | none => rw [hr4] at h; dsimp only at h; cases h
      | some r2 =>
        rw [hr4] at h
        dsimp only at h
        refine yG_c (C1 := (59, [(0, .inr (.inl 7, 0)), (1, .inl (.inl x1))], [.inl (.inl r2.1)], r2.2)) rfl (e_X4_allPurses hr4) rfl ?_
        have h := Option.some.inj h
        subst h
        dsimp only
        exact yG_r rfl rfl
    | false =>
      rw [hg3] at h
      dsimp only [cond] at h
      show G_X7_count N X sh l rm ((bif zle x1 2 && zle 2 x1 then 60 else (bif zle x1 3 && zle 3 x1 then 71 else (bif zle x1 4 && zle 4 x1 then 79 else (bif zle x1 5 && zle 5 x1 then 87 else (bif zle x1 6 && zle 6 x1 then 114 else 125))))), [(0, .inr (.inl 7, 0)), (1, .inl (.inl x1))], [], σ) (some (.inl (.inl res.1)), res.2)
      cases hg5 : (zle x1 2 && zle 2 x1) with
      | true =>
        rw [hg5] at h
        dsimp only [cond] at h
        show G_X7_count N X sh l rm (60, [(0, .inr (.inl 7, 0)), (1, .inl (.inl x1))], [], σ) ((some (.inl (.inl res.1)), res.2))
        refine yG_n (n := 3) (C' := (67, [(0, .inr (.inl 7, 0)), (1, .inl (.inl x1))], [.inl (.inl (σ.1 17 6))], σ)) rfl ?_
        cases hr6 : f_J6_bitCount_0f7a4 N σ (σ.1 17 6) with
        | none => rw [hr6] at h; dsimp only at h; cases h
        | some r3 =>
          rw [hr6] at h
          dsimp only at h
          refine yG_c (C1 := (70, [(0, .inr (.inl 7, 0)), (1, .inl (.inl x1))], [.inl (.inl r3.1)], r3.2)) rfl (e_J6_bitCount_0f7a4 hr6) rfl ?_
          have h := Option.some.inj h
          subst h
          dsimp only
          exact yG_r rfl rfl
      | false =>
        rw [hg5] at h
        dsimp only [cond] at h
        show G_X7_count N X sh l rm ((bif zle x1 3 && zle 3 x1 then 71 else (bif zle x1 4 && zle 4 x1 then 79 else (bif zle x1 5 && zle 5 x1 then 87 else (bif zle x1 6 && zle 6 x1 then 114 else 125)))), [(0, .inr (.inl 7, 0)), (1, .inl (.inl x1))], [], σ) (some (.inl (.inl res.1)), res.2)
        cases hg7 : (zle x1 3 && zle 3 x1) with
        | true =>
          rw [hg7] at h
          dsimp only [cond] at h
          show G_X7_count N X sh l rm (71, [(0, .inr (.inl 7, 0)), (1, .inl (.inl x1))], [], σ) ((some (.inl (.inl res.1)), res.2))
          refine yG_n (n := 2) (C' := (75, [(0, .inr (.inl 7, 0)), (1, .inl (.inl x1))], [.inl (.inl (σ.1 0 7))], σ)) rfl ?_
          cases hr8 : f_J6_bitCount_0f7a4 N σ (σ.1 0 7) with
          | none => rw [hr8] at h; dsimp only at h; cases h
          | some r4 =>
            rw [hr8] at h
            dsimp only at h
            refine yG_c (C1 := (78, [(0, .inr (.inl 7, 0)), (1, .inl (.inl x1))], [.inl (.inl r4.1)], r4.2)) rfl (e_J6_bitCount_0f7a4 hr8) rfl ?_
            have h := Option.some.inj h
            subst h
            dsimp only
            exact yG_r rfl rfl
        | false =>
          rw [hg7] at h
          dsimp only [cond] at h
          show G_X7_count N X sh l rm ((bif zle x1 4 && zle 4 x1 then 79 else (bif zle x1 5 && zle 5 x1 then 87 else (bif zle x1 6 && zle 6 x1 then 114 else 125))), [(0, .inr (.inl 7, 0)), (1, .inl (.inl x1))], [], σ) (some (.inl (.inl res.1)), res.2)
          cases hg9 : (zle x1 4 && zle 4 x1) with
          | true =>
            rw [hg9] at h
            dsimp only [cond] at h
            show G_X7_count N X sh l rm (79, [(0, .inr (.inl 7, 0)), (1, .inl (.inl x1))], [], σ) ((some (.inl (.inl res.1)), res.2))
            refine yG_n (n := 3) (C' := (86, [(0, .inr (.inl 7, 0)), (1, .inl (.inl x1))], [.inl (.inl (σ.1 3 0))], σ)) rfl ?_
            have h := Option.some.inj h
            subst h
            dsimp only
            exact yG_r rfl rfl
          | false =>
            rw [hg9] at h
            dsimp only [cond] at h
            show G_X7_count N X sh l rm ((bif zle x1 5 && zle 5 x1 then 87 else (bif zle x1 6 && zle 6 x1 then 114 else 125)), [(0, .inr (.inl 7, 0)), (1, .inl (.inl x1))], [], σ) (some (.inl (.inl res.1)), res.2)
            cases hg10 : (zle x1 5 && zle 5 x1) with
            | true =>
              rw [hg10] at h
              dsimp only [cond] at h
              show G_X7_count N X sh l rm (87, [(0, .inr (.inl 7, 0)), (1, .inl (.inl x1))], [], σ) ((some (.inl (.inl res.1)), res.2))
              refine yG_n (n := 4) (C' := (93, [(0, .inr (.inl 7, 0)), (1, .inl (.inl x1))], [.inr (.inl 2, σ.2 8 0)], σ)) rfl ?_
              cases hr11 : f_X2_isNothing N σ (σ.2 8 0) with
              | none => rw [hr11] at h; dsimp only at h; cases h
              | some r5 =>
                rw [hr11] at h
                dsimp only at h
                refine yG_c (C1 := (96, [(0, .inr (.inl 7, 0)), (1, .inl (.inl x1))], [.inl (.inl r5.1)], r5.2)) rfl (e_X2_isNothing hr11) rfl ?_
                cases hg12 : ycP .eq r5.1 0 with
                | true =>
                  rw [hg12] at h
                  dsimp only [cond] at h
                  refine yG_t (C' := (104, [(0, .inr (.inl 7, 0)), (1, .inl (.inl x1))], [], r5.2)) rfl hg12 ?_
                  refine yG_n (n := 5) (C' := (113, [(0, .inr (.inl 7, 0)), (1, .inl (.inl x1))], [.inl (.inl (r5.2.1 (r5.2.2 8 0) 1))], r5.2)) rfl ?_
                  exact yG_w [] rfl (t_X7_count_b113 r5.2 (r5.2.1 (r5.2.2 8 0) 1) res h)
                | false =>
                  rw [hg12] at h
                  dsimp only [cond] at h
                  refine yG_f (C' := (99, [(0, .inr (.inl 7, 0)), (1, .inl (.inl x1))], [], r5.2)) rfl hg12 ?_
                  refine yG_n (n := 2) (C' := (113, [(0, .inr (.inl 7, 0)), (1, .inl (.inl x1))], [.inl (.inl ((-4)))], r5.2)) rfl ?_
                  exact yG_w [] rfl (t_X7_count_b113 r5.2 ((-4)) res h)
            | false =>
              rw [hg10] at h
              dsimp only [cond] at h
              show G_X7_count N X sh l rm ((bif zle x1 6 && zle 6 x1 then 114 else 125), [(0, .inr (.inl 7, 0)), (1, .inl (.inl x1))], [], σ) (some (.inl (.inl res.1)), res.2)
              cases hg13 : (zle x1 6 && zle 6 x1) with
              | true =>
                rw [hg13] at h
                dsimp only [cond] at h
                show G_X7_count N X sh l rm (114, [(0, .inr (.inl 7, 0)), (1, .inl (.inl x1))], [], σ) ((some (.inl (.inl res.1)), res.2))
                refine yG_n (n := 3) (C' := (121, [(0, .inr (.inl 7, 0)), (1, .inl (.inl x1))], [.inr (.inl 5, σ.2 17 11)], σ)) rfl ?_
                cases hr14 : f_X5_manyForEver N σ (σ.2 17 11) with
                | none => rw [hr14] at h; dsimp only at h; cases h
                | some r6 =>
                  rw [hr14] at h
                  dsimp only at h
                  refine yG_c (C1 := (124, [(0, .inr (.inl 7, 0)), (1, .inl (.inl x1))], [.inl (.inl r6.1)], r6.2)) rfl (e_X5_manyForEver hr14) rfl ?_
                  have h := Option.some.inj h
                  subst h
                  dsimp only
                  exact yG_r rfl rfl
              | false =>
                rw [hg13] at h
                dsimp only [cond] at h
                show G_X7_count N X sh l rm (125, [(0, .inr (.inl 7, 0)), (1, .inl (.inl x1))], [], σ) (some (.inl (.inl res.1)), res.2)
                refine yG_n (n := 1) (C' := (126, [(0, .inr (.inl 7, 0)), (1, .inl (.inl x1))], [.inl (.inl ((-1)))], σ)) rfl ?_
                have h := Option.some.inj h
                subst h
                dsimp only
                exact yG_r rfl rfl
set_option maxRecDepth 100000 in
set_option maxHeartbeats 4000000 in
theorem m_X7_count {N : Nat} {X : zXT} (hX : zXok X) (hN : zXn X) (l : Launch) {sh : List yH} : yMet X vwCl yct sh l yX7_count wsX7_count { frames := 2, cells := 0, slots := 0, locals := 86 } (F_X7_count N) :=
  ymeth (tb := tb_X7_count N) (pr := pr_X7_count) (rt := 1) (own := RX7) hX (by decide +kernel) rfl rfl ⟨Nat.le_of_ble_eq_true rfl, Nat.le_of_ble_eq_true rfl⟩
    (zfl_all (List.forall_mem_cons.mpr ⟨zfl_X7 (fun w h => List.mem_cons_of_mem _ (List.mem_append_left _ (List.mem_append_left _ (List.mem_append_left _ (List.mem_append_left _ (List.mem_append_right _ h)))))) (List.mem_of_getElem? (i := 1) rfl) (by decide) (by decide), List.forall_mem_cons.mpr ⟨zfl_X7 (fun w h => List.mem_cons_of_mem _ (List.mem_append_left _ (List.mem_append_left _ (List.mem_append_left _ (List.mem_append_left _ (List.mem_append_right _ h)))))) (List.mem_of_getElem? (i := 4) rfl) (by decide) (by decide), List.forall_mem_cons.mpr ⟨zfl_X7 (fun w h => List.mem_cons_of_mem _ (List.mem_append_left _ (List.mem_append_left _ (List.mem_append_left _ (List.mem_append_left _ (List.mem_append_right _ h)))))) (List.mem_of_getElem? (i := 6) rfl) (by decide) (by decide), List.forall_mem_cons.mpr ⟨zfl_X3 (fun w h => List.mem_cons_of_mem _ (List.mem_append_left _ (List.mem_append_left _ (List.mem_append_right _ h)))) (List.mem_of_getElem? (i := 5) rfl) (by decide) (by decide), List.forall_mem_cons.mpr ⟨zfl_X7 (fun w h => List.mem_cons_of_mem _ (List.mem_append_left _ (List.mem_append_left _ (List.mem_append_left _ (List.mem_append_left _ (List.mem_append_right _ h)))))) (List.mem_of_getElem? (i := 3) rfl) (by decide) (by decide), List.forall_mem_cons.mpr ⟨zfl_X4 (fun w h => List.mem_cons_of_mem _ (List.mem_append_left _ (List.mem_append_left _ (List.mem_append_left _ (List.mem_append_right _ h))))) (List.mem_of_getElem? (i := 8) rfl) (by decide) (by decide), List.forall_mem_cons.mpr ⟨zfl_X4 (fun w h => List.mem_cons_of_mem _ (List.mem_append_left _ (List.mem_append_left _ (List.mem_append_left _ (List.mem_append_right _ h))))) (List.mem_of_getElem? (i := 2) rfl) (by decide) (by decide), List.forall_mem_cons.mpr ⟨zfl_X2 (fun w h => List.mem_cons_of_mem _ (List.mem_append_left _ (List.mem_append_right _ h))) (List.mem_of_getElem? (i := 7) rfl) (by decide) (by decide), fun _ h => absurd h List.not_mem_nil⟩⟩⟩⟩⟩⟩⟩⟩))
    (zco_all (fun _ h => absurd h List.not_mem_nil)) (zlc_all (fun _ h => absurd h List.not_mem_nil))
    (List.forall_mem_cons.mpr ⟨ycal_V hX (m_X4_allDone hX hN l) rfl (fun s args hts => cwV 0 hts gX7_count_X4_allDone rfl rfl rfl (by decide +kernel) ⟨Nat.le_of_ble_eq_true rfl, Nat.le_of_ble_eq_true rfl⟩), List.forall_mem_cons.mpr ⟨ycal_V hX (m_X4_allPurses hX hN l) rfl (fun s args hts => cwV 0 hts gX7_count_X4_allPurses rfl rfl rfl (by decide +kernel) ⟨Nat.le_of_ble_eq_true rfl, Nat.le_of_ble_eq_true rfl⟩), List.forall_mem_cons.mpr ⟨ycal_V hX (m_X2_isNothing hX hN l) rfl (fun s args hts => cwV 0 hts gX7_count_X2_isNothing rfl rfl rfl (by decide +kernel) ⟨Nat.le_of_ble_eq_true rfl, Nat.le_of_ble_eq_true rfl⟩), List.forall_mem_cons.mpr ⟨ycal_V hX (m_X5_manyForEver hX hN l) rfl (fun s args hts => cwV 0 hts gX7_count_X5_manyForEver rfl rfl rfl (by decide +kernel) ⟨Nat.le_of_ble_eq_true rfl, Nat.le_of_ble_eq_true rfl⟩), fun _ h => absurd h List.not_mem_nil⟩⟩⟩⟩)
    (List.forall_mem_cons.mpr ⟨ycal_S hX (m_J6_bitCount_0f7a4 hX hN l) (fun s args hts => va_cwS 1 hts gX7_count_J6_bitCount_0f7a4 rfl rfl rfl (by decide +kernel) ⟨Nat.le_of_ble_eq_true rfl, Nat.le_of_ble_eq_true rfl⟩), fun _ h => absurd h List.not_mem_nil⟩)
    (zmm_all (fun _ h => absurd h List.not_mem_nil)) (fun _ h => absurd h List.not_mem_nil) (zpr_all hp_X7_count) (fun as σ res h => by
      unfold F_X7_count at h
      split at h
      · rename_i x1
        cases hr : f_X7_count N σ x1 with
        | none => rw [hr] at h; cases h
        | some r =>
          rw [hr] at h
          cases h
          exact ⟨Nat.le_of_ble_eq_true rfl, t_X7_count σ x1 r hr⟩
      · cases h)
noncomputable def pr_J9_floorMod_7cf53 : List (Nat × Instr × Nat) := [(0, .iload_n 0, 1), (1, .iload_n 1, 1), (2, .irem, 1), (3, .istore_n 2, 1), (4, .iload_n 0, 1), (5, .iload_n 1, 1), (6, .ixor, 1), (7, .ifCond .ge 11, 3), (10, .iload_n 2, 1), (11, .ifCond .eq 7, 3), (14, .iload_n 2, 1), (15, .iload_n 1, 1), (16, .iadd, 1), (17, .ireturn, 1), (18, .iload_n 2, 1), (19, .ireturn, 1)]
set_option maxRecDepth 100000 in
theorem hp_J9_floorMod_7cf53 : pr_J9_floorMod_7cf53.all (fun x => decide (decode cJ9_floorMod_7cf53 x.1 = .ok x.2)) = true := by decide +kernel
noncomputable def f_J9_floorMod_7cf53_b18 (N : Nat) (σ : yS) (x2 : Int) : Option (Int × yS) :=
  some (x2, σ)
noncomputable def f_J9_floorMod_7cf53 (N : Nat) (σ : yS) (x0 : Int) (x1 : Int) : Option (Int × yS) :=
  bif ynz x1 then
    bif ycP .ge (yxo x0 x1) 0 then
      f_J9_floorMod_7cf53_b18 N σ (yrm x0 x1)
    else
      bif ycP .eq (yrm x0 x1) 0 then
        f_J9_floorMod_7cf53_b18 N σ (yrm x0 x1)
      else
        some (yad (yrm x0 x1) x1, σ)
  else none
noncomputable def F_J9_floorMod_7cf53 (N : Nat) : yF := fun as σ => match as with
  | [.inl (.inl x0), .inl (.inl x1)] => (f_J9_floorMod_7cf53 N σ x0 x1).map (fun r => (some (.inl (.inl r.1)), r.2))
  | _ => none
theorem e_J9_floorMod_7cf53 {N : Nat} {σ : yS} {x0 : Int} {x1 : Int} {r : Int × yS} (h : f_J9_floorMod_7cf53 N σ x0 x1 = some r) : F_J9_floorMod_7cf53 N [.inl (.inl x0), .inl (.inl x1)] σ = some (some (.inl (.inl r.1)), r.2) := by
  show (f_J9_floorMod_7cf53 N σ x0 x1).map (fun r => ((some (.inl (.inl r.1)), r.2) : yR)) = _
  rw [h]
  rfl
noncomputable def tb_J9_floorMod_7cf53 (N : Nat) : yTb := ([], [], [], [], [], [], [])
abbrev G_J9_floorMod_7cf53 (N : Nat) (X : zXT) (sh : List yH) (l : Launch) (rm : Room) : yC → yR → Prop := yGoes X vwCl yct sh l rm cJ9_floorMod_7cf53 3 wsJ9_floorMod_7cf53 RJ9 (tb_J9_floorMod_7cf53 N) pr_J9_floorMod_7cf53 1
set_option maxRecDepth 100000 in
set_option maxHeartbeats 4000000 in
theorem t_J9_floorMod_7cf53_b18 {N : Nat} {X : zXT} {sh : List yH} {l : Launch} {rm : Room} (σ : yS) (x2 : Int) (res : Int × yS) (h : f_J9_floorMod_7cf53_b18 N σ x2 = some res) : G_J9_floorMod_7cf53 N X sh l rm (18, [(2, .inl (.inl x2))], [], σ) (some (.inl (.inl res.1)), res.2) := by
  unfold f_J9_floorMod_7cf53_b18 at h
  refine yG_n (n := 1) (C' := (19, [(2, .inl (.inl x2))], [.inl (.inl x2)], σ)) rfl ?_
  have h := Option.some.inj h
  subst h
  dsimp only
  exact yG_r rfl rfl
set_option maxRecDepth 100000 in
set_option maxHeartbeats 4000000 in
theorem t_J9_floorMod_7cf53 {N : Nat} {X : zXT} {sh : List yH} {l : Launch} {rm : Room} (σ : yS) (x0 : Int) (x1 : Int) (res : Int × yS) (h : f_J9_floorMod_7cf53 N σ x0 x1 = some res) : G_J9_floorMod_7cf53 N X sh l rm (0, [(0, .inl (.inl x0)), (1, .inl (.inl x1))], [], σ) (some (.inl (.inl res.1)), res.2) := by
  unfold f_J9_floorMod_7cf53 at h
  refine yG_n (n := 2) (C' := (2, [(0, .inl (.inl x0)), (1, .inl (.inl x1))], [.inl (.inl x1), .inl (.inl x0)], σ)) rfl ?_
  cases hg1 : ynz x1 with
  | false => rw [hg1] at h; dsimp only [cond] at h; cases h
  | true =>
    rw [hg1] at h
    dsimp only [cond] at h
    refine yG_t (C' := (3, [(0, .inl (.inl x0)), (1, .inl (.inl x1))], [.inl (.inl (yrm x0 x1))], σ)) rfl hg1 ?_
    refine yG_n (n := 4) (C' := (7, [(2, .inl (.inl (yrm x0 x1))), (0, .inl (.inl x0)), (1, .inl (.inl x1))], [.inl (.inl (yxo x0 x1))], σ)) rfl ?_
    cases hg2 : ycP .ge (yxo x0 x1) 0 with
    | true =>
      rw [hg2] at h
      dsimp only [cond] at h
      refine yG_t (C' := (18, [(2, .inl (.inl (yrm x0 x1))), (0, .inl (.inl x0)), (1, .inl (.inl x1))], [], σ)) rfl hg2 ?_
      exact yG_w [0] rfl (t_J9_floorMod_7cf53_b18 σ (yrm x0 x1) res h)
    | false =>
      rw [hg2] at h
      dsimp only [cond] at h
      refine yG_f (C' := (10, [(2, .inl (.inl (yrm x0 x1))), (0, .inl (.inl x0)), (1, .inl (.inl x1))], [], σ)) rfl hg2 ?_
      refine yG_n (n := 1) (C' := (11, [(2, .inl (.inl (yrm x0 x1))), (0, .inl (.inl x0)), (1, .inl (.inl x1))], [.inl (.inl (yrm x0 x1))], σ)) rfl ?_
      cases hg3 : ycP .eq (yrm x0 x1) 0 with
      | true =>
        rw [hg3] at h
        dsimp only [cond] at h
        refine yG_t (C' := (18, [(2, .inl (.inl (yrm x0 x1))), (0, .inl (.inl x0)), (1, .inl (.inl x1))], [], σ)) rfl hg3 ?_
        exact yG_w [0] rfl (t_J9_floorMod_7cf53_b18 σ (yrm x0 x1) res h)
      | false =>
        rw [hg3] at h
        dsimp only [cond] at h
        refine yG_f (C' := (14, [(2, .inl (.inl (yrm x0 x1))), (0, .inl (.inl x0)), (1, .inl (.inl x1))], [], σ)) rfl hg3 ?_
        refine yG_n (n := 3) (C' := (17, [(2, .inl (.inl (yrm x0 x1))), (0, .inl (.inl x0)), (1, .inl (.inl x1))], [.inl (.inl (yad (yrm x0 x1) x1))], σ)) rfl ?_
        have h := Option.some.inj h
        subst h
        dsimp only
        exact yG_r rfl rfl
set_option maxRecDepth 100000 in
set_option maxHeartbeats 4000000 in
theorem m_J9_floorMod_7cf53 {N : Nat} {X : zXT} (hX : zXok X) (hN : zXn X) (l : Launch) {sh : List yH} : yMet X vwCl yct sh l yJ9_floorMod_7cf53 wsJ9_floorMod_7cf53 { frames := 1, cells := 0, slots := 0, locals := 64 } (F_J9_floorMod_7cf53 N) :=
  ymethF (tb := tb_J9_floorMod_7cf53 N) (pr := pr_J9_floorMod_7cf53) (rt := 1) (own := RJ9) hX ypl_fm rfl rfl ⟨Nat.le_of_ble_eq_true rfl, Nat.le_of_ble_eq_true rfl⟩
    (zfl_all (fun _ h => absurd h List.not_mem_nil))
    (zco_all (fun _ h => absurd h List.not_mem_nil)) (zlc_all (fun _ h => absurd h List.not_mem_nil))
    (fun _ h => absurd h List.not_mem_nil)
    (fun _ h => absurd h List.not_mem_nil)
    (zmm_all (fun _ h => absurd h List.not_mem_nil)) (fun _ h => absurd h List.not_mem_nil) (zpr_all hp_J9_floorMod_7cf53) (fun as σ res h => by
      unfold F_J9_floorMod_7cf53 at h
      split at h
      · rename_i x0 x1
        cases hr : f_J9_floorMod_7cf53 N σ x0 x1 with
        | none => rw [hr] at h; cases h
        | some r =>
          rw [hr] at h
          cases h
          exact ⟨Nat.le_of_ble_eq_true rfl, t_J9_floorMod_7cf53 σ x0 x1 r hr⟩
      · cases h)
noncomputable def pr_X4_vowByHabit : List (Nat × Instr × Nat) := [(0, .aload_n 0, 1), (1, .iload_n 1, 1), (2, .invokevirtual 173, 3), (5, .ifCond .eq 34, 3), (8, .aload_n 0, 1), (9, .getfield 31, 3), (12, .iload_n 1, 1), (13, .iaload, 1), (14, .ifCond .eq 25, 3), (17, .aload_n 0, 1), (18, .getfield 40, 3), (21, .iload_n 1, 1), (22, .aload_n 0, 1), (23, .getfield 25, 3), (26, .iload_n 1, 1), (27, .iaload, 1), (28, .iconst 0, 1), (29, .aload_n 0, 1), (30, .getfield 28, 3), (33, .iload_n 1, 1), (34, .iaload, 1), (35, .invokevirtual 135, 3), (38, .pop, 1), (39, .return_, 1)]
set_option maxRecDepth 100000 in
theorem hp_X4_vowByHabit : pr_X4_vowByHabit.all (fun x => decide (decode cX4_vowByHabit x.1 = .ok x.2)) = true := by decide +kernel
noncomputable def f_X4_vowByHabit_b39 (N : Nat) (σ : yS) : Option (Int × yS) :=
  some (0, σ)
noncomputable def f_X4_vowByHabit (N : Nat) (σ : yS) (x0 : Nat) (x1 : Int) : Option (Int × yS) :=
  match f_X4_isHouse N σ x0 x1 with
  | none => none
  | some r1 => bif ycP .eq r1.1 0 then
      f_X4_vowByHabit_b39 N r1.2
    else
      bif yin x1 7 then
        bif ycP .eq (r1.2.1 (x0 + 6) x1.toNat) 0 then
          f_X4_vowByHabit_b39 N r1.2
        else
          match f_X5_append N r1.2 (r1.2.2 x0 11) x1 (r1.2.1 (x0 + 4) x1.toNat) 0 (r1.2.1 (x0 + 5) x1.toNat) with
          | none => none
          | some r2 => f_X4_vowByHabit_b39 N r2.2
      else none
noncomputable def F_X4_vowByHabit (N : Nat) : yF := fun as σ => match as with
  | [.inr (.inl 4, x0), .inl (.inl x1)] => (f_X4_vowByHabit N σ x0 x1).map (fun r => (none, r.2))
  | _ => none
theorem e_X4_vowByHabit {N : Nat} {σ : yS} {x0 : Nat} {x1 : Int} {r : Int × yS} (h : f_X4_vowByHabit N σ x0 x1 = some r) : F_X4_vowByHabit N [.inr (.inl 4, x0), .inl (.inl x1)] σ = some (none, r.2) := by
  show (f_X4_vowByHabit N σ x0 x1).map (fun r => ((none, r.2) : yR)) = _
  rw [h]
  rfl
noncomputable def tb_X4_vowByHabit (N : Nat) : yTb := ([(25, 4, 7, 3), (28, 4, 8, 3), (31, 4, 9, 3), (40, 4, 11, 2)], [], [], [(135, 5, 5, F_X5_append N), (173, 2, 4, F_X4_isHouse N)], [], [], [])
abbrev G_X4_vowByHabit (N : Nat) (X : zXT) (sh : List yH) (l : Launch) (rm : Room) : yC → yR → Prop := yGoes X vwCl yct sh l rm cX4_vowByHabit 2 wsX4_vowByHabit RX4 (tb_X4_vowByHabit N) pr_X4_vowByHabit 0
set_option maxRecDepth 100000 in
set_option maxHeartbeats 4000000 in
theorem t_X4_vowByHabit_b39 {N : Nat} {X : zXT} {sh : List yH} {l : Launch} {rm : Room} (σ : yS) (res : Int × yS) (h : f_X4_vowByHabit_b39 N σ = some res) : G_X4_vowByHabit N X sh l rm (39, [], [], σ) (none, res.2) := by
  unfold f_X4_vowByHabit_b39 at h
  have h := Option.some.inj h
  subst h
  dsimp only
  exact yG_r rfl rfl
set_option maxRecDepth 100000 in
set_option maxHeartbeats 4000000 in
theorem t_X4_vowByHabit {N : Nat} {X : zXT} {sh : List yH} {l : Launch} {rm : Room} (σ : yS) (x0 : Nat) (x1 : Int) (res : Int × yS) (h : f_X4_vowByHabit N σ x0 x1 = some res) : G_X4_vowByHabit N X sh l rm (0, [(0, .inr (.inl 4, x0)), (1, .inl (.inl x1))], [], σ) (none, res.2) := by
  unfold f_X4_vowByHabit at h
  refine yG_n (n := 2) (C' := (2, [(0, .inr (.inl 4, x0)), (1, .inl (.inl x1))], [.inl (.inl x1), .inr (.inl 4, x0)], σ)) rfl ?_
  cases hr1 : f_X4_isHouse N σ x0 x1 with
  | none => rw [hr1] at h; dsimp only at h; cases h
  | some r1 =>
    rw [hr1] at h
    dsimp only at h
    refine yG_c (C1 := (5, [(0, .inr (.inl 4, x0)), (1, .inl (.inl x1))], [.inl (.inl r1.1)], r1.2)) rfl (e_X4_isHouse hr1) rfl ?_
    cases hg2 : ycP .eq r1.1 0 with
    | true =>
      rw [hg2] at h
      dsimp only [cond] at h
      refine yG_t (C' := (39, [(0, .inr (.inl 4, x0)), (1, .inl (.inl x1))], [], r1.2)) rfl hg2 ?_
      exact yG_w [] rfl (t_X4_vowByHabit_b39 r1.2 res h)
    | false =>
      rw [hg2] at h
      dsimp only [cond] at h
      refine yG_f (C' := (8, [(0, .inr (.inl 4, x0)), (1, .inl (.inl x1))], [], r1.2)) rfl hg2 ?_
      refine yG_n (n := 3) (C' := (13, [(0, .inr (.inl 4, x0)), (1, .inl (.inl x1))], [.inl (.inl x1), .inr (.inr (0, 7), x0 + 6)], r1.2)) rfl ?_
      cases hg3 : yin x1 7 with
      | false => rw [hg3] at h; dsimp only [cond] at h; cases h
      | true =>
        rw [hg3] at h
        dsimp only [cond] at h
        refine yG_t (C' := (14, [(0, .inr (.inl 4, x0)), (1, .inl (.inl x1))], [.inl (.inl (r1.2.1 (x0 + 6) x1.toNat))], r1.2)) rfl hg3 ?_
        cases hg4 : ycP .eq (r1.2.1 (x0 + 6) x1.toNat) 0 with
        | true =>
          rw [hg4] at h
          dsimp only [cond] at h
          refine yG_t (C' := (39, [(0, .inr (.inl 4, x0)), (1, .inl (.inl x1))], [], r1.2)) rfl hg4 ?_
          exact yG_w [] rfl (t_X4_vowByHabit_b39 r1.2 res h)
        | false =>
          rw [hg4] at h
          dsimp only [cond] at h
          refine yG_f (C' := (17, [(0, .inr (.inl 4, x0)), (1, .inl (.inl x1))], [], r1.2)) rfl hg4 ?_
          refine yG_n (n := 6) (C' := (27, [(0, .inr (.inl 4, x0)), (1, .inl (.inl x1))], [.inl (.inl x1), .inr (.inr (0, 7), x0 + 4), .inl (.inl x1), .inr (.inl 5, r1.2.2 x0 11)], r1.2)) rfl ?_
          refine yG_t (C' := (28, [(0, .inr (.inl 4, x0)), (1, .inl (.inl x1))], [.inl (.inl (r1.2.1 (x0 + 4) x1.toNat)), .inl (.inl x1), .inr (.inl 5, r1.2.2 x0 11)], r1.2)) rfl hg3 ?_
          refine yG_n (n := 4) (C' := (34, [(0, .inr (.inl 4, x0)), (1, .inl (.inl x1))], [.inl (.inl x1), .inr (.inr (0, 7), x0 + 5), .inl (.inl 0), .inl (.inl (r1.2.1 (x0 + 4) x1.toNat)), .inl (.inl x1), .inr (.inl 5, r1.2.2 x0 11)], r1.2)) rfl ?_
          refine yG_t (C' := (35, [(0, .inr (.inl 4, x0)), (1, .inl (.inl x1))], [.inl (.inl (r1.2.1 (x0 + 5) x1.toNat)), .inl (.inl 0), .inl (.inl (r1.2.1 (x0 + 4) x1.toNat)), .inl (.inl x1), .inr (.inl 5, r1.2.2 x0 11)], r1.2)) rfl hg3 ?_
          cases hr5 : f_X5_append N r1.2 (r1.2.2 x0 11) x1 (r1.2.1 (x0 + 4) x1.toNat) 0 (r1.2.1 (x0 + 5) x1.toNat) with
          | none => rw [hr5] at h; dsimp only at h; cases h
          | some r2 =>
            rw [hr5] at h
            dsimp only at h
            refine yG_c (C1 := (38, [(0, .inr (.inl 4, x0)), (1, .inl (.inl x1))], [.inl (.inl r2.1)], r2.2)) rfl (e_X5_append hr5) rfl ?_
            refine yG_n (n := 1) (C' := (39, [(0, .inr (.inl 4, x0)), (1, .inl (.inl x1))], [], r2.2)) rfl ?_
            exact yG_w [] rfl (t_X4_vowByHabit_b39 r2.2 res h)
set_option maxRecDepth 100000 in
set_option maxHeartbeats 4000000 in
theorem m_X4_vowByHabit {N : Nat} {X : zXT} (hX : zXok X) (hN : zXn X) (l : Launch) {sh : List yH} : yMet X vwCl yct sh l yX4_vowByHabit wsX4_vowByHabit { frames := 3, cells := 0, slots := 0, locals := 107 } (F_X4_vowByHabit N) :=
  ymeth (tb := tb_X4_vowByHabit N) (pr := pr_X4_vowByHabit) (rt := 0) (own := RX4) hX (by decide +kernel) rfl rfl ⟨Nat.le_of_ble_eq_true rfl, Nat.le_of_ble_eq_true rfl⟩
    (zfl_all (List.forall_mem_cons.mpr ⟨zfl_X4 (fun w h => List.mem_cons_of_mem _ (List.mem_append_left _ (List.mem_append_right _ h))) (List.mem_of_getElem? (i := 3) rfl) (by decide) (by decide), List.forall_mem_cons.mpr ⟨zfl_X4 (fun w h => List.mem_cons_of_mem _ (List.mem_append_left _ (List.mem_append_right _ h))) (List.mem_of_getElem? (i := 4) rfl) (by decide) (by decide), List.forall_mem_cons.mpr ⟨zfl_X4 (fun w h => List.mem_cons_of_mem _ (List.mem_append_left _ (List.mem_append_right _ h))) (List.mem_of_getElem? (i := 1) rfl) (by decide) (by decide), List.forall_mem_cons.mpr ⟨zfl_X4 (fun w h => List.mem_cons_of_mem _ (List.mem_append_left _ (List.mem_append_right _ h))) (List.mem_of_getElem? (i := 2) rfl) (by decide) (by decide), fun _ h => absurd h List.not_mem_nil⟩⟩⟩⟩))
    (zco_all (fun _ h => absurd h List.not_mem_nil)) (zlc_all (fun _ h => absurd h List.not_mem_nil))
    (List.forall_mem_cons.mpr ⟨ycal_V hX (m_X5_append hX hN l) rfl (fun s args hts => cwV 4 hts gX4_vowByHabit_X5_append rfl rfl rfl (by decide +kernel) ⟨Nat.le_of_ble_eq_true rfl, Nat.le_of_ble_eq_true rfl⟩), List.forall_mem_cons.mpr ⟨ycal_V hX (m_X4_isHouse hX hN l) rfl (fun s args hts => cwV 1 hts gX4_vowByHabit_X4_isHouse rfl rfl rfl (by decide +kernel) ⟨Nat.le_of_ble_eq_true rfl, Nat.le_of_ble_eq_true rfl⟩), fun _ h => absurd h List.not_mem_nil⟩⟩)
    (fun _ h => absurd h List.not_mem_nil)
    (zmm_all (fun _ h => absurd h List.not_mem_nil)) (fun _ h => absurd h List.not_mem_nil) (zpr_all hp_X4_vowByHabit) (fun as σ res h => by
      unfold F_X4_vowByHabit at h
      split at h
      · rename_i x0 x1
        cases hr : f_X4_vowByHabit N σ x0 x1 with
        | none => rw [hr] at h; cases h
        | some r =>
          rw [hr] at h
          cases h
          exact ⟨Nat.le_of_ble_eq_true rfl, t_X4_vowByHabit σ x0 x1 r hr⟩
      · cases h)
noncomputable def pr_X7_drop : List (Nat × Instr × Nat) := [(0, .iload_n 1, 1), (1, .iconst 0, 1), (2, .iconst 1, 1), (3, .invokestatic 49, 3), (6, .ifCond .ne 5, 3), (9, .iconst (-1), 1), (10, .ireturn, 1), (11, .iload_n 1, 1), (12, .ifCond .ne 16, 3), (15, .aload_n 0, 1), (16, .getfield 10, 3), (19, .getfield 92, 3), (22, .getfield 96, 3), (25, .goto 13, 3), (28, .aload_n 0, 1), (29, .getfield 10, 3), (32, .getfield 99, 3), (35, .getfield 103, 3), (38, .istore_n 3, 1), (39, .iload_n 2, 1), (40, .iconst 0, 1), (41, .iload_n 3, 1), (42, .invokestatic 49, 3), (45, .ifCond .ne 5, 3), (48, .iconst (-1), 1), (49, .ireturn, 1), (50, .iload_n 1, 1), (51, .ifCond .ne 17, 3), (54, .aload_n 0, 1), (55, .getfield 10, 3), (58, .getfield 92, 3), (61, .iload_n 2, 1), (62, .putfield 96, 3), (65, .goto 14, 3), (68, .aload_n 0, 1), (69, .getfield 10, 3), (72, .getfield 99, 3), (75, .iload_n 2, 1), (76, .putfield 103, 3), (79, .iload_n 3, 1), (80, .ireturn, 1)]
set_option maxRecDepth 100000 in
theorem hp_X7_drop : pr_X7_drop.all (fun x => decide (decode cX7_drop x.1 = .ok x.2)) = true := by decide +kernel
noncomputable def f_X7_drop_b79 (N : Nat) (σ : yS) (x3 : Int) : Option (Int × yS) :=
  some (x3, σ)
noncomputable def f_X7_drop_b38 (N : Nat) (σ : yS) (x1 : Int) (x2 : Int) (s0 : Int) : Option (Int × yS) :=
  match f_X7_within N σ x2 0 s0 with
  | none => none
  | some r2 => bif ycP .ne r2.1 0 then
      bif ycP .ne x1 0 then
        f_X7_drop_b79 N (yw r2.2 35 0 x2) s0
      else
        f_X7_drop_b79 N (yw r2.2 (r2.2.2 17 11) 0 x2) s0
    else
      some ((-1), r2.2)
noncomputable def f_X7_drop (N : Nat) (σ : yS) (x1 : Int) (x2 : Int) : Option (Int × yS) :=
  match f_X7_within N σ x1 0 1 with
  | none => none
  | some r1 => bif ycP .ne r1.1 0 then
      bif ycP .ne x1 0 then
        f_X7_drop_b38 N r1.2 x1 x2 (r1.2.1 35 0)
      else
        f_X7_drop_b38 N r1.2 x1 x2 (r1.2.1 (r1.2.2 17 11) 0)
    else
      some ((-1), r1.2)
noncomputable def F_X7_drop (N : Nat) : yF := fun as σ => match as with
  | [.inr (.inl 7, 0), .inl (.inl x1), .inl (.inl x2)] => (f_X7_drop N σ x1 x2).map (fun r => (some (.inl (.inl r.1)), r.2))
  | _ => none
theorem e_X7_drop {N : Nat} {σ : yS} {x1 : Int} {x2 : Int} {r : Int × yS} (h : f_X7_drop N σ x1 x2 = some r) : F_X7_drop N [.inr (.inl 7, 0), .inl (.inl x1), .inl (.inl x2)] σ = some (some (.inl (.inl r.1)), r.2) := by
  show (f_X7_drop N σ x1 x2).map (fun r => ((some (.inl (.inl r.1)), r.2) : yR)) = _
  rw [h]
  rfl
noncomputable def tb_X7_drop (N : Nat) : yTb := ([(10, 7, 0, 3), (92, 4, 11, 2), (96, 5, 0, 0), (99, 4, 13, 3), (103, 6, 0, 0)], [], [], [], [(49, 3, F_X7_within N)], [], [])
abbrev G_X7_drop (N : Nat) (X : zXT) (sh : List yH) (l : Launch) (rm : Room) : yC → yR → Prop := yGoes X vwCl yct sh l rm cX7_drop 4 wsX7_drop RX7 (tb_X7_drop N) pr_X7_drop 1
set_option maxRecDepth 100000 in
set_option maxHeartbeats 4000000 in
theorem t_X7_drop_b79 {N : Nat} {X : zXT} {sh : List yH} {l : Launch} {rm : Room} (σ : yS) (x3 : Int) (res : Int × yS) (h : f_X7_drop_b79 N σ x3 = some res) : G_X7_drop N X sh l rm (79, [(3, .inl (.inl x3))], [], σ) (some (.inl (.inl res.1)), res.2) := by
  unfold f_X7_drop_b79 at h
  refine yG_n (n := 1) (C' := (80, [(3, .inl (.inl x3))], [.inl (.inl x3)], σ)) rfl ?_
  have h := Option.some.inj h
  subst h
  dsimp only
  exact yG_r rfl rfl
set_option maxRecDepth 100000 in
set_option maxHeartbeats 4000000 in
theorem t_X7_drop_b38 {N : Nat} {X : zXT} {sh : List yH} {l : Launch} {rm : Room} (σ : yS) (x1 : Int) (x2 : Int) (s0 : Int) (res : Int × yS) (h : f_X7_drop_b38 N σ x1 x2 s0 = some res) : G_X7_drop N X sh l rm (38, [(0, .inr (.inl 7, 0)), (1, .inl (.inl x1)), (2, .inl (.inl x2))], [.inl (.inl s0)], σ) (some (.inl (.inl res.1)), res.2) := by
  unfold f_X7_drop_b38 at h
  refine yG_n (n := 4) (C' := (42, [(3, .inl (.inl s0)), (0, .inr (.inl 7, 0)), (1, .inl (.inl x1)), (2, .inl (.inl x2))], [.inl (.inl s0), .inl (.inl 0), .inl (.inl x2)], σ)) rfl ?_
  cases hr1 : f_X7_within N σ x2 0 s0 with
  | none => rw [hr1] at h; dsimp only at h; cases h
  | some r2 =>
    rw [hr1] at h
    dsimp only at h
    refine yG_c (C1 := (45, [(3, .inl (.inl s0)), (0, .inr (.inl 7, 0)), (1, .inl (.inl x1)), (2, .inl (.inl x2))], [.inl (.inl r2.1)], r2.2)) rfl (e_X7_within hr1) rfl ?_
    cases hg2 : ycP .ne r2.1 0 with
    | true =>
      rw [hg2] at h
      dsimp only [cond] at h
      refine yG_t (C' := (50, [(3, .inl (.inl s0)), (0, .inr (.inl 7, 0)), (1, .inl (.inl x1)), (2, .inl (.inl x2))], [], r2.2)) rfl hg2 ?_
      refine yG_n (n := 1) (C' := (51, [(3, .inl (.inl s0)), (0, .inr (.inl 7, 0)), (1, .inl (.inl x1)), (2, .inl (.inl x2))], [.inl (.inl x1)], r2.2)) rfl ?_
      cases hg3 : ycP .ne x1 0 with
      | true =>
        rw [hg3] at h
        dsimp only [cond] at h
        refine yG_t (C' := (68, [(3, .inl (.inl s0)), (0, .inr (.inl 7, 0)), (1, .inl (.inl x1)), (2, .inl (.inl x2))], [], r2.2)) rfl hg3 ?_
        refine yG_n (n := 5) (C' := (79, [(3, .inl (.inl s0)), (0, .inr (.inl 7, 0)), (1, .inl (.inl x1)), (2, .inl (.inl x2))], [], yw r2.2 35 0 x2)) rfl ?_
        exact yG_w [0] rfl (t_X7_drop_b79 (yw r2.2 35 0 x2) s0 res h)
      | false =>
        rw [hg3] at h
        dsimp only [cond] at h
        refine yG_f (C' := (54, [(3, .inl (.inl s0)), (0, .inr (.inl 7, 0)), (1, .inl (.inl x1)), (2, .inl (.inl x2))], [], r2.2)) rfl hg3 ?_
        refine yG_n (n := 6) (C' := (79, [(3, .inl (.inl s0)), (0, .inr (.inl 7, 0)), (1, .inl (.inl x1)), (2, .inl (.inl x2))], [], yw r2.2 (r2.2.2 17 11) 0 x2)) rfl ?_
        exact yG_w [0] rfl (t_X7_drop_b79 (yw r2.2 (r2.2.2 17 11) 0 x2) s0 res h)
    | false =>
      rw [hg2] at h
      dsimp only [cond] at h
      refine yG_f (C' := (48, [(3, .inl (.inl s0)), (0, .inr (.inl 7, 0)), (1, .inl (.inl x1)), (2, .inl (.inl x2))], [], r2.2)) rfl hg2 ?_
      refine yG_n (n := 1) (C' := (49, [(3, .inl (.inl s0)), (0, .inr (.inl 7, 0)), (1, .inl (.inl x1)), (2, .inl (.inl x2))], [.inl (.inl ((-1)))], r2.2)) rfl ?_
      have h := Option.some.inj h
      subst h
      dsimp only
      exact yG_r rfl rfl
set_option maxRecDepth 100000 in
set_option maxHeartbeats 4000000 in
theorem t_X7_drop {N : Nat} {X : zXT} {sh : List yH} {l : Launch} {rm : Room} (σ : yS) (x1 : Int) (x2 : Int) (res : Int × yS) (h : f_X7_drop N σ x1 x2 = some res) : G_X7_drop N X sh l rm (0, [(0, .inr (.inl 7, 0)), (1, .inl (.inl x1)), (2, .inl (.inl x2))], [], σ) (some (.inl (.inl res.1)), res.2) := by
  unfold f_X7_drop at h
  refine yG_n (n := 3) (C' := (3, [(0, .inr (.inl 7, 0)), (1, .inl (.inl x1)), (2, .inl (.inl x2))], [.inl (.inl 1), .inl (.inl 0), .inl (.inl x1)], σ)) rfl ?_
  cases hr4 : f_X7_within N σ x1 0 1 with
  | none => rw [hr4] at h; dsimp only at h; cases h
  | some r1 =>
    rw [hr4] at h
    dsimp only at h
    refine yG_c (C1 := (6, [(0, .inr (.inl 7, 0)), (1, .inl (.inl x1)), (2, .inl (.inl x2))], [.inl (.inl r1.1)], r1.2)) rfl (e_X7_within hr4) rfl ?_
    cases hg5 : ycP .ne r1.1 0 with
    | true =>
      rw [hg5] at h
      dsimp only [cond] at h
      refine yG_t (C' := (11, [(0, .inr (.inl 7, 0)), (1, .inl (.inl x1)), (2, .inl (.inl x2))], [], r1.2)) rfl hg5 ?_
      refine yG_n (n := 1) (C' := (12, [(0, .inr (.inl 7, 0)), (1, .inl (.inl x1)), (2, .inl (.inl x2))], [.inl (.inl x1)], r1.2)) rfl ?_
      cases hg6 : ycP .ne x1 0 with
      | true =>
        rw [hg6] at h
        dsimp only [cond] at h
        refine yG_t (C' := (28, [(0, .inr (.inl 7, 0)), (1, .inl (.inl x1)), (2, .inl (.inl x2))], [], r1.2)) rfl hg6 ?_
        refine yG_n (n := 4) (C' := (38, [(0, .inr (.inl 7, 0)), (1, .inl (.inl x1)), (2, .inl (.inl x2))], [.inl (.inl (r1.2.1 35 0))], r1.2)) rfl ?_
        exact t_X7_drop_b38 r1.2 x1 x2 (r1.2.1 35 0) res h
      | false =>
        rw [hg6] at h
        dsimp only [cond] at h
        refine yG_f (C' := (15, [(0, .inr (.inl 7, 0)), (1, .inl (.inl x1)), (2, .inl (.inl x2))], [], r1.2)) rfl hg6 ?_
        refine yG_n (n := 5) (C' := (38, [(0, .inr (.inl 7, 0)), (1, .inl (.inl x1)), (2, .inl (.inl x2))], [.inl (.inl (r1.2.1 (r1.2.2 17 11) 0))], r1.2)) rfl ?_
        exact t_X7_drop_b38 r1.2 x1 x2 (r1.2.1 (r1.2.2 17 11) 0) res h
    | false =>
      rw [hg5] at h
      dsimp only [cond] at h
      refine yG_f (C' := (9, [(0, .inr (.inl 7, 0)), (1, .inl (.inl x1)), (2, .inl (.inl x2))], [], r1.2)) rfl hg5 ?_
      refine yG_n (n := 1) (C' := (10, [(0, .inr (.inl 7, 0)), (1, .inl (.inl x1)), (2, .inl (.inl x2))], [.inl (.inl ((-1)))], r1.2)) rfl ?_
      have h := Option.some.inj h
      subst h
      dsimp only
      exact yG_r rfl rfl
set_option maxRecDepth 100000 in
set_option maxHeartbeats 4000000 in
theorem m_X7_drop {N : Nat} {X : zXT} (hX : zXok X) (hN : zXn X) (l : Launch) {sh : List yH} : yMet X vwCl yct sh l yX7_drop wsX7_drop { frames := 2, cells := 0, slots := 0, locals := 86 } (F_X7_drop N) :=
  ymeth (tb := tb_X7_drop N) (pr := pr_X7_drop) (rt := 1) (own := RX7) hX (by decide +kernel) rfl rfl ⟨Nat.le_of_ble_eq_true rfl, Nat.le_of_ble_eq_true rfl⟩
    (zfl_all (List.forall_mem_cons.mpr ⟨zfl_X7 (fun w h => List.mem_cons_of_mem _ (List.mem_append_left _ (List.mem_append_left _ (List.mem_append_left _ (List.mem_append_right _ h))))) (List.mem_of_getElem? (i := 1) rfl) (by decide) (by decide), List.forall_mem_cons.mpr ⟨zfl_X4 (fun w h => List.mem_cons_of_mem _ (List.mem_append_left _ (List.mem_append_left _ (List.mem_append_right _ h)))) (List.mem_of_getElem? (i := 2) rfl) (by decide) (by decide), List.forall_mem_cons.mpr ⟨zfl_X5 (fun w h => List.mem_cons_of_mem _ (List.mem_append_left _ (List.mem_append_right _ h))) (List.mem_of_getElem? (i := 3) rfl) (by decide) (by decide), List.forall_mem_cons.mpr ⟨zfl_X4 (fun w h => List.mem_cons_of_mem _ (List.mem_append_left _ (List.mem_append_left _ (List.mem_append_right _ h)))) (List.mem_of_getElem? (i := 4) rfl) (by decide) (by decide), List.forall_mem_cons.mpr ⟨zfl_X6 (fun w h => List.mem_cons_of_mem _ (List.mem_append_right _ h)) (List.mem_of_getElem? (i := 5) rfl) (by decide) (by decide), fun _ h => absurd h List.not_mem_nil⟩⟩⟩⟩⟩))
    (zco_all (fun _ h => absurd h List.not_mem_nil)) (zlc_all (fun _ h => absurd h List.not_mem_nil))
    (fun _ h => absurd h List.not_mem_nil)
    (List.forall_mem_cons.mpr ⟨ycal_S hX (m_X7_within hX hN l) (fun s args hts => va_cwS 3 hts gX7_drop_X7_within rfl rfl rfl (by decide +kernel) ⟨Nat.le_of_ble_eq_true rfl, Nat.le_of_ble_eq_true rfl⟩), fun _ h => absurd h List.not_mem_nil⟩)
    (zmm_all (fun _ h => absurd h List.not_mem_nil)) (fun _ h => absurd h List.not_mem_nil) (zpr_all hp_X7_drop) (fun as σ res h => by
      unfold F_X7_drop at h
      split at h
      · rename_i x1 x2
        cases hr : f_X7_drop N σ x1 x2 with
        | none => rw [hr] at h; cases h
        | some r =>
          rw [hr] at h
          cases h
          exact ⟨Nat.le_of_ble_eq_true rfl, t_X7_drop σ x1 x2 r hr⟩
      · cases h)
end
section
noncomputable def pr_X7_end : List (Nat × Instr × Nat) := [(0, .iload_n 1, 1), (1, .iconst 0, 1), (2, .aload_n 0, 1), (3, .getfield 34, 3), (6, .getfield 59, 3), (9, .invokestatic 49, 3), (12, .ifCond .ne 5, 3), (15, .iconst (-1), 1), (16, .ireturn, 1), (17, .aload_n 0, 1), (18, .getfield 34, 3), (21, .getfield 59, 3), (24, .istore_n 2, 1), (25, .aload_n 0, 1), (26, .getfield 34, 3), (29, .iload_n 1, 1), (30, .putfield 59, 3), (33, .iload_n 2, 1), (34, .ireturn, 1)]
set_option maxRecDepth 100000 in
theorem hp_X7_end : pr_X7_end.all (fun x => decide (decode cX7_end x.1 = .ok x.2)) = true := by decide +kernel
noncomputable def f_X7_end (N : Nat) (σ : yS) (x1 : Int) : Option (Int × yS) :=
  match f_X7_within N σ x1 0 (σ.1 3 0) with
  | none => none
  | some r1 => bif ycP .ne r1.1 0 then
      some (r1.2.1 3 0, yw r1.2 3 0 x1)
    else
      some ((-1), r1.2)
noncomputable def F_X7_end (N : Nat) : yF := fun as σ => match as with
  | [.inr (.inl 7, 0), .inl (.inl x1)] => (f_X7_end N σ x1).map (fun r => (some (.inl (.inl r.1)), r.2))
  | _ => none
theorem e_X7_end {N : Nat} {σ : yS} {x1 : Int} {r : Int × yS} (h : f_X7_end N σ x1 = some r) : F_X7_end N [.inr (.inl 7, 0), .inl (.inl x1)] σ = some (some (.inl (.inl r.1)), r.2) := by
  show (f_X7_end N σ x1).map (fun r => ((some (.inl (.inl r.1)), r.2) : yR)) = _
  rw [h]
  rfl
noncomputable def tb_X7_end (N : Nat) : yTb := ([(34, 7, 4, 3), (59, 3, 0, 0)], [], [], [], [(49, 3, F_X7_within N)], [], [])
abbrev G_X7_end (N : Nat) (X : zXT) (sh : List yH) (l : Launch) (rm : Room) : yC → yR → Prop := yGoes X vwCl yct sh l rm cX7_end 3 wsX7_end RX7 (tb_X7_end N) pr_X7_end 1
set_option maxRecDepth 100000 in
set_option maxHeartbeats 4000000 in
theorem t_X7_end {N : Nat} {X : zXT} {sh : List yH} {l : Launch} {rm : Room} (σ : yS) (x1 : Int) (res : Int × yS) (h : f_X7_end N σ x1 = some res) : G_X7_end N X sh l rm (0, [(0, .inr (.inl 7, 0)), (1, .inl (.inl x1))], [], σ) (some (.inl (.inl res.1)), res.2) := by
  unfold f_X7_end at h
  refine yG_n (n := 5) (C' := (9, [(0, .inr (.inl 7, 0)), (1, .inl (.inl x1))], [.inl (.inl (σ.1 3 0)), .inl (.inl 0), .inl (.inl x1)], σ)) rfl ?_
  cases hr1 : f_X7_within N σ x1 0 (σ.1 3 0) with
  | none => rw [hr1] at h; dsimp only at h; cases h
  | some r1 =>
    rw [hr1] at h
    dsimp only at h
    refine yG_c (C1 := (12, [(0, .inr (.inl 7, 0)), (1, .inl (.inl x1))], [.inl (.inl r1.1)], r1.2)) rfl (e_X7_within hr1) rfl ?_
    cases hg2 : ycP .ne r1.1 0 with
    | true =>
      rw [hg2] at h
      dsimp only [cond] at h
      refine yG_t (C' := (17, [(0, .inr (.inl 7, 0)), (1, .inl (.inl x1))], [], r1.2)) rfl hg2 ?_
      refine yG_n (n := 9) (C' := (34, [(2, .inl (.inl (r1.2.1 3 0))), (0, .inr (.inl 7, 0)), (1, .inl (.inl x1))], [.inl (.inl (r1.2.1 3 0))], yw r1.2 3 0 x1)) rfl ?_
      have h := Option.some.inj h
      subst h
      dsimp only
      exact yG_r rfl rfl
    | false =>
      rw [hg2] at h
      dsimp only [cond] at h
      refine yG_f (C' := (15, [(0, .inr (.inl 7, 0)), (1, .inl (.inl x1))], [], r1.2)) rfl hg2 ?_
      refine yG_n (n := 1) (C' := (16, [(0, .inr (.inl 7, 0)), (1, .inl (.inl x1))], [.inl (.inl ((-1)))], r1.2)) rfl ?_
      have h := Option.some.inj h
      subst h
      dsimp only
      exact yG_r rfl rfl
set_option maxRecDepth 100000 in
set_option maxHeartbeats 4000000 in
theorem m_X7_end {N : Nat} {X : zXT} (hX : zXok X) (hN : zXn X) (l : Launch) {sh : List yH} : yMet X vwCl yct sh l yX7_end wsX7_end { frames := 2, cells := 0, slots := 0, locals := 86 } (F_X7_end N) :=
  ymeth (tb := tb_X7_end N) (pr := pr_X7_end) (rt := 1) (own := RX7) hX (by decide +kernel) rfl rfl ⟨Nat.le_of_ble_eq_true rfl, Nat.le_of_ble_eq_true rfl⟩
    (zfl_all (List.forall_mem_cons.mpr ⟨zfl_X7 (fun w h => List.mem_cons_of_mem _ (List.mem_append_left _ (List.mem_append_right _ h))) (List.mem_of_getElem? (i := 1) rfl) (by decide) (by decide), List.forall_mem_cons.mpr ⟨zfl_X3 (fun w h => List.mem_cons_of_mem _ (List.mem_append_right _ h)) (List.mem_of_getElem? (i := 2) rfl) (by decide) (by decide), fun _ h => absurd h List.not_mem_nil⟩⟩))
    (zco_all (fun _ h => absurd h List.not_mem_nil)) (zlc_all (fun _ h => absurd h List.not_mem_nil))
    (fun _ h => absurd h List.not_mem_nil)
    (List.forall_mem_cons.mpr ⟨ycal_S hX (m_X7_within hX hN l) (fun s args hts => va_cwS 3 hts gX7_end_X7_within rfl rfl rfl (by decide +kernel) ⟨Nat.le_of_ble_eq_true rfl, Nat.le_of_ble_eq_true rfl⟩), fun _ h => absurd h List.not_mem_nil⟩)
    (zmm_all (fun _ h => absurd h List.not_mem_nil)) (fun _ h => absurd h List.not_mem_nil) (zpr_all hp_X7_end) (fun as σ res h => by
      unfold F_X7_end at h
      split at h
      · rename_i x1
        cases hr : f_X7_end N σ x1 with
        | none => rw [hr] at h; cases h
        | some r =>
          rw [hr] at h
          cases h
          exact ⟨Nat.le_of_ble_eq_true rfl, t_X7_end σ x1 r hr⟩
      · cases h)
noncomputable def pr_X4_shiftSet : List (Nat × Instr × Nat) := [(0, .iconst 1, 1), (1, .aload_n 0, 1), (2, .getfield 9, 3), (5, .ishl, 1), (6, .iconst 1, 1), (7, .isub, 1), (8, .istore_n 3, 1), (9, .aload_n 0, 1), (10, .getfield 61, 3), (13, .ifCond .eq 40, 3), (16, .aload_n 0, 1), (17, .getfield 9, 3), (20, .ifCond .le 33, 3), (23, .iload_n 2, 1), (24, .aload_n 0, 1), (25, .getfield 9, 3), (28, .iadd, 1), (29, .aload_n 0, 1), (30, .getfield 9, 3), (33, .irem, 1), (34, .istore 4, 2), (36, .iload_n 1, 1), (37, .iload 4, 2), (39, .ishl, 1), (40, .iload_n 1, 1), (41, .aload_n 0, 1), (42, .getfield 9, 3), (45, .iload 4, 2), (47, .isub, 1), (48, .ishr, 1), (49, .ior, 1), (50, .iload_n 3, 1), (51, .iand, 1), (52, .ireturn, 1), (53, .iload_n 2, 1), (54, .ifCond .ge 10, 3), (57, .iload_n 1, 1), (58, .iload_n 2, 1), (59, .ineg, 1), (60, .ishr, 1), (61, .goto 6, 3), (64, .iload_n 1, 1), (65, .iload_n 2, 1), (66, .ishl, 1), (67, .iload_n 3, 1), (68, .iand, 1), (69, .ireturn, 1)]
set_option maxRecDepth 100000 in
theorem hp_X4_shiftSet : pr_X4_shiftSet.all (fun x => decide (decode cX4_shiftSet x.1 = .ok x.2)) = true := by decide +kernel
noncomputable def f_X4_shiftSet_b67 (N : Nat) (σ : yS) (x3 : Int) (s0 : Int) : Option (Int × yS) :=
  some (yan s0 x3, σ)
noncomputable def f_X4_shiftSet_b53 (N : Nat) (σ : yS) (x1 : Int) (x2 : Int) (x3 : Int) : Option (Int × yS) :=
  bif ycP .ge x2 0 then
    f_X4_shiftSet_b67 N σ x3 (ysl x1 x2)
  else
    f_X4_shiftSet_b67 N σ x3 (ysr x1 (yne x2))
noncomputable def f_X4_shiftSet (N : Nat) (σ : yS) (x0 : Nat) (x1 : Int) (x2 : Int) : Option (Int × yS) :=
  bif ycP .eq (σ.1 x0 1) 0 then
    f_X4_shiftSet_b53 N σ x1 x2 (ysu (ysl 1 (σ.1 x0 0)) 1)
  else
    bif ycP .le (σ.1 x0 0) 0 then
      f_X4_shiftSet_b53 N σ x1 x2 (ysu (ysl 1 (σ.1 x0 0)) 1)
    else
      bif ynz (σ.1 x0 0) then
        some (yan (yor (ysl x1 (yrm (yad x2 (σ.1 x0 0)) (σ.1 x0 0))) (ysr x1 (ysu (σ.1 x0 0) (yrm (yad x2 (σ.1 x0 0)) (σ.1 x0 0))))) (ysu (ysl 1 (σ.1 x0 0)) 1), σ)
      else none
noncomputable def F_X4_shiftSet (N : Nat) : yF := fun as σ => match as with
  | [.inr (.inl 4, x0), .inl (.inl x1), .inl (.inl x2)] => (f_X4_shiftSet N σ x0 x1 x2).map (fun r => (some (.inl (.inl r.1)), r.2))
  | _ => none
theorem e_X4_shiftSet {N : Nat} {σ : yS} {x0 : Nat} {x1 : Int} {x2 : Int} {r : Int × yS} (h : f_X4_shiftSet N σ x0 x1 x2 = some r) : F_X4_shiftSet N [.inr (.inl 4, x0), .inl (.inl x1), .inl (.inl x2)] σ = some (some (.inl (.inl r.1)), r.2) := by
  show (f_X4_shiftSet N σ x0 x1 x2).map (fun r => ((some (.inl (.inl r.1)), r.2) : yR)) = _
  rw [h]
  rfl
noncomputable def tb_X4_shiftSet (N : Nat) : yTb := ([(9, 4, 0, 0), (61, 4, 1, 1)], [], [], [], [], [], [])
abbrev G_X4_shiftSet (N : Nat) (X : zXT) (sh : List yH) (l : Launch) (rm : Room) : yC → yR → Prop := yGoes X vwCl yct sh l rm cX4_shiftSet 5 wsX4_shiftSet RX4 (tb_X4_shiftSet N) pr_X4_shiftSet 1
set_option maxRecDepth 100000 in
set_option maxHeartbeats 4000000 in
theorem t_X4_shiftSet_b67 {N : Nat} {X : zXT} {sh : List yH} {l : Launch} {rm : Room} (σ : yS) (x3 : Int) (s0 : Int) (res : Int × yS) (h : f_X4_shiftSet_b67 N σ x3 s0 = some res) : G_X4_shiftSet N X sh l rm (67, [(3, .inl (.inl x3))], [.inl (.inl s0)], σ) (some (.inl (.inl res.1)), res.2) := by
  unfold f_X4_shiftSet_b67 at h
  refine yG_n (n := 2) (C' := (69, [(3, .inl (.inl x3))], [.inl (.inl (yan s0 x3))], σ)) rfl ?_
  have h := Option.some.inj h
  subst h
  dsimp only
  exact yG_r rfl rfl
set_option maxRecDepth 100000 in
set_option maxHeartbeats 4000000 in
theorem t_X4_shiftSet_b53 {N : Nat} {X : zXT} {sh : List yH} {l : Launch} {rm : Room} (σ : yS) (x1 : Int) (x2 : Int) (x3 : Int) (res : Int × yS) (h : f_X4_shiftSet_b53 N σ x1 x2 x3 = some res) : G_X4_shiftSet N X sh l rm (53, [(1, .inl (.inl x1)), (2, .inl (.inl x2)), (3, .inl (.inl x3))], [], σ) (some (.inl (.inl res.1)), res.2) := by
  unfold f_X4_shiftSet_b53 at h
  refine yG_n (n := 1) (C' := (54, [(1, .inl (.inl x1)), (2, .inl (.inl x2)), (3, .inl (.inl x3))], [.inl (.inl x2)], σ)) rfl ?_
  cases hg1 : ycP .ge x2 0 with
  | true =>
    rw [hg1] at h
    dsimp only [cond] at h
    refine yG_t (C' := (64, [(1, .inl (.inl x1)), (2, .inl (.inl x2)), (3, .inl (.inl x3))], [], σ)) rfl hg1 ?_
    refine yG_n (n := 3) (C' := (67, [(1, .inl (.inl x1)), (2, .inl (.inl x2)), (3, .inl (.inl x3))], [.inl (.inl (ysl x1 x2))], σ)) rfl ?_
    exact yG_w [2] rfl (t_X4_shiftSet_b67 σ x3 (ysl x1 x2) res h)
  | false =>
    rw [hg1] at h
    dsimp only [cond] at h
    refine yG_f (C' := (57, [(1, .inl (.inl x1)), (2, .inl (.inl x2)), (3, .inl (.inl x3))], [], σ)) rfl hg1 ?_
    refine yG_n (n := 5) (C' := (67, [(1, .inl (.inl x1)), (2, .inl (.inl x2)), (3, .inl (.inl x3))], [.inl (.inl (ysr x1 (yne x2)))], σ)) rfl ?_
    exact yG_w [2] rfl (t_X4_shiftSet_b67 σ x3 (ysr x1 (yne x2)) res h)
set_option maxRecDepth 100000 in
set_option maxHeartbeats 4000000 in
theorem t_X4_shiftSet {N : Nat} {X : zXT} {sh : List yH} {l : Launch} {rm : Room} (σ : yS) (x0 : Nat) (x1 : Int) (x2 : Int) (res : Int × yS) (h : f_X4_shiftSet N σ x0 x1 x2 = some res) : G_X4_shiftSet N X sh l rm (0, [(0, .inr (.inl 4, x0)), (1, .inl (.inl x1)), (2, .inl (.inl x2))], [], σ) (some (.inl (.inl res.1)), res.2) := by
  unfold f_X4_shiftSet at h
  refine yG_n (n := 9) (C' := (13, [(3, .inl (.inl (ysu (ysl 1 (σ.1 x0 0)) 1))), (0, .inr (.inl 4, x0)), (1, .inl (.inl x1)), (2, .inl (.inl x2))], [.inl (.inl (σ.1 x0 1))], σ)) rfl ?_
  cases hg2 : ycP .eq (σ.1 x0 1) 0 with
  | true =>
    rw [hg2] at h
    dsimp only [cond] at h
    refine yG_t (C' := (53, [(3, .inl (.inl (ysu (ysl 1 (σ.1 x0 0)) 1))), (0, .inr (.inl 4, x0)), (1, .inl (.inl x1)), (2, .inl (.inl x2))], [], σ)) rfl hg2 ?_
    exact yG_w [2, 3, 0] rfl (t_X4_shiftSet_b53 σ x1 x2 (ysu (ysl 1 (σ.1 x0 0)) 1) res h)
  | false =>
    rw [hg2] at h
    dsimp only [cond] at h
    refine yG_f (C' := (16, [(3, .inl (.inl (ysu (ysl 1 (σ.1 x0 0)) 1))), (0, .inr (.inl 4, x0)), (1, .inl (.inl x1)), (2, .inl (.inl x2))], [], σ)) rfl hg2 ?_
    refine yG_n (n := 2) (C' := (20, [(3, .inl (.inl (ysu (ysl 1 (σ.1 x0 0)) 1))), (0, .inr (.inl 4, x0)), (1, .inl (.inl x1)), (2, .inl (.inl x2))], [.inl (.inl (σ.1 x0 0))], σ)) rfl ?_
    cases hg3 : ycP .le (σ.1 x0 0) 0 with
    | true =>
      rw [hg3] at h
      dsimp only [cond] at h
      refine yG_t (C' := (53, [(3, .inl (.inl (ysu (ysl 1 (σ.1 x0 0)) 1))), (0, .inr (.inl 4, x0)), (1, .inl (.inl x1)), (2, .inl (.inl x2))], [], σ)) rfl hg3 ?_
      exact yG_w [2, 3, 0] rfl (t_X4_shiftSet_b53 σ x1 x2 (ysu (ysl 1 (σ.1 x0 0)) 1) res h)
    | false =>
      rw [hg3] at h
      dsimp only [cond] at h
      refine yG_f (C' := (23, [(3, .inl (.inl (ysu (ysl 1 (σ.1 x0 0)) 1))), (0, .inr (.inl 4, x0)), (1, .inl (.inl x1)), (2, .inl (.inl x2))], [], σ)) rfl hg3 ?_
      refine yG_n (n := 6) (C' := (33, [(3, .inl (.inl (ysu (ysl 1 (σ.1 x0 0)) 1))), (0, .inr (.inl 4, x0)), (1, .inl (.inl x1)), (2, .inl (.inl x2))], [.inl (.inl (σ.1 x0 0)), .inl (.inl (yad x2 (σ.1 x0 0)))], σ)) rfl ?_
      cases hg4 : ynz (σ.1 x0 0) with
      | false => rw [hg4] at h; dsimp only [cond] at h; cases h
      | true =>
        rw [hg4] at h
        dsimp only [cond] at h
        refine yG_t (C' := (34, [(3, .inl (.inl (ysu (ysl 1 (σ.1 x0 0)) 1))), (0, .inr (.inl 4, x0)), (1, .inl (.inl x1)), (2, .inl (.inl x2))], [.inl (.inl (yrm (yad x2 (σ.1 x0 0)) (σ.1 x0 0)))], σ)) rfl hg4 ?_
        refine yG_n (n := 13) (C' := (52, [(4, .inl (.inl (yrm (yad x2 (σ.1 x0 0)) (σ.1 x0 0)))), (3, .inl (.inl (ysu (ysl 1 (σ.1 x0 0)) 1))), (0, .inr (.inl 4, x0)), (1, .inl (.inl x1)), (2, .inl (.inl x2))], [.inl (.inl (yan (yor (ysl x1 (yrm (yad x2 (σ.1 x0 0)) (σ.1 x0 0))) (ysr x1 (ysu (σ.1 x0 0) (yrm (yad x2 (σ.1 x0 0)) (σ.1 x0 0))))) (ysu (ysl 1 (σ.1 x0 0)) 1)))], σ)) rfl ?_
        have h := Option.some.inj h
        subst h
        dsimp only
        exact yG_r rfl rfl
set_option maxRecDepth 100000 in
set_option maxHeartbeats 4000000 in
theorem m_X4_shiftSet {N : Nat} {X : zXT} (hX : zXok X) (hN : zXn X) (l : Launch) {sh : List yH} : yMet X vwCl yct sh l yX4_shiftSet wsX4_shiftSet { frames := 1, cells := 0, slots := 0, locals := 64 } (F_X4_shiftSet N) :=
  ymeth (tb := tb_X4_shiftSet N) (pr := pr_X4_shiftSet) (rt := 1) (own := RX4) hX (by decide +kernel) rfl rfl ⟨Nat.le_of_ble_eq_true rfl, Nat.le_of_ble_eq_true rfl⟩
    (zfl_all (List.forall_mem_cons.mpr ⟨zfl_X4 (fun w h => List.mem_cons_of_mem _ (List.mem_append_right _ h)) (List.mem_of_getElem? (i := 1) rfl) (by decide) (by decide), List.forall_mem_cons.mpr ⟨zfl_X4 (fun w h => List.mem_cons_of_mem _ (List.mem_append_right _ h)) (List.mem_of_getElem? (i := 2) rfl) (by decide) (by decide), fun _ h => absurd h List.not_mem_nil⟩⟩))
    (zco_all (fun _ h => absurd h List.not_mem_nil)) (zlc_all (fun _ h => absurd h List.not_mem_nil))
    (fun _ h => absurd h List.not_mem_nil)
    (fun _ h => absurd h List.not_mem_nil)
    (zmm_all (fun _ h => absurd h List.not_mem_nil)) (fun _ h => absurd h List.not_mem_nil) (zpr_all hp_X4_shiftSet) (fun as σ res h => by
      unfold F_X4_shiftSet at h
      split at h
      · rename_i x0 x1 x2
        cases hr : f_X4_shiftSet N σ x0 x1 x2 with
        | none => rw [hr] at h; cases h
        | some r =>
          rw [hr] at h
          cases h
          exact ⟨Nat.le_of_ble_eq_true rfl, t_X4_shiftSet σ x0 x1 x2 r hr⟩
      · cases h)
noncomputable def pr_X4_fallSet : List (Nat × Instr × Nat) := [(0, .iconst 0, 1), (1, .istore 4, 2), (3, .iconst 0, 1), (4, .istore 5, 2), (6, .iload 5, 2), (8, .iload_n 2, 1), (9, .invokestatic 108, 3), (12, .if_icmp .ge 25, 3), (15, .iload 4, 2), (17, .aload_n 0, 1), (18, .iload_n 1, 1), (19, .iload_n 2, 1), (20, .iload 5, 2), (22, .invokestatic 115, 3), (25, .invokevirtual 153, 3), (28, .ior, 1), (29, .istore 4, 2), (31, .iinc 5 1, 3), (34, .goto (-28), 3), (37, .iload 4, 2), (39, .iload_n 3, 1), (40, .iconst (-1), 1), (41, .ixor, 1), (42, .iand, 1), (43, .ireturn, 1)]
set_option maxRecDepth 100000 in
theorem hp_X4_fallSet : pr_X4_fallSet.all (fun x => decide (decode cX4_fallSet x.1 = .ok x.2)) = true := by decide +kernel
noncomputable def f_X4_fallSet_b6 (N : Nat) : Nat → yS → Nat → Int → Int → Int → Int → Int → Option (Int × yS) := yfix (fun _ _ _ _ _ _ _ => none) (fun ih σ x0 x1 x2 x3 x4 x5 =>
    match f_X4_fallsOf N σ x2 with
    | none => none
    | some r1 => bif ycP .ge x5 r1.1 then
        some (yan x4 (yxo x3 ((-1))), r1.2)
      else
        match f_X4_stepOf N r1.2 x2 x5 with
        | none => none
        | some r2 => match f_X4_shiftSet N r2.2 x0 x1 r2.1 with
          | none => none
          | some r3 => ih r3.2 x0 x1 x2 x3 (yor x4 r3.1) (yad x5 1))
theorem q_X4_fallSet_b6 (N : Nat) (n : Nat) (σ : yS) (x0 : Nat) (x1 : Int) (x2 : Int) (x3 : Int) (x4 : Int) (x5 : Int) : f_X4_fallSet_b6 N (n + 1) σ x0 x1 x2 x3 x4 x5 =
    (match f_X4_fallsOf N σ x2 with
    | none => none
    | some r1 => bif ycP .ge x5 r1.1 then
        some (yan x4 (yxo x3 ((-1))), r1.2)
      else
        match f_X4_stepOf N r1.2 x2 x5 with
        | none => none
        | some r2 => match f_X4_shiftSet N r2.2 x0 x1 r2.1 with
          | none => none
          | some r3 => (f_X4_fallSet_b6 N n) r3.2 x0 x1 x2 x3 (yor x4 r3.1) (yad x5 1)) := rfl
noncomputable def f_X4_fallSet (N : Nat) (σ : yS) (x0 : Nat) (x1 : Int) (x2 : Int) (x3 : Int) : Option (Int × yS) :=
  f_X4_fallSet_b6 N N σ x0 x1 x2 x3 0 0
noncomputable def F_X4_fallSet (N : Nat) : yF := fun as σ => match as with
  | [.inr (.inl 4, x0), .inl (.inl x1), .inl (.inl x2), .inl (.inl x3)] => (f_X4_fallSet N σ x0 x1 x2 x3).map (fun r => (some (.inl (.inl r.1)), r.2))
  | _ => none
theorem e_X4_fallSet {N : Nat} {σ : yS} {x0 : Nat} {x1 : Int} {x2 : Int} {x3 : Int} {r : Int × yS} (h : f_X4_fallSet N σ x0 x1 x2 x3 = some r) : F_X4_fallSet N [.inr (.inl 4, x0), .inl (.inl x1), .inl (.inl x2), .inl (.inl x3)] σ = some (some (.inl (.inl r.1)), r.2) := by
  show (f_X4_fallSet N σ x0 x1 x2 x3).map (fun r => ((some (.inl (.inl r.1)), r.2) : yR)) = _
  rw [h]
  rfl
noncomputable def tb_X4_fallSet (N : Nat) : yTb := ([], [], [], [(153, 3, 4, F_X4_shiftSet N)], [(108, 1, F_X4_fallsOf N), (115, 2, F_X4_stepOf N)], [], [])
abbrev G_X4_fallSet (N : Nat) (X : zXT) (sh : List yH) (l : Launch) (rm : Room) : yC → yR → Prop := yGoes X vwCl yct sh l rm cX4_fallSet 6 wsX4_fallSet RX4 (tb_X4_fallSet N) pr_X4_fallSet 1
set_option maxRecDepth 100000 in
set_option maxHeartbeats 4000000 in
theorem t_X4_fallSet_b6 {N : Nat} {X : zXT} {sh : List yH} {l : Launch} {rm : Room} : ∀ (n : Nat) (σ : yS) (x0 : Nat) (x1 : Int) (x2 : Int) (x3 : Int) (x4 : Int) (x5 : Int) (res : Int × yS), f_X4_fallSet_b6 N n σ x0 x1 x2 x3 x4 x5 = some res → G_X4_fallSet N X sh l rm (6, [(0, .inr (.inl 4, x0)), (1, .inl (.inl x1)), (2, .inl (.inl x2)), (3, .inl (.inl x3)), (4, .inl (.inl x4)), (5, .inl (.inl x5))], [], σ) (some (.inl (.inl res.1)), res.2) := by
  intro n
  induction n with
  | zero => intro σ x0 x1 x2 x3 x4 x5 res h; exact (yno h).elim
  | succ n ih =>
    intro σ x0 x1 x2 x3 x4 x5 res h
    rw [q_X4_fallSet_b6] at h
    refine yG_n (n := 2) (C' := (9, [(0, .inr (.inl 4, x0)), (1, .inl (.inl x1)), (2, .inl (.inl x2)), (3, .inl (.inl x3)), (4, .inl (.inl x4)), (5, .inl (.inl x5))], [.inl (.inl x2), .inl (.inl x5)], σ)) rfl ?_
    cases hr1 : f_X4_fallsOf N σ x2 with
    | none => rw [hr1] at h; dsimp only at h; cases h
    | some r1 =>
      rw [hr1] at h
      dsimp only at h
      refine yG_c (C1 := (12, [(0, .inr (.inl 4, x0)), (1, .inl (.inl x1)), (2, .inl (.inl x2)), (3, .inl (.inl x3)), (4, .inl (.inl x4)), (5, .inl (.inl x5))], [.inl (.inl r1.1), .inl (.inl x5)], r1.2)) rfl (e_X4_fallsOf hr1) rfl ?_
      cases hg2 : ycP .ge x5 r1.1 with
      | true =>
        rw [hg2] at h
        dsimp only [cond] at h
        refine yG_t (C' := (37, [(0, .inr (.inl 4, x0)), (1, .inl (.inl x1)), (2, .inl (.inl x2)), (3, .inl (.inl x3)), (4, .inl (.inl x4)), (5, .inl (.inl x5))], [], r1.2)) rfl hg2 ?_
        refine yG_n (n := 5) (C' := (43, [(0, .inr (.inl 4, x0)), (1, .inl (.inl x1)), (2, .inl (.inl x2)), (3, .inl (.inl x3)), (4, .inl (.inl x4)), (5, .inl (.inl x5))], [.inl (.inl (yan x4 (yxo x3 ((-1)))))], r1.2)) rfl ?_
        have h := Option.some.inj h
        subst h
        dsimp only
        exact yG_r rfl rfl
      | false =>
        rw [hg2] at h
        dsimp only [cond] at h
        refine yG_f (C' := (15, [(0, .inr (.inl 4, x0)), (1, .inl (.inl x1)), (2, .inl (.inl x2)), (3, .inl (.inl x3)), (4, .inl (.inl x4)), (5, .inl (.inl x5))], [], r1.2)) rfl hg2 ?_
        refine yG_n (n := 5) (C' := (22, [(0, .inr (.inl 4, x0)), (1, .inl (.inl x1)), (2, .inl (.inl x2)), (3, .inl (.inl x3)), (4, .inl (.inl x4)), (5, .inl (.inl x5))], [.inl (.inl x5), .inl (.inl x2), .inl (.inl x1), .inr (.inl 4, x0), .inl (.inl x4)], r1.2)) rfl ?_
        cases hr3 : f_X4_stepOf N r1.2 x2 x5 with
        | none => rw [hr3] at h; dsimp only at h; cases h
        | some r2 =>
          rw [hr3] at h
          dsimp only at h
          refine yG_c (C1 := (25, [(0, .inr (.inl 4, x0)), (1, .inl (.inl x1)), (2, .inl (.inl x2)), (3, .inl (.inl x3)), (4, .inl (.inl x4)), (5, .inl (.inl x5))], [.inl (.inl r2.1), .inl (.inl x1), .inr (.inl 4, x0), .inl (.inl x4)], r2.2)) rfl (e_X4_stepOf hr3) rfl ?_
          cases hr4 : f_X4_shiftSet N r2.2 x0 x1 r2.1 with
          | none => rw [hr4] at h; dsimp only at h; cases h
          | some r3 =>
            rw [hr4] at h
            dsimp only at h
            refine yG_c (C1 := (28, [(0, .inr (.inl 4, x0)), (1, .inl (.inl x1)), (2, .inl (.inl x2)), (3, .inl (.inl x3)), (4, .inl (.inl x4)), (5, .inl (.inl x5))], [.inl (.inl r3.1), .inl (.inl x4)], r3.2)) rfl (e_X4_shiftSet hr4) rfl ?_
            refine yG_n (n := 4) (C' := (6, [(5, .inl (.inl (yad x5 1))), (4, .inl (.inl (yor x4 r3.1))), (0, .inr (.inl 4, x0)), (1, .inl (.inl x1)), (2, .inl (.inl x2)), (3, .inl (.inl x3))], [], r3.2)) rfl ?_
            exact yG_w [2, 3, 4, 5, 1, 0] rfl (ih r3.2 x0 x1 x2 x3 (yor x4 r3.1) (yad x5 1) res h)
set_option maxRecDepth 100000 in
set_option maxHeartbeats 4000000 in
theorem t_X4_fallSet {N : Nat} {X : zXT} {sh : List yH} {l : Launch} {rm : Room} (σ : yS) (x0 : Nat) (x1 : Int) (x2 : Int) (x3 : Int) (res : Int × yS) (h : f_X4_fallSet N σ x0 x1 x2 x3 = some res) : G_X4_fallSet N X sh l rm (0, [(0, .inr (.inl 4, x0)), (1, .inl (.inl x1)), (2, .inl (.inl x2)), (3, .inl (.inl x3))], [], σ) (some (.inl (.inl res.1)), res.2) := by
  unfold f_X4_fallSet at h
  refine yG_n (n := 4) (C' := (6, [(5, .inl (.inl 0)), (4, .inl (.inl 0)), (0, .inr (.inl 4, x0)), (1, .inl (.inl x1)), (2, .inl (.inl x2)), (3, .inl (.inl x3))], [], σ)) rfl ?_
  exact yG_w [2, 3, 4, 5, 1, 0] rfl (t_X4_fallSet_b6 N σ x0 x1 x2 x3 0 0 res h)
set_option maxRecDepth 100000 in
set_option maxHeartbeats 4000000 in
theorem m_X4_fallSet {N : Nat} {X : zXT} (hX : zXok X) (hN : zXn X) (l : Launch) {sh : List yH} : yMet X vwCl yct sh l yX4_fallSet wsX4_fallSet { frames := 2, cells := 0, slots := 0, locals := 88 } (F_X4_fallSet N) :=
  ymeth (tb := tb_X4_fallSet N) (pr := pr_X4_fallSet) (rt := 1) (own := RX4) hX (by decide +kernel) rfl rfl ⟨Nat.le_of_ble_eq_true rfl, Nat.le_of_ble_eq_true rfl⟩
    (zfl_all (fun _ h => absurd h List.not_mem_nil))
    (zco_all (fun _ h => absurd h List.not_mem_nil)) (zlc_all (fun _ h => absurd h List.not_mem_nil))
    (List.forall_mem_cons.mpr ⟨ycal_V hX (m_X4_shiftSet hX hN l) rfl (fun s args hts => cwV 2 hts gX4_fallSet_X4_shiftSet rfl rfl rfl (by decide +kernel) ⟨Nat.le_of_ble_eq_true rfl, Nat.le_of_ble_eq_true rfl⟩), fun _ h => absurd h List.not_mem_nil⟩)
    (List.forall_mem_cons.mpr ⟨ycal_S hX (m_X4_fallsOf hX hN l) (fun s args hts => va_cwS 1 hts gX4_fallSet_X4_fallsOf rfl rfl rfl (by decide +kernel) ⟨Nat.le_of_ble_eq_true rfl, Nat.le_of_ble_eq_true rfl⟩), List.forall_mem_cons.mpr ⟨ycal_S hX (m_X4_stepOf hX hN l) (fun s args hts => va_cwS 2 hts gX4_fallSet_X4_stepOf rfl rfl rfl (by decide +kernel) ⟨Nat.le_of_ble_eq_true rfl, Nat.le_of_ble_eq_true rfl⟩), fun _ h => absurd h List.not_mem_nil⟩⟩)
    (zmm_all (fun _ h => absurd h List.not_mem_nil)) (fun _ h => absurd h List.not_mem_nil) (zpr_all hp_X4_fallSet) (fun as σ res h => by
      unfold F_X4_fallSet at h
      split at h
      · rename_i x0 x1 x2 x3
        cases hr : f_X4_fallSet N σ x0 x1 x2 x3 with
        | none => rw [hr] at h; cases h
        | some r =>
          rw [hr] at h
          cases h
          exact ⟨Nat.le_of_ble_eq_true rfl, t_X4_fallSet σ x0 x1 x2 x3 r hr⟩
      · cases h)
noncomputable def pr_X4_isEndless : List (Nat × Instr × Nat) := [(0, .aload_n 0, 1), (1, .getfield 40, 3), (4, .getfield 129, 3), (7, .iload_n 1, 1), (8, .iaload, 1), (9, .bipush 9, 2), (11, .if_icmp .eq 5, 3), (14, .iconst 0, 1), (15, .ireturn, 1), (16, .iconst 1, 1), (17, .aload_n 0, 1), (18, .getfield 40, 3), (21, .getfield 112, 3), (24, .iload_n 1, 1), (25, .iaload, 1), (26, .ishl, 1), (27, .istore_n 3, 1), (28, .iconst 0, 1), (29, .istore 4, 2), (31, .iload 4, 2), (33, .bipush 7, 2), (35, .if_icmp .ge 25, 3), (38, .aload_n 0, 1), (39, .iload_n 3, 1), (40, .aload_n 0, 1), (41, .getfield 40, 3), (44, .getfield 105, 3), (47, .iload_n 1, 1), (48, .iaload, 1), (49, .iload_n 2, 1), (50, .invokevirtual 156, 3), (53, .istore_n 3, 1), (54, .iinc 4 1, 3), (57, .goto (-26), 3), (60, .iload_n 3, 1), (61, .ifCond .eq 7, 3), (64, .iconst 1, 1), (65, .goto 4, 3), (68, .iconst 0, 1), (69, .ireturn, 1)]
set_option maxRecDepth 100000 in
theorem hp_X4_isEndless : pr_X4_isEndless.all (fun x => decide (decode cX4_isEndless x.1 = .ok x.2)) = true := by decide +kernel
noncomputable def f_X4_isEndless_b69 (N : Nat) (σ : yS) (s0 : Int) : Option (Int × yS) :=
  bif yb1 s0 then some (s0, σ) else none
noncomputable def f_X4_isEndless_b31 (N : Nat) : Nat → yS → Nat → Int → Int → Int → Int → Option (Int × yS) := yfix (fun _ _ _ _ _ _ => none) (fun ih σ x0 x1 x2 x3 x4 =>
    bif ycP .ge x4 7 then
      bif ycP .eq x3 0 then
        f_X4_isEndless_b69 N σ 0
      else
        f_X4_isEndless_b69 N σ 1
    else
      bif yin x1 10 then
        match f_X4_fallSet N σ x0 x3 (σ.1 (σ.2 x0 11 + 2) x1.toNat) x2 with
        | none => none
        | some r1 => ih r1.2 x0 x1 x2 r1.1 (yad x4 1)
      else none)
theorem q_X4_isEndless_b31 (N : Nat) (n : Nat) (σ : yS) (x0 : Nat) (x1 : Int) (x2 : Int) (x3 : Int) (x4 : Int) : f_X4_isEndless_b31 N (n + 1) σ x0 x1 x2 x3 x4 =
    (bif ycP .ge x4 7 then
      bif ycP .eq x3 0 then
        f_X4_isEndless_b69 N σ 0
      else
        f_X4_isEndless_b69 N σ 1
    else
      bif yin x1 10 then
        match f_X4_fallSet N σ x0 x3 (σ.1 (σ.2 x0 11 + 2) x1.toNat) x2 with
        | none => none
        | some r1 => (f_X4_isEndless_b31 N n) r1.2 x0 x1 x2 r1.1 (yad x4 1)
      else none) := rfl
noncomputable def f_X4_isEndless (N : Nat) (σ : yS) (x0 : Nat) (x1 : Int) (x2 : Int) : Option (Int × yS) :=
  bif yin x1 10 then
    bif ycP .eq (σ.1 (σ.2 x0 11 + 3) x1.toNat) 9 then
      f_X4_isEndless_b31 N N σ x0 x1 x2 (ysl 1 (σ.1 (σ.2 x0 11 + 1) x1.toNat)) 0
    else
      some (0, σ)
  else none
noncomputable def F_X4_isEndless (N : Nat) : yF := fun as σ => match as with
  | [.inr (.inl 4, x0), .inl (.inl x1), .inl (.inl x2)] => (f_X4_isEndless N σ x0 x1 x2).map (fun r => (some (.inl (.inl r.1)), r.2))
  | _ => none
theorem e_X4_isEndless {N : Nat} {σ : yS} {x0 : Nat} {x1 : Int} {x2 : Int} {r : Int × yS} (h : f_X4_isEndless N σ x0 x1 x2 = some r) : F_X4_isEndless N [.inr (.inl 4, x0), .inl (.inl x1), .inl (.inl x2)] σ = some (some (.inl (.inl r.1)), r.2) := by
  show (f_X4_isEndless N σ x0 x1 x2).map (fun r => ((some (.inl (.inl r.1)), r.2) : yR)) = _
  rw [h]
  rfl
noncomputable def tb_X4_isEndless (N : Nat) : yTb := ([(40, 4, 11, 2), (105, 5, 2, 3), (112, 5, 1, 3), (129, 5, 3, 3)], [], [], [(156, 4, 4, F_X4_fallSet N)], [], [], [])
abbrev G_X4_isEndless (N : Nat) (X : zXT) (sh : List yH) (l : Launch) (rm : Room) : yC → yR → Prop := yGoes X vwCl yct sh l rm cX4_isEndless 5 wsX4_isEndless RX4 (tb_X4_isEndless N) pr_X4_isEndless 2
set_option maxRecDepth 100000 in
set_option maxHeartbeats 4000000 in
theorem t_X4_isEndless_b69 {N : Nat} {X : zXT} {sh : List yH} {l : Launch} {rm : Room} (σ : yS) (s0 : Int) (res : Int × yS) (h : f_X4_isEndless_b69 N σ s0 = some res) : G_X4_isEndless N X sh l rm (69, [], [.inl (.inl s0)], σ) (some (.inl (.inl res.1)), res.2) := by
  unfold f_X4_isEndless_b69 at h
  cases hg1 : yb1 s0 with
  | false => rw [hg1] at h; dsimp only [cond] at h; cases h
  | true =>
    rw [hg1] at h
    dsimp only [cond] at h
    have h := Option.some.inj h
    subst h
    dsimp only
    exact yG_r rfl hg1
set_option maxRecDepth 100000 in
set_option maxHeartbeats 4000000 in
theorem t_X4_isEndless_b31 {N : Nat} {X : zXT} {sh : List yH} {l : Launch} {rm : Room} : ∀ (n : Nat) (σ : yS) (x0 : Nat) (x1 : Int) (x2 : Int) (x3 : Int) (x4 : Int) (res : Int × yS), f_X4_isEndless_b31 N n σ x0 x1 x2 x3 x4 = some res → G_X4_isEndless N X sh l rm (31, [(0, .inr (.inl 4, x0)), (1, .inl (.inl x1)), (2, .inl (.inl x2)), (3, .inl (.inl x3)), (4, .inl (.inl x4))], [], σ) (some (.inl (.inl res.1)), res.2) := by
  intro n
  induction n with
  | zero => intro σ x0 x1 x2 x3 x4 res h; exact (yno h).elim
  | succ n ih =>
    intro σ x0 x1 x2 x3 x4 res h
    rw [q_X4_isEndless_b31] at h
    refine yG_n (n := 2) (C' := (35, [(0, .inr (.inl 4, x0)), (1, .inl (.inl x1)), (2, .inl (.inl x2)), (3, .inl (.inl x3)), (4, .inl (.inl x4))], [.inl (.inl 7), .inl (.inl x4)], σ)) rfl ?_
    cases hg2 : ycP .ge x4 7 with
    | true =>
      rw [hg2] at h
      dsimp only [cond] at h
      refine yG_t (C' := (60, [(0, .inr (.inl 4, x0)), (1, .inl (.inl x1)), (2, .inl (.inl x2)), (3, .inl (.inl x3)), (4, .inl (.inl x4))], [], σ)) rfl hg2 ?_
      refine yG_n (n := 1) (C' := (61, [(0, .inr (.inl 4, x0)), (1, .inl (.inl x1)), (2, .inl (.inl x2)), (3, .inl (.inl x3)), (4, .inl (.inl x4))], [.inl (.inl x3)], σ)) rfl ?_
      cases hg3 : ycP .eq x3 0 with
      | true =>
        rw [hg3] at h
        dsimp only [cond] at h
        refine yG_t (C' := (68, [(0, .inr (.inl 4, x0)), (1, .inl (.inl x1)), (2, .inl (.inl x2)), (3, .inl (.inl x3)), (4, .inl (.inl x4))], [], σ)) rfl hg3 ?_
        refine yG_n (n := 1) (C' := (69, [(0, .inr (.inl 4, x0)), (1, .inl (.inl x1)), (2, .inl (.inl x2)), (3, .inl (.inl x3)), (4, .inl (.inl x4))], [.inl (.inl 0)], σ)) rfl ?_
        exact yG_w [] rfl (t_X4_isEndless_b69 σ 0 res h)
      | false =>
        rw [hg3] at h
        dsimp only [cond] at h
        refine yG_f (C' := (64, [(0, .inr (.inl 4, x0)), (1, .inl (.inl x1)), (2, .inl (.inl x2)), (3, .inl (.inl x3)), (4, .inl (.inl x4))], [], σ)) rfl hg3 ?_
        refine yG_n (n := 2) (C' := (69, [(0, .inr (.inl 4, x0)), (1, .inl (.inl x1)), (2, .inl (.inl x2)), (3, .inl (.inl x3)), (4, .inl (.inl x4))], [.inl (.inl 1)], σ)) rfl ?_
        exact yG_w [] rfl (t_X4_isEndless_b69 σ 1 res h)
    | false =>
      rw [hg2] at h
      dsimp only [cond] at h
      refine yG_f (C' := (38, [(0, .inr (.inl 4, x0)), (1, .inl (.inl x1)), (2, .inl (.inl x2)), (3, .inl (.inl x3)), (4, .inl (.inl x4))], [], σ)) rfl hg2 ?_
      refine yG_n (n := 6) (C' := (48, [(0, .inr (.inl 4, x0)), (1, .inl (.inl x1)), (2, .inl (.inl x2)), (3, .inl (.inl x3)), (4, .inl (.inl x4))], [.inl (.inl x1), .inr (.inr (0, 10), σ.2 x0 11 + 2), .inl (.inl x3), .inr (.inl 4, x0)], σ)) rfl ?_
      cases hg4 : yin x1 10 with
      | false => rw [hg4] at h; dsimp only [cond] at h; cases h
      | true =>
        rw [hg4] at h
        dsimp only [cond] at h
        refine yG_t (C' := (49, [(0, .inr (.inl 4, x0)), (1, .inl (.inl x1)), (2, .inl (.inl x2)), (3, .inl (.inl x3)), (4, .inl (.inl x4))], [.inl (.inl (σ.1 (σ.2 x0 11 + 2) x1.toNat)), .inl (.inl x3), .inr (.inl 4, x0)], σ)) rfl hg4 ?_
        refine yG_n (n := 1) (C' := (50, [(0, .inr (.inl 4, x0)), (1, .inl (.inl x1)), (2, .inl (.inl x2)), (3, .inl (.inl x3)), (4, .inl (.inl x4))], [.inl (.inl x2), .inl (.inl (σ.1 (σ.2 x0 11 + 2) x1.toNat)), .inl (.inl x3), .inr (.inl 4, x0)], σ)) rfl ?_
        cases hr5 : f_X4_fallSet N σ x0 x3 (σ.1 (σ.2 x0 11 + 2) x1.toNat) x2 with
        | none => rw [hr5] at h; dsimp only at h; cases h
        | some r1 =>
          rw [hr5] at h
          dsimp only at h
          refine yG_c (C1 := (53, [(0, .inr (.inl 4, x0)), (1, .inl (.inl x1)), (2, .inl (.inl x2)), (3, .inl (.inl x3)), (4, .inl (.inl x4))], [.inl (.inl r1.1)], r1.2)) rfl (e_X4_fallSet hr5) rfl ?_
          refine yG_n (n := 3) (C' := (31, [(4, .inl (.inl (yad x4 1))), (3, .inl (.inl r1.1)), (0, .inr (.inl 4, x0)), (1, .inl (.inl x1)), (2, .inl (.inl x2))], [], r1.2)) rfl ?_
          exact yG_w [2, 3, 4, 1, 0] rfl (ih r1.2 x0 x1 x2 r1.1 (yad x4 1) res h)
set_option maxRecDepth 100000 in
set_option maxHeartbeats 4000000 in
theorem t_X4_isEndless {N : Nat} {X : zXT} {sh : List yH} {l : Launch} {rm : Room} (σ : yS) (x0 : Nat) (x1 : Int) (x2 : Int) (res : Int × yS) (h : f_X4_isEndless N σ x0 x1 x2 = some res) : G_X4_isEndless N X sh l rm (0, [(0, .inr (.inl 4, x0)), (1, .inl (.inl x1)), (2, .inl (.inl x2))], [], σ) (some (.inl (.inl res.1)), res.2) := by
  unfold f_X4_isEndless at h
  refine yG_n (n := 4) (C' := (8, [(0, .inr (.inl 4, x0)), (1, .inl (.inl x1)), (2, .inl (.inl x2))], [.inl (.inl x1), .inr (.inr (0, 10), σ.2 x0 11 + 3)], σ)) rfl ?_
  cases hg6 : yin x1 10 with
  | false => rw [hg6] at h; dsimp only [cond] at h; cases h
  | true =>
    rw [hg6] at h
    dsimp only [cond] at h
    refine yG_t (C' := (9, [(0, .inr (.inl 4, x0)), (1, .inl (.inl x1)), (2, .inl (.inl x2))], [.inl (.inl (σ.1 (σ.2 x0 11 + 3) x1.toNat))], σ)) rfl hg6 ?_
    refine yG_n (n := 1) (C' := (11, [(0, .inr (.inl 4, x0)), (1, .inl (.inl x1)), (2, .inl (.inl x2))], [.inl (.inl 9), .inl (.inl (σ.1 (σ.2 x0 11 + 3) x1.toNat))], σ)) rfl ?_
    cases hg7 : ycP .eq (σ.1 (σ.2 x0 11 + 3) x1.toNat) 9 with
    | true =>
      rw [hg7] at h
      dsimp only [cond] at h
      refine yG_t (C' := (16, [(0, .inr (.inl 4, x0)), (1, .inl (.inl x1)), (2, .inl (.inl x2))], [], σ)) rfl hg7 ?_
      refine yG_n (n := 5) (C' := (25, [(0, .inr (.inl 4, x0)), (1, .inl (.inl x1)), (2, .inl (.inl x2))], [.inl (.inl x1), .inr (.inr (0, 10), σ.2 x0 11 + 1), .inl (.inl 1)], σ)) rfl ?_
      refine yG_t (C' := (26, [(0, .inr (.inl 4, x0)), (1, .inl (.inl x1)), (2, .inl (.inl x2))], [.inl (.inl (σ.1 (σ.2 x0 11 + 1) x1.toNat)), .inl (.inl 1)], σ)) rfl hg6 ?_
      refine yG_n (n := 4) (C' := (31, [(4, .inl (.inl 0)), (3, .inl (.inl (ysl 1 (σ.1 (σ.2 x0 11 + 1) x1.toNat)))), (0, .inr (.inl 4, x0)), (1, .inl (.inl x1)), (2, .inl (.inl x2))], [], σ)) rfl ?_
      exact yG_w [2, 3, 4, 1, 0] rfl (t_X4_isEndless_b31 N σ x0 x1 x2 (ysl 1 (σ.1 (σ.2 x0 11 + 1) x1.toNat)) 0 res h)
    | false =>
      rw [hg7] at h
      dsimp only [cond] at h
      refine yG_f (C' := (14, [(0, .inr (.inl 4, x0)), (1, .inl (.inl x1)), (2, .inl (.inl x2))], [], σ)) rfl hg7 ?_
      refine yG_n (n := 1) (C' := (15, [(0, .inr (.inl 4, x0)), (1, .inl (.inl x1)), (2, .inl (.inl x2))], [.inl (.inl 0)], σ)) rfl ?_
      have h := Option.some.inj h
      subst h
      dsimp only
      exact yG_r rfl rfl
set_option maxRecDepth 100000 in
set_option maxHeartbeats 4000000 in
theorem m_X4_isEndless {N : Nat} {X : zXT} (hX : zXok X) (hN : zXn X) (l : Launch) {sh : List yH} : yMet X vwCl yct sh l yX4_isEndless wsX4_isEndless { frames := 3, cells := 0, slots := 0, locals := 113 } (F_X4_isEndless N) :=
  ymeth (tb := tb_X4_isEndless N) (pr := pr_X4_isEndless) (rt := 2) (own := RX4) hX (by decide +kernel) rfl rfl ⟨Nat.le_of_ble_eq_true rfl, Nat.le_of_ble_eq_true rfl⟩
    (zfl_all (List.forall_mem_cons.mpr ⟨zfl_X4 (fun w h => List.mem_cons_of_mem _ (List.mem_append_left _ (List.mem_append_right _ h))) (List.mem_of_getElem? (i := 1) rfl) (by decide) (by decide), List.forall_mem_cons.mpr ⟨zfl_X5 (fun w h => List.mem_cons_of_mem _ (List.mem_append_right _ h)) (List.mem_of_getElem? (i := 4) rfl) (by decide) (by decide), List.forall_mem_cons.mpr ⟨zfl_X5 (fun w h => List.mem_cons_of_mem _ (List.mem_append_right _ h)) (List.mem_of_getElem? (i := 3) rfl) (by decide) (by decide), List.forall_mem_cons.mpr ⟨zfl_X5 (fun w h => List.mem_cons_of_mem _ (List.mem_append_right _ h)) (List.mem_of_getElem? (i := 2) rfl) (by decide) (by decide), fun _ h => absurd h List.not_mem_nil⟩⟩⟩⟩))
    (zco_all (fun _ h => absurd h List.not_mem_nil)) (zlc_all (fun _ h => absurd h List.not_mem_nil))
    (List.forall_mem_cons.mpr ⟨ycal_V hX (m_X4_fallSet hX hN l) rfl (fun s args hts => cwV 3 hts gX4_isEndless_X4_fallSet rfl rfl rfl (by decide +kernel) ⟨Nat.le_of_ble_eq_true rfl, Nat.le_of_ble_eq_true rfl⟩), fun _ h => absurd h List.not_mem_nil⟩)
    (fun _ h => absurd h List.not_mem_nil)
    (zmm_all (fun _ h => absurd h List.not_mem_nil)) (fun _ h => absurd h List.not_mem_nil) (zpr_all hp_X4_isEndless) (fun as σ res h => by
      unfold F_X4_isEndless at h
      split at h
      · rename_i x0 x1 x2
        cases hr : f_X4_isEndless N σ x0 x1 x2 with
        | none => rw [hr] at h; cases h
        | some r =>
          rw [hr] at h
          cases h
          exact ⟨Nat.le_of_ble_eq_true rfl, t_X4_isEndless σ x0 x1 x2 r hr⟩
      · cases h)
noncomputable def pr_X7_ever : List (Nat × Instr × Nat) := [(0, .iconst 0, 1), (1, .istore_n 1, 1), (2, .iconst 0, 1), (3, .istore_n 2, 1), (4, .iload_n 2, 1), (5, .aload_n 0, 1), (6, .getfield 10, 3), (9, .getfield 92, 3), (12, .getfield 96, 3), (15, .if_icmp .ge 30, 3), (18, .iload_n 1, 1), (19, .iload_n 2, 1), (20, .aload_n 0, 1), (21, .getfield 10, 3), (24, .iload_n 2, 1), (25, .aload_n 0, 1), (26, .getfield 10, 3), (29, .getfield 128, 3), (32, .invokevirtual 225, 3), (35, .invokestatic 170, 3), (38, .istore_n 1, 1), (39, .iinc 2 1, 3), (42, .goto (-38), 3), (45, .iload_n 1, 1), (46, .ireturn, 1)]
set_option maxRecDepth 100000 in
theorem hp_X7_ever : pr_X7_ever.all (fun x => decide (decode cX7_ever x.1 = .ok x.2)) = true := by decide +kernel
noncomputable def f_X7_ever_b4 (N : Nat) : Nat → yS → Int → Int → Option (Int × yS) := yfix (fun _ _ _ => none) (fun ih σ x1 x2 =>
    bif ycP .ge x2 (σ.1 (σ.2 17 11) 0) then
      some (x1, σ)
    else
      match f_X4_isEndless N σ 17 x2 (σ.1 17 6) with
      | none => none
      | some r1 => match f_X7_withBit N r1.2 x1 x2 r1.1 with
        | none => none
        | some r2 => ih r2.2 r2.1 (yad x2 1))
theorem q_X7_ever_b4 (N : Nat) (n : Nat) (σ : yS) (x1 : Int) (x2 : Int) : f_X7_ever_b4 N (n + 1) σ x1 x2 =
    (bif ycP .ge x2 (σ.1 (σ.2 17 11) 0) then
      some (x1, σ)
    else
      match f_X4_isEndless N σ 17 x2 (σ.1 17 6) with
      | none => none
      | some r1 => match f_X7_withBit N r1.2 x1 x2 r1.1 with
        | none => none
        | some r2 => (f_X7_ever_b4 N n) r2.2 r2.1 (yad x2 1)) := rfl
noncomputable def f_X7_ever (N : Nat) (σ : yS) : Option (Int × yS) :=
  f_X7_ever_b4 N N σ 0 0
noncomputable def F_X7_ever (N : Nat) : yF := fun as σ => match as with
  | [.inr (.inl 7, 0)] => (f_X7_ever N σ).map (fun r => (some (.inl (.inl r.1)), r.2))
  | _ => none
theorem e_X7_ever {N : Nat} {σ : yS} {r : Int × yS} (h : f_X7_ever N σ = some r) : F_X7_ever N [.inr (.inl 7, 0)] σ = some (some (.inl (.inl r.1)), r.2) := by
  show (f_X7_ever N σ).map (fun r => ((some (.inl (.inl r.1)), r.2) : yR)) = _
  rw [h]
  rfl
noncomputable def tb_X7_ever (N : Nat) : yTb := ([(10, 7, 0, 3), (92, 4, 11, 2), (96, 5, 0, 0), (128, 4, 6, 0)], [], [], [(225, 3, 4, F_X4_isEndless N)], [(170, 3, F_X7_withBit N)], [], [])
abbrev G_X7_ever (N : Nat) (X : zXT) (sh : List yH) (l : Launch) (rm : Room) : yC → yR → Prop := yGoes X vwCl yct sh l rm cX7_ever 3 wsX7_ever RX7 (tb_X7_ever N) pr_X7_ever 1
set_option maxRecDepth 100000 in
set_option maxHeartbeats 4000000 in
theorem t_X7_ever_b4 {N : Nat} {X : zXT} {sh : List yH} {l : Launch} {rm : Room} : ∀ (n : Nat) (σ : yS) (x1 : Int) (x2 : Int) (res : Int × yS), f_X7_ever_b4 N n σ x1 x2 = some res → G_X7_ever N X sh l rm (4, [(0, .inr (.inl 7, 0)), (1, .inl (.inl x1)), (2, .inl (.inl x2))], [], σ) (some (.inl (.inl res.1)), res.2) := by
  intro n
  induction n with
  | zero => intro σ x1 x2 res h; exact (yno h).elim
  | succ n ih =>
    intro σ x1 x2 res h
    rw [q_X7_ever_b4] at h
    refine yG_n (n := 5) (C' := (15, [(0, .inr (.inl 7, 0)), (1, .inl (.inl x1)), (2, .inl (.inl x2))], [.inl (.inl (σ.1 (σ.2 17 11) 0)), .inl (.inl x2)], σ)) rfl ?_
    cases hg1 : ycP .ge x2 (σ.1 (σ.2 17 11) 0) with
    | true =>
      rw [hg1] at h
      dsimp only [cond] at h
      refine yG_t (C' := (45, [(0, .inr (.inl 7, 0)), (1, .inl (.inl x1)), (2, .inl (.inl x2))], [], σ)) rfl hg1 ?_
      refine yG_n (n := 1) (C' := (46, [(0, .inr (.inl 7, 0)), (1, .inl (.inl x1)), (2, .inl (.inl x2))], [.inl (.inl x1)], σ)) rfl ?_
      have h := Option.some.inj h
      subst h
      dsimp only
      exact yG_r rfl rfl
    | false =>
      rw [hg1] at h
      dsimp only [cond] at h
      refine yG_f (C' := (18, [(0, .inr (.inl 7, 0)), (1, .inl (.inl x1)), (2, .inl (.inl x2))], [], σ)) rfl hg1 ?_
      refine yG_n (n := 8) (C' := (32, [(0, .inr (.inl 7, 0)), (1, .inl (.inl x1)), (2, .inl (.inl x2))], [.inl (.inl (σ.1 17 6)), .inl (.inl x2), .inr (.inl 4, 17), .inl (.inl x2), .inl (.inl x1)], σ)) rfl ?_
      cases hr2 : f_X4_isEndless N σ 17 x2 (σ.1 17 6) with
      | none => rw [hr2] at h; dsimp only at h; cases h
      | some r1 =>
        rw [hr2] at h
        dsimp only at h
        refine yG_c (C1 := (35, [(0, .inr (.inl 7, 0)), (1, .inl (.inl x1)), (2, .inl (.inl x2))], [.inl (.inl r1.1), .inl (.inl x2), .inl (.inl x1)], r1.2)) rfl (e_X4_isEndless hr2) rfl ?_
        cases hr3 : f_X7_withBit N r1.2 x1 x2 r1.1 with
        | none => rw [hr3] at h; dsimp only at h; cases h
        | some r2 =>
          rw [hr3] at h
          dsimp only at h
          refine yG_c (C1 := (38, [(0, .inr (.inl 7, 0)), (1, .inl (.inl x1)), (2, .inl (.inl x2))], [.inl (.inl r2.1)], r2.2)) rfl (e_X7_withBit hr3) rfl ?_
          refine yG_n (n := 3) (C' := (4, [(2, .inl (.inl (yad x2 1))), (1, .inl (.inl r2.1)), (0, .inr (.inl 7, 0))], [], r2.2)) rfl ?_
          exact yG_w [2, 1, 0] rfl (ih r2.2 r2.1 (yad x2 1) res h)
set_option maxRecDepth 100000 in
set_option maxHeartbeats 4000000 in
theorem t_X7_ever {N : Nat} {X : zXT} {sh : List yH} {l : Launch} {rm : Room} (σ : yS) (res : Int × yS) (h : f_X7_ever N σ = some res) : G_X7_ever N X sh l rm (0, [(0, .inr (.inl 7, 0))], [], σ) (some (.inl (.inl res.1)), res.2) := by
  unfold f_X7_ever at h
  refine yG_n (n := 4) (C' := (4, [(2, .inl (.inl 0)), (1, .inl (.inl 0)), (0, .inr (.inl 7, 0))], [], σ)) rfl ?_
  exact yG_w [2, 1, 0] rfl (t_X7_ever_b4 N σ 0 0 res h)
set_option maxRecDepth 100000 in
set_option maxHeartbeats 4000000 in
theorem m_X7_ever {N : Nat} {X : zXT} (hX : zXok X) (hN : zXn X) (l : Launch) {sh : List yH} : yMet X vwCl yct sh l yX7_ever wsX7_ever { frames := 4, cells := 0, slots := 0, locals := 137 } (F_X7_ever N) :=
  ymeth (tb := tb_X7_ever N) (pr := pr_X7_ever) (rt := 1) (own := RX7) hX (by decide +kernel) rfl rfl ⟨Nat.le_of_ble_eq_true rfl, Nat.le_of_ble_eq_true rfl⟩
    (zfl_all (List.forall_mem_cons.mpr ⟨zfl_X7 (fun w h => List.mem_cons_of_mem _ (List.mem_append_left _ (List.mem_append_left _ (List.mem_append_right _ h)))) (List.mem_of_getElem? (i := 1) rfl) (by decide) (by decide), List.forall_mem_cons.mpr ⟨zfl_X4 (fun w h => List.mem_cons_of_mem _ (List.mem_append_left _ (List.mem_append_right _ h))) (List.mem_of_getElem? (i := 2) rfl) (by decide) (by decide), List.forall_mem_cons.mpr ⟨zfl_X5 (fun w h => List.mem_cons_of_mem _ (List.mem_append_right _ h)) (List.mem_of_getElem? (i := 3) rfl) (by decide) (by decide), List.forall_mem_cons.mpr ⟨zfl_X4 (fun w h => List.mem_cons_of_mem _ (List.mem_append_left _ (List.mem_append_right _ h))) (List.mem_of_getElem? (i := 4) rfl) (by decide) (by decide), fun _ h => absurd h List.not_mem_nil⟩⟩⟩⟩))
    (zco_all (fun _ h => absurd h List.not_mem_nil)) (zlc_all (fun _ h => absurd h List.not_mem_nil))
    (List.forall_mem_cons.mpr ⟨ycal_V hX (m_X4_isEndless hX hN l) rfl (fun s args hts => cwV 2 hts gX7_ever_X4_isEndless rfl rfl rfl (by decide +kernel) ⟨Nat.le_of_ble_eq_true rfl, Nat.le_of_ble_eq_true rfl⟩), fun _ h => absurd h List.not_mem_nil⟩)
    (List.forall_mem_cons.mpr ⟨ycal_S hX (m_X7_withBit hX hN l) (fun s args hts => va_cwS 3 hts gX7_ever_X7_withBit rfl rfl rfl (by decide +kernel) ⟨Nat.le_of_ble_eq_true rfl, Nat.le_of_ble_eq_true rfl⟩), fun _ h => absurd h List.not_mem_nil⟩)
    (zmm_all (fun _ h => absurd h List.not_mem_nil)) (fun _ h => absurd h List.not_mem_nil) (zpr_all hp_X7_ever) (fun as σ res h => by
      unfold F_X7_ever at h
      split at h
      · cases hr : f_X7_ever N σ with
        | none => rw [hr] at h; cases h
        | some r =>
          rw [hr] at h
          cases h
          exact ⟨Nat.le_of_ble_eq_true rfl, t_X7_ever σ r hr⟩
      · cases h)
noncomputable def pr_X7_fault : List (Nat × Instr × Nat) := [(0, .aload_n 0, 1), (1, .getfield 26, 3), (4, .getfield 67, 3), (7, .ireturn, 1)]
set_option maxRecDepth 100000 in
theorem hp_X7_fault : pr_X7_fault.all (fun x => decide (decode cX7_fault x.1 = .ok x.2)) = true := by decide +kernel
noncomputable def f_X7_fault (N : Nat) (σ : yS) : Option (Int × yS) :=
  some (σ.1 2 4, σ)
noncomputable def F_X7_fault (N : Nat) : yF := fun as σ => match as with
  | [.inr (.inl 7, 0)] => (f_X7_fault N σ).map (fun r => (some (.inl (.inl r.1)), r.2))
  | _ => none
theorem e_X7_fault {N : Nat} {σ : yS} {r : Int × yS} (h : f_X7_fault N σ = some r) : F_X7_fault N [.inr (.inl 7, 0)] σ = some (some (.inl (.inl r.1)), r.2) := by
  show (f_X7_fault N σ).map (fun r => ((some (.inl (.inl r.1)), r.2) : yR)) = _
  rw [h]
  rfl
noncomputable def tb_X7_fault (N : Nat) : yTb := ([(26, 7, 3, 3), (67, 1, 4, 0)], [], [], [], [], [], [])
abbrev G_X7_fault (N : Nat) (X : zXT) (sh : List yH) (l : Launch) (rm : Room) : yC → yR → Prop := yGoes X vwCl yct sh l rm cX7_fault 1 wsX7_fault RX7 (tb_X7_fault N) pr_X7_fault 1
set_option maxRecDepth 100000 in
set_option maxHeartbeats 4000000 in
theorem t_X7_fault {N : Nat} {X : zXT} {sh : List yH} {l : Launch} {rm : Room} (σ : yS) (res : Int × yS) (h : f_X7_fault N σ = some res) : G_X7_fault N X sh l rm (0, [(0, .inr (.inl 7, 0))], [], σ) (some (.inl (.inl res.1)), res.2) := by
  unfold f_X7_fault at h
  refine yG_n (n := 3) (C' := (7, [(0, .inr (.inl 7, 0))], [.inl (.inl (σ.1 2 4))], σ)) rfl ?_
  have h := Option.some.inj h
  subst h
  dsimp only
  exact yG_r rfl rfl
set_option maxRecDepth 100000 in
set_option maxHeartbeats 4000000 in
theorem m_X7_fault {N : Nat} {X : zXT} (hX : zXok X) (hN : zXn X) (l : Launch) {sh : List yH} : yMet X vwCl yct sh l yX7_fault wsX7_fault { frames := 1, cells := 0, slots := 0, locals := 64 } (F_X7_fault N) :=
  ymeth (tb := tb_X7_fault N) (pr := pr_X7_fault) (rt := 1) (own := RX7) hX (by decide +kernel) rfl rfl ⟨Nat.le_of_ble_eq_true rfl, Nat.le_of_ble_eq_true rfl⟩
    (zfl_all (List.forall_mem_cons.mpr ⟨zfl_X7 (fun w h => List.mem_cons_of_mem _ (List.mem_append_left _ (List.mem_append_right _ h))) (List.mem_of_getElem? (i := 1) rfl) (by decide) (by decide), List.forall_mem_cons.mpr ⟨zfl_X1 (fun w h => List.mem_cons_of_mem _ (List.mem_append_right _ h)) (List.mem_of_getElem? (i := 2) rfl) (by decide) (by decide), fun _ h => absurd h List.not_mem_nil⟩⟩))
    (zco_all (fun _ h => absurd h List.not_mem_nil)) (zlc_all (fun _ h => absurd h List.not_mem_nil))
    (fun _ h => absurd h List.not_mem_nil)
    (fun _ h => absurd h List.not_mem_nil)
    (zmm_all (fun _ h => absurd h List.not_mem_nil)) (fun _ h => absurd h List.not_mem_nil) (zpr_all hp_X7_fault) (fun as σ res h => by
      unfold F_X7_fault at h
      split at h
      · cases hr : f_X7_fault N σ with
        | none => rw [hr] at h; cases h
        | some r =>
          rw [hr] at h
          cases h
          exact ⟨Nat.le_of_ble_eq_true rfl, t_X7_fault σ r hr⟩
      · cases h)
noncomputable def pr_X3_append : List (Nat × Instr × Nat) := [(0, .aload_n 0, 1), (1, .getfield 15, 3), (4, .sipush 160, 3), (7, .if_icmp .lt 5, 3), (10, .iconst 0, 1), (11, .ireturn, 1), (12, .aload_n 0, 1), (13, .getfield 9, 3), (16, .aload_n 0, 1), (17, .getfield 15, 3), (20, .iload_n 1, 1), (21, .iastore, 1), (22, .aload_n 0, 1), (23, .dup, 1), (24, .getfield 15, 3), (27, .iconst 1, 1), (28, .iadd, 1), (29, .putfield 15, 3), (32, .iconst 1, 1), (33, .ireturn, 1)]
set_option maxRecDepth 100000 in
theorem hp_X3_append : pr_X3_append.all (fun x => decide (decode cX3_append x.1 = .ok x.2)) = true := by decide +kernel
noncomputable def f_X3_append_b24 (N : Nat) (σ : yS) : Option (Int × yS) :=
  some (1, yw σ 3 0 (yad (σ.1 3 0) 1))
noncomputable def f_X3_append (N : Nat) (σ : yS) (x1 : Int) : Option (Int × yS) :=
  bif ycP .lt (σ.1 3 0) 160 then
    bif yin (σ.1 3 0) 160 then
      f_X3_append_b24 N (yw σ 4 (σ.1 3 0).toNat x1)
    else none
  else
    some (0, σ)
noncomputable def F_X3_append (N : Nat) : yF := fun as σ => match as with
  | [.inr (.inl 3, 3), .inl (.inl x1)] => (f_X3_append N σ x1).map (fun r => (some (.inl (.inl r.1)), r.2))
  | _ => none
theorem e_X3_append {N : Nat} {σ : yS} {x1 : Int} {r : Int × yS} (h : f_X3_append N σ x1 = some r) : F_X3_append N [.inr (.inl 3, 3), .inl (.inl x1)] σ = some (some (.inl (.inl r.1)), r.2) := by
  show (f_X3_append N σ x1).map (fun r => ((some (.inl (.inl r.1)), r.2) : yR)) = _
  rw [h]
  rfl
noncomputable def tb_X3_append (N : Nat) : yTb := ([(9, 3, 1, 3), (15, 3, 0, 0)], [], [], [], [], [], [])
abbrev G_X3_append (N : Nat) (X : zXT) (sh : List yH) (l : Launch) (rm : Room) : yC → yR → Prop := yGoes X vwCl yct sh l rm cX3_append 2 wsX3_append RX3 (tb_X3_append N) pr_X3_append 2
set_option maxRecDepth 100000 in
set_option maxHeartbeats 4000000 in
theorem t_X3_append_b24 {N : Nat} {X : zXT} {sh : List yH} {l : Launch} {rm : Room} (σ : yS) (res : Int × yS) (h : f_X3_append_b24 N σ = some res) : G_X3_append N X sh l rm (24, [], [.inr (.inl 3, 3), .inr (.inl 3, 3)], σ) (some (.inl (.inl res.1)), res.2) := by
  unfold f_X3_append_b24 at h
  refine yG_n (n := 5) (C' := (33, [], [.inl (.inl 1)], yw σ 3 0 (yad (σ.1 3 0) 1))) rfl ?_
  have h := Option.some.inj h
  subst h
  dsimp only
  exact yG_r rfl rfl
set_option maxRecDepth 100000 in
set_option maxHeartbeats 4000000 in
theorem t_X3_append {N : Nat} {X : zXT} {sh : List yH} {l : Launch} {rm : Room} (σ : yS) (x1 : Int) (res : Int × yS) (h : f_X3_append N σ x1 = some res) : G_X3_append N X sh l rm (0, [(0, .inr (.inl 3, 3)), (1, .inl (.inl x1))], [], σ) (some (.inl (.inl res.1)), res.2) := by
  unfold f_X3_append at h
  refine yG_n (n := 3) (C' := (7, [(0, .inr (.inl 3, 3)), (1, .inl (.inl x1))], [.inl (.inl 160), .inl (.inl (σ.1 3 0))], σ)) rfl ?_
  cases hg1 : ycP .lt (σ.1 3 0) 160 with
  | true =>
    rw [hg1] at h
    dsimp only [cond] at h
    refine yG_t (C' := (12, [(0, .inr (.inl 3, 3)), (1, .inl (.inl x1))], [], σ)) rfl hg1 ?_
    refine yG_n (n := 5) (C' := (21, [(0, .inr (.inl 3, 3)), (1, .inl (.inl x1))], [.inl (.inl x1), .inl (.inl (σ.1 3 0)), .inr (.inr (0, 160), 4)], σ)) rfl ?_
    cases hg2 : yin (σ.1 3 0) 160 with
    | false => rw [hg2] at h; dsimp only [cond] at h; cases h
    | true =>
      rw [hg2] at h
      dsimp only [cond] at h
      refine yG_t (C' := (22, [(0, .inr (.inl 3, 3)), (1, .inl (.inl x1))], [], yw σ 4 (σ.1 3 0).toNat x1)) rfl hg2 ?_
      refine yG_n (n := 2) (C' := (24, [(0, .inr (.inl 3, 3)), (1, .inl (.inl x1))], [.inr (.inl 3, 3), .inr (.inl 3, 3)], yw σ 4 (σ.1 3 0).toNat x1)) rfl ?_
      exact yG_w [] rfl (t_X3_append_b24 (yw σ 4 (σ.1 3 0).toNat x1) res h)
  | false =>
    rw [hg1] at h
    dsimp only [cond] at h
    refine yG_f (C' := (10, [(0, .inr (.inl 3, 3)), (1, .inl (.inl x1))], [], σ)) rfl hg1 ?_
    refine yG_n (n := 1) (C' := (11, [(0, .inr (.inl 3, 3)), (1, .inl (.inl x1))], [.inl (.inl 0)], σ)) rfl ?_
    have h := Option.some.inj h
    subst h
    dsimp only
    exact yG_r rfl rfl
set_option maxRecDepth 100000 in
set_option maxHeartbeats 4000000 in
theorem m_X3_append {N : Nat} {X : zXT} (hX : zXok X) (hN : zXn X) (l : Launch) {sh : List yH} : yMet X vwCl yct sh l yX3_append wsX3_append { frames := 1, cells := 0, slots := 0, locals := 64 } (F_X3_append N) :=
  ymeth (tb := tb_X3_append N) (pr := pr_X3_append) (rt := 2) (own := RX3) hX (by decide +kernel) rfl rfl ⟨Nat.le_of_ble_eq_true rfl, Nat.le_of_ble_eq_true rfl⟩
    (zfl_all (List.forall_mem_cons.mpr ⟨zfl_X3 (fun w h => List.mem_cons_of_mem _ (List.mem_append_right _ h)) (List.mem_of_getElem? (i := 2) rfl) (by decide) (by decide), List.forall_mem_cons.mpr ⟨zfl_X3 (fun w h => List.mem_cons_of_mem _ (List.mem_append_right _ h)) (List.mem_of_getElem? (i := 1) rfl) (by decide) (by decide), fun _ h => absurd h List.not_mem_nil⟩⟩))
    (zco_all (fun _ h => absurd h List.not_mem_nil)) (zlc_all (fun _ h => absurd h List.not_mem_nil))
    (fun _ h => absurd h List.not_mem_nil)
    (fun _ h => absurd h List.not_mem_nil)
    (zmm_all (fun _ h => absurd h List.not_mem_nil)) (fun _ h => absurd h List.not_mem_nil) (zpr_all hp_X3_append) (fun as σ res h => by
      unfold F_X3_append at h
      split at h
      · rename_i x1
        cases hr : f_X3_append N σ x1 with
        | none => rw [hr] at h; cases h
        | some r =>
          rw [hr] at h
          cases h
          exact ⟨Nat.le_of_ble_eq_true rfl, t_X3_append σ x1 r hr⟩
      · cases h)
noncomputable def pr_X7_feed : List (Nat × Instr × Nat) := [(0, .iload_n 1, 1), (1, .iconst 0, 1), (2, .bipush 127, 2), (4, .invokestatic 49, 3), (7, .ifCond .ne 5, 3), (10, .iconst (-1), 1), (11, .ireturn, 1), (12, .aload_n 0, 1), (13, .getfield 34, 3), (16, .iload_n 1, 1), (17, .invokevirtual 53, 3), (20, .ifCond .eq 13, 3), (23, .aload_n 0, 1), (24, .getfield 34, 3), (27, .getfield 59, 3), (30, .goto 5, 3), (33, .bipush (-3), 2), (35, .ireturn, 1)]
set_option maxRecDepth 100000 in
theorem hp_X7_feed : pr_X7_feed.all (fun x => decide (decode cX7_feed x.1 = .ok x.2)) = true := by decide +kernel
noncomputable def f_X7_feed_b35 (N : Nat) (σ : yS) (s0 : Int) : Option (Int × yS) :=
  some (s0, σ)
noncomputable def f_X7_feed (N : Nat) (σ : yS) (x1 : Int) : Option (Int × yS) :=
  match f_X7_within N σ x1 0 127 with
  | none => none
  | some r1 => bif ycP .ne r1.1 0 then
      match f_X3_append N r1.2 x1 with
      | none => none
      | some r2 => bif ycP .eq r2.1 0 then
          f_X7_feed_b35 N r2.2 ((-3))
        else
          f_X7_feed_b35 N r2.2 (r2.2.1 3 0)
    else
      some ((-1), r1.2)
noncomputable def F_X7_feed (N : Nat) : yF := fun as σ => match as with
  | [.inr (.inl 7, 0), .inl (.inl x1)] => (f_X7_feed N σ x1).map (fun r => (some (.inl (.inl r.1)), r.2))
  | _ => none
theorem e_X7_feed {N : Nat} {σ : yS} {x1 : Int} {r : Int × yS} (h : f_X7_feed N σ x1 = some r) : F_X7_feed N [.inr (.inl 7, 0), .inl (.inl x1)] σ = some (some (.inl (.inl r.1)), r.2) := by
  show (f_X7_feed N σ x1).map (fun r => ((some (.inl (.inl r.1)), r.2) : yR)) = _
  rw [h]
  rfl
noncomputable def tb_X7_feed (N : Nat) : yTb := ([(34, 7, 4, 3), (59, 3, 0, 0)], [], [], [(53, 2, 3, F_X3_append N)], [(49, 3, F_X7_within N)], [], [])
abbrev G_X7_feed (N : Nat) (X : zXT) (sh : List yH) (l : Launch) (rm : Room) : yC → yR → Prop := yGoes X vwCl yct sh l rm cX7_feed 2 wsX7_feed RX7 (tb_X7_feed N) pr_X7_feed 1
set_option maxRecDepth 100000 in
set_option maxHeartbeats 4000000 in
theorem t_X7_feed_b35 {N : Nat} {X : zXT} {sh : List yH} {l : Launch} {rm : Room} (σ : yS) (s0 : Int) (res : Int × yS) (h : f_X7_feed_b35 N σ s0 = some res) : G_X7_feed N X sh l rm (35, [], [.inl (.inl s0)], σ) (some (.inl (.inl res.1)), res.2) := by
  unfold f_X7_feed_b35 at h
  have h := Option.some.inj h
  subst h
  dsimp only
  exact yG_r rfl rfl
set_option maxRecDepth 100000 in
set_option maxHeartbeats 4000000 in
theorem t_X7_feed {N : Nat} {X : zXT} {sh : List yH} {l : Launch} {rm : Room} (σ : yS) (x1 : Int) (res : Int × yS) (h : f_X7_feed N σ x1 = some res) : G_X7_feed N X sh l rm (0, [(0, .inr (.inl 7, 0)), (1, .inl (.inl x1))], [], σ) (some (.inl (.inl res.1)), res.2) := by
  unfold f_X7_feed at h
  refine yG_n (n := 3) (C' := (4, [(0, .inr (.inl 7, 0)), (1, .inl (.inl x1))], [.inl (.inl 127), .inl (.inl 0), .inl (.inl x1)], σ)) rfl ?_
  cases hr1 : f_X7_within N σ x1 0 127 with
  | none => rw [hr1] at h; dsimp only at h; cases h
  | some r1 =>
    rw [hr1] at h
    dsimp only at h
    refine yG_c (C1 := (7, [(0, .inr (.inl 7, 0)), (1, .inl (.inl x1))], [.inl (.inl r1.1)], r1.2)) rfl (e_X7_within hr1) rfl ?_
    cases hg2 : ycP .ne r1.1 0 with
    | true =>
      rw [hg2] at h
      dsimp only [cond] at h
      refine yG_t (C' := (12, [(0, .inr (.inl 7, 0)), (1, .inl (.inl x1))], [], r1.2)) rfl hg2 ?_
      refine yG_n (n := 3) (C' := (17, [(0, .inr (.inl 7, 0)), (1, .inl (.inl x1))], [.inl (.inl x1), .inr (.inl 3, 3)], r1.2)) rfl ?_
      cases hr3 : f_X3_append N r1.2 x1 with
      | none => rw [hr3] at h; dsimp only at h; cases h
      | some r2 =>
        rw [hr3] at h
        dsimp only at h
        refine yG_c (C1 := (20, [(0, .inr (.inl 7, 0)), (1, .inl (.inl x1))], [.inl (.inl r2.1)], r2.2)) rfl (e_X3_append hr3) rfl ?_
        cases hg4 : ycP .eq r2.1 0 with
        | true =>
          rw [hg4] at h
          dsimp only [cond] at h
          refine yG_t (C' := (33, [(0, .inr (.inl 7, 0)), (1, .inl (.inl x1))], [], r2.2)) rfl hg4 ?_
          refine yG_n (n := 1) (C' := (35, [(0, .inr (.inl 7, 0)), (1, .inl (.inl x1))], [.inl (.inl ((-3)))], r2.2)) rfl ?_
          exact yG_w [] rfl (t_X7_feed_b35 r2.2 ((-3)) res h)
        | false =>
          rw [hg4] at h
          dsimp only [cond] at h
          refine yG_f (C' := (23, [(0, .inr (.inl 7, 0)), (1, .inl (.inl x1))], [], r2.2)) rfl hg4 ?_
          refine yG_n (n := 4) (C' := (35, [(0, .inr (.inl 7, 0)), (1, .inl (.inl x1))], [.inl (.inl (r2.2.1 3 0))], r2.2)) rfl ?_
          exact yG_w [] rfl (t_X7_feed_b35 r2.2 (r2.2.1 3 0) res h)
    | false =>
      rw [hg2] at h
      dsimp only [cond] at h
      refine yG_f (C' := (10, [(0, .inr (.inl 7, 0)), (1, .inl (.inl x1))], [], r1.2)) rfl hg2 ?_
      refine yG_n (n := 1) (C' := (11, [(0, .inr (.inl 7, 0)), (1, .inl (.inl x1))], [.inl (.inl ((-1)))], r1.2)) rfl ?_
      have h := Option.some.inj h
      subst h
      dsimp only
      exact yG_r rfl rfl
set_option maxRecDepth 100000 in
set_option maxHeartbeats 4000000 in
theorem m_X7_feed {N : Nat} {X : zXT} (hX : zXok X) (hN : zXn X) (l : Launch) {sh : List yH} : yMet X vwCl yct sh l yX7_feed wsX7_feed { frames := 2, cells := 0, slots := 0, locals := 86 } (F_X7_feed N) :=
  ymeth (tb := tb_X7_feed N) (pr := pr_X7_feed) (rt := 1) (own := RX7) hX (by decide +kernel) rfl rfl ⟨Nat.le_of_ble_eq_true rfl, Nat.le_of_ble_eq_true rfl⟩
    (zfl_all (List.forall_mem_cons.mpr ⟨zfl_X7 (fun w h => List.mem_cons_of_mem _ (List.mem_append_left _ (List.mem_append_right _ h))) (List.mem_of_getElem? (i := 1) rfl) (by decide) (by decide), List.forall_mem_cons.mpr ⟨zfl_X3 (fun w h => List.mem_cons_of_mem _ (List.mem_append_right _ h)) (List.mem_of_getElem? (i := 2) rfl) (by decide) (by decide), fun _ h => absurd h List.not_mem_nil⟩⟩))
    (zco_all (fun _ h => absurd h List.not_mem_nil)) (zlc_all (fun _ h => absurd h List.not_mem_nil))
    (List.forall_mem_cons.mpr ⟨ycal_V hX (m_X3_append hX hN l) rfl (fun s args hts => cwV 1 hts gX7_feed_X3_append rfl rfl rfl (by decide +kernel) ⟨Nat.le_of_ble_eq_true rfl, Nat.le_of_ble_eq_true rfl⟩), fun _ h => absurd h List.not_mem_nil⟩)
    (List.forall_mem_cons.mpr ⟨ycal_S hX (m_X7_within hX hN l) (fun s args hts => va_cwS 3 hts gX7_feed_X7_within rfl rfl rfl (by decide +kernel) ⟨Nat.le_of_ble_eq_true rfl, Nat.le_of_ble_eq_true rfl⟩), fun _ h => absurd h List.not_mem_nil⟩)
    (zmm_all (fun _ h => absurd h List.not_mem_nil)) (fun _ h => absurd h List.not_mem_nil) (zpr_all hp_X7_feed) (fun as σ res h => by
      unfold F_X7_feed at h
      split at h
      · rename_i x1
        cases hr : f_X7_feed N σ x1 with
        | none => rw [hr] at h; cases h
        | some r =>
          rw [hr] at h
          cases h
          exact ⟨Nat.le_of_ble_eq_true rfl, t_X7_feed σ x1 r hr⟩
      · cases h)
noncomputable def pr_X7_fund : List (Nat × Instr × Nat) := [(0, .aload_n 0, 1), (1, .getfield 10, 3), (4, .iload_n 1, 1), (5, .invokevirtual 118, 3), (8, .ifCond .eq 13, 3), (11, .iload_n 2, 1), (12, .iconst 0, 1), (13, .bipush 99, 2), (15, .invokestatic 49, 3), (18, .ifCond .ne 5, 3), (21, .iconst (-1), 1), (22, .ireturn, 1), (23, .aload_n 0, 1), (24, .getfield 10, 3), (27, .getfield 121, 3), (30, .iload_n 1, 1), (31, .iaload, 1), (32, .istore_n 3, 1), (33, .aload_n 0, 1), (34, .getfield 10, 3), (37, .getfield 121, 3), (40, .iload_n 1, 1), (41, .iload_n 2, 1), (42, .iastore, 1), (43, .iload_n 3, 1), (44, .ireturn, 1)]
set_option maxRecDepth 100000 in
theorem hp_X7_fund : pr_X7_fund.all (fun x => decide (decode cX7_fund x.1 = .ok x.2)) = true := by decide +kernel
noncomputable def f_X7_fund_b21 (N : Nat) (σ : yS) : Option (Int × yS) :=
  some ((-1), σ)
noncomputable def f_X7_fund (N : Nat) (σ : yS) (x1 : Int) (x2 : Int) : Option (Int × yS) :=
  match f_X4_isHouse N σ 17 x1 with
  | none => none
  | some r1 => bif ycP .eq r1.1 0 then
      f_X7_fund_b21 N r1.2
    else
      match f_X7_within N r1.2 x2 0 99 with
      | none => none
      | some r2 => bif ycP .ne r2.1 0 then
          bif yin x1 7 then
            some (r2.2.1 19 x1.toNat, yw r2.2 19 x1.toNat x2)
          else none
        else
          f_X7_fund_b21 N r2.2
noncomputable def F_X7_fund (N : Nat) : yF := fun as σ => match as with
  | [.inr (.inl 7, 0), .inl (.inl x1), .inl (.inl x2)] => (f_X7_fund N σ x1 x2).map (fun r => (some (.inl (.inl r.1)), r.2))
  | _ => none
theorem e_X7_fund {N : Nat} {σ : yS} {x1 : Int} {x2 : Int} {r : Int × yS} (h : f_X7_fund N σ x1 x2 = some r) : F_X7_fund N [.inr (.inl 7, 0), .inl (.inl x1), .inl (.inl x2)] σ = some (some (.inl (.inl r.1)), r.2) := by
  show (f_X7_fund N σ x1 x2).map (fun r => ((some (.inl (.inl r.1)), r.2) : yR)) = _
  rw [h]
  rfl
noncomputable def tb_X7_fund (N : Nat) : yTb := ([(10, 7, 0, 3), (121, 4, 4, 3)], [], [], [(118, 2, 4, F_X4_isHouse N)], [(49, 3, F_X7_within N)], [], [])
abbrev G_X7_fund (N : Nat) (X : zXT) (sh : List yH) (l : Launch) (rm : Room) : yC → yR → Prop := yGoes X vwCl yct sh l rm cX7_fund 4 wsX7_fund RX7 (tb_X7_fund N) pr_X7_fund 1
set_option maxRecDepth 100000 in
set_option maxHeartbeats 4000000 in
theorem t_X7_fund_b21 {N : Nat} {X : zXT} {sh : List yH} {l : Launch} {rm : Room} (σ : yS) (res : Int × yS) (h : f_X7_fund_b21 N σ = some res) : G_X7_fund N X sh l rm (21, [], [], σ) (some (.inl (.inl res.1)), res.2) := by
  unfold f_X7_fund_b21 at h
  refine yG_n (n := 1) (C' := (22, [], [.inl (.inl ((-1)))], σ)) rfl ?_
  have h := Option.some.inj h
  subst h
  dsimp only
  exact yG_r rfl rfl
set_option maxRecDepth 100000 in
set_option maxHeartbeats 4000000 in
theorem t_X7_fund {N : Nat} {X : zXT} {sh : List yH} {l : Launch} {rm : Room} (σ : yS) (x1 : Int) (x2 : Int) (res : Int × yS) (h : f_X7_fund N σ x1 x2 = some res) : G_X7_fund N X sh l rm (0, [(0, .inr (.inl 7, 0)), (1, .inl (.inl x1)), (2, .inl (.inl x2))], [], σ) (some (.inl (.inl res.1)), res.2) := by
  unfold f_X7_fund at h
  refine yG_n (n := 3) (C' := (5, [(0, .inr (.inl 7, 0)), (1, .inl (.inl x1)), (2, .inl (.inl x2))], [.inl (.inl x1), .inr (.inl 4, 17)], σ)) rfl ?_
  cases hr1 : f_X4_isHouse N σ 17 x1 with
  | none => rw [hr1] at h; dsimp only at h; cases h
  | some r1 =>
    rw [hr1] at h
    dsimp only at h
    refine yG_c (C1 := (8, [(0, .inr (.inl 7, 0)), (1, .inl (.inl x1)), (2, .inl (.inl x2))], [.inl (.inl r1.1)], r1.2)) rfl (e_X4_isHouse hr1) rfl ?_
    cases hg2 : ycP .eq r1.1 0 with
    | true =>
      rw [hg2] at h
      dsimp only [cond] at h
      refine yG_t (C' := (21, [(0, .inr (.inl 7, 0)), (1, .inl (.inl x1)), (2, .inl (.inl x2))], [], r1.2)) rfl hg2 ?_
      exact yG_w [] rfl (t_X7_fund_b21 r1.2 res h)
    | false =>
      rw [hg2] at h
      dsimp only [cond] at h
      refine yG_f (C' := (11, [(0, .inr (.inl 7, 0)), (1, .inl (.inl x1)), (2, .inl (.inl x2))], [], r1.2)) rfl hg2 ?_
      refine yG_n (n := 3) (C' := (15, [(0, .inr (.inl 7, 0)), (1, .inl (.inl x1)), (2, .inl (.inl x2))], [.inl (.inl 99), .inl (.inl 0), .inl (.inl x2)], r1.2)) rfl ?_
      cases hr3 : f_X7_within N r1.2 x2 0 99 with
      | none => rw [hr3] at h; dsimp only at h; cases h
      | some r2 =>
        rw [hr3] at h
        dsimp only at h
        refine yG_c (C1 := (18, [(0, .inr (.inl 7, 0)), (1, .inl (.inl x1)), (2, .inl (.inl x2))], [.inl (.inl r2.1)], r2.2)) rfl (e_X7_within hr3) rfl ?_
        cases hg4 : ycP .ne r2.1 0 with
        | true =>
          rw [hg4] at h
          dsimp only [cond] at h
          refine yG_t (C' := (23, [(0, .inr (.inl 7, 0)), (1, .inl (.inl x1)), (2, .inl (.inl x2))], [], r2.2)) rfl hg4 ?_
          refine yG_n (n := 4) (C' := (31, [(0, .inr (.inl 7, 0)), (1, .inl (.inl x1)), (2, .inl (.inl x2))], [.inl (.inl x1), .inr (.inr (0, 7), 19)], r2.2)) rfl ?_
          cases hg5 : yin x1 7 with
          | false => rw [hg5] at h; dsimp only [cond] at h; cases h
          | true =>
            rw [hg5] at h
            dsimp only [cond] at h
            refine yG_t (C' := (32, [(0, .inr (.inl 7, 0)), (1, .inl (.inl x1)), (2, .inl (.inl x2))], [.inl (.inl (r2.2.1 19 x1.toNat))], r2.2)) rfl hg5 ?_
            refine yG_n (n := 6) (C' := (42, [(3, .inl (.inl (r2.2.1 19 x1.toNat))), (0, .inr (.inl 7, 0)), (1, .inl (.inl x1)), (2, .inl (.inl x2))], [.inl (.inl x2), .inl (.inl x1), .inr (.inr (0, 7), 19)], r2.2)) rfl ?_
            refine yG_t (C' := (43, [(3, .inl (.inl (r2.2.1 19 x1.toNat))), (0, .inr (.inl 7, 0)), (1, .inl (.inl x1)), (2, .inl (.inl x2))], [], yw r2.2 19 x1.toNat x2)) rfl hg5 ?_
            refine yG_n (n := 1) (C' := (44, [(3, .inl (.inl (r2.2.1 19 x1.toNat))), (0, .inr (.inl 7, 0)), (1, .inl (.inl x1)), (2, .inl (.inl x2))], [.inl (.inl (r2.2.1 19 x1.toNat))], yw r2.2 19 x1.toNat x2)) rfl ?_
            have h := Option.some.inj h
            subst h
            dsimp only
            exact yG_r rfl rfl
        | false =>
          rw [hg4] at h
          dsimp only [cond] at h
          refine yG_f (C' := (21, [(0, .inr (.inl 7, 0)), (1, .inl (.inl x1)), (2, .inl (.inl x2))], [], r2.2)) rfl hg4 ?_
          exact yG_w [] rfl (t_X7_fund_b21 r2.2 res h)
set_option maxRecDepth 100000 in
set_option maxHeartbeats 4000000 in
theorem m_X7_fund {N : Nat} {X : zXT} (hX : zXok X) (hN : zXn X) (l : Launch) {sh : List yH} : yMet X vwCl yct sh l yX7_fund wsX7_fund { frames := 3, cells := 0, slots := 0, locals := 107 } (F_X7_fund N) :=
  ymeth (tb := tb_X7_fund N) (pr := pr_X7_fund) (rt := 1) (own := RX7) hX (by decide +kernel) rfl rfl ⟨Nat.le_of_ble_eq_true rfl, Nat.le_of_ble_eq_true rfl⟩
    (zfl_all (List.forall_mem_cons.mpr ⟨zfl_X7 (fun w h => List.mem_cons_of_mem _ (List.mem_append_left _ (List.mem_append_right _ h))) (List.mem_of_getElem? (i := 1) rfl) (by decide) (by decide), List.forall_mem_cons.mpr ⟨zfl_X4 (fun w h => List.mem_cons_of_mem _ (List.mem_append_right _ h)) (List.mem_of_getElem? (i := 2) rfl) (by decide) (by decide), fun _ h => absurd h List.not_mem_nil⟩⟩))
    (zco_all (fun _ h => absurd h List.not_mem_nil)) (zlc_all (fun _ h => absurd h List.not_mem_nil))
    (List.forall_mem_cons.mpr ⟨ycal_V hX (m_X4_isHouse hX hN l) rfl (fun s args hts => cwV 1 hts gX7_fund_X4_isHouse rfl rfl rfl (by decide +kernel) ⟨Nat.le_of_ble_eq_true rfl, Nat.le_of_ble_eq_true rfl⟩), fun _ h => absurd h List.not_mem_nil⟩)
    (List.forall_mem_cons.mpr ⟨ycal_S hX (m_X7_within hX hN l) (fun s args hts => va_cwS 3 hts gX7_fund_X7_within rfl rfl rfl (by decide +kernel) ⟨Nat.le_of_ble_eq_true rfl, Nat.le_of_ble_eq_true rfl⟩), fun _ h => absurd h List.not_mem_nil⟩)
    (zmm_all (fun _ h => absurd h List.not_mem_nil)) (fun _ h => absurd h List.not_mem_nil) (zpr_all hp_X7_fund) (fun as σ res h => by
      unfold F_X7_fund at h
      split at h
      · rename_i x1 x2
        cases hr : f_X7_fund N σ x1 x2 with
        | none => rw [hr] at h; cases h
        | some r =>
          rw [hr] at h
          cases h
          exact ⟨Nat.le_of_ble_eq_true rfl, t_X7_fund σ x1 x2 r hr⟩
      · cases h)
noncomputable def pr_X7_go : List (Nat × Instr × Nat) := [(0, .iload_n 1, 1), (1, .iconst 0, 1), (2, .bipush 60, 2), (4, .invokestatic 49, 3), (7, .ifCond .ne 5, 3), (10, .iconst (-1), 1), (11, .ireturn, 1), (12, .aload_n 0, 1), (13, .getfield 10, 3), (16, .getfield 106, 3), (19, .iload_n 1, 1), (20, .iadd, 1), (21, .sipush 1000, 3), (24, .if_icmp .lt 6, 3), (27, .bipush (-3), 2), (29, .ireturn, 1), (30, .aload_n 0, 1), (31, .getfield 10, 3), (34, .iload_n 1, 1), (35, .invokevirtual 200, 3), (38, .ireturn, 1)]
set_option maxRecDepth 100000 in
theorem hp_X7_go : pr_X7_go.all (fun x => decide (decode cX7_go x.1 = .ok x.2)) = true := by decide +kernel
noncomputable def f_X7_go (N : Nat) (σ : yS) (x1 : Int) : Option (Int × yS) :=
  match f_X7_within N σ x1 0 60 with
  | none => none
  | some r1 => bif ycP .ne r1.1 0 then
      bif ycP .lt (yad (r1.2.1 17 14) x1) 1000 then
        match f_X4_passDays N r1.2 17 x1 with
        | none => none
        | some r2 => some (r2.1, r2.2)
      else
        some ((-3), r1.2)
    else
      some ((-1), r1.2)
noncomputable def F_X7_go (N : Nat) : yF := fun as σ => match as with
  | [.inr (.inl 7, 0), .inl (.inl x1)] => (f_X7_go N σ x1).map (fun r => (some (.inl (.inl r.1)), r.2))
  | _ => none
theorem e_X7_go {N : Nat} {σ : yS} {x1 : Int} {r : Int × yS} (h : f_X7_go N σ x1 = some r) : F_X7_go N [.inr (.inl 7, 0), .inl (.inl x1)] σ = some (some (.inl (.inl r.1)), r.2) := by
  show (f_X7_go N σ x1).map (fun r => ((some (.inl (.inl r.1)), r.2) : yR)) = _
  rw [h]
  rfl
noncomputable def tb_X7_go (N : Nat) : yTb := ([(10, 7, 0, 3), (106, 4, 14, 0)], [], [], [(200, 2, 4, F_X4_passDays N)], [(49, 3, F_X7_within N)], [], [])
abbrev G_X7_go (N : Nat) (X : zXT) (sh : List yH) (l : Launch) (rm : Room) : yC → yR → Prop := yGoes X vwCl yct sh l rm cX7_go 2 wsX7_go RX7 (tb_X7_go N) pr_X7_go 1
set_option maxRecDepth 100000 in
set_option maxHeartbeats 4000000 in
theorem t_X7_go {N : Nat} {X : zXT} {sh : List yH} {l : Launch} {rm : Room} (σ : yS) (x1 : Int) (res : Int × yS) (h : f_X7_go N σ x1 = some res) : G_X7_go N X sh l rm (0, [(0, .inr (.inl 7, 0)), (1, .inl (.inl x1))], [], σ) (some (.inl (.inl res.1)), res.2) := by
  unfold f_X7_go at h
  refine yG_n (n := 3) (C' := (4, [(0, .inr (.inl 7, 0)), (1, .inl (.inl x1))], [.inl (.inl 60), .inl (.inl 0), .inl (.inl x1)], σ)) rfl ?_
  cases hr1 : f_X7_within N σ x1 0 60 with
  | none => rw [hr1] at h; dsimp only at h; cases h
  | some r1 =>
    rw [hr1] at h
    dsimp only at h
    refine yG_c (C1 := (7, [(0, .inr (.inl 7, 0)), (1, .inl (.inl x1))], [.inl (.inl r1.1)], r1.2)) rfl (e_X7_within hr1) rfl ?_
    cases hg2 : ycP .ne r1.1 0 with
    | true =>
      rw [hg2] at h
      dsimp only [cond] at h
      refine yG_t (C' := (12, [(0, .inr (.inl 7, 0)), (1, .inl (.inl x1))], [], r1.2)) rfl hg2 ?_
      refine yG_n (n := 6) (C' := (24, [(0, .inr (.inl 7, 0)), (1, .inl (.inl x1))], [.inl (.inl 1000), .inl (.inl (yad (r1.2.1 17 14) x1))], r1.2)) rfl ?_
      cases hg3 : ycP .lt (yad (r1.2.1 17 14) x1) 1000 with
      | true =>
        rw [hg3] at h
        dsimp only [cond] at h
        refine yG_t (C' := (30, [(0, .inr (.inl 7, 0)), (1, .inl (.inl x1))], [], r1.2)) rfl hg3 ?_
        refine yG_n (n := 3) (C' := (35, [(0, .inr (.inl 7, 0)), (1, .inl (.inl x1))], [.inl (.inl x1), .inr (.inl 4, 17)], r1.2)) rfl ?_
        cases hr4 : f_X4_passDays N r1.2 17 x1 with
        | none => rw [hr4] at h; dsimp only at h; cases h
        | some r2 =>
          rw [hr4] at h
          dsimp only at h
          refine yG_c (C1 := (38, [(0, .inr (.inl 7, 0)), (1, .inl (.inl x1))], [.inl (.inl r2.1)], r2.2)) rfl (e_X4_passDays hr4) rfl ?_
          have h := Option.some.inj h
          subst h
          dsimp only
          exact yG_r rfl rfl
      | false =>
        rw [hg3] at h
        dsimp only [cond] at h
        refine yG_f (C' := (27, [(0, .inr (.inl 7, 0)), (1, .inl (.inl x1))], [], r1.2)) rfl hg3 ?_
        refine yG_n (n := 1) (C' := (29, [(0, .inr (.inl 7, 0)), (1, .inl (.inl x1))], [.inl (.inl ((-3)))], r1.2)) rfl ?_
        have h := Option.some.inj h
        subst h
        dsimp only
        exact yG_r rfl rfl
    | false =>
      rw [hg2] at h
      dsimp only [cond] at h
      refine yG_f (C' := (10, [(0, .inr (.inl 7, 0)), (1, .inl (.inl x1))], [], r1.2)) rfl hg2 ?_
      refine yG_n (n := 1) (C' := (11, [(0, .inr (.inl 7, 0)), (1, .inl (.inl x1))], [.inl (.inl ((-1)))], r1.2)) rfl ?_
      have h := Option.some.inj h
      subst h
      dsimp only
      exact yG_r rfl rfl
set_option maxRecDepth 100000 in
set_option maxHeartbeats 4000000 in
theorem m_X7_go {N : Nat} {X : zXT} (hX : zXok X) (hN : zXn X) (l : Launch) {sh : List yH} : yMet X vwCl yct sh l yX7_go wsX7_go { frames := 6, cells := 0, slots := 0, locals := 181 } (F_X7_go N) :=
  ymeth (tb := tb_X7_go N) (pr := pr_X7_go) (rt := 1) (own := RX7) hX (by decide +kernel) rfl rfl ⟨Nat.le_of_ble_eq_true rfl, Nat.le_of_ble_eq_true rfl⟩
    (zfl_all (List.forall_mem_cons.mpr ⟨zfl_X7 (fun w h => List.mem_cons_of_mem _ (List.mem_append_left _ (List.mem_append_left _ (List.mem_append_right _ h)))) (List.mem_of_getElem? (i := 1) rfl) (by decide) (by decide), List.forall_mem_cons.mpr ⟨zfl_X4 (fun w h => List.mem_cons_of_mem _ (List.mem_append_left _ (List.mem_append_right _ h))) (List.mem_of_getElem? (i := 2) rfl) (by decide) (by decide), fun _ h => absurd h List.not_mem_nil⟩⟩))
    (zco_all (fun _ h => absurd h List.not_mem_nil)) (zlc_all (fun _ h => absurd h List.not_mem_nil))
    (List.forall_mem_cons.mpr ⟨ycal_V hX (m_X4_passDays hX hN l) rfl (fun s args hts => cwV 1 hts gX7_go_X4_passDays rfl rfl rfl (by decide +kernel) ⟨Nat.le_of_ble_eq_true rfl, Nat.le_of_ble_eq_true rfl⟩), fun _ h => absurd h List.not_mem_nil⟩)
    (List.forall_mem_cons.mpr ⟨ycal_S hX (m_X7_within hX hN l) (fun s args hts => va_cwS 3 hts gX7_go_X7_within rfl rfl rfl (by decide +kernel) ⟨Nat.le_of_ble_eq_true rfl, Nat.le_of_ble_eq_true rfl⟩), fun _ h => absurd h List.not_mem_nil⟩)
    (zmm_all (fun _ h => absurd h List.not_mem_nil)) (fun _ h => absurd h List.not_mem_nil) (zpr_all hp_X7_go) (fun as σ res h => by
      unfold F_X7_go at h
      split at h
      · rename_i x1
        cases hr : f_X7_go N σ x1 with
        | none => rw [hr] at h; cases h
        | some r =>
          rw [hr] at h
          cases h
          exact ⟨Nat.le_of_ble_eq_true rfl, t_X7_go σ x1 r hr⟩
      · cases h)
noncomputable def pr_X7_isKind : List (Nat × Instr × Nat) := [(0, .iload_n 0, 1), (1, .iconst 0, 1), (2, .iconst 4, 1), (3, .invokestatic 49, 3), (6, .ireturn, 1)]
set_option maxRecDepth 100000 in
theorem hp_X7_isKind : pr_X7_isKind.all (fun x => decide (decode cX7_isKind x.1 = .ok x.2)) = true := by decide +kernel
noncomputable def f_X7_isKind (N : Nat) (σ : yS) (x0 : Int) : Option (Int × yS) :=
  match f_X7_within N σ x0 0 4 with
  | none => none
  | some r1 => bif yb1 r1.1 then some (r1.1, r1.2) else none
noncomputable def F_X7_isKind (N : Nat) : yF := fun as σ => match as with
  | [.inl (.inl x0)] => (f_X7_isKind N σ x0).map (fun r => (some (.inl (.inl r.1)), r.2))
  | _ => none
theorem e_X7_isKind {N : Nat} {σ : yS} {x0 : Int} {r : Int × yS} (h : f_X7_isKind N σ x0 = some r) : F_X7_isKind N [.inl (.inl x0)] σ = some (some (.inl (.inl r.1)), r.2) := by
  show (f_X7_isKind N σ x0).map (fun r => ((some (.inl (.inl r.1)), r.2) : yR)) = _
  rw [h]
  rfl
noncomputable def tb_X7_isKind (N : Nat) : yTb := ([], [], [], [], [(49, 3, F_X7_within N)], [], [])
abbrev G_X7_isKind (N : Nat) (X : zXT) (sh : List yH) (l : Launch) (rm : Room) : yC → yR → Prop := yGoes X vwCl yct sh l rm cX7_isKind 1 wsX7_isKind RX7 (tb_X7_isKind N) pr_X7_isKind 2
set_option maxRecDepth 100000 in
set_option maxHeartbeats 4000000 in
theorem t_X7_isKind {N : Nat} {X : zXT} {sh : List yH} {l : Launch} {rm : Room} (σ : yS) (x0 : Int) (res : Int × yS) (h : f_X7_isKind N σ x0 = some res) : G_X7_isKind N X sh l rm (0, [(0, .inl (.inl x0))], [], σ) (some (.inl (.inl res.1)), res.2) := by
  unfold f_X7_isKind at h
  refine yG_n (n := 3) (C' := (3, [(0, .inl (.inl x0))], [.inl (.inl 4), .inl (.inl 0), .inl (.inl x0)], σ)) rfl ?_
  cases hr1 : f_X7_within N σ x0 0 4 with
  | none => rw [hr1] at h; dsimp only at h; cases h
  | some r1 =>
    rw [hr1] at h
    dsimp only at h
    refine yG_c (C1 := (6, [(0, .inl (.inl x0))], [.inl (.inl r1.1)], r1.2)) rfl (e_X7_within hr1) rfl ?_
    cases hg2 : yb1 r1.1 with
    | false => rw [hg2] at h; dsimp only [cond] at h; cases h
    | true =>
      rw [hg2] at h
      dsimp only [cond] at h
      have h := Option.some.inj h
      subst h
      dsimp only
      exact yG_r rfl hg2
set_option maxRecDepth 100000 in
set_option maxHeartbeats 4000000 in
theorem m_X7_isKind {N : Nat} {X : zXT} (hX : zXok X) (hN : zXn X) (l : Launch) {sh : List yH} : yMet X vwCl yct sh l yX7_isKind wsX7_isKind { frames := 2, cells := 0, slots := 0, locals := 86 } (F_X7_isKind N) :=
  ymeth (tb := tb_X7_isKind N) (pr := pr_X7_isKind) (rt := 2) (own := RX7) hX (by decide +kernel) rfl rfl ⟨Nat.le_of_ble_eq_true rfl, Nat.le_of_ble_eq_true rfl⟩
    (zfl_all (fun _ h => absurd h List.not_mem_nil))
    (zco_all (fun _ h => absurd h List.not_mem_nil)) (zlc_all (fun _ h => absurd h List.not_mem_nil))
    (fun _ h => absurd h List.not_mem_nil)
    (List.forall_mem_cons.mpr ⟨ycal_S hX (m_X7_within hX hN l) (fun s args hts => va_cwS 3 hts gX7_isKind_X7_within rfl rfl rfl (by decide +kernel) ⟨Nat.le_of_ble_eq_true rfl, Nat.le_of_ble_eq_true rfl⟩), fun _ h => absurd h List.not_mem_nil⟩)
    (zmm_all (fun _ h => absurd h List.not_mem_nil)) (fun _ h => absurd h List.not_mem_nil) (zpr_all hp_X7_isKind) (fun as σ res h => by
      unfold F_X7_isKind at h
      split at h
      · rename_i x0
        cases hr : f_X7_isKind N σ x0 with
        | none => rw [hr] at h; cases h
        | some r =>
          rw [hr] at h
          cases h
          exact ⟨Nat.le_of_ble_eq_true rfl, t_X7_isKind σ x0 r hr⟩
      · cases h)
noncomputable def pr_X4_setHabit : List (Nat × Instr × Nat) := [(0, .aload_n 0, 1), (1, .getfield 25, 3), (4, .iload_n 1, 1), (5, .iload_n 2, 1), (6, .iastore, 1), (7, .aload_n 0, 1), (8, .getfield 28, 3), (11, .iload_n 1, 1), (12, .iload_n 3, 1), (13, .iastore, 1), (14, .aload_n 0, 1), (15, .getfield 31, 3), (18, .iload_n 1, 1), (19, .iload 4, 2), (21, .iastore, 1), (22, .return_, 1)]
set_option maxRecDepth 100000 in
theorem hp_X4_setHabit : pr_X4_setHabit.all (fun x => decide (decode cX4_setHabit x.1 = .ok x.2)) = true := by decide +kernel
noncomputable def f_X4_setHabit (N : Nat) (σ : yS) (x0 : Nat) (x1 : Int) (x2 : Int) (x3 : Int) (x4 : Int) : Option (Int × yS) :=
  bif yin x1 7 then
    some (0, yw (yw (yw σ (x0 + 4) x1.toNat x2) (x0 + 5) x1.toNat x3) (x0 + 6) x1.toNat x4)
  else none
noncomputable def F_X4_setHabit (N : Nat) : yF := fun as σ => match as with
  | [.inr (.inl 4, x0), .inl (.inl x1), .inl (.inl x2), .inl (.inl x3), .inl (.inl x4)] => (f_X4_setHabit N σ x0 x1 x2 x3 x4).map (fun r => (none, r.2))
  | _ => none
theorem e_X4_setHabit {N : Nat} {σ : yS} {x0 : Nat} {x1 : Int} {x2 : Int} {x3 : Int} {x4 : Int} {r : Int × yS} (h : f_X4_setHabit N σ x0 x1 x2 x3 x4 = some r) : F_X4_setHabit N [.inr (.inl 4, x0), .inl (.inl x1), .inl (.inl x2), .inl (.inl x3), .inl (.inl x4)] σ = some (none, r.2) := by
  show (f_X4_setHabit N σ x0 x1 x2 x3 x4).map (fun r => ((none, r.2) : yR)) = _
  rw [h]
  rfl
noncomputable def tb_X4_setHabit (N : Nat) : yTb := ([(25, 4, 7, 3), (28, 4, 8, 3), (31, 4, 9, 3)], [], [], [], [], [], [])
abbrev G_X4_setHabit (N : Nat) (X : zXT) (sh : List yH) (l : Launch) (rm : Room) : yC → yR → Prop := yGoes X vwCl yct sh l rm cX4_setHabit 5 wsX4_setHabit RX4 (tb_X4_setHabit N) pr_X4_setHabit 0
set_option maxRecDepth 100000 in
set_option maxHeartbeats 4000000 in
theorem t_X4_setHabit {N : Nat} {X : zXT} {sh : List yH} {l : Launch} {rm : Room} (σ : yS) (x0 : Nat) (x1 : Int) (x2 : Int) (x3 : Int) (x4 : Int) (res : Int × yS) (h : f_X4_setHabit N σ x0 x1 x2 x3 x4 = some res) : G_X4_setHabit N X sh l rm (0, [(0, .inr (.inl 4, x0)), (1, .inl (.inl x1)), (2, .inl (.inl x2)), (3, .inl (.inl x3)), (4, .inl (.inl x4))], [], σ) (none, res.2) := by
  unfold f_X4_setHabit at h
  refine yG_n (n := 4) (C' := (6, [(0, .inr (.inl 4, x0)), (1, .inl (.inl x1)), (2, .inl (.inl x2)), (3, .inl (.inl x3)), (4, .inl (.inl x4))], [.inl (.inl x2), .inl (.inl x1), .inr (.inr (0, 7), x0 + 4)], σ)) rfl ?_
  cases hg1 : yin x1 7 with
  | false => rw [hg1] at h; dsimp only [cond] at h; cases h
  | true =>
    rw [hg1] at h
    dsimp only [cond] at h
    refine yG_t (C' := (7, [(0, .inr (.inl 4, x0)), (1, .inl (.inl x1)), (2, .inl (.inl x2)), (3, .inl (.inl x3)), (4, .inl (.inl x4))], [], yw σ (x0 + 4) x1.toNat x2)) rfl hg1 ?_
    refine yG_n (n := 4) (C' := (13, [(0, .inr (.inl 4, x0)), (1, .inl (.inl x1)), (2, .inl (.inl x2)), (3, .inl (.inl x3)), (4, .inl (.inl x4))], [.inl (.inl x3), .inl (.inl x1), .inr (.inr (0, 7), x0 + 5)], yw σ (x0 + 4) x1.toNat x2)) rfl ?_
    refine yG_t (C' := (14, [(0, .inr (.inl 4, x0)), (1, .inl (.inl x1)), (2, .inl (.inl x2)), (3, .inl (.inl x3)), (4, .inl (.inl x4))], [], yw (yw σ (x0 + 4) x1.toNat x2) (x0 + 5) x1.toNat x3)) rfl hg1 ?_
    refine yG_n (n := 4) (C' := (21, [(0, .inr (.inl 4, x0)), (1, .inl (.inl x1)), (2, .inl (.inl x2)), (3, .inl (.inl x3)), (4, .inl (.inl x4))], [.inl (.inl x4), .inl (.inl x1), .inr (.inr (0, 7), x0 + 6)], yw (yw σ (x0 + 4) x1.toNat x2) (x0 + 5) x1.toNat x3)) rfl ?_
    refine yG_t (C' := (22, [(0, .inr (.inl 4, x0)), (1, .inl (.inl x1)), (2, .inl (.inl x2)), (3, .inl (.inl x3)), (4, .inl (.inl x4))], [], yw (yw (yw σ (x0 + 4) x1.toNat x2) (x0 + 5) x1.toNat x3) (x0 + 6) x1.toNat x4)) rfl hg1 ?_
    have h := Option.some.inj h
    subst h
    dsimp only
    exact yG_r rfl rfl
set_option maxRecDepth 100000 in
set_option maxHeartbeats 4000000 in
theorem m_X4_setHabit {N : Nat} {X : zXT} (hX : zXok X) (hN : zXn X) (l : Launch) {sh : List yH} : yMet X vwCl yct sh l yX4_setHabit wsX4_setHabit { frames := 1, cells := 0, slots := 0, locals := 64 } (F_X4_setHabit N) :=
  ymeth (tb := tb_X4_setHabit N) (pr := pr_X4_setHabit) (rt := 0) (own := RX4) hX (by decide +kernel) rfl rfl ⟨Nat.le_of_ble_eq_true rfl, Nat.le_of_ble_eq_true rfl⟩
    (zfl_all (List.forall_mem_cons.mpr ⟨zfl_X4 (fun w h => List.mem_cons_of_mem _ (List.mem_append_right _ h)) (List.mem_of_getElem? (i := 1) rfl) (by decide) (by decide), List.forall_mem_cons.mpr ⟨zfl_X4 (fun w h => List.mem_cons_of_mem _ (List.mem_append_right _ h)) (List.mem_of_getElem? (i := 2) rfl) (by decide) (by decide), List.forall_mem_cons.mpr ⟨zfl_X4 (fun w h => List.mem_cons_of_mem _ (List.mem_append_right _ h)) (List.mem_of_getElem? (i := 3) rfl) (by decide) (by decide), fun _ h => absurd h List.not_mem_nil⟩⟩⟩))
    (zco_all (fun _ h => absurd h List.not_mem_nil)) (zlc_all (fun _ h => absurd h List.not_mem_nil))
    (fun _ h => absurd h List.not_mem_nil)
    (fun _ h => absurd h List.not_mem_nil)
    (zmm_all (fun _ h => absurd h List.not_mem_nil)) (fun _ h => absurd h List.not_mem_nil) (zpr_all hp_X4_setHabit) (fun as σ res h => by
      unfold F_X4_setHabit at h
      split at h
      · rename_i x0 x1 x2 x3 x4
        cases hr : f_X4_setHabit N σ x0 x1 x2 x3 x4 with
        | none => rw [hr] at h; cases h
        | some r =>
          rw [hr] at h
          cases h
          exact ⟨Nat.le_of_ble_eq_true rfl, t_X4_setHabit σ x0 x1 x2 x3 x4 r hr⟩
      · cases h)
noncomputable def pr_X7_habit : List (Nat × Instr × Nat) := [(0, .aload_n 0, 1), (1, .getfield 10, 3), (4, .iload_n 1, 1), (5, .invokevirtual 118, 3), (8, .ifCond .eq 32, 3), (11, .iload_n 2, 1), (12, .invokestatic 174, 3), (15, .ifCond .eq 25, 3), (18, .aload_n 0, 1), (19, .getfield 10, 3), (22, .iload_n 3, 1), (23, .invokevirtual 150, 3), (26, .ifCond .eq 14, 3), (29, .iload 4, 2), (31, .iconst 0, 1), (32, .bipush 10, 2), (34, .invokestatic 49, 3), (37, .ifCond .ne 5, 3), (40, .iconst (-1), 1), (41, .ireturn, 1), (42, .aload_n 0, 1), (43, .getfield 10, 3), (46, .getfield 141, 3), (49, .iload_n 1, 1), (50, .iaload, 1), (51, .istore 5, 2), (53, .aload_n 0, 1), (54, .getfield 10, 3), (57, .iload_n 1, 1), (58, .iload_n 2, 1), (59, .iload_n 3, 1), (60, .iload 4, 2), (62, .invokevirtual 177, 3), (65, .iload 5, 2), (67, .ireturn, 1)]
set_option maxRecDepth 100000 in
theorem hp_X7_habit : pr_X7_habit.all (fun x => decide (decode cX7_habit x.1 = .ok x.2)) = true := by decide +kernel
noncomputable def f_X7_habit_b40 (N : Nat) (σ : yS) : Option (Int × yS) :=
  some ((-1), σ)
noncomputable def f_X7_habit (N : Nat) (σ : yS) (x1 : Int) (x2 : Int) (x3 : Int) (x4 : Int) : Option (Int × yS) :=
  match f_X4_isHouse N σ 17 x1 with
  | none => none
  | some r1 => bif ycP .eq r1.1 0 then
      f_X7_habit_b40 N r1.2
    else
      match f_X7_isKind N r1.2 x2 with
      | none => none
      | some r2 => bif ycP .eq r2.1 0 then
          f_X7_habit_b40 N r2.2
        else
          match f_X4_isDeed N r2.2 17 x3 with
          | none => none
          | some r3 => bif ycP .eq r3.1 0 then
              f_X7_habit_b40 N r3.2
            else
              match f_X7_within N r3.2 x4 0 10 with
              | none => none
              | some r4 => bif ycP .ne r4.1 0 then
                  bif yin x1 7 then
                    match f_X4_setHabit N r4.2 17 x1 x2 x3 x4 with
                    | none => none
                    | some r5 => some (r4.2.1 23 x1.toNat, r5.2)
                  else none
                else
                  f_X7_habit_b40 N r4.2
noncomputable def F_X7_habit (N : Nat) : yF := fun as σ => match as with
  | [.inr (.inl 7, 0), .inl (.inl x1), .inl (.inl x2), .inl (.inl x3), .inl (.inl x4)] => (f_X7_habit N σ x1 x2 x3 x4).map (fun r => (some (.inl (.inl r.1)), r.2))
  | _ => none
theorem e_X7_habit {N : Nat} {σ : yS} {x1 : Int} {x2 : Int} {x3 : Int} {x4 : Int} {r : Int × yS} (h : f_X7_habit N σ x1 x2 x3 x4 = some r) : F_X7_habit N [.inr (.inl 7, 0), .inl (.inl x1), .inl (.inl x2), .inl (.inl x3), .inl (.inl x4)] σ = some (some (.inl (.inl r.1)), r.2) := by
  show (f_X7_habit N σ x1 x2 x3 x4).map (fun r => ((some (.inl (.inl r.1)), r.2) : yR)) = _
  rw [h]
  rfl
noncomputable def tb_X7_habit (N : Nat) : yTb := ([(10, 7, 0, 3), (141, 4, 9, 3)], [], [], [(118, 2, 4, F_X4_isHouse N), (150, 2, 4, F_X4_isDeed N), (177, 5, 4, F_X4_setHabit N)], [(49, 3, F_X7_within N), (174, 1, F_X7_isKind N)], [], [])
abbrev G_X7_habit (N : Nat) (X : zXT) (sh : List yH) (l : Launch) (rm : Room) : yC → yR → Prop := yGoes X vwCl yct sh l rm cX7_habit 6 wsX7_habit RX7 (tb_X7_habit N) pr_X7_habit 1
set_option maxRecDepth 100000 in
set_option maxHeartbeats 4000000 in
theorem t_X7_habit_b40 {N : Nat} {X : zXT} {sh : List yH} {l : Launch} {rm : Room} (σ : yS) (res : Int × yS) (h : f_X7_habit_b40 N σ = some res) : G_X7_habit N X sh l rm (40, [], [], σ) (some (.inl (.inl res.1)), res.2) := by
  unfold f_X7_habit_b40 at h
  refine yG_n (n := 1) (C' := (41, [], [.inl (.inl ((-1)))], σ)) rfl ?_
  have h := Option.some.inj h
  subst h
  dsimp only
  exact yG_r rfl rfl
set_option maxRecDepth 100000 in
set_option maxHeartbeats 4000000 in
theorem t_X7_habit {N : Nat} {X : zXT} {sh : List yH} {l : Launch} {rm : Room} (σ : yS) (x1 : Int) (x2 : Int) (x3 : Int) (x4 : Int) (res : Int × yS) (h : f_X7_habit N σ x1 x2 x3 x4 = some res) : G_X7_habit N X sh l rm (0, [(0, .inr (.inl 7, 0)), (1, .inl (.inl x1)), (2, .inl (.inl x2)), (3, .inl (.inl x3)), (4, .inl (.inl x4))], [], σ) (some (.inl (.inl res.1)), res.2) := by
  unfold f_X7_habit at h
  refine yG_n (n := 3) (C' := (5, [(0, .inr (.inl 7, 0)), (1, .inl (.inl x1)), (2, .inl (.inl x2)), (3, .inl (.inl x3)), (4, .inl (.inl x4))], [.inl (.inl x1), .inr (.inl 4, 17)], σ)) rfl ?_
  cases hr1 : f_X4_isHouse N σ 17 x1 with
  | none => rw [hr1] at h; dsimp only at h; cases h
  | some r1 =>
    rw [hr1] at h
    dsimp only at h
    refine yG_c (C1 := (8, [(0, .inr (.inl 7, 0)), (1, .inl (.inl x1)), (2, .inl (.inl x2)), (3, .inl (.inl x3)), (4, .inl (.inl x4))], [.inl (.inl r1.1)], r1.2)) rfl (e_X4_isHouse hr1) rfl ?_
    cases hg2 : ycP .eq r1.1 0 with
    | true =>
      rw [hg2] at h
      dsimp only [cond] at h
      refine yG_t (C' := (40, [(0, .inr (.inl 7, 0)), (1, .inl (.inl x1)), (2, .inl (.inl x2)), (3, .inl (.inl x3)), (4, .inl (.inl x4))], [], r1.2)) rfl hg2 ?_
      exact yG_w [] rfl (t_X7_habit_b40 r1.2 res h)
    | false =>
      rw [hg2] at h
      dsimp only [cond] at h
      refine yG_f (C' := (11, [(0, .inr (.inl 7, 0)), (1, .inl (.inl x1)), (2, .inl (.inl x2)), (3, .inl (.inl x3)), (4, .inl (.inl x4))], [], r1.2)) rfl hg2 ?_
      refine yG_n (n := 1) (C' := (12, [(0, .inr (.inl 7, 0)), (1, .inl (.inl x1)), (2, .inl (.inl x2)), (3, .inl (.inl x3)), (4, .inl (.inl x4))], [.inl (.inl x2)], r1.2)) rfl ?_
      cases hr3 : f_X7_isKind N r1.2 x2 with
      | none => rw [hr3] at h; dsimp only at h; cases h
      | some r2 =>
        rw [hr3] at h
        dsimp only at h
        refine yG_c (C1 := (15, [(0, .inr (.inl 7, 0)), (1, .inl (.inl x1)), (2, .inl (.inl x2)), (3, .inl (.inl x3)), (4, .inl (.inl x4))], [.inl (.inl r2.1)], r2.2)) rfl (e_X7_isKind hr3) rfl ?_
        cases hg4 : ycP .eq r2.1 0 with
        | true =>
          rw [hg4] at h
          dsimp only [cond] at h
          refine yG_t (C' := (40, [(0, .inr (.inl 7, 0)), (1, .inl (.inl x1)), (2, .inl (.inl x2)), (3, .inl (.inl x3)), (4, .inl (.inl x4))], [], r2.2)) rfl hg4 ?_
          exact yG_w [] rfl (t_X7_habit_b40 r2.2 res h)
        | false =>
          rw [hg4] at h
          dsimp only [cond] at h
          refine yG_f (C' := (18, [(0, .inr (.inl 7, 0)), (1, .inl (.inl x1)), (2, .inl (.inl x2)), (3, .inl (.inl x3)), (4, .inl (.inl x4))], [], r2.2)) rfl hg4 ?_
          refine yG_n (n := 3) (C' := (23, [(0, .inr (.inl 7, 0)), (1, .inl (.inl x1)), (2, .inl (.inl x2)), (3, .inl (.inl x3)), (4, .inl (.inl x4))], [.inl (.inl x3), .inr (.inl 4, 17)], r2.2)) rfl ?_
          cases hr5 : f_X4_isDeed N r2.2 17 x3 with
          | none => rw [hr5] at h; dsimp only at h; cases h
          | some r3 =>
            rw [hr5] at h
            dsimp only at h
            refine yG_c (C1 := (26, [(0, .inr (.inl 7, 0)), (1, .inl (.inl x1)), (2, .inl (.inl x2)), (3, .inl (.inl x3)), (4, .inl (.inl x4))], [.inl (.inl r3.1)], r3.2)) rfl (e_X4_isDeed hr5) rfl ?_
            cases hg6 : ycP .eq r3.1 0 with
            | true =>
              rw [hg6] at h
              dsimp only [cond] at h
              refine yG_t (C' := (40, [(0, .inr (.inl 7, 0)), (1, .inl (.inl x1)), (2, .inl (.inl x2)), (3, .inl (.inl x3)), (4, .inl (.inl x4))], [], r3.2)) rfl hg6 ?_
              exact yG_w [] rfl (t_X7_habit_b40 r3.2 res h)
            | false =>
              rw [hg6] at h
              dsimp only [cond] at h
              refine yG_f (C' := (29, [(0, .inr (.inl 7, 0)), (1, .inl (.inl x1)), (2, .inl (.inl x2)), (3, .inl (.inl x3)), (4, .inl (.inl x4))], [], r3.2)) rfl hg6 ?_
              refine yG_n (n := 3) (C' := (34, [(0, .inr (.inl 7, 0)), (1, .inl (.inl x1)), (2, .inl (.inl x2)), (3, .inl (.inl x3)), (4, .inl (.inl x4))], [.inl (.inl 10), .inl (.inl 0), .inl (.inl x4)], r3.2)) rfl ?_
              cases hr7 : f_X7_within N r3.2 x4 0 10 with
              | none => rw [hr7] at h; dsimp only at h; cases h
              | some r4 =>
                rw [hr7] at h
                dsimp only at h
                refine yG_c (C1 := (37, [(0, .inr (.inl 7, 0)), (1, .inl (.inl x1)), (2, .inl (.inl x2)), (3, .inl (.inl x3)), (4, .inl (.inl x4))], [.inl (.inl r4.1)], r4.2)) rfl (e_X7_within hr7) rfl ?_
                cases hg8 : ycP .ne r4.1 0 with
                | true =>
                  rw [hg8] at h
                  dsimp only [cond] at h
                  refine yG_t (C' := (42, [(0, .inr (.inl 7, 0)), (1, .inl (.inl x1)), (2, .inl (.inl x2)), (3, .inl (.inl x3)), (4, .inl (.inl x4))], [], r4.2)) rfl hg8 ?_
                  refine yG_n (n := 4) (C' := (50, [(0, .inr (.inl 7, 0)), (1, .inl (.inl x1)), (2, .inl (.inl x2)), (3, .inl (.inl x3)), (4, .inl (.inl x4))], [.inl (.inl x1), .inr (.inr (0, 7), 23)], r4.2)) rfl ?_
                  cases hg9 : yin x1 7 with
                  | false => rw [hg9] at h; dsimp only [cond] at h; cases h
                  | true =>
                    rw [hg9] at h
                    dsimp only [cond] at h
                    refine yG_t (C' := (51, [(0, .inr (.inl 7, 0)), (1, .inl (.inl x1)), (2, .inl (.inl x2)), (3, .inl (.inl x3)), (4, .inl (.inl x4))], [.inl (.inl (r4.2.1 23 x1.toNat))], r4.2)) rfl hg9 ?_
                    refine yG_n (n := 7) (C' := (62, [(5, .inl (.inl (r4.2.1 23 x1.toNat))), (0, .inr (.inl 7, 0)), (1, .inl (.inl x1)), (2, .inl (.inl x2)), (3, .inl (.inl x3)), (4, .inl (.inl x4))], [.inl (.inl x4), .inl (.inl x3), .inl (.inl x2), .inl (.inl x1), .inr (.inl 4, 17)], r4.2)) rfl ?_
                    cases hr10 : f_X4_setHabit N r4.2 17 x1 x2 x3 x4 with
                    | none => rw [hr10] at h; dsimp only at h; cases h
                    | some r5 =>
                      rw [hr10] at h
                      dsimp only at h
                      refine yG_c (C1 := (65, [(5, .inl (.inl (r4.2.1 23 x1.toNat))), (0, .inr (.inl 7, 0)), (1, .inl (.inl x1)), (2, .inl (.inl x2)), (3, .inl (.inl x3)), (4, .inl (.inl x4))], [], r5.2)) rfl (e_X4_setHabit hr10) rfl ?_
                      refine yG_n (n := 1) (C' := (67, [(5, .inl (.inl (r4.2.1 23 x1.toNat))), (0, .inr (.inl 7, 0)), (1, .inl (.inl x1)), (2, .inl (.inl x2)), (3, .inl (.inl x3)), (4, .inl (.inl x4))], [.inl (.inl (r4.2.1 23 x1.toNat))], r5.2)) rfl ?_
                      have h := Option.some.inj h
                      subst h
                      dsimp only
                      exact yG_r rfl rfl
                | false =>
                  rw [hg8] at h
                  dsimp only [cond] at h
                  refine yG_f (C' := (40, [(0, .inr (.inl 7, 0)), (1, .inl (.inl x1)), (2, .inl (.inl x2)), (3, .inl (.inl x3)), (4, .inl (.inl x4))], [], r4.2)) rfl hg8 ?_
                  exact yG_w [] rfl (t_X7_habit_b40 r4.2 res h)
set_option maxRecDepth 100000 in
set_option maxHeartbeats 4000000 in
theorem m_X7_habit {N : Nat} {X : zXT} (hX : zXok X) (hN : zXn X) (l : Launch) {sh : List yH} : yMet X vwCl yct sh l yX7_habit wsX7_habit { frames := 3, cells := 0, slots := 0, locals := 107 } (F_X7_habit N) :=
  ymeth (tb := tb_X7_habit N) (pr := pr_X7_habit) (rt := 1) (own := RX7) hX (by decide +kernel) rfl rfl ⟨Nat.le_of_ble_eq_true rfl, Nat.le_of_ble_eq_true rfl⟩
    (zfl_all (List.forall_mem_cons.mpr ⟨zfl_X7 (fun w h => List.mem_cons_of_mem _ (List.mem_append_left _ (List.mem_append_right _ h))) (List.mem_of_getElem? (i := 1) rfl) (by decide) (by decide), List.forall_mem_cons.mpr ⟨zfl_X4 (fun w h => List.mem_cons_of_mem _ (List.mem_append_right _ h)) (List.mem_of_getElem? (i := 2) rfl) (by decide) (by decide), fun _ h => absurd h List.not_mem_nil⟩⟩))
    (zco_all (fun _ h => absurd h List.not_mem_nil)) (zlc_all (fun _ h => absurd h List.not_mem_nil))
    (List.forall_mem_cons.mpr ⟨ycal_V hX (m_X4_isHouse hX hN l) rfl (fun s args hts => cwV 1 hts gX7_habit_X4_isHouse rfl rfl rfl (by decide +kernel) ⟨Nat.le_of_ble_eq_true rfl, Nat.le_of_ble_eq_true rfl⟩), List.forall_mem_cons.mpr ⟨ycal_V hX (m_X4_isDeed hX hN l) rfl (fun s args hts => cwV 1 hts gX7_habit_X4_isDeed rfl rfl rfl (by decide +kernel) ⟨Nat.le_of_ble_eq_true rfl, Nat.le_of_ble_eq_true rfl⟩), List.forall_mem_cons.mpr ⟨ycal_V hX (m_X4_setHabit hX hN l) rfl (fun s args hts => cwV 4 hts gX7_habit_X4_setHabit rfl rfl rfl (by decide +kernel) ⟨Nat.le_of_ble_eq_true rfl, Nat.le_of_ble_eq_true rfl⟩), fun _ h => absurd h List.not_mem_nil⟩⟩⟩)
    (List.forall_mem_cons.mpr ⟨ycal_S hX (m_X7_within hX hN l) (fun s args hts => va_cwS 3 hts gX7_habit_X7_within rfl rfl rfl (by decide +kernel) ⟨Nat.le_of_ble_eq_true rfl, Nat.le_of_ble_eq_true rfl⟩), List.forall_mem_cons.mpr ⟨ycal_S hX (m_X7_isKind hX hN l) (fun s args hts => va_cwS 1 hts gX7_habit_X7_isKind rfl rfl rfl (by decide +kernel) ⟨Nat.le_of_ble_eq_true rfl, Nat.le_of_ble_eq_true rfl⟩), fun _ h => absurd h List.not_mem_nil⟩⟩)
    (zmm_all (fun _ h => absurd h List.not_mem_nil)) (fun _ h => absurd h List.not_mem_nil) (zpr_all hp_X7_habit) (fun as σ res h => by
      unfold F_X7_habit at h
      split at h
      · rename_i x1 x2 x3 x4
        cases hr : f_X7_habit N σ x1 x2 x3 x4 with
        | none => rw [hr] at h; cases h
        | some r =>
          rw [hr] at h
          cases h
          exact ⟨Nat.le_of_ble_eq_true rfl, t_X7_habit σ x1 x2 x3 x4 r hr⟩
      · cases h)
end
