noncomputable def pr_X7_house : List (Nat × Instr × Nat) := [(0, .aload_n 0, 1), (1, .getfield 10, 3), (4, .iload_n 1, 1), (5, .invokevirtual 118, 3), (8, .ifCond .ne 5, 3), (11, .iconst (-1), 1), (12, .ireturn, 1), (13, .iload_n 2, 1), (14, .tableswitch 100 0 5 #[38, 48, 58, 70, 80, 90], 38), (52, .aload_n 0, 1), (53, .getfield 10, 3), (56, .getfield 121, 3), (59, .iload_n 1, 1), (60, .iaload, 1), (61, .ireturn, 1), (62, .aload_n 0, 1), (63, .getfield 10, 3), (66, .getfield 125, 3), (69, .iload_n 1, 1), (70, .iaload, 1), (71, .ireturn, 1), (72, .aload_n 0, 1), (73, .getfield 10, 3), (76, .getfield 128, 3), (79, .iload_n 1, 1), (80, .invokestatic 131, 3), (83, .ireturn, 1), (84, .aload_n 0, 1), (85, .getfield 10, 3), (88, .getfield 135, 3), (91, .iload_n 1, 1), (92, .iaload, 1), (93, .ireturn, 1), (94, .aload_n 0, 1), (95, .getfield 10, 3), (98, .getfield 138, 3), (101, .iload_n 1, 1), (102, .iaload, 1), (103, .ireturn, 1), (104, .aload_n 0, 1), (105, .getfield 10, 3), (108, .getfield 141, 3), (111, .iload_n 1, 1), (112, .iaload, 1), (113, .ireturn, 1), (114, .iload_n 2, 1), (115, .bipush 10, 2), (117, .bipush 10, 2), (119, .aload_n 0, 1), (120, .getfield 10, 3), (123, .getfield 89, 3), (126, .iadd, 1), (127, .iconst 1, 1), (128, .isub, 1), (129, .invokestatic 49, 3), (132, .ifCond .ne 5, 3), (135, .iconst (-1), 1), (136, .ireturn, 1), (137, .aload_n 0, 1), (138, .getfield 10, 3), (141, .getfield 144, 3), (144, .iload_n 1, 1), (145, .iload_n 2, 1), (146, .bipush 10, 2), (148, .isub, 1), (149, .invokestatic 147, 3), (152, .iaload, 1), (153, .ireturn, 1)]
set_option maxRecDepth 100000 in
theorem hp_X7_house : pr_X7_house.all (fun x => decide (decode cX7_house x.1 = .ok x.2)) = true := by decide +kernel
noncomputable def f_X7_house (N : Nat) (σ : yS) (x1 : Int) (x2 : Int) : Option (Int × yS) :=
  match f_X4_isHouse N σ 17 x1 with
  | none => none
  | some r1 => bif ycP .ne r1.1 0 then
      bif zle x2 0 && zle 0 x2 then
        bif yin x1 7 then
          some (r1.2.1 19 x1.toNat, r1.2)
        else none
      else
        bif zle x2 1 && zle 1 x2 then
        bif yin x1 7 then
          some (r1.2.1 20 x1.toNat, r1.2)
        else none
      else
        bif zle x2 2 && zle 2 x2 then
        match f_X7_bit N r1.2 (r1.2.1 17 6) x1 with
        | none => none
        | some r2 => some (r2.1, r2.2)
      else
        bif zle x2 3 && zle 3 x2 then
        bif yin x1 7 then
          some (r1.2.1 21 x1.toNat, r1.2)
        else none
      else
        bif zle x2 4 && zle 4 x2 then
        bif yin x1 7 then
          some (r1.2.1 22 x1.toNat, r1.2)
        else none
      else
        bif zle x2 5 && zle 5 x2 then
        bif yin x1 7 then
          some (r1.2.1 23 x1.toNat, r1.2)
        else none
      else
        match f_X7_within N r1.2 x2 10 (ysu (yad 10 (r1.2.1 17 2)) 1) with
        | none => none
        | some r3 => bif ycP .ne r3.1 0 then
            match f_X7_doneAt N r3.2 x1 (ysu x2 10) with
            | none => none
            | some r4 => bif yin r4.1 35 then
                some (r4.2.1 24 r4.1.toNat, r4.2)
              else none
          else
            some ((-1), r3.2)
    else
      some ((-1), r1.2)
noncomputable def F_X7_house (N : Nat) : yF := fun as σ => match as with
  | [.inr (.inl 7, 0), .inl (.inl x1), .inl (.inl x2)] => (f_X7_house N σ x1 x2).map (fun r => (some (.inl (.inl r.1)), r.2))
  | _ => none
theorem e_X7_house {N : Nat} {σ : yS} {x1 : Int} {x2 : Int} {r : Int × yS} (h : f_X7_house N σ x1 x2 = some r) : F_X7_house N [.inr (.inl 7, 0), .inl (.inl x1), .inl (.inl x2)] σ = some (some (.inl (.inl r.1)), r.2) := by
  show (f_X7_house N σ x1 x2).map (fun r => ((some (.inl (.inl r.1)), r.2) : yR)) = _
  rw [h]
  rfl
noncomputable def tb_X7_house (N : Nat) : yTb := ([(10, 7, 0, 3), (89, 4, 2, 0), (121, 4, 4, 3), (125, 4, 5, 3), (128, 4, 6, 0), (135, 4, 7, 3), (138, 4, 8, 3), (141, 4, 9, 3), (144, 4, 10, 3)], [], [], [(118, 2, 4, F_X4_isHouse N)], [(49, 3, F_X7_within N), (131, 2, F_X7_bit N), (147, 2, F_X7_doneAt N)], [], [])
abbrev G_X7_house (N : Nat) (X : zXT) (sh : List yH) (l : Launch) (rm : Room) : yC → yR → Prop := yGoes X vwCl yct sh l rm cX7_house 3 wsX7_house RX7 (tb_X7_house N) pr_X7_house 1
set_option maxRecDepth 100000 in
set_option maxHeartbeats 4000000 in
theorem t_X7_house {N : Nat} {X : zXT} {sh : List yH} {l : Launch} {rm : Room} (σ : yS) (x1 : Int) (x2 : Int) (res : Int × yS) (h : f_X7_house N σ x1 x2 = some res) : G_X7_house N X sh l rm (0, [(0, .inr (.inl 7, 0)), (1, .inl (.inl x1)), (2, .inl (.inl x2))], [], σ) (some (.inl (.inl res.1)), res.2) := by
  unfold f_X7_house at h
  refine yG_n (n := 3) (C' := (5, [(0, .inr (.inl 7, 0)), (1, .inl (.inl x1)), (2, .inl (.inl x2))], [.inl (.inl x1), .inr (.inl 4, 17)], σ)) rfl ?_
  cases hr1 : f_X4_isHouse N σ 17 x1 with
  | none => rw [hr1] at h; dsimp only at h; cases h
  | some r1 =>
    rw [hr1] at h
    dsimp only at h
    refine yG_c (C1 := (8, [(0, .inr (.inl 7, 0)), (1, .inl (.inl x1)), (2, .inl (.inl x2))], [.inl (.inl r1.1)], r1.2)) rfl (e_X4_isHouse hr1) rfl ?_
    cases hg2 : ycP .ne r1.1 0 with
    | true =>
      rw [hg2] at h
      dsimp only [cond] at h
      refine yG_t (C' := (13, [(0, .inr (.inl 7, 0)), (1, .inl (.inl x1)), (2, .inl (.inl x2))], [], r1.2)) rfl hg2 ?_
      refine yG_n (n := 1) (C' := (14, [(0, .inr (.inl 7, 0)), (1, .inl (.inl x1)), (2, .inl (.inl x2))], [.inl (.inl x2)], r1.2)) rfl ?_
      refine yG_n (n := 1) (C' := ((bif zle x2 0 && zle 0 x2 then 52 else (bif zle x2 1 && zle 1 x2 then 62 else (bif zle x2 2 && zle 2 x2 then 72 else (bif zle x2 3 && zle 3 x2 then 84 else (bif zle x2 4 && zle 4 x2 then 94 else (bif zle x2 5 && zle 5 x2 then 104 else 114)))))), [(0, .inr (.inl 7, 0)), (1, .inl (.inl x1)), (2, .inl (.inl x2))], [], r1.2)) rfl ?_
      cases hg3 : (zle x2 0 && zle 0 x2) with
      | true =>
        rw [hg3] at h
        dsimp only [cond] at h
        show G_X7_house N X sh l rm (52, [(0, .inr (.inl 7, 0)), (1, .inl (.inl x1)), (2, .inl (.inl x2))], [], r1.2) ((some (.inl (.inl res.1)), res.2))
        refine yG_n (n := 4) (C' := (60, [(0, .inr (.inl 7, 0)), (1, .inl (.inl x1)), (2, .inl (.inl x2))], [.inl (.inl x1), .inr (.inr (0, 7), 19)], r1.2)) rfl ?_
        cases hg4 : yin x1 7 with
        | false => rw [hg4] at h; dsimp only [cond] at h; cases h
        | true =>
          rw [hg4] at h
          dsimp only [cond] at h
          refine yG_t (C' := (61, [(0, .inr (.inl 7, 0)), (1, .inl (.inl x1)), (2, .inl (.inl x2))], [.inl (.inl (r1.2.1 19 x1.toNat))], r1.2)) rfl hg4 ?_
          have h := Option.some.inj h
          subst h
          dsimp only
          exact yG_r rfl rfl
      | false =>
        rw [hg3] at h
        dsimp only [cond] at h
        show G_X7_house N X sh l rm ((bif zle x2 1 && zle 1 x2 then 62 else (bif zle x2 2 && zle 2 x2 then 72 else (bif zle x2 3 && zle 3 x2 then 84 else (bif zle x2 4 && zle 4 x2 then 94 else (bif zle x2 5 && zle 5 x2 then 104 else 114))))), [(0, .inr (.inl 7, 0)), (1, .inl (.inl x1)), (2, .inl (.inl x2))], [], r1.2) (some (.inl (.inl res.1)), res.2)
        cases hg5 : (zle x2 1 && zle 1 x2) with
        | true =>
          rw [hg5] at h
          dsimp only [cond] at h
          show G_X7_house N X sh l rm (62, [(0, .inr (.inl 7, 0)), (1, .inl (.inl x1)), (2, .inl (.inl x2))], [], r1.2) ((some (.inl (.inl res.1)), res.2))
          refine yG_n (n := 4) (C' := (70, [(0, .inr (.inl 7, 0)), (1, .inl (.inl x1)), (2, .inl (.inl x2))], [.inl (.inl x1), .inr (.inr (0, 7), 20)], r1.2)) rfl ?_
          cases hg6 : yin x1 7 with
          | false => rw [hg6] at h; dsimp only [cond] at h; cases h
          | true =>
            rw [hg6] at h
            dsimp only [cond] at h
            refine yG_t (C' := (71, [(0, .inr (.inl 7, 0)), (1, .inl (.inl x1)), (2, .inl (.inl x2))], [.inl (.inl (r1.2.1 20 x1.toNat))], r1.2)) rfl hg6 ?_
            have h := Option.some.inj h
            subst h
            dsimp only
            exact yG_r rfl rfl
        | false =>
          rw [hg5] at h
          dsimp only [cond] at h
          show G_X7_house N X sh l rm ((bif zle x2 2 && zle 2 x2 then 72 else (bif zle x2 3 && zle 3 x2 then 84 else (bif zle x2 4 && zle 4 x2 then 94 else (bif zle x2 5 && zle 5 x2 then 104 else 114)))), [(0, .inr (.inl 7, 0)), (1, .inl (.inl x1)), (2, .inl (.inl x2))], [], r1.2) (some (.inl (.inl res.1)), res.2)
          cases hg7 : (zle x2 2 && zle 2 x2) with
          | true =>
            rw [hg7] at h
            dsimp only [cond] at h
            show G_X7_house N X sh l rm (72, [(0, .inr (.inl 7, 0)), (1, .inl (.inl x1)), (2, .inl (.inl x2))], [], r1.2) ((some (.inl (.inl res.1)), res.2))
            refine yG_n (n := 4) (C' := (80, [(0, .inr (.inl 7, 0)), (1, .inl (.inl x1)), (2, .inl (.inl x2))], [.inl (.inl x1), .inl (.inl (r1.2.1 17 6))], r1.2)) rfl ?_
            cases hr8 : f_X7_bit N r1.2 (r1.2.1 17 6) x1 with
            | none => rw [hr8] at h; dsimp only at h; cases h
            | some r2 =>
              rw [hr8] at h
              dsimp only at h
              refine yG_c (C1 := (83, [(0, .inr (.inl 7, 0)), (1, .inl (.inl x1)), (2, .inl (.inl x2))], [.inl (.inl r2.1)], r2.2)) rfl (e_X7_bit hr8) rfl ?_
              have h := Option.some.inj h
              subst h
              dsimp only
              exact yG_r rfl rfl
          | false =>
            rw [hg7] at h
            dsimp only [cond] at h
            show G_X7_house N X sh l rm ((bif zle x2 3 && zle 3 x2 then 84 else (bif zle x2 4 && zle 4 x2 then 94 else (bif zle x2 5 && zle 5 x2 then 104 else 114))), [(0, .inr (.inl 7, 0)), (1, .inl (.inl x1)), (2, .inl (.inl x2))], [], r1.2) (some (.inl (.inl res.1)), res.2)
            cases hg9 : (zle x2 3 && zle 3 x2) with
            | true =>
              rw [hg9] at h
              dsimp only [cond] at h
              show G_X7_house N X sh l rm (84, [(0, .inr (.inl 7, 0)), (1, .inl (.inl x1)), (2, .inl (.inl x2))], [], r1.2) ((some (.inl (.inl res.1)), res.2))
              refine yG_n (n := 4) (C' := (92, [(0, .inr (.inl 7, 0)), (1, .inl (.inl x1)), (2, .inl (.inl x2))], [.inl (.inl x1), .inr (.inr (0, 7), 21)], r1.2)) rfl ?_
              cases hg10 : yin x1 7 with
              | false => rw [hg10] at h; dsimp only [cond] at h; cases h
              | true =>
                rw [hg10] at h
                dsimp only [cond] at h
                refine yG_t (C' := (93, [(0, .inr (.inl 7, 0)), (1, .inl (.inl x1)), (2, .inl (.inl x2))], [.inl (.inl (r1.2.1 21 x1.toNat))], r1.2)) rfl hg10 ?_
                have h := Option.some.inj h
                subst h
                dsimp only
                exact yG_r rfl rfl
            | false =>
              rw [hg9] at h
              dsimp only [cond] at h
              show G_X7_house N X sh l rm ((bif zle x2 4 && zle 4 x2 then 94 else (bif zle x2 5 && zle 5 x2 then 104 else 114)), [(0, .inr (.inl 7, 0)), (1, .inl (.inl x1)), (2, .inl (.inl x2))], [], r1.2) (some (.inl (.inl res.1)), res.2)
              cases hg11 : (zle x2 4 && zle 4 x2) with
              | true =>
                rw [hg11] at h
                dsimp only [cond] at h
                show G_X7_house N X sh l rm (94, [(0, .inr (.inl 7, 0)), (1, .inl (.inl x1)), (2, .inl (.inl x2))], [], r1.2) ((some (.inl (.inl res.1)), res.2))
                refine yG_n (n := 4) (C' := (102, [(0, .inr (.inl 7, 0)), (1, .inl (.inl x1)), (2, .inl (.inl x2))], [.inl (.inl x1), .inr (.inr (0, 7), 22)], r1.2)) rfl ?_
                cases hg12 : yin x1 7 with
                | false => rw [hg12] at h; dsimp only [cond] at h; cases h
                | true =>
                  rw [hg12] at h
                  dsimp only [cond] at h
                  refine yG_t (C' := (103, [(0, .inr (.inl 7, 0)), (1, .inl (.inl x1)), (2, .inl (.inl x2))], [.inl (.inl (r1.2.1 22 x1.toNat))], r1.2)) rfl hg12 ?_
                  have h := Option.some.inj h
                  subst h
                  dsimp only
                  exact yG_r rfl rfl
              | false =>
                rw [hg11] at h
                dsimp only [cond] at h
                show G_X7_house N X sh l rm ((bif zle x2 5 && zle 5 x2 then 104 else 114), [(0, .inr (.inl 7, 0)), (1, .inl (.inl x1)), (2, .inl (.inl x2))], [], r1.2) (some (.inl (.inl res.1)), res.2)
                cases hg13 : (zle x2 5 && zle 5 x2) with
                | true =>
                  rw [hg13] at h
                  dsimp only [cond] at h
                  show G_X7_house N X sh l rm (104, [(0, .inr (.inl 7, 0)), (1, .inl (.inl x1)), (2, .inl (.inl x2))], [], r1.2) ((some (.inl (.inl res.1)), res.2))
                  refine yG_n (n := 4) (C' := (112, [(0, .inr (.inl 7, 0)), (1, .inl (.inl x1)), (2, .inl (.inl x2))], [.inl (.inl x1), .inr (.inr (0, 7), 23)], r1.2)) rfl ?_
                  cases hg14 : yin x1 7 with
                  | false => rw [hg14] at h; dsimp only [cond] at h; cases h
                  | true =>
                    rw [hg14] at h
                    dsimp only [cond] at h
                    refine yG_t (C' := (113, [(0, .inr (.inl 7, 0)), (1, .inl (.inl x1)), (2, .inl (.inl x2))], [.inl (.inl (r1.2.1 23 x1.toNat))], r1.2)) rfl hg14 ?_
                    have h := Option.some.inj h
                    subst h
                    dsimp only
                    exact yG_r rfl rfl
                | false =>
                  rw [hg13] at h
                  dsimp only [cond] at h
                  show G_X7_house N X sh l rm (114, [(0, .inr (.inl 7, 0)), (1, .inl (.inl x1)), (2, .inl (.inl x2))], [], r1.2) (some (.inl (.inl res.1)), res.2)
                  refine yG_n (n := 9) (C' := (129, [(0, .inr (.inl 7, 0)), (1, .inl (.inl x1)), (2, .inl (.inl x2))], [.inl (.inl (ysu (yad 10 (r1.2.1 17 2)) 1)), .inl (.inl 10), .inl (.inl x2)], r1.2)) rfl ?_
                  cases hr15 : f_X7_within N r1.2 x2 10 (ysu (yad 10 (r1.2.1 17 2)) 1) with
                  | none => rw [hr15] at h; dsimp only at h; cases h
                  | some r3 =>
                    rw [hr15] at h
                    dsimp only at h
                    refine yG_c (C1 := (132, [(0, .inr (.inl 7, 0)), (1, .inl (.inl x1)), (2, .inl (.inl x2))], [.inl (.inl r3.1)], r3.2)) rfl (e_X7_within hr15) rfl ?_
                    cases hg16 : ycP .ne r3.1 0 with
                    | true =>
                      rw [hg16] at h
                      dsimp only [cond] at h
                      refine yG_t (C' := (137, [(0, .inr (.inl 7, 0)), (1, .inl (.inl x1)), (2, .inl (.inl x2))], [], r3.2)) rfl hg16 ?_
                      refine yG_n (n := 7) (C' := (149, [(0, .inr (.inl 7, 0)), (1, .inl (.inl x1)), (2, .inl (.inl x2))], [.inl (.inl (ysu x2 10)), .inl (.inl x1), .inr (.inr (0, 35), 24)], r3.2)) rfl ?_
                      cases hr17 : f_X7_doneAt N r3.2 x1 (ysu x2 10) with
                      | none => rw [hr17] at h; dsimp only at h; cases h
                      | some r4 =>
                        rw [hr17] at h
                        dsimp only at h
                        refine yG_c (C1 := (152, [(0, .inr (.inl 7, 0)), (1, .inl (.inl x1)), (2, .inl (.inl x2))], [.inl (.inl r4.1), .inr (.inr (0, 35), 24)], r4.2)) rfl (e_X7_doneAt hr17) rfl ?_
                        cases hg18 : yin r4.1 35 with
                        | false => rw [hg18] at h; dsimp only [cond] at h; cases h
                        | true =>
                          rw [hg18] at h
                          dsimp only [cond] at h
                          refine yG_t (C' := (153, [(0, .inr (.inl 7, 0)), (1, .inl (.inl x1)), (2, .inl (.inl x2))], [.inl (.inl (r4.2.1 24 r4.1.toNat))], r4.2)) rfl hg18 ?_
                          have h := Option.some.inj h
                          subst h
                          dsimp only
                          exact yG_r rfl rfl
                    | false =>
                      rw [hg16] at h
                      dsimp only [cond] at h
                      refine yG_f (C' := (135, [(0, .inr (.inl 7, 0)), (1, .inl (.inl x1)), (2, .inl (.inl x2))], [], r3.2)) rfl hg16 ?_
                      refine yG_n (n := 1) (C' := (136, [(0, .inr (.inl 7, 0)), (1, .inl (.inl x1)), (2, .inl (.inl x2))], [.inl (.inl ((-1)))], r3.2)) rfl ?_
                      have h := Option.some.inj h
                      subst h
                      dsimp only
                      exact yG_r rfl rfl
    | false =>
      rw [hg2] at h
      dsimp only [cond] at h
      refine yG_f (C' := (11, [(0, .inr (.inl 7, 0)), (1, .inl (.inl x1)), (2, .inl (.inl x2))], [], r1.2)) rfl hg2 ?_
      refine yG_n (n := 1) (C' := (12, [(0, .inr (.inl 7, 0)), (1, .inl (.inl x1)), (2, .inl (.inl x2))], [.inl (.inl ((-1)))], r1.2)) rfl ?_
      have h := Option.some.inj h
      subst h
      dsimp only
      exact yG_r rfl rfl
set_option maxRecDepth 100000 in
set_option maxHeartbeats 4000000 in
theorem m_X7_house {N : Nat} {X : zXT} (hX : zXok X) (hN : zXn X) (l : Launch) {sh : List yH} : yMet X vwCl yct sh l yX7_house wsX7_house { frames := 3, cells := 0, slots := 0, locals := 107 } (F_X7_house N) :=
  ymeth (tb := tb_X7_house N) (pr := pr_X7_house) (rt := 1) (own := RX7) hX (by decide +kernel) rfl rfl ⟨Nat.le_of_ble_eq_true rfl, Nat.le_of_ble_eq_true rfl⟩
    (zfl_all (List.forall_mem_cons.mpr ⟨zfl_X7 (fun w h => List.mem_cons_of_mem _ (List.mem_append_left _ (List.mem_append_right _ h))) (List.mem_of_getElem? (i := 1) rfl) (by decide) (by decide), List.forall_mem_cons.mpr ⟨zfl_X4 (fun w h => List.mem_cons_of_mem _ (List.mem_append_right _ h)) (List.mem_of_getElem? (i := 8) rfl) (by decide) (by decide), List.forall_mem_cons.mpr ⟨zfl_X4 (fun w h => List.mem_cons_of_mem _ (List.mem_append_right _ h)) (List.mem_of_getElem? (i := 2) rfl) (by decide) (by decide), List.forall_mem_cons.mpr ⟨zfl_X4 (fun w h => List.mem_cons_of_mem _ (List.mem_append_right _ h)) (List.mem_of_getElem? (i := 3) rfl) (by decide) (by decide), List.forall_mem_cons.mpr ⟨zfl_X4 (fun w h => List.mem_cons_of_mem _ (List.mem_append_right _ h)) (List.mem_of_getElem? (i := 4) rfl) (by decide) (by decide), List.forall_mem_cons.mpr ⟨zfl_X4 (fun w h => List.mem_cons_of_mem _ (List.mem_append_right _ h)) (List.mem_of_getElem? (i := 5) rfl) (by decide) (by decide), List.forall_mem_cons.mpr ⟨zfl_X4 (fun w h => List.mem_cons_of_mem _ (List.mem_append_right _ h)) (List.mem_of_getElem? (i := 6) rfl) (by decide) (by decide), List.forall_mem_cons.mpr ⟨zfl_X4 (fun w h => List.mem_cons_of_mem _ (List.mem_append_right _ h)) (List.mem_of_getElem? (i := 7) rfl) (by decide) (by decide), List.forall_mem_cons.mpr ⟨zfl_X4 (fun w h => List.mem_cons_of_mem _ (List.mem_append_right _ h)) (List.mem_of_getElem? (i := 9) rfl) (by decide) (by decide), fun _ h => absurd h List.not_mem_nil⟩⟩⟩⟩⟩⟩⟩⟩⟩))
    (zco_all (fun _ h => absurd h List.not_mem_nil)) (zlc_all (fun _ h => absurd h List.not_mem_nil))
    (List.forall_mem_cons.mpr ⟨ycal_V hX (m_X4_isHouse hX hN l) rfl (fun s args hts => cwV 1 hts gX7_house_X4_isHouse rfl rfl rfl (by decide +kernel) ⟨Nat.le_of_ble_eq_true rfl, Nat.le_of_ble_eq_true rfl⟩), fun _ h => absurd h List.not_mem_nil⟩)
    (List.forall_mem_cons.mpr ⟨ycal_S hX (m_X7_within hX hN l) (fun s args hts => va_cwS 3 hts gX7_house_X7_within rfl rfl rfl (by decide +kernel) ⟨Nat.le_of_ble_eq_true rfl, Nat.le_of_ble_eq_true rfl⟩), List.forall_mem_cons.mpr ⟨ycal_S hX (m_X7_bit hX hN l) (fun s args hts => va_cwS 2 hts gX7_house_X7_bit rfl rfl rfl (by decide +kernel) ⟨Nat.le_of_ble_eq_true rfl, Nat.le_of_ble_eq_true rfl⟩), List.forall_mem_cons.mpr ⟨ycal_S hX (m_X7_doneAt hX hN l) (fun s args hts => va_cwS 2 hts gX7_house_X7_doneAt rfl rfl rfl (by decide +kernel) ⟨Nat.le_of_ble_eq_true rfl, Nat.le_of_ble_eq_true rfl⟩), fun _ h => absurd h List.not_mem_nil⟩⟩⟩)
    (zmm_all (fun _ h => absurd h List.not_mem_nil)) (fun _ h => absurd h List.not_mem_nil) (zpr_all hp_X7_house) (fun as σ res h => by
      unfold F_X7_house at h
      split at h
      · rename_i x1 x2
        cases hr : f_X7_house N σ x1 x2 with
        | none => rw [hr] at h; cases h
        | some r =>
          rw [hr] at h
          cases h
          exact ⟨Nat.le_of_ble_eq_true rfl, t_X7_house σ x1 x2 r hr⟩
      · cases h)
noncomputable def pr_X7_isDepth : List (Nat × Instr × Nat) := [(0, .iload_n 0, 1), (1, .iconst 0, 1), (2, .iconst 3, 1), (3, .invokestatic 49, 3), (6, .ifCond .ne 9, 3), (9, .iload_n 0, 1), (10, .bipush 9, 2), (12, .if_icmp .ne 7, 3), (15, .iconst 1, 1), (16, .goto 4, 3), (19, .iconst 0, 1), (20, .ireturn, 1)]
set_option maxRecDepth 100000 in
theorem hp_X7_isDepth : pr_X7_isDepth.all (fun x => decide (decode cX7_isDepth x.1 = .ok x.2)) = true := by decide +kernel
noncomputable def f_X7_isDepth_b20 (N : Nat) (σ : yS) (s0 : Int) : Option (Int × yS) :=
  bif yb1 s0 then some (s0, σ) else none
noncomputable def f_X7_isDepth_b15 (N : Nat) (σ : yS) : Option (Int × yS) :=
  f_X7_isDepth_b20 N σ 1
noncomputable def f_X7_isDepth (N : Nat) (σ : yS) (x0 : Int) : Option (Int × yS) :=
  match f_X7_within N σ x0 0 3 with
  | none => none
  | some r1 => bif ycP .ne r1.1 0 then
      f_X7_isDepth_b15 N r1.2
    else
      bif ycP .ne x0 9 then
        f_X7_isDepth_b20 N r1.2 0
      else
        f_X7_isDepth_b15 N r1.2
noncomputable def F_X7_isDepth (N : Nat) : yF := fun as σ => match as with
  | [.inl (.inl x0)] => (f_X7_isDepth N σ x0).map (fun r => (some (.inl (.inl r.1)), r.2))
  | _ => none
theorem e_X7_isDepth {N : Nat} {σ : yS} {x0 : Int} {r : Int × yS} (h : f_X7_isDepth N σ x0 = some r) : F_X7_isDepth N [.inl (.inl x0)] σ = some (some (.inl (.inl r.1)), r.2) := by
  show (f_X7_isDepth N σ x0).map (fun r => ((some (.inl (.inl r.1)), r.2) : yR)) = _
  rw [h]
  rfl
noncomputable def tb_X7_isDepth (N : Nat) : yTb := ([], [], [], [], [(49, 3, F_X7_within N)], [], [])
abbrev G_X7_isDepth (N : Nat) (X : zXT) (sh : List yH) (l : Launch) (rm : Room) : yC → yR → Prop := yGoes X vwCl yct sh l rm cX7_isDepth 1 wsX7_isDepth RX7 (tb_X7_isDepth N) pr_X7_isDepth 2
set_option maxRecDepth 100000 in
set_option maxHeartbeats 4000000 in
theorem t_X7_isDepth_b20 {N : Nat} {X : zXT} {sh : List yH} {l : Launch} {rm : Room} (σ : yS) (s0 : Int) (res : Int × yS) (h : f_X7_isDepth_b20 N σ s0 = some res) : G_X7_isDepth N X sh l rm (20, [], [.inl (.inl s0)], σ) (some (.inl (.inl res.1)), res.2) := by
  unfold f_X7_isDepth_b20 at h
  cases hg1 : yb1 s0 with
  | false => rw [hg1] at h; dsimp only [cond] at h; cases h
  | true =>
    rw [hg1] at h
    dsimp only [cond] at h
    have h := Option.some.inj h
    subst h
    dsimp only
    exact yG_r rfl hg1
set_option maxRecDepth 100000 in
set_option maxHeartbeats 4000000 in
theorem t_X7_isDepth_b15 {N : Nat} {X : zXT} {sh : List yH} {l : Launch} {rm : Room} (σ : yS) (res : Int × yS) (h : f_X7_isDepth_b15 N σ = some res) : G_X7_isDepth N X sh l rm (15, [], [], σ) (some (.inl (.inl res.1)), res.2) := by
  unfold f_X7_isDepth_b15 at h
  refine yG_n (n := 2) (C' := (20, [], [.inl (.inl 1)], σ)) rfl ?_
  exact t_X7_isDepth_b20 σ 1 res h
set_option maxRecDepth 100000 in
set_option maxHeartbeats 4000000 in
theorem t_X7_isDepth {N : Nat} {X : zXT} {sh : List yH} {l : Launch} {rm : Room} (σ : yS) (x0 : Int) (res : Int × yS) (h : f_X7_isDepth N σ x0 = some res) : G_X7_isDepth N X sh l rm (0, [(0, .inl (.inl x0))], [], σ) (some (.inl (.inl res.1)), res.2) := by
  unfold f_X7_isDepth at h
  refine yG_n (n := 3) (C' := (3, [(0, .inl (.inl x0))], [.inl (.inl 3), .inl (.inl 0), .inl (.inl x0)], σ)) rfl ?_
  cases hr2 : f_X7_within N σ x0 0 3 with
  | none => rw [hr2] at h; dsimp only at h; cases h
  | some r1 =>
    rw [hr2] at h
    dsimp only at h
    refine yG_c (C1 := (6, [(0, .inl (.inl x0))], [.inl (.inl r1.1)], r1.2)) rfl (e_X7_within hr2) rfl ?_
    cases hg3 : ycP .ne r1.1 0 with
    | true =>
      rw [hg3] at h
      dsimp only [cond] at h
      refine yG_t (C' := (15, [(0, .inl (.inl x0))], [], r1.2)) rfl hg3 ?_
      exact yG_w [] rfl (t_X7_isDepth_b15 r1.2 res h)
    | false =>
      rw [hg3] at h
      dsimp only [cond] at h
      refine yG_f (C' := (9, [(0, .inl (.inl x0))], [], r1.2)) rfl hg3 ?_
      refine yG_n (n := 2) (C' := (12, [(0, .inl (.inl x0))], [.inl (.inl 9), .inl (.inl x0)], r1.2)) rfl ?_
      cases hg4 : ycP .ne x0 9 with
      | true =>
        rw [hg4] at h
        dsimp only [cond] at h
        refine yG_t (C' := (19, [(0, .inl (.inl x0))], [], r1.2)) rfl hg4 ?_
        refine yG_n (n := 1) (C' := (20, [(0, .inl (.inl x0))], [.inl (.inl 0)], r1.2)) rfl ?_
        exact yG_w [] rfl (t_X7_isDepth_b20 r1.2 0 res h)
      | false =>
        rw [hg4] at h
        dsimp only [cond] at h
        refine yG_f (C' := (15, [(0, .inl (.inl x0))], [], r1.2)) rfl hg4 ?_
        exact yG_w [] rfl (t_X7_isDepth_b15 r1.2 res h)
set_option maxRecDepth 100000 in
set_option maxHeartbeats 4000000 in
theorem m_X7_isDepth {N : Nat} {X : zXT} (hX : zXok X) (hN : zXn X) (l : Launch) {sh : List yH} : yMet X vwCl yct sh l yX7_isDepth wsX7_isDepth { frames := 2, cells := 0, slots := 0, locals := 86 } (F_X7_isDepth N) :=
  ymeth (tb := tb_X7_isDepth N) (pr := pr_X7_isDepth) (rt := 2) (own := RX7) hX (by decide +kernel) rfl rfl ⟨Nat.le_of_ble_eq_true rfl, Nat.le_of_ble_eq_true rfl⟩
    (zfl_all (fun _ h => absurd h List.not_mem_nil))
    (zco_all (fun _ h => absurd h List.not_mem_nil)) (zlc_all (fun _ h => absurd h List.not_mem_nil))
    (fun _ h => absurd h List.not_mem_nil)
    (List.forall_mem_cons.mpr ⟨ycal_S hX (m_X7_within hX hN l) (fun s args hts => va_cwS 3 hts gX7_isDepth_X7_within rfl rfl rfl (by decide +kernel) ⟨Nat.le_of_ble_eq_true rfl, Nat.le_of_ble_eq_true rfl⟩), fun _ h => absurd h List.not_mem_nil⟩)
    (zmm_all (fun _ h => absurd h List.not_mem_nil)) (fun _ h => absurd h List.not_mem_nil) (zpr_all hp_X7_isDepth) (fun as σ res h => by
      unfold F_X7_isDepth at h
      split at h
      · rename_i x0
        cases hr : f_X7_isDepth N σ x0 with
        | none => rw [hr] at h; cases h
        | some r =>
          rw [hr] at h
          cases h
          exact ⟨Nat.le_of_ble_eq_true rfl, t_X7_isDepth σ x0 r hr⟩
      · cases h)
noncomputable def pr_X7_isLane : List (Nat × Instr × Nat) := [(0, .iload_n 0, 1), (1, .iconst 0, 1), (2, .iconst 2, 1), (3, .invokestatic 49, 3), (6, .ireturn, 1)]
set_option maxRecDepth 100000 in
theorem hp_X7_isLane : pr_X7_isLane.all (fun x => decide (decode cX7_isLane x.1 = .ok x.2)) = true := by decide +kernel
noncomputable def f_X7_isLane (N : Nat) (σ : yS) (x0 : Int) : Option (Int × yS) :=
  match f_X7_within N σ x0 0 2 with
  | none => none
  | some r1 => bif yb1 r1.1 then some (r1.1, r1.2) else none
noncomputable def F_X7_isLane (N : Nat) : yF := fun as σ => match as with
  | [.inl (.inl x0)] => (f_X7_isLane N σ x0).map (fun r => (some (.inl (.inl r.1)), r.2))
  | _ => none
theorem e_X7_isLane {N : Nat} {σ : yS} {x0 : Int} {r : Int × yS} (h : f_X7_isLane N σ x0 = some r) : F_X7_isLane N [.inl (.inl x0)] σ = some (some (.inl (.inl r.1)), r.2) := by
  show (f_X7_isLane N σ x0).map (fun r => ((some (.inl (.inl r.1)), r.2) : yR)) = _
  rw [h]
  rfl
noncomputable def tb_X7_isLane (N : Nat) : yTb := ([], [], [], [], [(49, 3, F_X7_within N)], [], [])
abbrev G_X7_isLane (N : Nat) (X : zXT) (sh : List yH) (l : Launch) (rm : Room) : yC → yR → Prop := yGoes X vwCl yct sh l rm cX7_isLane 1 wsX7_isLane RX7 (tb_X7_isLane N) pr_X7_isLane 2
set_option maxRecDepth 100000 in
set_option maxHeartbeats 4000000 in
theorem t_X7_isLane {N : Nat} {X : zXT} {sh : List yH} {l : Launch} {rm : Room} (σ : yS) (x0 : Int) (res : Int × yS) (h : f_X7_isLane N σ x0 = some res) : G_X7_isLane N X sh l rm (0, [(0, .inl (.inl x0))], [], σ) (some (.inl (.inl res.1)), res.2) := by
  unfold f_X7_isLane at h
  refine yG_n (n := 3) (C' := (3, [(0, .inl (.inl x0))], [.inl (.inl 2), .inl (.inl 0), .inl (.inl x0)], σ)) rfl ?_
  cases hr1 : f_X7_within N σ x0 0 2 with
  | none => rw [hr1] at h; dsimp only at h; cases h
  | some r1 =>
    rw [hr1] at h
    dsimp only at h
    refine yG_c (C1 := (6, [(0, .inl (.inl x0))], [.inl (.inl r1.1)], r1.2)) rfl (e_X7_within hr1) rfl ?_
    cases hg2 : yb1 r1.1 with
    | false => rw [hg2] at h; dsimp only [cond] at h; cases h
    | true =>
      rw [hg2] at h
      dsimp only [cond] at h
      have h := Option.some.inj h
      subst h
      dsimp only
      exact yG_r rfl hg2
set_option maxRecDepth 100000 in
set_option maxHeartbeats 4000000 in
theorem m_X7_isLane {N : Nat} {X : zXT} (hX : zXok X) (hN : zXn X) (l : Launch) {sh : List yH} : yMet X vwCl yct sh l yX7_isLane wsX7_isLane { frames := 2, cells := 0, slots := 0, locals := 86 } (F_X7_isLane N) :=
  ymeth (tb := tb_X7_isLane N) (pr := pr_X7_isLane) (rt := 2) (own := RX7) hX (by decide +kernel) rfl rfl ⟨Nat.le_of_ble_eq_true rfl, Nat.le_of_ble_eq_true rfl⟩
    (zfl_all (fun _ h => absurd h List.not_mem_nil))
    (zco_all (fun _ h => absurd h List.not_mem_nil)) (zlc_all (fun _ h => absurd h List.not_mem_nil))
    (fun _ h => absurd h List.not_mem_nil)
    (List.forall_mem_cons.mpr ⟨ycal_S hX (m_X7_within hX hN l) (fun s args hts => va_cwS 3 hts gX7_isLane_X7_within rfl rfl rfl (by decide +kernel) ⟨Nat.le_of_ble_eq_true rfl, Nat.le_of_ble_eq_true rfl⟩), fun _ h => absurd h List.not_mem_nil⟩)
    (zmm_all (fun _ h => absurd h List.not_mem_nil)) (fun _ h => absurd h List.not_mem_nil) (zpr_all hp_X7_isLane) (fun as σ res h => by
      unfold F_X7_isLane at h
      split at h
      · rename_i x0
        cases hr : f_X7_isLane N σ x0 with
        | none => rw [hr] at h; cases h
        | some r =>
          rw [hr] at h
          cases h
          exact ⟨Nat.le_of_ble_eq_true rfl, t_X7_isLane σ x0 r hr⟩
      · cases h)
noncomputable def pr_X7_isSheet : List (Nat × Instr × Nat) := [(0, .iload_n 0, 1), (1, .iconst 0, 1), (2, .iconst 3, 1), (3, .invokestatic 49, 3), (6, .ireturn, 1)]
set_option maxRecDepth 100000 in
theorem hp_X7_isSheet : pr_X7_isSheet.all (fun x => decide (decode cX7_isSheet x.1 = .ok x.2)) = true := by decide +kernel
noncomputable def f_X7_isSheet (N : Nat) (σ : yS) (x0 : Int) : Option (Int × yS) :=
  match f_X7_within N σ x0 0 3 with
  | none => none
  | some r1 => bif yb1 r1.1 then some (r1.1, r1.2) else none
noncomputable def F_X7_isSheet (N : Nat) : yF := fun as σ => match as with
  | [.inl (.inl x0)] => (f_X7_isSheet N σ x0).map (fun r => (some (.inl (.inl r.1)), r.2))
  | _ => none
theorem e_X7_isSheet {N : Nat} {σ : yS} {x0 : Int} {r : Int × yS} (h : f_X7_isSheet N σ x0 = some r) : F_X7_isSheet N [.inl (.inl x0)] σ = some (some (.inl (.inl r.1)), r.2) := by
  show (f_X7_isSheet N σ x0).map (fun r => ((some (.inl (.inl r.1)), r.2) : yR)) = _
  rw [h]
  rfl
noncomputable def tb_X7_isSheet (N : Nat) : yTb := ([], [], [], [], [(49, 3, F_X7_within N)], [], [])
abbrev G_X7_isSheet (N : Nat) (X : zXT) (sh : List yH) (l : Launch) (rm : Room) : yC → yR → Prop := yGoes X vwCl yct sh l rm cX7_isSheet 1 wsX7_isSheet RX7 (tb_X7_isSheet N) pr_X7_isSheet 2
set_option maxRecDepth 100000 in
set_option maxHeartbeats 4000000 in
theorem t_X7_isSheet {N : Nat} {X : zXT} {sh : List yH} {l : Launch} {rm : Room} (σ : yS) (x0 : Int) (res : Int × yS) (h : f_X7_isSheet N σ x0 = some res) : G_X7_isSheet N X sh l rm (0, [(0, .inl (.inl x0))], [], σ) (some (.inl (.inl res.1)), res.2) := by
  unfold f_X7_isSheet at h
  refine yG_n (n := 3) (C' := (3, [(0, .inl (.inl x0))], [.inl (.inl 3), .inl (.inl 0), .inl (.inl x0)], σ)) rfl ?_
  cases hr1 : f_X7_within N σ x0 0 3 with
  | none => rw [hr1] at h; dsimp only at h; cases h
  | some r1 =>
    rw [hr1] at h
    dsimp only at h
    refine yG_c (C1 := (6, [(0, .inl (.inl x0))], [.inl (.inl r1.1)], r1.2)) rfl (e_X7_within hr1) rfl ?_
    cases hg2 : yb1 r1.1 with
    | false => rw [hg2] at h; dsimp only [cond] at h; cases h
    | true =>
      rw [hg2] at h
      dsimp only [cond] at h
      have h := Option.some.inj h
      subst h
      dsimp only
      exact yG_r rfl hg2
set_option maxRecDepth 100000 in
set_option maxHeartbeats 4000000 in
theorem m_X7_isSheet {N : Nat} {X : zXT} (hX : zXok X) (hN : zXn X) (l : Launch) {sh : List yH} : yMet X vwCl yct sh l yX7_isSheet wsX7_isSheet { frames := 2, cells := 0, slots := 0, locals := 86 } (F_X7_isSheet N) :=
  ymeth (tb := tb_X7_isSheet N) (pr := pr_X7_isSheet) (rt := 2) (own := RX7) hX (by decide +kernel) rfl rfl ⟨Nat.le_of_ble_eq_true rfl, Nat.le_of_ble_eq_true rfl⟩
    (zfl_all (fun _ h => absurd h List.not_mem_nil))
    (zco_all (fun _ h => absurd h List.not_mem_nil)) (zlc_all (fun _ h => absurd h List.not_mem_nil))
    (fun _ h => absurd h List.not_mem_nil)
    (List.forall_mem_cons.mpr ⟨ycal_S hX (m_X7_within hX hN l) (fun s args hts => va_cwS 3 hts gX7_isSheet_X7_within rfl rfl rfl (by decide +kernel) ⟨Nat.le_of_ble_eq_true rfl, Nat.le_of_ble_eq_true rfl⟩), fun _ h => absurd h List.not_mem_nil⟩)
    (zmm_all (fun _ h => absurd h List.not_mem_nil)) (fun _ h => absurd h List.not_mem_nil) (zpr_all hp_X7_isSheet) (fun as σ res h => by
      unfold F_X7_isSheet at h
      split at h
      · rename_i x0
        cases hr : f_X7_isSheet N σ x0 with
        | none => rw [hr] at h; cases h
        | some r =>
          rw [hr] at h
          cases h
          exact ⟨Nat.le_of_ble_eq_true rfl, t_X7_isSheet σ x0 r hr⟩
      · cases h)
noncomputable def pr_X7_keep : List (Nat × Instr × Nat) := [(0, .iload_n 1, 1), (1, .iconst 0, 1), (2, .iconst 1, 1), (3, .invokestatic 49, 3), (6, .ifCond .ne 5, 3), (9, .iconst (-1), 1), (10, .ireturn, 1), (11, .aload_n 0, 1), (12, .getfield 76, 3), (15, .iload_n 1, 1), (16, .invokestatic 131, 3), (19, .istore_n 2, 1), (20, .aload_n 0, 1), (21, .getfield 19, 3), (24, .iload_n 1, 1), (25, .aaload, 1), (26, .aload_n 0, 1), (27, .getfield 10, 3), (30, .invokevirtual 73, 3), (33, .aload_n 0, 1), (34, .aload_n 0, 1), (35, .getfield 76, 3), (38, .iload_n 1, 1), (39, .iconst 1, 1), (40, .invokestatic 170, 3), (43, .putfield 76, 3), (46, .iload_n 2, 1), (47, .ireturn, 1)]
set_option maxRecDepth 100000 in
theorem hp_X7_keep : pr_X7_keep.all (fun x => decide (decode cX7_keep x.1 = .ok x.2)) = true := by decide +kernel
noncomputable def f_X7_keep (N : Nat) (σ : yS) (x1 : Int) : Option (Int × yS) :=
  match f_X7_within N σ x1 0 1 with
  | none => none
  | some r1 => bif ycP .ne r1.1 0 then
      match f_X7_bit N r1.2 (r1.2.1 0 7) x1 with
      | none => none
      | some r2 => bif yin x1 2 then
          match f_X4_copyFrom N r2.2 (r2.2.2 1 x1.toNat) 17 with
          | none => none
          | some r3 => match f_X7_withBit N r3.2 (r3.2.1 0 7) x1 1 with
            | none => none
            | some r4 => some (r2.1, yw r4.2 0 7 r4.1)
        else none
    else
      some ((-1), r1.2)
noncomputable def F_X7_keep (N : Nat) : yF := fun as σ => match as with
  | [.inr (.inl 7, 0), .inl (.inl x1)] => (f_X7_keep N σ x1).map (fun r => (some (.inl (.inl r.1)), r.2))
  | _ => none
theorem e_X7_keep {N : Nat} {σ : yS} {x1 : Int} {r : Int × yS} (h : f_X7_keep N σ x1 = some r) : F_X7_keep N [.inr (.inl 7, 0), .inl (.inl x1)] σ = some (some (.inl (.inl r.1)), r.2) := by
  show (f_X7_keep N σ x1).map (fun r => ((some (.inl (.inl r.1)), r.2) : yR)) = _
  rw [h]
  rfl
noncomputable def tb_X7_keep (N : Nat) : yTb := ([(10, 7, 0, 3), (19, 7, 2, 3), (76, 7, 7, 0)], [], [], [(73, 2, 4, F_X4_copyFrom N)], [(49, 3, F_X7_within N), (131, 2, F_X7_bit N), (170, 3, F_X7_withBit N)], [], [])
abbrev G_X7_keep (N : Nat) (X : zXT) (sh : List yH) (l : Launch) (rm : Room) : yC → yR → Prop := yGoes X vwCl yct sh l rm cX7_keep 3 wsX7_keep RX7 (tb_X7_keep N) pr_X7_keep 1
set_option maxRecDepth 100000 in
set_option maxHeartbeats 4000000 in
theorem t_X7_keep {N : Nat} {X : zXT} {sh : List yH} {l : Launch} {rm : Room} (σ : yS) (x1 : Int) (res : Int × yS) (h : f_X7_keep N σ x1 = some res) : G_X7_keep N X sh l rm (0, [(0, .inr (.inl 7, 0)), (1, .inl (.inl x1))], [], σ) (some (.inl (.inl res.1)), res.2) := by
  unfold f_X7_keep at h
  refine yG_n (n := 3) (C' := (3, [(0, .inr (.inl 7, 0)), (1, .inl (.inl x1))], [.inl (.inl 1), .inl (.inl 0), .inl (.inl x1)], σ)) rfl ?_
  cases hr1 : f_X7_within N σ x1 0 1 with
  | none => rw [hr1] at h; dsimp only at h; cases h
  | some r1 =>
    rw [hr1] at h
    dsimp only at h
    refine yG_c (C1 := (6, [(0, .inr (.inl 7, 0)), (1, .inl (.inl x1))], [.inl (.inl r1.1)], r1.2)) rfl (e_X7_within hr1) rfl ?_
    cases hg2 : ycP .ne r1.1 0 with
    | true =>
      rw [hg2] at h
      dsimp only [cond] at h
      refine yG_t (C' := (11, [(0, .inr (.inl 7, 0)), (1, .inl (.inl x1))], [], r1.2)) rfl hg2 ?_
      refine yG_n (n := 3) (C' := (16, [(0, .inr (.inl 7, 0)), (1, .inl (.inl x1))], [.inl (.inl x1), .inl (.inl (r1.2.1 0 7))], r1.2)) rfl ?_
      cases hr3 : f_X7_bit N r1.2 (r1.2.1 0 7) x1 with
      | none => rw [hr3] at h; dsimp only at h; cases h
      | some r2 =>
        rw [hr3] at h
        dsimp only at h
        refine yG_c (C1 := (19, [(0, .inr (.inl 7, 0)), (1, .inl (.inl x1))], [.inl (.inl r2.1)], r2.2)) rfl (e_X7_bit hr3) rfl ?_
        refine yG_n (n := 4) (C' := (25, [(2, .inl (.inl r2.1)), (0, .inr (.inl 7, 0)), (1, .inl (.inl x1))], [.inl (.inl x1), .inr (.inr (2, 2), 1)], r2.2)) rfl ?_
        cases hg4 : yin x1 2 with
        | false => rw [hg4] at h; dsimp only [cond] at h; cases h
        | true =>
          rw [hg4] at h
          dsimp only [cond] at h
          refine yG_t (C' := (26, [(2, .inl (.inl r2.1)), (0, .inr (.inl 7, 0)), (1, .inl (.inl x1))], [.inr (.inl 4, r2.2.2 1 x1.toNat)], r2.2)) rfl hg4 ?_
          refine yG_n (n := 2) (C' := (30, [(2, .inl (.inl r2.1)), (0, .inr (.inl 7, 0)), (1, .inl (.inl x1))], [.inr (.inl 4, 17), .inr (.inl 4, r2.2.2 1 x1.toNat)], r2.2)) rfl ?_
          cases hr5 : f_X4_copyFrom N r2.2 (r2.2.2 1 x1.toNat) 17 with
          | none => rw [hr5] at h; dsimp only at h; cases h
          | some r3 =>
            rw [hr5] at h
            dsimp only at h
            refine yG_c (C1 := (33, [(2, .inl (.inl r2.1)), (0, .inr (.inl 7, 0)), (1, .inl (.inl x1))], [], r3.2)) rfl (e_X4_copyFrom hr5) rfl ?_
            refine yG_n (n := 5) (C' := (40, [(2, .inl (.inl r2.1)), (0, .inr (.inl 7, 0)), (1, .inl (.inl x1))], [.inl (.inl 1), .inl (.inl x1), .inl (.inl (r3.2.1 0 7)), .inr (.inl 7, 0)], r3.2)) rfl ?_
            cases hr6 : f_X7_withBit N r3.2 (r3.2.1 0 7) x1 1 with
            | none => rw [hr6] at h; dsimp only at h; cases h
            | some r4 =>
              rw [hr6] at h
              dsimp only at h
              refine yG_c (C1 := (43, [(2, .inl (.inl r2.1)), (0, .inr (.inl 7, 0)), (1, .inl (.inl x1))], [.inl (.inl r4.1), .inr (.inl 7, 0)], r4.2)) rfl (e_X7_withBit hr6) rfl ?_
              refine yG_n (n := 2) (C' := (47, [(2, .inl (.inl r2.1)), (0, .inr (.inl 7, 0)), (1, .inl (.inl x1))], [.inl (.inl r2.1)], yw r4.2 0 7 r4.1)) rfl ?_
              have h := Option.some.inj h
              subst h
              dsimp only
              exact yG_r rfl rfl
    | false =>
      rw [hg2] at h
      dsimp only [cond] at h
      refine yG_f (C' := (9, [(0, .inr (.inl 7, 0)), (1, .inl (.inl x1))], [], r1.2)) rfl hg2 ?_
      refine yG_n (n := 1) (C' := (10, [(0, .inr (.inl 7, 0)), (1, .inl (.inl x1))], [.inl (.inl ((-1)))], r1.2)) rfl ?_
      have h := Option.some.inj h
      subst h
      dsimp only
      exact yG_r rfl rfl
set_option maxRecDepth 100000 in
set_option maxHeartbeats 4000000 in
theorem m_X7_keep {N : Nat} {X : zXT} (hX : zXok X) (hN : zXn X) (l : Launch) {sh : List yH} : yMet X vwCl yct sh l yX7_keep wsX7_keep { frames := 3, cells := 0, slots := 0, locals := 106 } (F_X7_keep N) :=
  ymeth (tb := tb_X7_keep N) (pr := pr_X7_keep) (rt := 1) (own := RX7) hX (by decide +kernel) rfl rfl ⟨Nat.le_of_ble_eq_true rfl, Nat.le_of_ble_eq_true rfl⟩
    (zfl_all (List.forall_mem_cons.mpr ⟨zfl_X7 (fun w h => List.mem_cons_of_mem _ (List.mem_append_left _ (List.mem_append_left _ (List.mem_append_left _ (List.mem_append_right _ h))))) (List.mem_of_getElem? (i := 3) rfl) (by decide) (by decide), List.forall_mem_cons.mpr ⟨zfl_X7 (fun w h => List.mem_cons_of_mem _ (List.mem_append_left _ (List.mem_append_left _ (List.mem_append_left _ (List.mem_append_right _ h))))) (List.mem_of_getElem? (i := 2) rfl) (by decide) (by decide), List.forall_mem_cons.mpr ⟨zfl_X7 (fun w h => List.mem_cons_of_mem _ (List.mem_append_left _ (List.mem_append_left _ (List.mem_append_left _ (List.mem_append_right _ h))))) (List.mem_of_getElem? (i := 1) rfl) (by decide) (by decide), fun _ h => absurd h List.not_mem_nil⟩⟩⟩))
    (zco_all (fun _ h => absurd h List.not_mem_nil)) (zlc_all (fun _ h => absurd h List.not_mem_nil))
    (List.forall_mem_cons.mpr ⟨ycal_V hX (m_X4_copyFrom hX hN l) rfl (fun s args hts => cwV 1 hts gX7_keep_X4_copyFrom rfl rfl rfl (by decide +kernel) ⟨Nat.le_of_ble_eq_true rfl, Nat.le_of_ble_eq_true rfl⟩), fun _ h => absurd h List.not_mem_nil⟩)
    (List.forall_mem_cons.mpr ⟨ycal_S hX (m_X7_within hX hN l) (fun s args hts => va_cwS 3 hts gX7_keep_X7_within rfl rfl rfl (by decide +kernel) ⟨Nat.le_of_ble_eq_true rfl, Nat.le_of_ble_eq_true rfl⟩), List.forall_mem_cons.mpr ⟨ycal_S hX (m_X7_bit hX hN l) (fun s args hts => va_cwS 2 hts gX7_keep_X7_bit rfl rfl rfl (by decide +kernel) ⟨Nat.le_of_ble_eq_true rfl, Nat.le_of_ble_eq_true rfl⟩), List.forall_mem_cons.mpr ⟨ycal_S hX (m_X7_withBit hX hN l) (fun s args hts => va_cwS 3 hts gX7_keep_X7_withBit rfl rfl rfl (by decide +kernel) ⟨Nat.le_of_ble_eq_true rfl, Nat.le_of_ble_eq_true rfl⟩), fun _ h => absurd h List.not_mem_nil⟩⟩⟩)
    (zmm_all (fun _ h => absurd h List.not_mem_nil)) (fun _ h => absurd h List.not_mem_nil) (zpr_all hp_X7_keep) (fun as σ res h => by
      unfold F_X7_keep at h
      split at h
      · rename_i x1
        cases hr : f_X7_keep N σ x1 with
        | none => rw [hr] at h; cases h
        | some r =>
          rw [hr] at h
          cases h
          exact ⟨Nat.le_of_ble_eq_true rfl, t_X7_keep σ x1 r hr⟩
      · cases h)
noncomputable def pr_X7_lawyer : List (Nat × Instr × Nat) := [(0, .aload_n 0, 1), (1, .getfield 10, 3), (4, .iload_n 1, 1), (5, .invokevirtual 118, 3), (8, .ifCond .ne 5, 3), (11, .iconst (-1), 1), (12, .ireturn, 1), (13, .aload_n 0, 1), (14, .getfield 10, 3), (17, .getfield 128, 3), (20, .iload_n 1, 1), (21, .invokestatic 131, 3), (24, .istore_n 3, 1), (25, .aload_n 0, 1), (26, .getfield 10, 3), (29, .aload_n 0, 1), (30, .getfield 10, 3), (33, .getfield 128, 3), (36, .iload_n 1, 1), (37, .iload_n 2, 1), (38, .invokestatic 170, 3), (41, .putfield 128, 3), (44, .iload_n 3, 1), (45, .ireturn, 1)]
set_option maxRecDepth 100000 in
theorem hp_X7_lawyer : pr_X7_lawyer.all (fun x => decide (decode cX7_lawyer x.1 = .ok x.2)) = true := by decide +kernel
noncomputable def f_X7_lawyer (N : Nat) (σ : yS) (x1 : Int) (x2 : Int) : Option (Int × yS) :=
  match f_X4_isHouse N σ 17 x1 with
  | none => none
  | some r1 => bif ycP .ne r1.1 0 then
      match f_X7_bit N r1.2 (r1.2.1 17 6) x1 with
      | none => none
      | some r2 => match f_X7_withBit N r2.2 (r2.2.1 17 6) x1 x2 with
        | none => none
        | some r3 => some (r2.1, yw r3.2 17 6 r3.1)
    else
      some ((-1), r1.2)
noncomputable def F_X7_lawyer (N : Nat) : yF := fun as σ => match as with
  | [.inr (.inl 7, 0), .inl (.inl x1), .inl (.inl x2)] => (f_X7_lawyer N σ x1 x2).map (fun r => (some (.inl (.inl r.1)), r.2))
  | _ => none
theorem e_X7_lawyer {N : Nat} {σ : yS} {x1 : Int} {x2 : Int} {r : Int × yS} (h : f_X7_lawyer N σ x1 x2 = some r) : F_X7_lawyer N [.inr (.inl 7, 0), .inl (.inl x1), .inl (.inl x2)] σ = some (some (.inl (.inl r.1)), r.2) := by
  show (f_X7_lawyer N σ x1 x2).map (fun r => ((some (.inl (.inl r.1)), r.2) : yR)) = _
  rw [h]
  rfl
noncomputable def tb_X7_lawyer (N : Nat) : yTb := ([(10, 7, 0, 3), (128, 4, 6, 0)], [], [], [(118, 2, 4, F_X4_isHouse N)], [(131, 2, F_X7_bit N), (170, 3, F_X7_withBit N)], [], [])
abbrev G_X7_lawyer (N : Nat) (X : zXT) (sh : List yH) (l : Launch) (rm : Room) : yC → yR → Prop := yGoes X vwCl yct sh l rm cX7_lawyer 4 wsX7_lawyer RX7 (tb_X7_lawyer N) pr_X7_lawyer 1
set_option maxRecDepth 100000 in
set_option maxHeartbeats 4000000 in
theorem t_X7_lawyer {N : Nat} {X : zXT} {sh : List yH} {l : Launch} {rm : Room} (σ : yS) (x1 : Int) (x2 : Int) (res : Int × yS) (h : f_X7_lawyer N σ x1 x2 = some res) : G_X7_lawyer N X sh l rm (0, [(0, .inr (.inl 7, 0)), (1, .inl (.inl x1)), (2, .inl (.inl x2))], [], σ) (some (.inl (.inl res.1)), res.2) := by
  unfold f_X7_lawyer at h
  refine yG_n (n := 3) (C' := (5, [(0, .inr (.inl 7, 0)), (1, .inl (.inl x1)), (2, .inl (.inl x2))], [.inl (.inl x1), .inr (.inl 4, 17)], σ)) rfl ?_
  cases hr1 : f_X4_isHouse N σ 17 x1 with
  | none => rw [hr1] at h; dsimp only at h; cases h
  | some r1 =>
    rw [hr1] at h
    dsimp only at h
    refine yG_c (C1 := (8, [(0, .inr (.inl 7, 0)), (1, .inl (.inl x1)), (2, .inl (.inl x2))], [.inl (.inl r1.1)], r1.2)) rfl (e_X4_isHouse hr1) rfl ?_
    cases hg2 : ycP .ne r1.1 0 with
    | true =>
      rw [hg2] at h
      dsimp only [cond] at h
      refine yG_t (C' := (13, [(0, .inr (.inl 7, 0)), (1, .inl (.inl x1)), (2, .inl (.inl x2))], [], r1.2)) rfl hg2 ?_
      refine yG_n (n := 4) (C' := (21, [(0, .inr (.inl 7, 0)), (1, .inl (.inl x1)), (2, .inl (.inl x2))], [.inl (.inl x1), .inl (.inl (r1.2.1 17 6))], r1.2)) rfl ?_
      cases hr3 : f_X7_bit N r1.2 (r1.2.1 17 6) x1 with
      | none => rw [hr3] at h; dsimp only at h; cases h
      | some r2 =>
        rw [hr3] at h
        dsimp only at h
        refine yG_c (C1 := (24, [(0, .inr (.inl 7, 0)), (1, .inl (.inl x1)), (2, .inl (.inl x2))], [.inl (.inl r2.1)], r2.2)) rfl (e_X7_bit hr3) rfl ?_
        refine yG_n (n := 8) (C' := (38, [(3, .inl (.inl r2.1)), (0, .inr (.inl 7, 0)), (1, .inl (.inl x1)), (2, .inl (.inl x2))], [.inl (.inl x2), .inl (.inl x1), .inl (.inl (r2.2.1 17 6)), .inr (.inl 4, 17)], r2.2)) rfl ?_
        cases hr4 : f_X7_withBit N r2.2 (r2.2.1 17 6) x1 x2 with
        | none => rw [hr4] at h; dsimp only at h; cases h
        | some r3 =>
          rw [hr4] at h
          dsimp only at h
          refine yG_c (C1 := (41, [(3, .inl (.inl r2.1)), (0, .inr (.inl 7, 0)), (1, .inl (.inl x1)), (2, .inl (.inl x2))], [.inl (.inl r3.1), .inr (.inl 4, 17)], r3.2)) rfl (e_X7_withBit hr4) rfl ?_
          refine yG_n (n := 2) (C' := (45, [(3, .inl (.inl r2.1)), (0, .inr (.inl 7, 0)), (1, .inl (.inl x1)), (2, .inl (.inl x2))], [.inl (.inl r2.1)], yw r3.2 17 6 r3.1)) rfl ?_
          have h := Option.some.inj h
          subst h
          dsimp only
          exact yG_r rfl rfl
    | false =>
      rw [hg2] at h
      dsimp only [cond] at h
      refine yG_f (C' := (11, [(0, .inr (.inl 7, 0)), (1, .inl (.inl x1)), (2, .inl (.inl x2))], [], r1.2)) rfl hg2 ?_
      refine yG_n (n := 1) (C' := (12, [(0, .inr (.inl 7, 0)), (1, .inl (.inl x1)), (2, .inl (.inl x2))], [.inl (.inl ((-1)))], r1.2)) rfl ?_
      have h := Option.some.inj h
      subst h
      dsimp only
      exact yG_r rfl rfl
set_option maxRecDepth 100000 in
set_option maxHeartbeats 4000000 in
theorem m_X7_lawyer {N : Nat} {X : zXT} (hX : zXok X) (hN : zXn X) (l : Launch) {sh : List yH} : yMet X vwCl yct sh l yX7_lawyer wsX7_lawyer { frames := 3, cells := 0, slots := 0, locals := 107 } (F_X7_lawyer N) :=
  ymeth (tb := tb_X7_lawyer N) (pr := pr_X7_lawyer) (rt := 1) (own := RX7) hX (by decide +kernel) rfl rfl ⟨Nat.le_of_ble_eq_true rfl, Nat.le_of_ble_eq_true rfl⟩
    (zfl_all (List.forall_mem_cons.mpr ⟨zfl_X7 (fun w h => List.mem_cons_of_mem _ (List.mem_append_left _ (List.mem_append_right _ h))) (List.mem_of_getElem? (i := 1) rfl) (by decide) (by decide), List.forall_mem_cons.mpr ⟨zfl_X4 (fun w h => List.mem_cons_of_mem _ (List.mem_append_right _ h)) (List.mem_of_getElem? (i := 2) rfl) (by decide) (by decide), fun _ h => absurd h List.not_mem_nil⟩⟩))
    (zco_all (fun _ h => absurd h List.not_mem_nil)) (zlc_all (fun _ h => absurd h List.not_mem_nil))
    (List.forall_mem_cons.mpr ⟨ycal_V hX (m_X4_isHouse hX hN l) rfl (fun s args hts => cwV 1 hts gX7_lawyer_X4_isHouse rfl rfl rfl (by decide +kernel) ⟨Nat.le_of_ble_eq_true rfl, Nat.le_of_ble_eq_true rfl⟩), fun _ h => absurd h List.not_mem_nil⟩)
    (List.forall_mem_cons.mpr ⟨ycal_S hX (m_X7_bit hX hN l) (fun s args hts => va_cwS 2 hts gX7_lawyer_X7_bit rfl rfl rfl (by decide +kernel) ⟨Nat.le_of_ble_eq_true rfl, Nat.le_of_ble_eq_true rfl⟩), List.forall_mem_cons.mpr ⟨ycal_S hX (m_X7_withBit hX hN l) (fun s args hts => va_cwS 3 hts gX7_lawyer_X7_withBit rfl rfl rfl (by decide +kernel) ⟨Nat.le_of_ble_eq_true rfl, Nat.le_of_ble_eq_true rfl⟩), fun _ h => absurd h List.not_mem_nil⟩⟩)
    (zmm_all (fun _ h => absurd h List.not_mem_nil)) (fun _ h => absurd h List.not_mem_nil) (zpr_all hp_X7_lawyer) (fun as σ res h => by
      unfold F_X7_lawyer at h
      split at h
      · rename_i x1 x2
        cases hr : f_X7_lawyer N σ x1 x2 with
        | none => rw [hr] at h; cases h
        | some r =>
          rw [hr] at h
          cases h
          exact ⟨Nat.le_of_ble_eq_true rfl, t_X7_lawyer σ x1 x2 r hr⟩
      · cases h)
noncomputable def pr_X2_faultOfCells : List (Nat × Instr × Nat) := [(0, .aload_n 0, 1), (1, .invokevirtual 22, 3), (4, .ifCond .eq 5, 3), (7, .iconst 1, 1), (8, .ireturn, 1), (9, .iload_n 1, 1), (10, .iconst 0, 1), (11, .aload_n 0, 1), (12, .getfield 19, 3), (15, .iload_n 2, 1), (16, .isub, 1), (17, .invokestatic 26, 3), (20, .ifCond .eq 7, 3), (23, .iconst 0, 1), (24, .goto 4, 3), (27, .iconst 2, 1), (28, .ireturn, 1)]
set_option maxRecDepth 100000 in
theorem hp_X2_faultOfCells : pr_X2_faultOfCells.all (fun x => decide (decode cX2_faultOfCells x.1 = .ok x.2)) = true := by decide +kernel
noncomputable def f_X2_faultOfCells_b28 (N : Nat) (σ : yS) (s0 : Int) : Option (Int × yS) :=
  some (s0, σ)
noncomputable def f_X2_faultOfCells (N : Nat) (σ : yS) (x0 : Nat) (x1 : Int) (x2 : Int) : Option (Int × yS) :=
  match f_X2_isNothing N σ x0 with
  | none => none
  | some r1 => bif ycP .eq r1.1 0 then
      match f_X7_within N r1.2 x1 0 (ysu (r1.2.1 x0 1) x2) with
      | none => none
      | some r2 => bif ycP .eq r2.1 0 then
          f_X2_faultOfCells_b28 N r2.2 2
        else
          f_X2_faultOfCells_b28 N r2.2 0
    else
      some (1, r1.2)
noncomputable def F_X2_faultOfCells (N : Nat) : yF := fun as σ => match as with
  | [.inr (.inl 2, x0), .inl (.inl x1), .inl (.inl x2)] => (f_X2_faultOfCells N σ x0 x1 x2).map (fun r => (some (.inl (.inl r.1)), r.2))
  | _ => none
theorem e_X2_faultOfCells {N : Nat} {σ : yS} {x0 : Nat} {x1 : Int} {x2 : Int} {r : Int × yS} (h : f_X2_faultOfCells N σ x0 x1 x2 = some r) : F_X2_faultOfCells N [.inr (.inl 2, x0), .inl (.inl x1), .inl (.inl x2)] σ = some (some (.inl (.inl r.1)), r.2) := by
  show (f_X2_faultOfCells N σ x0 x1 x2).map (fun r => ((some (.inl (.inl r.1)), r.2) : yR)) = _
  rw [h]
  rfl
noncomputable def tb_X2_faultOfCells (N : Nat) : yTb := ([(19, 2, 1, 0)], [], [], [(22, 1, 2, F_X2_isNothing N)], [(26, 3, F_X7_within N)], [], [])
abbrev G_X2_faultOfCells (N : Nat) (X : zXT) (sh : List yH) (l : Launch) (rm : Room) : yC → yR → Prop := yGoes X vwCl yct sh l rm cX2_faultOfCells 3 wsX2_faultOfCells RX2 (tb_X2_faultOfCells N) pr_X2_faultOfCells 1
set_option maxRecDepth 100000 in
set_option maxHeartbeats 4000000 in
theorem t_X2_faultOfCells_b28 {N : Nat} {X : zXT} {sh : List yH} {l : Launch} {rm : Room} (σ : yS) (s0 : Int) (res : Int × yS) (h : f_X2_faultOfCells_b28 N σ s0 = some res) : G_X2_faultOfCells N X sh l rm (28, [], [.inl (.inl s0)], σ) (some (.inl (.inl res.1)), res.2) := by
  unfold f_X2_faultOfCells_b28 at h
  have h := Option.some.inj h
  subst h
  dsimp only
  exact yG_r rfl rfl
set_option maxRecDepth 100000 in
set_option maxHeartbeats 4000000 in
theorem t_X2_faultOfCells {N : Nat} {X : zXT} {sh : List yH} {l : Launch} {rm : Room} (σ : yS) (x0 : Nat) (x1 : Int) (x2 : Int) (res : Int × yS) (h : f_X2_faultOfCells N σ x0 x1 x2 = some res) : G_X2_faultOfCells N X sh l rm (0, [(0, .inr (.inl 2, x0)), (1, .inl (.inl x1)), (2, .inl (.inl x2))], [], σ) (some (.inl (.inl res.1)), res.2) := by
  unfold f_X2_faultOfCells at h
  refine yG_n (n := 1) (C' := (1, [(0, .inr (.inl 2, x0)), (1, .inl (.inl x1)), (2, .inl (.inl x2))], [.inr (.inl 2, x0)], σ)) rfl ?_
  cases hr1 : f_X2_isNothing N σ x0 with
  | none => rw [hr1] at h; dsimp only at h; cases h
  | some r1 =>
    rw [hr1] at h
    dsimp only at h
    refine yG_c (C1 := (4, [(0, .inr (.inl 2, x0)), (1, .inl (.inl x1)), (2, .inl (.inl x2))], [.inl (.inl r1.1)], r1.2)) rfl (e_X2_isNothing hr1) rfl ?_
    cases hg2 : ycP .eq r1.1 0 with
    | true =>
      rw [hg2] at h
      dsimp only [cond] at h
      refine yG_t (C' := (9, [(0, .inr (.inl 2, x0)), (1, .inl (.inl x1)), (2, .inl (.inl x2))], [], r1.2)) rfl hg2 ?_
      refine yG_n (n := 6) (C' := (17, [(0, .inr (.inl 2, x0)), (1, .inl (.inl x1)), (2, .inl (.inl x2))], [.inl (.inl (ysu (r1.2.1 x0 1) x2)), .inl (.inl 0), .inl (.inl x1)], r1.2)) rfl ?_
      cases hr3 : f_X7_within N r1.2 x1 0 (ysu (r1.2.1 x0 1) x2) with
      | none => rw [hr3] at h; dsimp only at h; cases h
      | some r2 =>
        rw [hr3] at h
        dsimp only at h
        refine yG_c (C1 := (20, [(0, .inr (.inl 2, x0)), (1, .inl (.inl x1)), (2, .inl (.inl x2))], [.inl (.inl r2.1)], r2.2)) rfl (e_X7_within hr3) rfl ?_
        cases hg4 : ycP .eq r2.1 0 with
        | true =>
          rw [hg4] at h
          dsimp only [cond] at h
          refine yG_t (C' := (27, [(0, .inr (.inl 2, x0)), (1, .inl (.inl x1)), (2, .inl (.inl x2))], [], r2.2)) rfl hg4 ?_
          refine yG_n (n := 1) (C' := (28, [(0, .inr (.inl 2, x0)), (1, .inl (.inl x1)), (2, .inl (.inl x2))], [.inl (.inl 2)], r2.2)) rfl ?_
          exact yG_w [] rfl (t_X2_faultOfCells_b28 r2.2 2 res h)
        | false =>
          rw [hg4] at h
          dsimp only [cond] at h
          refine yG_f (C' := (23, [(0, .inr (.inl 2, x0)), (1, .inl (.inl x1)), (2, .inl (.inl x2))], [], r2.2)) rfl hg4 ?_
          refine yG_n (n := 2) (C' := (28, [(0, .inr (.inl 2, x0)), (1, .inl (.inl x1)), (2, .inl (.inl x2))], [.inl (.inl 0)], r2.2)) rfl ?_
          exact yG_w [] rfl (t_X2_faultOfCells_b28 r2.2 0 res h)
    | false =>
      rw [hg2] at h
      dsimp only [cond] at h
      refine yG_f (C' := (7, [(0, .inr (.inl 2, x0)), (1, .inl (.inl x1)), (2, .inl (.inl x2))], [], r1.2)) rfl hg2 ?_
      refine yG_n (n := 1) (C' := (8, [(0, .inr (.inl 2, x0)), (1, .inl (.inl x1)), (2, .inl (.inl x2))], [.inl (.inl 1)], r1.2)) rfl ?_
      have h := Option.some.inj h
      subst h
      dsimp only
      exact yG_r rfl rfl
set_option maxRecDepth 100000 in
set_option maxHeartbeats 4000000 in
theorem m_X2_faultOfCells {N : Nat} {X : zXT} (hX : zXok X) (hN : zXn X) (l : Launch) {sh : List yH} : yMet X vwCl yct sh l yX2_faultOfCells wsX2_faultOfCells { frames := 2, cells := 0, slots := 0, locals := 86 } (F_X2_faultOfCells N) :=
  ymeth (tb := tb_X2_faultOfCells N) (pr := pr_X2_faultOfCells) (rt := 1) (own := RX2) hX (by decide +kernel) rfl rfl ⟨Nat.le_of_ble_eq_true rfl, Nat.le_of_ble_eq_true rfl⟩
    (zfl_all (List.forall_mem_cons.mpr ⟨zfl_X2 (fun w h => List.mem_cons_of_mem _ (List.mem_append_right _ h)) (List.mem_of_getElem? (i := 1) rfl) (by decide) (by decide), fun _ h => absurd h List.not_mem_nil⟩))
    (zco_all (fun _ h => absurd h List.not_mem_nil)) (zlc_all (fun _ h => absurd h List.not_mem_nil))
    (List.forall_mem_cons.mpr ⟨ycal_V hX (m_X2_isNothing hX hN l) rfl (fun s args hts => cwV 0 hts gX2_faultOfCells_X2_isNothing rfl rfl rfl (by decide +kernel) ⟨Nat.le_of_ble_eq_true rfl, Nat.le_of_ble_eq_true rfl⟩), fun _ h => absurd h List.not_mem_nil⟩)
    (List.forall_mem_cons.mpr ⟨ycal_SN hX (m_X7_within hX hN l) (fun A s args hts hx => ⟨va_cnB 3 hts ggX2_faultOfCells_X7_within rfl rfl rfl (hN A s s.heap hx RX2 26 yX7_within RX7 (by decide +kernel)) (hts _ (List.mem_of_getElem? (i := 9) rfl)) (by decide +kernel) ⟨Nat.le_of_ble_eq_true rfl, Nat.le_of_ble_eq_true rfl⟩, hts _ (List.mem_of_getElem? (i := 8) rfl), trivial⟩), fun _ h => absurd h List.not_mem_nil⟩)
    (zmm_all (fun _ h => absurd h List.not_mem_nil)) (fun _ h => absurd h List.not_mem_nil) (zpr_all hp_X2_faultOfCells) (fun as σ res h => by
      unfold F_X2_faultOfCells at h
      split at h
      · rename_i x0 x1 x2
        cases hr : f_X2_faultOfCells N σ x0 x1 x2 with
        | none => rw [hr] at h; cases h
        | some r =>
          rw [hr] at h
          cases h
          exact ⟨Nat.le_of_ble_eq_true rfl, t_X2_faultOfCells σ x0 x1 x2 r hr⟩
      · cases h)
noncomputable def pr_X2_put : List (Nat × Instr × Nat) := [(0, .aload_n 0, 1), (1, .getfield 11, 3), (4, .ifCond .ne 14, 3), (7, .aload_n 0, 1), (8, .getfield 15, 3), (11, .iload_n 1, 1), (12, .iload_n 2, 1), (13, .i2b, 1), (14, .iastore, 1), (15, .goto 29, 3), (18, .aload_n 0, 1), (19, .getfield 11, 3), (22, .iconst 1, 1), (23, .if_icmp .ne 14, 3), (26, .aload_n 0, 1), (27, .getfield 15, 3), (30, .iload_n 1, 1), (31, .iload_n 2, 1), (32, .i2s, 1), (33, .iastore, 1), (34, .goto 10, 3), (37, .aload_n 0, 1), (38, .getfield 15, 3), (41, .iload_n 1, 1), (42, .iload_n 2, 1), (43, .iastore, 1), (44, .return_, 1)]
set_option maxRecDepth 100000 in
theorem hp_X2_put : pr_X2_put.all (fun x => decide (decode cX2_put x.1 = .ok x.2)) = true := by decide +kernel
noncomputable def f_X2_put_b44 (N : Nat) (σ : yS) : Option (Int × yS) :=
  some (0, σ)
noncomputable def f_X2_put (N : Nat) (σ : yS) (x0 : Nat) (x1 : Int) (x2 : Int) : Option (Int × yS) :=
  bif ycP .ne (σ.1 x0 0) 0 then
    bif ycP .ne (σ.1 x0 0) 1 then
      bif yin x1 40 then
        f_X2_put_b44 N (yw σ (x0 + 1) x1.toNat x2)
      else none
    else
      bif yin x1 40 then
        f_X2_put_b44 N (yw σ (x0 + 1) x1.toNat (yi16 x2))
      else none
  else
    bif yin x1 40 then
      f_X2_put_b44 N (yw σ (x0 + 1) x1.toNat (yi8 x2))
    else none
noncomputable def F_X2_put (N : Nat) : yF := fun as σ => match as with
  | [.inr (.inl 2, x0), .inl (.inl x1), .inl (.inl x2)] => (f_X2_put N σ x0 x1 x2).map (fun r => (none, r.2))
  | _ => none
theorem e_X2_put {N : Nat} {σ : yS} {x0 : Nat} {x1 : Int} {x2 : Int} {r : Int × yS} (h : f_X2_put N σ x0 x1 x2 = some r) : F_X2_put N [.inr (.inl 2, x0), .inl (.inl x1), .inl (.inl x2)] σ = some (none, r.2) := by
  show (f_X2_put N σ x0 x1 x2).map (fun r => ((none, r.2) : yR)) = _
  rw [h]
  rfl
noncomputable def tb_X2_put (N : Nat) : yTb := ([(11, 2, 0, 0), (15, 2, 2, 3)], [], [], [], [], [], [])
abbrev G_X2_put (N : Nat) (X : zXT) (sh : List yH) (l : Launch) (rm : Room) : yC → yR → Prop := yGoes X vwCl yct sh l rm cX2_put 3 wsX2_put RX2 (tb_X2_put N) pr_X2_put 0
set_option maxRecDepth 100000 in
set_option maxHeartbeats 4000000 in
theorem t_X2_put_b44 {N : Nat} {X : zXT} {sh : List yH} {l : Launch} {rm : Room} (σ : yS) (res : Int × yS) (h : f_X2_put_b44 N σ = some res) : G_X2_put N X sh l rm (44, [], [], σ) (none, res.2) := by
  unfold f_X2_put_b44 at h
  have h := Option.some.inj h
  subst h
  dsimp only
  exact yG_r rfl rfl
set_option maxRecDepth 100000 in
set_option maxHeartbeats 4000000 in
theorem t_X2_put {N : Nat} {X : zXT} {sh : List yH} {l : Launch} {rm : Room} (σ : yS) (x0 : Nat) (x1 : Int) (x2 : Int) (res : Int × yS) (h : f_X2_put N σ x0 x1 x2 = some res) : G_X2_put N X sh l rm (0, [(0, .inr (.inl 2, x0)), (1, .inl (.inl x1)), (2, .inl (.inl x2))], [], σ) (none, res.2) := by
  unfold f_X2_put at h
  refine yG_n (n := 2) (C' := (4, [(0, .inr (.inl 2, x0)), (1, .inl (.inl x1)), (2, .inl (.inl x2))], [.inl (.inl (σ.1 x0 0))], σ)) rfl ?_
  cases hg1 : ycP .ne (σ.1 x0 0) 0 with
  | true =>
    rw [hg1] at h
    dsimp only [cond] at h
    refine yG_t (C' := (18, [(0, .inr (.inl 2, x0)), (1, .inl (.inl x1)), (2, .inl (.inl x2))], [], σ)) rfl hg1 ?_
    refine yG_n (n := 3) (C' := (23, [(0, .inr (.inl 2, x0)), (1, .inl (.inl x1)), (2, .inl (.inl x2))], [.inl (.inl 1), .inl (.inl (σ.1 x0 0))], σ)) rfl ?_
    cases hg2 : ycP .ne (σ.1 x0 0) 1 with
    | true =>
      rw [hg2] at h
      dsimp only [cond] at h
      refine yG_t (C' := (37, [(0, .inr (.inl 2, x0)), (1, .inl (.inl x1)), (2, .inl (.inl x2))], [], σ)) rfl hg2 ?_
      refine yG_n (n := 4) (C' := (43, [(0, .inr (.inl 2, x0)), (1, .inl (.inl x1)), (2, .inl (.inl x2))], [.inl (.inl x2), .inl (.inl x1), .inr (.inr (0, 40), x0 + 1)], σ)) rfl ?_
      cases hg3 : yin x1 40 with
      | false => rw [hg3] at h; dsimp only [cond] at h; cases h
      | true =>
        rw [hg3] at h
        dsimp only [cond] at h
        refine yG_t (C' := (44, [(0, .inr (.inl 2, x0)), (1, .inl (.inl x1)), (2, .inl (.inl x2))], [], yw σ (x0 + 1) x1.toNat x2)) rfl hg3 ?_
        exact yG_w [] rfl (t_X2_put_b44 (yw σ (x0 + 1) x1.toNat x2) res h)
    | false =>
      rw [hg2] at h
      dsimp only [cond] at h
      refine yG_f (C' := (26, [(0, .inr (.inl 2, x0)), (1, .inl (.inl x1)), (2, .inl (.inl x2))], [], σ)) rfl hg2 ?_
      refine yG_n (n := 5) (C' := (33, [(0, .inr (.inl 2, x0)), (1, .inl (.inl x1)), (2, .inl (.inl x2))], [.inl (.inl (yi16 x2)), .inl (.inl x1), .inr (.inr (0, 40), x0 + 1)], σ)) rfl ?_
      cases hg4 : yin x1 40 with
      | false => rw [hg4] at h; dsimp only [cond] at h; cases h
      | true =>
        rw [hg4] at h
        dsimp only [cond] at h
        refine yG_t (C' := (34, [(0, .inr (.inl 2, x0)), (1, .inl (.inl x1)), (2, .inl (.inl x2))], [], yw σ (x0 + 1) x1.toNat (yi16 x2))) rfl hg4 ?_
        refine yG_n (n := 1) (C' := (44, [(0, .inr (.inl 2, x0)), (1, .inl (.inl x1)), (2, .inl (.inl x2))], [], yw σ (x0 + 1) x1.toNat (yi16 x2))) rfl ?_
        exact yG_w [] rfl (t_X2_put_b44 (yw σ (x0 + 1) x1.toNat (yi16 x2)) res h)
  | false =>
    rw [hg1] at h
    dsimp only [cond] at h
    refine yG_f (C' := (7, [(0, .inr (.inl 2, x0)), (1, .inl (.inl x1)), (2, .inl (.inl x2))], [], σ)) rfl hg1 ?_
    refine yG_n (n := 5) (C' := (14, [(0, .inr (.inl 2, x0)), (1, .inl (.inl x1)), (2, .inl (.inl x2))], [.inl (.inl (yi8 x2)), .inl (.inl x1), .inr (.inr (0, 40), x0 + 1)], σ)) rfl ?_
    cases hg5 : yin x1 40 with
    | false => rw [hg5] at h; dsimp only [cond] at h; cases h
    | true =>
      rw [hg5] at h
      dsimp only [cond] at h
      refine yG_t (C' := (15, [(0, .inr (.inl 2, x0)), (1, .inl (.inl x1)), (2, .inl (.inl x2))], [], yw σ (x0 + 1) x1.toNat (yi8 x2))) rfl hg5 ?_
      refine yG_n (n := 1) (C' := (44, [(0, .inr (.inl 2, x0)), (1, .inl (.inl x1)), (2, .inl (.inl x2))], [], yw σ (x0 + 1) x1.toNat (yi8 x2))) rfl ?_
      exact yG_w [] rfl (t_X2_put_b44 (yw σ (x0 + 1) x1.toNat (yi8 x2)) res h)
set_option maxRecDepth 100000 in
set_option maxHeartbeats 4000000 in
theorem m_X2_put {N : Nat} {X : zXT} (hX : zXok X) (hN : zXn X) (l : Launch) {sh : List yH} : yMet X vwCl yct sh l yX2_put wsX2_put { frames := 1, cells := 0, slots := 0, locals := 64 } (F_X2_put N) :=
  ymeth (tb := tb_X2_put N) (pr := pr_X2_put) (rt := 0) (own := RX2) hX (by decide +kernel) rfl rfl ⟨Nat.le_of_ble_eq_true rfl, Nat.le_of_ble_eq_true rfl⟩
    (zfl_all (List.forall_mem_cons.mpr ⟨zfl_X2 (fun w h => List.mem_cons_of_mem _ (List.mem_append_right _ h)) (List.mem_of_getElem? (i := 1) rfl) (by decide) (by decide), List.forall_mem_cons.mpr ⟨zfl_X2 (fun w h => List.mem_cons_of_mem _ (List.mem_append_right _ h)) (List.mem_of_getElem? (i := 2) rfl) (by decide) (by decide), fun _ h => absurd h List.not_mem_nil⟩⟩))
    (zco_all (fun _ h => absurd h List.not_mem_nil)) (zlc_all (fun _ h => absurd h List.not_mem_nil))
    (fun _ h => absurd h List.not_mem_nil)
    (fun _ h => absurd h List.not_mem_nil)
    (zmm_all (fun _ h => absurd h List.not_mem_nil)) (fun _ h => absurd h List.not_mem_nil) (zpr_all hp_X2_put) (fun as σ res h => by
      unfold F_X2_put at h
      split at h
      · rename_i x0 x1 x2
        cases hr : f_X2_put N σ x0 x1 x2 with
        | none => rw [hr] at h; cases h
        | some r =>
          rw [hr] at h
          cases h
          exact ⟨Nat.le_of_ble_eq_true rfl, t_X2_put σ x0 x1 x2 r hr⟩
      · cases h)
noncomputable def pr_X7_lay : List (Nat × Instr × Nat) := [(0, .iload_n 1, 1), (1, .invokestatic 262, 3), (4, .ifCond .ne 5, 3), (7, .iconst (-1), 1), (8, .ireturn, 1), (9, .aload_n 0, 1), (10, .getfield 44, 3), (13, .iload_n 1, 1), (14, .aaload, 1), (15, .iload_n 2, 1), (16, .iconst 1, 1), (17, .invokevirtual 271, 3), (20, .istore 4, 2), (22, .iload 4, 2), (24, .ifCond .eq 9, 3), (27, .bipush (-10), 2), (29, .iload 4, 2), (31, .isub, 1), (32, .ireturn, 1), (33, .aload_n 0, 1), (34, .getfield 44, 3), (37, .iload_n 1, 1), (38, .aaload, 1), (39, .iload_n 2, 1), (40, .iload_n 3, 1), (41, .invokevirtual 274, 3), (44, .iconst 1, 1), (45, .ireturn, 1)]
set_option maxRecDepth 100000 in
theorem hp_X7_lay : pr_X7_lay.all (fun x => decide (decode cX7_lay x.1 = .ok x.2)) = true := by decide +kernel
noncomputable def f_X7_lay (N : Nat) (σ : yS) (x1 : Int) (x2 : Int) (x3 : Int) : Option (Int × yS) :=
  match f_X7_isSheet N σ x1 with
  | none => none
  | some r1 => bif ycP .ne r1.1 0 then
      bif yin x1 4 then
        match f_X2_faultOfCells N r1.2 (r1.2.2 8 x1.toNat) x2 1 with
        | none => none
        | some r2 => bif ycP .eq r2.1 0 then
            match f_X2_put N r2.2 (r2.2.2 8 x1.toNat) x2 x3 with
            | none => none
            | some r3 => some (1, r3.2)
          else
            some (ysu ((-10)) r2.1, r2.2)
      else none
    else
      some ((-1), r1.2)
noncomputable def F_X7_lay (N : Nat) : yF := fun as σ => match as with
  | [.inr (.inl 7, 0), .inl (.inl x1), .inl (.inl x2), .inl (.inl x3)] => (f_X7_lay N σ x1 x2 x3).map (fun r => (some (.inl (.inl r.1)), r.2))
  | _ => none
theorem e_X7_lay {N : Nat} {σ : yS} {x1 : Int} {x2 : Int} {x3 : Int} {r : Int × yS} (h : f_X7_lay N σ x1 x2 x3 = some r) : F_X7_lay N [.inr (.inl 7, 0), .inl (.inl x1), .inl (.inl x2), .inl (.inl x3)] σ = some (some (.inl (.inl r.1)), r.2) := by
  show (f_X7_lay N σ x1 x2 x3).map (fun r => ((some (.inl (.inl r.1)), r.2) : yR)) = _
  rw [h]
  rfl
noncomputable def tb_X7_lay (N : Nat) : yTb := ([(44, 7, 6, 3)], [], [], [(271, 3, 2, F_X2_faultOfCells N), (274, 3, 2, F_X2_put N)], [(262, 1, F_X7_isSheet N)], [], [])
abbrev G_X7_lay (N : Nat) (X : zXT) (sh : List yH) (l : Launch) (rm : Room) : yC → yR → Prop := yGoes X vwCl yct sh l rm cX7_lay 5 wsX7_lay RX7 (tb_X7_lay N) pr_X7_lay 1
set_option maxRecDepth 100000 in
set_option maxHeartbeats 4000000 in
theorem t_X7_lay {N : Nat} {X : zXT} {sh : List yH} {l : Launch} {rm : Room} (σ : yS) (x1 : Int) (x2 : Int) (x3 : Int) (res : Int × yS) (h : f_X7_lay N σ x1 x2 x3 = some res) : G_X7_lay N X sh l rm (0, [(0, .inr (.inl 7, 0)), (1, .inl (.inl x1)), (2, .inl (.inl x2)), (3, .inl (.inl x3))], [], σ) (some (.inl (.inl res.1)), res.2) := by
  unfold f_X7_lay at h
  refine yG_n (n := 1) (C' := (1, [(0, .inr (.inl 7, 0)), (1, .inl (.inl x1)), (2, .inl (.inl x2)), (3, .inl (.inl x3))], [.inl (.inl x1)], σ)) rfl ?_
  cases hr1 : f_X7_isSheet N σ x1 with
  | none => rw [hr1] at h; dsimp only at h; cases h
  | some r1 =>
    rw [hr1] at h
    dsimp only at h
    refine yG_c (C1 := (4, [(0, .inr (.inl 7, 0)), (1, .inl (.inl x1)), (2, .inl (.inl x2)), (3, .inl (.inl x3))], [.inl (.inl r1.1)], r1.2)) rfl (e_X7_isSheet hr1) rfl ?_
    cases hg2 : ycP .ne r1.1 0 with
    | true =>
      rw [hg2] at h
      dsimp only [cond] at h
      refine yG_t (C' := (9, [(0, .inr (.inl 7, 0)), (1, .inl (.inl x1)), (2, .inl (.inl x2)), (3, .inl (.inl x3))], [], r1.2)) rfl hg2 ?_
      refine yG_n (n := 3) (C' := (14, [(0, .inr (.inl 7, 0)), (1, .inl (.inl x1)), (2, .inl (.inl x2)), (3, .inl (.inl x3))], [.inl (.inl x1), .inr (.inr (3, 4), 8)], r1.2)) rfl ?_
      cases hg3 : yin x1 4 with
      | false => rw [hg3] at h; dsimp only [cond] at h; cases h
      | true =>
        rw [hg3] at h
        dsimp only [cond] at h
        refine yG_t (C' := (15, [(0, .inr (.inl 7, 0)), (1, .inl (.inl x1)), (2, .inl (.inl x2)), (3, .inl (.inl x3))], [.inr (.inl 2, r1.2.2 8 x1.toNat)], r1.2)) rfl hg3 ?_
        refine yG_n (n := 2) (C' := (17, [(0, .inr (.inl 7, 0)), (1, .inl (.inl x1)), (2, .inl (.inl x2)), (3, .inl (.inl x3))], [.inl (.inl 1), .inl (.inl x2), .inr (.inl 2, r1.2.2 8 x1.toNat)], r1.2)) rfl ?_
        cases hr4 : f_X2_faultOfCells N r1.2 (r1.2.2 8 x1.toNat) x2 1 with
        | none => rw [hr4] at h; dsimp only at h; cases h
        | some r2 =>
          rw [hr4] at h
          dsimp only at h
          refine yG_c (C1 := (20, [(0, .inr (.inl 7, 0)), (1, .inl (.inl x1)), (2, .inl (.inl x2)), (3, .inl (.inl x3))], [.inl (.inl r2.1)], r2.2)) rfl (e_X2_faultOfCells hr4) rfl ?_
          refine yG_n (n := 2) (C' := (24, [(4, .inl (.inl r2.1)), (0, .inr (.inl 7, 0)), (1, .inl (.inl x1)), (2, .inl (.inl x2)), (3, .inl (.inl x3))], [.inl (.inl r2.1)], r2.2)) rfl ?_
          cases hg5 : ycP .eq r2.1 0 with
          | true =>
            rw [hg5] at h
            dsimp only [cond] at h
            refine yG_t (C' := (33, [(4, .inl (.inl r2.1)), (0, .inr (.inl 7, 0)), (1, .inl (.inl x1)), (2, .inl (.inl x2)), (3, .inl (.inl x3))], [], r2.2)) rfl hg5 ?_
            refine yG_n (n := 3) (C' := (38, [(4, .inl (.inl r2.1)), (0, .inr (.inl 7, 0)), (1, .inl (.inl x1)), (2, .inl (.inl x2)), (3, .inl (.inl x3))], [.inl (.inl x1), .inr (.inr (3, 4), 8)], r2.2)) rfl ?_
            refine yG_t (C' := (39, [(4, .inl (.inl r2.1)), (0, .inr (.inl 7, 0)), (1, .inl (.inl x1)), (2, .inl (.inl x2)), (3, .inl (.inl x3))], [.inr (.inl 2, r2.2.2 8 x1.toNat)], r2.2)) rfl hg3 ?_
            refine yG_n (n := 2) (C' := (41, [(4, .inl (.inl r2.1)), (0, .inr (.inl 7, 0)), (1, .inl (.inl x1)), (2, .inl (.inl x2)), (3, .inl (.inl x3))], [.inl (.inl x3), .inl (.inl x2), .inr (.inl 2, r2.2.2 8 x1.toNat)], r2.2)) rfl ?_
            cases hr6 : f_X2_put N r2.2 (r2.2.2 8 x1.toNat) x2 x3 with
            | none => rw [hr6] at h; dsimp only at h; cases h
            | some r3 =>
              rw [hr6] at h
              dsimp only at h
              refine yG_c (C1 := (44, [(4, .inl (.inl r2.1)), (0, .inr (.inl 7, 0)), (1, .inl (.inl x1)), (2, .inl (.inl x2)), (3, .inl (.inl x3))], [], r3.2)) rfl (e_X2_put hr6) rfl ?_
              refine yG_n (n := 1) (C' := (45, [(4, .inl (.inl r2.1)), (0, .inr (.inl 7, 0)), (1, .inl (.inl x1)), (2, .inl (.inl x2)), (3, .inl (.inl x3))], [.inl (.inl 1)], r3.2)) rfl ?_
              have h := Option.some.inj h
              subst h
              dsimp only
              exact yG_r rfl rfl
          | false =>
            rw [hg5] at h
            dsimp only [cond] at h
            refine yG_f (C' := (27, [(4, .inl (.inl r2.1)), (0, .inr (.inl 7, 0)), (1, .inl (.inl x1)), (2, .inl (.inl x2)), (3, .inl (.inl x3))], [], r2.2)) rfl hg5 ?_
            refine yG_n (n := 3) (C' := (32, [(4, .inl (.inl r2.1)), (0, .inr (.inl 7, 0)), (1, .inl (.inl x1)), (2, .inl (.inl x2)), (3, .inl (.inl x3))], [.inl (.inl (ysu ((-10)) r2.1))], r2.2)) rfl ?_
            have h := Option.some.inj h
            subst h
            dsimp only
            exact yG_r rfl rfl
    | false =>
      rw [hg2] at h
      dsimp only [cond] at h
      refine yG_f (C' := (7, [(0, .inr (.inl 7, 0)), (1, .inl (.inl x1)), (2, .inl (.inl x2)), (3, .inl (.inl x3))], [], r1.2)) rfl hg2 ?_
      refine yG_n (n := 1) (C' := (8, [(0, .inr (.inl 7, 0)), (1, .inl (.inl x1)), (2, .inl (.inl x2)), (3, .inl (.inl x3))], [.inl (.inl ((-1)))], r1.2)) rfl ?_
      have h := Option.some.inj h
      subst h
      dsimp only
      exact yG_r rfl rfl
set_option maxRecDepth 100000 in
set_option maxHeartbeats 4000000 in
theorem m_X7_lay {N : Nat} {X : zXT} (hX : zXok X) (hN : zXn X) (l : Launch) {sh : List yH} : yMet X vwCl yct sh l yX7_lay wsX7_lay { frames := 3, cells := 0, slots := 0, locals := 108 } (F_X7_lay N) :=
  ymeth (tb := tb_X7_lay N) (pr := pr_X7_lay) (rt := 1) (own := RX7) hX (by decide +kernel) rfl rfl ⟨Nat.le_of_ble_eq_true rfl, Nat.le_of_ble_eq_true rfl⟩
    (zfl_all (List.forall_mem_cons.mpr ⟨zfl_X7 (fun w h => List.mem_cons_of_mem _ (List.mem_append_left _ (List.mem_append_right _ h))) (List.mem_of_getElem? (i := 1) rfl) (by decide) (by decide), fun _ h => absurd h List.not_mem_nil⟩))
    (zco_all (fun _ h => absurd h List.not_mem_nil)) (zlc_all (fun _ h => absurd h List.not_mem_nil))
    (List.forall_mem_cons.mpr ⟨ycal_V hX (m_X2_faultOfCells hX hN l) rfl (fun s args hts => cwV 2 hts gX7_lay_X2_faultOfCells rfl rfl rfl (by decide +kernel) ⟨Nat.le_of_ble_eq_true rfl, Nat.le_of_ble_eq_true rfl⟩), List.forall_mem_cons.mpr ⟨ycal_V hX (m_X2_put hX hN l) rfl (fun s args hts => cwV 2 hts gX7_lay_X2_put rfl rfl rfl (by decide +kernel) ⟨Nat.le_of_ble_eq_true rfl, Nat.le_of_ble_eq_true rfl⟩), fun _ h => absurd h List.not_mem_nil⟩⟩)
    (List.forall_mem_cons.mpr ⟨ycal_S hX (m_X7_isSheet hX hN l) (fun s args hts => va_cwS 1 hts gX7_lay_X7_isSheet rfl rfl rfl (by decide +kernel) ⟨Nat.le_of_ble_eq_true rfl, Nat.le_of_ble_eq_true rfl⟩), fun _ h => absurd h List.not_mem_nil⟩)
    (zmm_all (fun _ h => absurd h List.not_mem_nil)) (fun _ h => absurd h List.not_mem_nil) (zpr_all hp_X7_lay) (fun as σ res h => by
      unfold F_X7_lay at h
      split at h
      · rename_i x1 x2 x3
        cases hr : f_X7_lay N σ x1 x2 x3 with
        | none => rw [hr] at h; cases h
        | some r =>
          rw [hr] at h
          cases h
          exact ⟨Nat.le_of_ble_eq_true rfl, t_X7_lay σ x1 x2 x3 r hr⟩
      · cases h)
noncomputable def pr_X4_habitWeight : List (Nat × Instr × Nat) := [(0, .lconst 1, 1), (1, .lstore_n 2, 1), (2, .iconst 0, 1), (3, .istore 4, 2), (5, .iload 4, 2), (7, .aload_n 0, 1), (8, .getfield 9, 3), (11, .if_icmp .ge 44, 3), (14, .lload_n 2, 1), (15, .iload_n 1, 1), (16, .iload 4, 2), (18, .invokestatic 126, 3), (21, .iconst 1, 1), (22, .if_icmp .ne 14, 3), (25, .aload_n 0, 1), (26, .getfield 31, 3), (29, .iload 4, 2), (31, .iaload, 1), (32, .i2l, 1), (33, .goto 14, 3), (36, .bipush 10, 2), (38, .aload_n 0, 1), (39, .getfield 31, 3), (42, .iload 4, 2), (44, .iaload, 1), (45, .isub, 1), (46, .i2l, 1), (47, .lmul, 1), (48, .lstore_n 2, 1), (49, .iinc 4 1, 3), (52, .goto (-47), 3), (55, .lload_n 2, 1), (56, .lreturn, 1)]
set_option maxRecDepth 100000 in
theorem hp_X4_habitWeight : pr_X4_habitWeight.all (fun x => decide (decode cX4_habitWeight x.1 = .ok x.2)) = true := by decide +kernel
noncomputable def f_X4_habitWeight_b47 (N : Nat) (k5 : yS → Nat → Int → Int → Int → Option (Int × yS)) (σ : yS) (x0 : Nat) (x1 : Int) (x4 : Int) (s0 : Int) (s1 : Int) : Option (Int × yS) :=
  k5 σ x0 x1 (ymuL s1 s0) (yad x4 1)
noncomputable def f_X4_habitWeight_b5 (N : Nat) : Nat → yS → Nat → Int → Int → Int → Option (Int × yS) := yfix (fun _ _ _ _ _ => none) (fun ih σ x0 x1 x2 x4 =>
    bif ycP .ge x4 (σ.1 x0 0) then
      some (x2, σ)
    else
      match f_X7_bit N σ x1 x4 with
      | none => none
      | some r1 => bif ycP .ne r1.1 1 then
          bif yin x4 7 then
            f_X4_habitWeight_b47 N ih r1.2 x0 x1 x4 (ysu 10 (r1.2.1 (x0 + 6) x4.toNat)) x2
          else none
        else
          bif yin x4 7 then
            f_X4_habitWeight_b47 N ih r1.2 x0 x1 x4 (r1.2.1 (x0 + 6) x4.toNat) x2
          else none)
theorem q_X4_habitWeight_b5 (N : Nat) (n : Nat) (σ : yS) (x0 : Nat) (x1 : Int) (x2 : Int) (x4 : Int) : f_X4_habitWeight_b5 N (n + 1) σ x0 x1 x2 x4 =
    (bif ycP .ge x4 (σ.1 x0 0) then
      some (x2, σ)
    else
      match f_X7_bit N σ x1 x4 with
      | none => none
      | some r1 => bif ycP .ne r1.1 1 then
          bif yin x4 7 then
            f_X4_habitWeight_b47 N (f_X4_habitWeight_b5 N n) r1.2 x0 x1 x4 (ysu 10 (r1.2.1 (x0 + 6) x4.toNat)) x2
          else none
        else
          bif yin x4 7 then
            f_X4_habitWeight_b47 N (f_X4_habitWeight_b5 N n) r1.2 x0 x1 x4 (r1.2.1 (x0 + 6) x4.toNat) x2
          else none) := rfl
noncomputable def f_X4_habitWeight (N : Nat) (σ : yS) (x0 : Nat) (x1 : Int) : Option (Int × yS) :=
  f_X4_habitWeight_b5 N N σ x0 x1 1 0
noncomputable def F_X4_habitWeight (N : Nat) : yF := fun as σ => match as with
  | [.inr (.inl 4, x0), .inl (.inl x1)] => (f_X4_habitWeight N σ x0 x1).map (fun r => (some (.inl (.inr r.1)), r.2))
  | _ => none
theorem e_X4_habitWeight {N : Nat} {σ : yS} {x0 : Nat} {x1 : Int} {r : Int × yS} (h : f_X4_habitWeight N σ x0 x1 = some r) : F_X4_habitWeight N [.inr (.inl 4, x0), .inl (.inl x1)] σ = some (some (.inl (.inr r.1)), r.2) := by
  show (f_X4_habitWeight N σ x0 x1).map (fun r => ((some (.inl (.inr r.1)), r.2) : yR)) = _
  rw [h]
  rfl
noncomputable def tb_X4_habitWeight (N : Nat) : yTb := ([(9, 4, 0, 0), (31, 4, 9, 3)], [], [], [], [(126, 2, F_X7_bit N)], [], [])
abbrev G_X4_habitWeight (N : Nat) (X : zXT) (sh : List yH) (l : Launch) (rm : Room) : yC → yR → Prop := yGoes X vwCl yct sh l rm cX4_habitWeight 5 wsX4_habitWeight RX4 (tb_X4_habitWeight N) pr_X4_habitWeight 3
set_option maxRecDepth 100000 in
set_option maxHeartbeats 4000000 in
theorem t_X4_habitWeight_b47 {N : Nat} {X : zXT} {sh : List yH} {l : Launch} {rm : Room} (k5 : yS → Nat → Int → Int → Int → Option (Int × yS)) (hk5 : ∀ (σ : yS) (x0 : Nat) (x1 : Int) (x2 : Int) (x4 : Int) (res : Int × yS), k5 σ x0 x1 x2 x4 = some res → G_X4_habitWeight N X sh l rm (5, [(0, .inr (.inl 4, x0)), (1, .inl (.inl x1)), (2, .inl (.inr x2)), (4, .inl (.inl x4))], [], σ) (some (.inl (.inr res.1)), res.2)) (σ : yS) (x0 : Nat) (x1 : Int) (x4 : Int) (s0 : Int) (s1 : Int) (res : Int × yS) (h : f_X4_habitWeight_b47 N k5 σ x0 x1 x4 s0 s1 = some res) : G_X4_habitWeight N X sh l rm (47, [(0, .inr (.inl 4, x0)), (1, .inl (.inl x1)), (4, .inl (.inl x4))], [.inl (.inr s0), .inl (.inr s1)], σ) (some (.inl (.inr res.1)), res.2) := by
  unfold f_X4_habitWeight_b47 at h
  refine yG_n (n := 4) (C' := (5, [(4, .inl (.inl (yad x4 1))), (2, .inl (.inr (ymuL s1 s0))), (0, .inr (.inl 4, x0)), (1, .inl (.inl x1))], [], σ)) rfl ?_
  exact yG_w [2, 3, 1, 0] rfl (hk5 σ x0 x1 (ymuL s1 s0) (yad x4 1) res h)
set_option maxRecDepth 100000 in
set_option maxHeartbeats 4000000 in
theorem t_X4_habitWeight_b5 {N : Nat} {X : zXT} {sh : List yH} {l : Launch} {rm : Room} : ∀ (n : Nat) (σ : yS) (x0 : Nat) (x1 : Int) (x2 : Int) (x4 : Int) (res : Int × yS), f_X4_habitWeight_b5 N n σ x0 x1 x2 x4 = some res → G_X4_habitWeight N X sh l rm (5, [(0, .inr (.inl 4, x0)), (1, .inl (.inl x1)), (2, .inl (.inr x2)), (4, .inl (.inl x4))], [], σ) (some (.inl (.inr res.1)), res.2) := by
  intro n
  induction n with
  | zero => intro σ x0 x1 x2 x4 res h; exact (yno h).elim
  | succ n ih =>
    intro σ x0 x1 x2 x4 res h
    rw [q_X4_habitWeight_b5] at h
    refine yG_n (n := 3) (C' := (11, [(0, .inr (.inl 4, x0)), (1, .inl (.inl x1)), (2, .inl (.inr x2)), (4, .inl (.inl x4))], [.inl (.inl (σ.1 x0 0)), .inl (.inl x4)], σ)) rfl ?_
    cases hg1 : ycP .ge x4 (σ.1 x0 0) with
    | true =>
      rw [hg1] at h
      dsimp only [cond] at h
      refine yG_t (C' := (55, [(0, .inr (.inl 4, x0)), (1, .inl (.inl x1)), (2, .inl (.inr x2)), (4, .inl (.inl x4))], [], σ)) rfl hg1 ?_
      refine yG_n (n := 1) (C' := (56, [(0, .inr (.inl 4, x0)), (1, .inl (.inl x1)), (2, .inl (.inr x2)), (4, .inl (.inl x4))], [.inl (.inr x2)], σ)) rfl ?_
      have h := Option.some.inj h
      subst h
      dsimp only
      exact yG_r rfl rfl
    | false =>
      rw [hg1] at h
      dsimp only [cond] at h
      refine yG_f (C' := (14, [(0, .inr (.inl 4, x0)), (1, .inl (.inl x1)), (2, .inl (.inr x2)), (4, .inl (.inl x4))], [], σ)) rfl hg1 ?_
      refine yG_n (n := 3) (C' := (18, [(0, .inr (.inl 4, x0)), (1, .inl (.inl x1)), (2, .inl (.inr x2)), (4, .inl (.inl x4))], [.inl (.inl x4), .inl (.inl x1), .inl (.inr x2)], σ)) rfl ?_
      cases hr2 : f_X7_bit N σ x1 x4 with
      | none => rw [hr2] at h; dsimp only at h; cases h
      | some r1 =>
        rw [hr2] at h
        dsimp only at h
        refine yG_c (C1 := (21, [(0, .inr (.inl 4, x0)), (1, .inl (.inl x1)), (2, .inl (.inr x2)), (4, .inl (.inl x4))], [.inl (.inl r1.1), .inl (.inr x2)], r1.2)) rfl (e_X7_bit hr2) rfl ?_
        refine yG_n (n := 1) (C' := (22, [(0, .inr (.inl 4, x0)), (1, .inl (.inl x1)), (2, .inl (.inr x2)), (4, .inl (.inl x4))], [.inl (.inl 1), .inl (.inl r1.1), .inl (.inr x2)], r1.2)) rfl ?_
        cases hg3 : ycP .ne r1.1 1 with
        | true =>
          rw [hg3] at h
          dsimp only [cond] at h
          refine yG_t (C' := (36, [(0, .inr (.inl 4, x0)), (1, .inl (.inl x1)), (2, .inl (.inr x2)), (4, .inl (.inl x4))], [.inl (.inr x2)], r1.2)) rfl hg3 ?_
          refine yG_n (n := 4) (C' := (44, [(0, .inr (.inl 4, x0)), (1, .inl (.inl x1)), (2, .inl (.inr x2)), (4, .inl (.inl x4))], [.inl (.inl x4), .inr (.inr (0, 7), x0 + 6), .inl (.inl 10), .inl (.inr x2)], r1.2)) rfl ?_
          cases hg4 : yin x4 7 with
          | false => rw [hg4] at h; dsimp only [cond] at h; cases h
          | true =>
            rw [hg4] at h
            dsimp only [cond] at h
            refine yG_t (C' := (45, [(0, .inr (.inl 4, x0)), (1, .inl (.inl x1)), (2, .inl (.inr x2)), (4, .inl (.inl x4))], [.inl (.inl (r1.2.1 (x0 + 6) x4.toNat)), .inl (.inl 10), .inl (.inr x2)], r1.2)) rfl hg4 ?_
            refine yG_n (n := 2) (C' := (47, [(0, .inr (.inl 4, x0)), (1, .inl (.inl x1)), (2, .inl (.inr x2)), (4, .inl (.inl x4))], [.inl (.inr (ysu 10 (r1.2.1 (x0 + 6) x4.toNat))), .inl (.inr x2)], r1.2)) rfl ?_
            exact yG_w [0, 1, 3] rfl (t_X4_habitWeight_b47 (f_X4_habitWeight_b5 N n) ih r1.2 x0 x1 x4 (ysu 10 (r1.2.1 (x0 + 6) x4.toNat)) x2 res h)
        | false =>
          rw [hg3] at h
          dsimp only [cond] at h
          refine yG_f (C' := (25, [(0, .inr (.inl 4, x0)), (1, .inl (.inl x1)), (2, .inl (.inr x2)), (4, .inl (.inl x4))], [.inl (.inr x2)], r1.2)) rfl hg3 ?_
          refine yG_n (n := 3) (C' := (31, [(0, .inr (.inl 4, x0)), (1, .inl (.inl x1)), (2, .inl (.inr x2)), (4, .inl (.inl x4))], [.inl (.inl x4), .inr (.inr (0, 7), x0 + 6), .inl (.inr x2)], r1.2)) rfl ?_
          cases hg5 : yin x4 7 with
          | false => rw [hg5] at h; dsimp only [cond] at h; cases h
          | true =>
            rw [hg5] at h
            dsimp only [cond] at h
            refine yG_t (C' := (32, [(0, .inr (.inl 4, x0)), (1, .inl (.inl x1)), (2, .inl (.inr x2)), (4, .inl (.inl x4))], [.inl (.inl (r1.2.1 (x0 + 6) x4.toNat)), .inl (.inr x2)], r1.2)) rfl hg5 ?_
            refine yG_n (n := 2) (C' := (47, [(0, .inr (.inl 4, x0)), (1, .inl (.inl x1)), (2, .inl (.inr x2)), (4, .inl (.inl x4))], [.inl (.inr (r1.2.1 (x0 + 6) x4.toNat)), .inl (.inr x2)], r1.2)) rfl ?_
            exact yG_w [0, 1, 3] rfl (t_X4_habitWeight_b47 (f_X4_habitWeight_b5 N n) ih r1.2 x0 x1 x4 (r1.2.1 (x0 + 6) x4.toNat) x2 res h)
set_option maxRecDepth 100000 in
set_option maxHeartbeats 4000000 in
theorem t_X4_habitWeight {N : Nat} {X : zXT} {sh : List yH} {l : Launch} {rm : Room} (σ : yS) (x0 : Nat) (x1 : Int) (res : Int × yS) (h : f_X4_habitWeight N σ x0 x1 = some res) : G_X4_habitWeight N X sh l rm (0, [(0, .inr (.inl 4, x0)), (1, .inl (.inl x1))], [], σ) (some (.inl (.inr res.1)), res.2) := by
  unfold f_X4_habitWeight at h
  refine yG_n (n := 4) (C' := (5, [(4, .inl (.inl 0)), (2, .inl (.inr 1)), (0, .inr (.inl 4, x0)), (1, .inl (.inl x1))], [], σ)) rfl ?_
  exact yG_w [2, 3, 1, 0] rfl (t_X4_habitWeight_b5 N σ x0 x1 1 0 res h)
set_option maxRecDepth 100000 in
set_option maxHeartbeats 4000000 in
theorem m_X4_habitWeight {N : Nat} {X : zXT} (hX : zXok X) (hN : zXn X) (l : Launch) {sh : List yH} : yMet X vwCl yct sh l yX4_habitWeight wsX4_habitWeight { frames := 2, cells := 0, slots := 0, locals := 85 } (F_X4_habitWeight N) :=
  ymeth (tb := tb_X4_habitWeight N) (pr := pr_X4_habitWeight) (rt := 3) (own := RX4) hX (by decide +kernel) rfl rfl ⟨Nat.le_of_ble_eq_true rfl, Nat.le_of_ble_eq_true rfl⟩
    (zfl_all (List.forall_mem_cons.mpr ⟨zfl_X4 (fun w h => List.mem_cons_of_mem _ (List.mem_append_right _ h)) (List.mem_of_getElem? (i := 1) rfl) (by decide) (by decide), List.forall_mem_cons.mpr ⟨zfl_X4 (fun w h => List.mem_cons_of_mem _ (List.mem_append_right _ h)) (List.mem_of_getElem? (i := 2) rfl) (by decide) (by decide), fun _ h => absurd h List.not_mem_nil⟩⟩))
    (zco_all (fun _ h => absurd h List.not_mem_nil)) (zlc_all (fun _ h => absurd h List.not_mem_nil))
    (fun _ h => absurd h List.not_mem_nil)
    (List.forall_mem_cons.mpr ⟨ycal_SN hX (m_X7_bit hX hN l) (fun A s args hts hx => ⟨va_cnB 2 hts ggX4_habitWeight_X7_bit rfl rfl rfl (hN A s s.heap hx RX4 126 yX7_bit RX7 (by decide +kernel)) (hts _ (List.mem_of_getElem? (i := 4) rfl)) (by decide +kernel) ⟨Nat.le_of_ble_eq_true rfl, Nat.le_of_ble_eq_true rfl⟩, hts _ (List.mem_of_getElem? (i := 3) rfl), trivial⟩), fun _ h => absurd h List.not_mem_nil⟩)
    (zmm_all (fun _ h => absurd h List.not_mem_nil)) (fun _ h => absurd h List.not_mem_nil) (zpr_all hp_X4_habitWeight) (fun as σ res h => by
      unfold F_X4_habitWeight at h
      split at h
      · rename_i x0 x1
        cases hr : f_X4_habitWeight N σ x0 x1 with
        | none => rw [hr] at h; cases h
        | some r =>
          rw [hr] at h
          cases h
          exact ⟨Nat.le_of_ble_eq_true rfl, t_X4_habitWeight σ x0 x1 r hr⟩
      · cases h)
noncomputable def pr_X4_habitFalls : List (Nat × Instr × Nat) := [(0, .aload_n 0, 1), (1, .getfield 31, 3), (4, .iload_n 1, 1), (5, .iaload, 1), (6, .ifCond .eq 25, 3), (9, .aload_n 0, 1), (10, .getfield 25, 3), (13, .iload_n 1, 1), (14, .iaload, 1), (15, .iconst 4, 1), (16, .if_icmp .eq 15, 3), (19, .aload_n 0, 1), (20, .getfield 65, 3), (23, .iload_n 2, 1), (24, .invokestatic 126, 3), (27, .iconst 1, 1), (28, .if_icmp .ne 5, 3), (31, .iconst 0, 1), (32, .ireturn, 1), (33, .iconst 0, 1), (34, .istore_n 3, 1), (35, .iconst 0, 1), (36, .istore 4, 2), (38, .iload 4, 2), (40, .aload_n 0, 1), (41, .getfield 25, 3), (44, .iload_n 1, 1), (45, .iaload, 1), (46, .invokestatic 108, 3), (49, .if_icmp .ge 37, 3), (52, .iload_n 3, 1), (53, .aload_n 0, 1), (54, .iload_n 1, 1), (55, .aload_n 0, 1), (56, .getfield 25, 3), (59, .iload_n 1, 1), (60, .iaload, 1), (61, .iload 4, 2), (63, .invokestatic 115, 3), (66, .invokevirtual 119, 3), (69, .iload_n 2, 1), (70, .if_icmp .ne 7, 3), (73, .iconst 1, 1), (74, .goto 4, 3), (77, .iconst 0, 1), (78, .iadd, 1), (79, .istore_n 3, 1), (80, .iinc 4 1, 3), (83, .goto (-45), 3), (86, .iload_n 3, 1), (87, .ireturn, 1)]
set_option maxRecDepth 100000 in
theorem hp_X4_habitFalls : pr_X4_habitFalls.all (fun x => decide (decode cX4_habitFalls x.1 = .ok x.2)) = true := by decide +kernel
noncomputable def f_X4_habitFalls_b31 (N : Nat) (σ : yS) : Option (Int × yS) :=
  some (0, σ)
noncomputable def f_X4_habitFalls_b78 (N : Nat) (k38 : yS → Nat → Int → Int → Int → Int → Option (Int × yS)) (σ : yS) (x0 : Nat) (x1 : Int) (x2 : Int) (x4 : Int) (s0 : Int) (s1 : Int) : Option (Int × yS) :=
  k38 σ x0 x1 x2 (yad s1 s0) (yad x4 1)
noncomputable def f_X4_habitFalls_b38 (N : Nat) : Nat → yS → Nat → Int → Int → Int → Int → Option (Int × yS) := yfix (fun _ _ _ _ _ _ => none) (fun ih σ x0 x1 x2 x3 x4 =>
    bif yin x1 7 then
      match f_X4_fallsOf N σ (σ.1 (x0 + 4) x1.toNat) with
      | none => none
      | some r2 => bif ycP .ge x4 r2.1 then
          some (x3, r2.2)
        else
          match f_X4_stepOf N r2.2 (r2.2.1 (x0 + 4) x1.toNat) x4 with
          | none => none
          | some r3 => match f_X4_whereFalls N r3.2 x0 x1 r3.1 with
            | none => none
            | some r4 => bif ycP .ne r4.1 x2 then
                f_X4_habitFalls_b78 N ih r4.2 x0 x1 x2 x4 0 x3
              else
                f_X4_habitFalls_b78 N ih r4.2 x0 x1 x2 x4 1 x3
    else none)
theorem q_X4_habitFalls_b38 (N : Nat) (n : Nat) (σ : yS) (x0 : Nat) (x1 : Int) (x2 : Int) (x3 : Int) (x4 : Int) : f_X4_habitFalls_b38 N (n + 1) σ x0 x1 x2 x3 x4 =
    (bif yin x1 7 then
      match f_X4_fallsOf N σ (σ.1 (x0 + 4) x1.toNat) with
      | none => none
      | some r2 => bif ycP .ge x4 r2.1 then
          some (x3, r2.2)
        else
          match f_X4_stepOf N r2.2 (r2.2.1 (x0 + 4) x1.toNat) x4 with
          | none => none
          | some r3 => match f_X4_whereFalls N r3.2 x0 x1 r3.1 with
            | none => none
            | some r4 => bif ycP .ne r4.1 x2 then
                f_X4_habitFalls_b78 N (f_X4_habitFalls_b38 N n) r4.2 x0 x1 x2 x4 0 x3
              else
                f_X4_habitFalls_b78 N (f_X4_habitFalls_b38 N n) r4.2 x0 x1 x2 x4 1 x3
    else none) := rfl
noncomputable def f_X4_habitFalls (N : Nat) (σ : yS) (x0 : Nat) (x1 : Int) (x2 : Int) : Option (Int × yS) :=
  bif yin x1 7 then
    bif ycP .eq (σ.1 (x0 + 6) x1.toNat) 0 then
      f_X4_habitFalls_b31 N σ
    else
      bif ycP .eq (σ.1 (x0 + 4) x1.toNat) 4 then
        f_X4_habitFalls_b31 N σ
      else
        match f_X7_bit N σ (σ.1 x0 6) x2 with
        | none => none
        | some r1 => bif ycP .ne r1.1 1 then
            f_X4_habitFalls_b38 N N r1.2 x0 x1 x2 0 0
          else
            f_X4_habitFalls_b31 N r1.2
  else none
noncomputable def F_X4_habitFalls (N : Nat) : yF := fun as σ => match as with
  | [.inr (.inl 4, x0), .inl (.inl x1), .inl (.inl x2)] => (f_X4_habitFalls N σ x0 x1 x2).map (fun r => (some (.inl (.inl r.1)), r.2))
  | _ => none
theorem e_X4_habitFalls {N : Nat} {σ : yS} {x0 : Nat} {x1 : Int} {x2 : Int} {r : Int × yS} (h : f_X4_habitFalls N σ x0 x1 x2 = some r) : F_X4_habitFalls N [.inr (.inl 4, x0), .inl (.inl x1), .inl (.inl x2)] σ = some (some (.inl (.inl r.1)), r.2) := by
  show (f_X4_habitFalls N σ x0 x1 x2).map (fun r => ((some (.inl (.inl r.1)), r.2) : yR)) = _
  rw [h]
  rfl
noncomputable def tb_X4_habitFalls (N : Nat) : yTb := ([(25, 4, 7, 3), (31, 4, 9, 3), (65, 4, 6, 0)], [], [], [(119, 3, 4, F_X4_whereFalls N)], [(108, 1, F_X4_fallsOf N), (115, 2, F_X4_stepOf N), (126, 2, F_X7_bit N)], [], [])
abbrev G_X4_habitFalls (N : Nat) (X : zXT) (sh : List yH) (l : Launch) (rm : Room) : yC → yR → Prop := yGoes X vwCl yct sh l rm cX4_habitFalls 5 wsX4_habitFalls RX4 (tb_X4_habitFalls N) pr_X4_habitFalls 1
set_option maxRecDepth 100000 in
set_option maxHeartbeats 4000000 in
theorem t_X4_habitFalls_b31 {N : Nat} {X : zXT} {sh : List yH} {l : Launch} {rm : Room} (σ : yS) (res : Int × yS) (h : f_X4_habitFalls_b31 N σ = some res) : G_X4_habitFalls N X sh l rm (31, [], [], σ) (some (.inl (.inl res.1)), res.2) := by
  unfold f_X4_habitFalls_b31 at h
  refine yG_n (n := 1) (C' := (32, [], [.inl (.inl 0)], σ)) rfl ?_
  have h := Option.some.inj h
  subst h
  dsimp only
  exact yG_r rfl rfl
set_option maxRecDepth 100000 in
set_option maxHeartbeats 4000000 in
theorem t_X4_habitFalls_b78 {N : Nat} {X : zXT} {sh : List yH} {l : Launch} {rm : Room} (k38 : yS → Nat → Int → Int → Int → Int → Option (Int × yS)) (hk38 : ∀ (σ : yS) (x0 : Nat) (x1 : Int) (x2 : Int) (x3 : Int) (x4 : Int) (res : Int × yS), k38 σ x0 x1 x2 x3 x4 = some res → G_X4_habitFalls N X sh l rm (38, [(0, .inr (.inl 4, x0)), (1, .inl (.inl x1)), (2, .inl (.inl x2)), (3, .inl (.inl x3)), (4, .inl (.inl x4))], [], σ) (some (.inl (.inl res.1)), res.2)) (σ : yS) (x0 : Nat) (x1 : Int) (x2 : Int) (x4 : Int) (s0 : Int) (s1 : Int) (res : Int × yS) (h : f_X4_habitFalls_b78 N k38 σ x0 x1 x2 x4 s0 s1 = some res) : G_X4_habitFalls N X sh l rm (78, [(0, .inr (.inl 4, x0)), (1, .inl (.inl x1)), (2, .inl (.inl x2)), (4, .inl (.inl x4))], [.inl (.inl s0), .inl (.inl s1)], σ) (some (.inl (.inl res.1)), res.2) := by
  unfold f_X4_habitFalls_b78 at h
  refine yG_n (n := 4) (C' := (38, [(4, .inl (.inl (yad x4 1))), (3, .inl (.inl (yad s1 s0))), (0, .inr (.inl 4, x0)), (1, .inl (.inl x1)), (2, .inl (.inl x2))], [], σ)) rfl ?_
  exact yG_w [2, 3, 4, 1, 0] rfl (hk38 σ x0 x1 x2 (yad s1 s0) (yad x4 1) res h)
set_option maxRecDepth 100000 in
set_option maxHeartbeats 4000000 in
theorem t_X4_habitFalls_b38 {N : Nat} {X : zXT} {sh : List yH} {l : Launch} {rm : Room} : ∀ (n : Nat) (σ : yS) (x0 : Nat) (x1 : Int) (x2 : Int) (x3 : Int) (x4 : Int) (res : Int × yS), f_X4_habitFalls_b38 N n σ x0 x1 x2 x3 x4 = some res → G_X4_habitFalls N X sh l rm (38, [(0, .inr (.inl 4, x0)), (1, .inl (.inl x1)), (2, .inl (.inl x2)), (3, .inl (.inl x3)), (4, .inl (.inl x4))], [], σ) (some (.inl (.inl res.1)), res.2) := by
  intro n
  induction n with
  | zero => intro σ x0 x1 x2 x3 x4 res h; exact (yno h).elim
  | succ n ih =>
    intro σ x0 x1 x2 x3 x4 res h
    rw [q_X4_habitFalls_b38] at h
    refine yG_n (n := 4) (C' := (45, [(0, .inr (.inl 4, x0)), (1, .inl (.inl x1)), (2, .inl (.inl x2)), (3, .inl (.inl x3)), (4, .inl (.inl x4))], [.inl (.inl x1), .inr (.inr (0, 7), x0 + 4), .inl (.inl x4)], σ)) rfl ?_
    cases hg1 : yin x1 7 with
    | false => rw [hg1] at h; dsimp only [cond] at h; cases h
    | true =>
      rw [hg1] at h
      dsimp only [cond] at h
      refine yG_t (C' := (46, [(0, .inr (.inl 4, x0)), (1, .inl (.inl x1)), (2, .inl (.inl x2)), (3, .inl (.inl x3)), (4, .inl (.inl x4))], [.inl (.inl (σ.1 (x0 + 4) x1.toNat)), .inl (.inl x4)], σ)) rfl hg1 ?_
      cases hr2 : f_X4_fallsOf N σ (σ.1 (x0 + 4) x1.toNat) with
      | none => rw [hr2] at h; dsimp only at h; cases h
      | some r2 =>
        rw [hr2] at h
        dsimp only at h
        refine yG_c (C1 := (49, [(0, .inr (.inl 4, x0)), (1, .inl (.inl x1)), (2, .inl (.inl x2)), (3, .inl (.inl x3)), (4, .inl (.inl x4))], [.inl (.inl r2.1), .inl (.inl x4)], r2.2)) rfl (e_X4_fallsOf hr2) rfl ?_
        cases hg3 : ycP .ge x4 r2.1 with
        | true =>
          rw [hg3] at h
          dsimp only [cond] at h
          refine yG_t (C' := (86, [(0, .inr (.inl 4, x0)), (1, .inl (.inl x1)), (2, .inl (.inl x2)), (3, .inl (.inl x3)), (4, .inl (.inl x4))], [], r2.2)) rfl hg3 ?_
          refine yG_n (n := 1) (C' := (87, [(0, .inr (.inl 4, x0)), (1, .inl (.inl x1)), (2, .inl (.inl x2)), (3, .inl (.inl x3)), (4, .inl (.inl x4))], [.inl (.inl x3)], r2.2)) rfl ?_
          have h := Option.some.inj h
          subst h
          dsimp only
          exact yG_r rfl rfl
        | false =>
          rw [hg3] at h
          dsimp only [cond] at h
          refine yG_f (C' := (52, [(0, .inr (.inl 4, x0)), (1, .inl (.inl x1)), (2, .inl (.inl x2)), (3, .inl (.inl x3)), (4, .inl (.inl x4))], [], r2.2)) rfl hg3 ?_
          refine yG_n (n := 6) (C' := (60, [(0, .inr (.inl 4, x0)), (1, .inl (.inl x1)), (2, .inl (.inl x2)), (3, .inl (.inl x3)), (4, .inl (.inl x4))], [.inl (.inl x1), .inr (.inr (0, 7), x0 + 4), .inl (.inl x1), .inr (.inl 4, x0), .inl (.inl x3)], r2.2)) rfl ?_
          refine yG_t (C' := (61, [(0, .inr (.inl 4, x0)), (1, .inl (.inl x1)), (2, .inl (.inl x2)), (3, .inl (.inl x3)), (4, .inl (.inl x4))], [.inl (.inl (r2.2.1 (x0 + 4) x1.toNat)), .inl (.inl x1), .inr (.inl 4, x0), .inl (.inl x3)], r2.2)) rfl hg1 ?_
          refine yG_n (n := 1) (C' := (63, [(0, .inr (.inl 4, x0)), (1, .inl (.inl x1)), (2, .inl (.inl x2)), (3, .inl (.inl x3)), (4, .inl (.inl x4))], [.inl (.inl x4), .inl (.inl (r2.2.1 (x0 + 4) x1.toNat)), .inl (.inl x1), .inr (.inl 4, x0), .inl (.inl x3)], r2.2)) rfl ?_
          cases hr4 : f_X4_stepOf N r2.2 (r2.2.1 (x0 + 4) x1.toNat) x4 with
          | none => rw [hr4] at h; dsimp only at h; cases h
          | some r3 =>
            rw [hr4] at h
            dsimp only at h
            refine yG_c (C1 := (66, [(0, .inr (.inl 4, x0)), (1, .inl (.inl x1)), (2, .inl (.inl x2)), (3, .inl (.inl x3)), (4, .inl (.inl x4))], [.inl (.inl r3.1), .inl (.inl x1), .inr (.inl 4, x0), .inl (.inl x3)], r3.2)) rfl (e_X4_stepOf hr4) rfl ?_
            cases hr5 : f_X4_whereFalls N r3.2 x0 x1 r3.1 with
            | none => rw [hr5] at h; dsimp only at h; cases h
            | some r4 =>
              rw [hr5] at h
              dsimp only at h
              refine yG_c (C1 := (69, [(0, .inr (.inl 4, x0)), (1, .inl (.inl x1)), (2, .inl (.inl x2)), (3, .inl (.inl x3)), (4, .inl (.inl x4))], [.inl (.inl r4.1), .inl (.inl x3)], r4.2)) rfl (e_X4_whereFalls hr5) rfl ?_
              refine yG_n (n := 1) (C' := (70, [(0, .inr (.inl 4, x0)), (1, .inl (.inl x1)), (2, .inl (.inl x2)), (3, .inl (.inl x3)), (4, .inl (.inl x4))], [.inl (.inl x2), .inl (.inl r4.1), .inl (.inl x3)], r4.2)) rfl ?_
              cases hg6 : ycP .ne r4.1 x2 with
              | true =>
                rw [hg6] at h
                dsimp only [cond] at h
                refine yG_t (C' := (77, [(0, .inr (.inl 4, x0)), (1, .inl (.inl x1)), (2, .inl (.inl x2)), (3, .inl (.inl x3)), (4, .inl (.inl x4))], [.inl (.inl x3)], r4.2)) rfl hg6 ?_
                refine yG_n (n := 1) (C' := (78, [(0, .inr (.inl 4, x0)), (1, .inl (.inl x1)), (2, .inl (.inl x2)), (3, .inl (.inl x3)), (4, .inl (.inl x4))], [.inl (.inl 0), .inl (.inl x3)], r4.2)) rfl ?_
                exact yG_w [0, 1, 2, 4] rfl (t_X4_habitFalls_b78 (f_X4_habitFalls_b38 N n) ih r4.2 x0 x1 x2 x4 0 x3 res h)
              | false =>
                rw [hg6] at h
                dsimp only [cond] at h
                refine yG_f (C' := (73, [(0, .inr (.inl 4, x0)), (1, .inl (.inl x1)), (2, .inl (.inl x2)), (3, .inl (.inl x3)), (4, .inl (.inl x4))], [.inl (.inl x3)], r4.2)) rfl hg6 ?_
                refine yG_n (n := 2) (C' := (78, [(0, .inr (.inl 4, x0)), (1, .inl (.inl x1)), (2, .inl (.inl x2)), (3, .inl (.inl x3)), (4, .inl (.inl x4))], [.inl (.inl 1), .inl (.inl x3)], r4.2)) rfl ?_
                exact yG_w [0, 1, 2, 4] rfl (t_X4_habitFalls_b78 (f_X4_habitFalls_b38 N n) ih r4.2 x0 x1 x2 x4 1 x3 res h)
set_option maxRecDepth 100000 in
set_option maxHeartbeats 4000000 in
theorem t_X4_habitFalls {N : Nat} {X : zXT} {sh : List yH} {l : Launch} {rm : Room} (σ : yS) (x0 : Nat) (x1 : Int) (x2 : Int) (res : Int × yS) (h : f_X4_habitFalls N σ x0 x1 x2 = some res) : G_X4_habitFalls N X sh l rm (0, [(0, .inr (.inl 4, x0)), (1, .inl (.inl x1)), (2, .inl (.inl x2))], [], σ) (some (.inl (.inl res.1)), res.2) := by
  unfold f_X4_habitFalls at h
  refine yG_n (n := 3) (C' := (5, [(0, .inr (.inl 4, x0)), (1, .inl (.inl x1)), (2, .inl (.inl x2))], [.inl (.inl x1), .inr (.inr (0, 7), x0 + 6)], σ)) rfl ?_
  cases hg7 : yin x1 7 with
  | false => rw [hg7] at h; dsimp only [cond] at h; cases h
  | true =>
    rw [hg7] at h
    dsimp only [cond] at h
    refine yG_t (C' := (6, [(0, .inr (.inl 4, x0)), (1, .inl (.inl x1)), (2, .inl (.inl x2))], [.inl (.inl (σ.1 (x0 + 6) x1.toNat))], σ)) rfl hg7 ?_
    cases hg8 : ycP .eq (σ.1 (x0 + 6) x1.toNat) 0 with
    | true =>
      rw [hg8] at h
      dsimp only [cond] at h
      refine yG_t (C' := (31, [(0, .inr (.inl 4, x0)), (1, .inl (.inl x1)), (2, .inl (.inl x2))], [], σ)) rfl hg8 ?_
      exact yG_w [] rfl (t_X4_habitFalls_b31 σ res h)
    | false =>
      rw [hg8] at h
      dsimp only [cond] at h
      refine yG_f (C' := (9, [(0, .inr (.inl 4, x0)), (1, .inl (.inl x1)), (2, .inl (.inl x2))], [], σ)) rfl hg8 ?_
      refine yG_n (n := 3) (C' := (14, [(0, .inr (.inl 4, x0)), (1, .inl (.inl x1)), (2, .inl (.inl x2))], [.inl (.inl x1), .inr (.inr (0, 7), x0 + 4)], σ)) rfl ?_
      refine yG_t (C' := (15, [(0, .inr (.inl 4, x0)), (1, .inl (.inl x1)), (2, .inl (.inl x2))], [.inl (.inl (σ.1 (x0 + 4) x1.toNat))], σ)) rfl hg7 ?_
      refine yG_n (n := 1) (C' := (16, [(0, .inr (.inl 4, x0)), (1, .inl (.inl x1)), (2, .inl (.inl x2))], [.inl (.inl 4), .inl (.inl (σ.1 (x0 + 4) x1.toNat))], σ)) rfl ?_
      cases hg9 : ycP .eq (σ.1 (x0 + 4) x1.toNat) 4 with
      | true =>
        rw [hg9] at h
        dsimp only [cond] at h
        refine yG_t (C' := (31, [(0, .inr (.inl 4, x0)), (1, .inl (.inl x1)), (2, .inl (.inl x2))], [], σ)) rfl hg9 ?_
        exact yG_w [] rfl (t_X4_habitFalls_b31 σ res h)
      | false =>
        rw [hg9] at h
        dsimp only [cond] at h
        refine yG_f (C' := (19, [(0, .inr (.inl 4, x0)), (1, .inl (.inl x1)), (2, .inl (.inl x2))], [], σ)) rfl hg9 ?_
        refine yG_n (n := 3) (C' := (24, [(0, .inr (.inl 4, x0)), (1, .inl (.inl x1)), (2, .inl (.inl x2))], [.inl (.inl x2), .inl (.inl (σ.1 x0 6))], σ)) rfl ?_
        cases hr10 : f_X7_bit N σ (σ.1 x0 6) x2 with
        | none => rw [hr10] at h; dsimp only at h; cases h
        | some r1 =>
          rw [hr10] at h
          dsimp only at h
          refine yG_c (C1 := (27, [(0, .inr (.inl 4, x0)), (1, .inl (.inl x1)), (2, .inl (.inl x2))], [.inl (.inl r1.1)], r1.2)) rfl (e_X7_bit hr10) rfl ?_
          refine yG_n (n := 1) (C' := (28, [(0, .inr (.inl 4, x0)), (1, .inl (.inl x1)), (2, .inl (.inl x2))], [.inl (.inl 1), .inl (.inl r1.1)], r1.2)) rfl ?_
          cases hg11 : ycP .ne r1.1 1 with
          | true =>
            rw [hg11] at h
            dsimp only [cond] at h
            refine yG_t (C' := (33, [(0, .inr (.inl 4, x0)), (1, .inl (.inl x1)), (2, .inl (.inl x2))], [], r1.2)) rfl hg11 ?_
            refine yG_n (n := 4) (C' := (38, [(4, .inl (.inl 0)), (3, .inl (.inl 0)), (0, .inr (.inl 4, x0)), (1, .inl (.inl x1)), (2, .inl (.inl x2))], [], r1.2)) rfl ?_
            exact yG_w [2, 3, 4, 1, 0] rfl (t_X4_habitFalls_b38 N r1.2 x0 x1 x2 0 0 res h)
          | false =>
            rw [hg11] at h
            dsimp only [cond] at h
            refine yG_f (C' := (31, [(0, .inr (.inl 4, x0)), (1, .inl (.inl x1)), (2, .inl (.inl x2))], [], r1.2)) rfl hg11 ?_
            exact yG_w [] rfl (t_X4_habitFalls_b31 r1.2 res h)
set_option maxRecDepth 100000 in
set_option maxHeartbeats 4000000 in
theorem m_X4_habitFalls {N : Nat} {X : zXT} (hX : zXok X) (hN : zXn X) (l : Launch) {sh : List yH} : yMet X vwCl yct sh l yX4_habitFalls wsX4_habitFalls { frames := 2, cells := 0, slots := 0, locals := 87 } (F_X4_habitFalls N) :=
  ymeth (tb := tb_X4_habitFalls N) (pr := pr_X4_habitFalls) (rt := 1) (own := RX4) hX (by decide +kernel) rfl rfl ⟨Nat.le_of_ble_eq_true rfl, Nat.le_of_ble_eq_true rfl⟩
    (zfl_all (List.forall_mem_cons.mpr ⟨zfl_X4 (fun w h => List.mem_cons_of_mem _ (List.mem_append_right _ h)) (List.mem_of_getElem? (i := 2) rfl) (by decide) (by decide), List.forall_mem_cons.mpr ⟨zfl_X4 (fun w h => List.mem_cons_of_mem _ (List.mem_append_right _ h)) (List.mem_of_getElem? (i := 1) rfl) (by decide) (by decide), List.forall_mem_cons.mpr ⟨zfl_X4 (fun w h => List.mem_cons_of_mem _ (List.mem_append_right _ h)) (List.mem_of_getElem? (i := 3) rfl) (by decide) (by decide), fun _ h => absurd h List.not_mem_nil⟩⟩⟩))
    (zco_all (fun _ h => absurd h List.not_mem_nil)) (zlc_all (fun _ h => absurd h List.not_mem_nil))
    (List.forall_mem_cons.mpr ⟨ycal_V hX (m_X4_whereFalls hX hN l) rfl (fun s args hts => cwV 2 hts gX4_habitFalls_X4_whereFalls rfl rfl rfl (by decide +kernel) ⟨Nat.le_of_ble_eq_true rfl, Nat.le_of_ble_eq_true rfl⟩), fun _ h => absurd h List.not_mem_nil⟩)
    (List.forall_mem_cons.mpr ⟨ycal_S hX (m_X4_fallsOf hX hN l) (fun s args hts => va_cwS 1 hts gX4_habitFalls_X4_fallsOf rfl rfl rfl (by decide +kernel) ⟨Nat.le_of_ble_eq_true rfl, Nat.le_of_ble_eq_true rfl⟩), List.forall_mem_cons.mpr ⟨ycal_S hX (m_X4_stepOf hX hN l) (fun s args hts => va_cwS 2 hts gX4_habitFalls_X4_stepOf rfl rfl rfl (by decide +kernel) ⟨Nat.le_of_ble_eq_true rfl, Nat.le_of_ble_eq_true rfl⟩), List.forall_mem_cons.mpr ⟨ycal_SN hX (m_X7_bit hX hN l) (fun A s args hts hx => ⟨va_cnB 2 hts ggX4_habitFalls_X7_bit rfl rfl rfl (hN A s s.heap hx RX4 126 yX7_bit RX7 (by decide +kernel)) (hts _ (List.mem_of_getElem? (i := 5) rfl)) (by decide +kernel) ⟨Nat.le_of_ble_eq_true rfl, Nat.le_of_ble_eq_true rfl⟩, hts _ (List.mem_of_getElem? (i := 4) rfl), trivial⟩), fun _ h => absurd h List.not_mem_nil⟩⟩⟩)
    (zmm_all (fun _ h => absurd h List.not_mem_nil)) (fun _ h => absurd h List.not_mem_nil) (zpr_all hp_X4_habitFalls) (fun as σ res h => by
      unfold F_X4_habitFalls at h
      split at h
      · rename_i x0 x1 x2
        cases hr : f_X4_habitFalls N σ x0 x1 x2 with
        | none => rw [hr] at h; cases h
        | some r =>
          rw [hr] at h
          cases h
          exact ⟨Nat.le_of_ble_eq_true rfl, t_X4_habitFalls σ x0 x1 x2 r hr⟩
      · cases h)
