section
noncomputable def pr_X7_house : List (Nat × Instr × Nat) := [(0, .aload_n 0, 1), (1, .getfield 10, 3), (4, .iload_n 1, 1), (5, .invokevirtual 118, 3), (8, .ifCond .ne 5, 3), (11, .iconst (-1), 1), (12, .ireturn, 1), (13, .iload_n 2, 1), (14, .tableswitch 100 0 5 #[38, 48, 58, 70, 80, 90], 38), (52, .aload_n 0, 1), (53, .getfield 10, 3), (56, .getfield 121, 3), (59, .iload_n 1, 1), (60, .iaload, 1), (61, .ireturn, 1), (62, .aload_n 0, 1), (63, .getfield 10, 3), (66, .getfield 125, 3), (69, .iload_n 1, 1), (70, .iaload, 1), (71, .ireturn, 1), (72, .aload_n 0, 1), (73, .getfield 10, 3), (76, .getfield 128, 3), (79, .iload_n 1, 1), (80, .invokestatic 131, 3), (83, .ireturn, 1), (84, .aload_n 0, 1), (85, .getfield 10, 3), (88, .getfield 135, 3), (91, .iload_n 1, 1), (92, .iaload, 1), (93, .ireturn, 1), (94, .aload_n 0, 1), (95, .getfield 10, 3), (98, .getfield 138, 3), (101, .iload_n 1, 1), (102, .iaload, 1), (103, .ireturn, 1), (104, .aload_n 0, 1), (105, .getfield 10, 3), (108, .getfield 141, 3), (111, .iload_n 1, 1), (112, .iaload, 1), (113, .ireturn, 1), (114, .iload_n 2, 1), (115, .bipush 10, 2), (117, .bipush 10, 2), (119, .aload_n 0, 1), (120, .getfield 10, 3), (123, .getfield 89, 3), (126, .iadd, 1), (127, .iconst 1, 1), (128, .isub, 1), (129, .invokestatic 49, 3), (132, .ifCond .ne 5, 3), (135, .iconst (-1), 1), (136, .ireturn, 1), (137, .aload_n 0, 1), (138, .getfield 10, 3), (141, .getfield 144, 3), (144, .iload_n 1, 1), (145, .iload_n 2, 1), (146, .bipush 10, 2), (148, .isub, 1), (149, .invokestatic 147, 3), (152, .iaload, 1), (153, .ireturn, 1)]
set_option maxRecDepth 100000 in
theorem hp_X7_house : pr_X7_house.all (fun x => decide (decode cX7_house x.1 = .ok x.2)) = true := by decide +kernel
noncomputable def f_X7_house (N : Nat) (σ : yS) (x1 : Int) (x2 : Int) : Option (Int × yS) :=
  match f_X4_isHouse N σ 17 x1 with
  | none => none
  | some r1 => bif ycP .ne r1.1 0 then
      bif zle x2 0 && zle 0 x2 then
        bif yin x1 7 then
          some (r1.2.1 19 x1.toNat, r1.2)
        else none
      else
        bif zle x2 1 && zle 1 x2 then
        bif yin x1 7 then
          some (r1.2.1 20 x1.toNat, r1.2)
        else none
      else
        bif zle x2 2 && zle 2 x2 then
        match f_X7_bit N r1.2 (r1.2.1 17 6) x1 with
        | none => none
        | some r2 => some (r2.1, r2.2)
      else
        bif zle x2 3 && zle 3 x2 then
        bif yin x1 7 then
          some (r1.2.1 21 x1.toNat, r1.2)
        else none
      else
        bif zle x2 4 && zle 4 x2 then
        bif yin x1 7 then
          some (r1.2.1 22 x1.toNat, r1.2)
        else none
      else
        bif zle x2 5 && zle 5 x2 then
        bif yin x1 7 then
          some (r1.2.1 23 x1.toNat, r1.2)
        else none
      else
        match f_X7_within N r1.2 x2 10 (ysu (yad 10 (r1.2.1 17 2)) 1) with
        | none => none
        | some r3 => bif ycP .ne r3.1 0 then
            match f_X7_doneAt N r3.2 x1 (ysu x2 10) with
            | none => none
            | some r4 => bif yin r4.1 35 then
                some (r4.2.1 24 r4.1.toNat, r4.2)
              else none
          else
            some ((-1), r3.2)
    else
      some ((-1), r1.2)
noncomputable def F_X7_house (N : Nat) : yF := fun as σ => match as with
  | [.inr (.inl 7, 0), .inl (.inl x1), .inl (.inl x2)] => (f_X7_house N σ x1 x2).map (fun r => (some (.inl (.inl r.1)), r.2))
  | _ => none
theorem e_X7_house {N : Nat} {σ : yS} {x1 : Int} {x2 : Int} {r : Int × yS} (h : f_X7_house N σ x1 x2 = some r) : F_X7_house N [.inr (.inl 7, 0), .inl (.inl x1), .inl (.inl x2)] σ = some (some (.inl (.inl r.1)), r.2) := by
  show (f_X7_house N σ x1 x2).map (fun r => ((some (.inl (.inl r.1)), r.2) : yR)) = _
  rw [h]
  rfl
noncomputable def tb_X7_house (N : Nat) : yTb := ([(10, 7, 0, 3), (89, 4, 2, 0), (121, 4, 4, 3), (125, 4, 5, 3), (128, 4, 6, 0), (135, 4, 7, 3), (138, 4, 8, 3), (141, 4, 9, 3), (144, 4, 10, 3)], [], [], [(118, 2, 4, F_X4_isHouse N)], [(49, 3, F_X7_within N), (131, 2, F_X7_bit N), (147, 2, F_X7_doneAt N)], [], [])
abbrev G_X7_house (N : Nat) (X : zXT) (sh : List yH) (l : Launch) (rm : Room) : yC → yR → Prop := yGoes X vwCl yct sh l rm cX7_house 3 wsX7_house RX7 (tb_X7_house N) pr_X7_house 1
set_option maxRecDepth 100000 in
set_option maxHeartbeats 4000000 in
theorem t_X7_house {N : Nat} {X : zXT} {sh : List yH} {l : Launch} {rm : Room} (σ : yS) (x1 : Int) (x2 : Int) (res : Int × yS) (h : f_X7_house N σ x1 x2 = some res) : G_X7_house N X sh l rm (0, [(0, .inr (.inl 7, 0)), (1, .inl (.inl x1)), (2, .inl (.inl x2))], [], σ) (some (.inl (.inl res.1)), res.2) := by
  unfold f_X7_house at h
  refine yG_n (n := 3) (C' := (5, [(0, .inr (.inl 7, 0)), (1, .inl (.inl x1)), (2, .inl (.inl x2))], [.inl (.inl x1), .inr (.inl 4, 17)], σ)) rfl ?_
  cases hr1 : f_X4_isHouse N σ 17 x1 with
  | none => rw [hr1] at h; dsimp only at h; cases h
  | some r1 =>
    rw [hr1] at h
    dsimp only at h
    refine yG_c (C1 := (8, [(0, .inr (.inl 7, 0)), (1, .inl (.inl x1)), (2, .inl (.inl x2))], [.inl (.inl r1.1)], r1.2)) rfl (e_X4_isHouse hr1) rfl ?_
    cases hg2 : ycP .ne r1.1 0 with
    | true =>
      rw [hg2] at h
      dsimp only [cond] at h
      refine yG_t (C' := (13, [(0, .inr (.inl 7, 0)), (1, .inl (.inl x1)), (2, .inl (.inl x2))], [], r1.2)) rfl hg2 ?_
      refine yG_n (n := 1) (C' := (14, [(0, .inr (.inl 7, 0)), (1, .inl (.inl x1)), (2, .inl (.inl x2))], [.inl (.inl x2)], r1.2)) rfl ?_
      refine yG_n (n := 1) (C' := ((bif zle x2 0 && zle 0 x2 then 52 else (bif zle x2 1 && zle 1 x2 then 62 else (bif zle x2 2 && zle 2 x2 then 72 else (bif zle x2 3 && zle 3 x2 then 84 else (bif zle x2 4 && zle 4 x2 then 94 else (bif zle x2 5 && zle 5 x2 then 104 else 114)))))), [(0, .inr (.inl 7, 0)), (1, .inl (.inl x1)), (2, .inl (.inl x2))], [], r1.2)) rfl ?_
      cases hg3 : (zle x2 0 && zle 0 x2) with
      | true =>
        rw [hg3] at h
        dsimp only [cond] at h
        show G_X7_house N X sh l rm (52, [(0, .inr (.inl 7, 0)), (1, .inl (.inl x1)), (2, .inl (.inl x2))], [], r1.2) ((some (.inl (.inl res.1)), res.2))
        refine yG_n (n := 4) (C' := (60, [(0, .inr (.inl 7, 0)), (1, .inl (.inl x1)), (2, .inl (.inl x2))], [.inl (.inl x1), .inr (.inr (0, 7), 19)], r1.2)) rfl ?_
        cases hg4 : yin x1 7 with
        | false => rw [hg4] at h; dsimp only [cond] at h; cases h
        | true =>
          rw [hg4] at h
          dsimp only [cond] at h
          refine yG_t (C' := (61, [(0, .inr (.inl 7, 0)), (1, .inl (.inl x1)), (2, .inl (.inl x2))], [.inl (.inl (r1.2.1 19 x1.toNat))], r1.2)) rfl hg4 ?_
          have h := Option.some.inj h
          subst h
          dsimp only
          exact yG_r rfl rfl
      | false =>
        rw [hg3] at h
        dsimp only [cond] at h
        show G_X7_house N X sh l rm ((bif zle x2 1 && zle 1 x2 then 62 else (bif zle x2 2 && zle 2 x2 then 72 else (bif zle x2 3 && zle 3 x2 then 84 else (bif zle x2 4 && zle 4 x2 then 94 else (bif zle x2 5 && zle 5 x2 then 104 else 114))))), [(0, .inr (.inl 7, 0)), (1, .inl (.inl x1)), (2, .inl (.inl x2))], [], r1.2) (some (.inl (.inl res.1)), res.2)
        cases hg5 : (zle x2 1 && zle 1 x2) with
        | true =>
          rw [hg5] at h
          dsimp only [cond] at h
          show G_X7_house N X sh l rm (62, [(0, .inr (.inl 7, 0)), (1, .inl (.inl x1)), (2, .inl (.inl x2))], [], r1.2) ((some (.inl (.inl res.1)), res.2))
          refine yG_n (n := 4) (C' := (70, [(0, .inr (.inl 7, 0)), (1, .inl (.inl x1)), (2, .inl (.inl x2))], [.inl (.inl x1), .inr (.inr (0, 7), 20)], r1.2)) rfl ?_
          cases hg6 : yin x1 7 with
          | false => rw [hg6] at h; dsimp only [cond] at h; cases h
          | true =>
            rw [hg6] at h
            dsimp only [cond] at h
            refine yG_t (C' := (71, [(0, .inr (.inl 7, 0)), (1, .inl (.inl x1)), (2, .inl (.inl x2))], [.inl (.inl (r1.2.1 20 x1.toNat))], r1.2)) rfl hg6 ?_
            have h := Option.some.inj h
            subst h
            dsimp only
            exact yG_r rfl rfl
        | false =>
          rw [hg5] at h
          dsimp only [cond] at h
          show G_X7_house N X sh l rm ((bif zle x2 2 && zle 2 x2 then 72 else (bif zle x2 3 && zle 3 x2 then 84 else (bif zle x2 4 && zle 4 x2 then 94 else (bif zle x2 5 && zle 5 x2 then 104 else 114)))), [(0, .inr (.inl 7, 0)), (1, .inl (.inl x1)), (2, .inl (.inl x2))], [], r1.2) (some (.inl (.inl res.1)), res.2)
          cases hg7 : (zle x2 2 && zle 2 x2) with
          | true =>
            rw [hg7] at h
            dsimp only [cond] at h
            show G_X7_house N X sh l rm (72, [(0, .inr (.inl 7, 0)), (1, .inl (.inl x1)), (2, .inl (.inl x2))], [], r1.2) ((some (.inl (.inl res.1)), res.2))
            refine yG_n (n := 4) (C' := (80, [(0, .inr (.inl 7, 0)), (1, .inl (.inl x1)), (2, .inl (.inl x2))], [.inl (.inl x1), .inl (.inl (r1.2.1 17 6))], r1.2)) rfl ?_
            cases hr8 : f_X7_bit N r1.2 (r1.2.1 17 6) x1 with
            | none => rw [hr8] at h; dsimp only at h; cases h
            | some r2 =>
              rw [hr8] at h
              dsimp only at h
              refine yG_c (C1 := (83, [(0, .inr (.inl 7, 0)), (1, .inl (.inl x1)), (2, .inl (.inl x2))], [.inl (.inl r2.1)], r2.2)) rfl (e_X7_bit hr8) rfl ?_
              have h := Option.some.inj h
              subst h
              dsimp only
              exact yG_r rfl rfl
          | false =>
            rw [hg7] at h
            dsimp only [cond] at h
            show G_X7_house N X sh l rm ((bif zle x2 3 && zle 3 x2 then 84 else (bif zle x2 4 && zle 4 x2 then 94 else (bif zle x2 5 && zle 5 x2 then 104 else 114))), [(0, .inr (.inl 7, 0)), (1, .inl (.inl x1)), (2, .inl (.inl x2))], [], r1.2) (some (.inl (.inl res.1)), res.2)
            cases hg9 : (zle x2 3 && zle 3 x2) with
            | true =>
              rw [hg9] at h
              dsimp only [cond] at h
              show G_X7_house N X sh l rm (84, [(0, .inr (.inl 7, 0)), (1, .inl (.inl x1)), (2, .inl (.inl x2))], [], r1.2) ((some (.inl (.inl res.1)), res.2))
              refine yG_n (n := 4) (C' := (92, [(0, .inr (.inl 7, 0)), (1, .inl (.inl x1)), (2, .inl (.inl x2))], [.inl (.inl x1), .inr (.inr (0, 7), 21)], r1.2)) rfl ?_
              cases hg10 : yin x1 7 with
              | false => rw [hg10] at h; dsimp only [cond] at h; cases h
              | true =>
                rw [hg10] at h
                dsimp only [cond] at h
                refine yG_t (C' := (93, [(0, .inr (.inl 7, 0)), (1, .inl (.inl x1)), (2, .inl (.inl x2))], [.inl (.inl (r1.2.1 21 x1.toNat))], r1.2)) rfl hg10 ?_
                have h := Option.some.inj h
                subst h
                dsimp only
                exact yG_r rfl rfl
            | false =>
              rw [hg9] at h
              dsimp only [cond] at h
              show G_X7_house N X sh l rm ((bif zle x2 4 && zle 4 x2 then 94 else (bif zle x2 5 && zle 5 x2 then 104 else 114)), [(0, .inr (.inl 7, 0)), (1, .inl (.inl x1)), (2, .inl (.inl x2))], [], r1.2) (some (.inl (.inl res.1)), res.2)
              cases hg11 : (zle x2 4 && zle 4 x2) with
              | true =>
                rw [hg11] at h
                dsimp only [cond] at h
                show G_X7_house N X sh l rm (94, [(0, .inr (.inl 7, 0)), (1, .inl (.inl x1)), (2, .inl (.inl x2))], [], r1.2) ((some (.inl (.inl res.1)), res.2))
                refine yG_n (n := 4) (C' := (102, [(0, .inr (.inl 7, 0)), (1, .inl (.inl x1)), (2, .inl (.inl x2))], [.inl (.inl x1), .inr (.inr (0, 7), 22)], r1.2)) rfl ?_
                cases hg12 : yin x1 7 with
                | false => rw [hg12] at h; dsimp only [cond] at h; cases h
                | true =>
                  rw [hg12] at h
                  dsimp only [cond] at h
                  refine yG_t (C' := (103, [(0, .inr (.inl 7, 0)), (1, .inl (.inl x1)), (2, .inl (.inl x2))], [.inl (.inl (r1.2.1 22 x1.toNat))], r1.2)) rfl hg12 ?_
                  have h := Option.some.inj h
                  subst h
                  dsimp only
                  exact yG_r rfl rfl
              | false =>
                rw [hg11] at h
                dsimp only [cond] at h
                show G_X7_house N X sh l rm ((bif zle x2 5 && zle 5 x2 then 104 else 114), [(0, .inr (.inl 7, 0)), (1, .inl (.inl x1)), (2, .inl (.inl x2))], [], r1.2) (some (.inl (.inl res.1)), res.2)
                cases hg13 : (zle x2 5 && zle 5 x2) with
                | true =>
                  rw [hg13] at h
                  dsimp only [cond] at h
                  show G_X7_house N X sh l rm (104, [(0, .inr (.inl 7, 0)), (1, .inl (.inl x1)), (2, .inl (.inl x2))], [], r1.2) ((some (.inl (.inl res.1)), res.2))
                  refine yG_n (n := 4) (C' := (112, [(0, .inr (.inl 7, 0)), (1, .inl (.inl x1)), (2, .inl (.inl x2))], [.inl (.inl x1), .inr (.inr (0, 7), 23)], r1.2)) rfl ?_
                  cases hg14 : yin x1 7 with
                  | false => rw [hg14] at h; dsimp only [cond] at h; cases h
                  | true =>
                    rw [hg14] at h
                    dsimp only [cond] at h
                    refine yG_t (C' := (113, [(0, .inr (.inl 7, 0)), (1, .inl (.inl x1)), (2, .inl (.inl x2))], [.inl (.inl (r1.2.1 23 x1.toNat))], r1.2)) rfl hg14 ?_
                    have h := Option.some.inj h
                    subst h
                    dsimp only
                    exact yG_r rfl rfl
                | false =>
                  rw [hg13] at h
                  dsimp only [cond] at h
                  show G_X7_house N X sh l rm (114, [(0, .inr (.inl 7, 0)), (1, .inl (.inl x1)), (2, .inl (.inl x2))], [], r1.2) (some (.inl (.inl res.1)), res.2)
                  refine yG_n (n := 9) (C' := (129, [(0, .inr (.inl 7, 0)), (1, .inl (.inl x1)), (2, .inl (.inl x2))], [.inl (.inl (ysu (yad 10 (r1.2.1 17 2)) 1)), .inl (.inl 10), .inl (.inl x2)], r1.2)) rfl ?_
                  cases hr15 : f_X7_within N r1.2 x2 10 (ysu (yad 10 (r1.2.1 17 2)) 1) with
                  | none => rw [hr15] at h; dsimp only at h; cases h
                  | some r3 =>
                    rw [hr15] at h
                    dsimp only at h
                    refine yG_c (C1 := (132, [(0, .inr (.inl 7, 0)), (1, .inl (.inl x1)), (2, .inl (.inl x2))], [.inl (.inl r3.1)], r3.2)) rfl (e_X7_within hr15) rfl ?_
                    cases hg16 : ycP .ne r3.1 0 with
                    | true =>
                      rw [hg16] at h
                      dsimp only [cond] at h
                      refine yG_t (C' := (137, [(0, .inr (.inl 7, 0)), (1, .inl (.inl x1)), (2, .inl (.inl x2))], [], r3.2)) rfl hg16 ?_
                      refine yG_n (n := 7) (C' := (149, [(0, .inr (.inl 7, 0)), (1, .inl (.inl x1)), (2, .inl (.inl x2))], [.inl (.inl (ysu x2 10)), .inl (.inl x1), .inr (.inr (0, 35), 24)], r3.2)) rfl ?_
                      cases hr17 : f_X7_doneAt N r3.2 x1 (ysu x2 10) with
                      | none => rw [hr17] at h; dsimp only at h; cases h
                      | some r4 =>
                        rw [hr17] at h
                        dsimp only at h
                        refine yG_c (C1 := (152, [(0, .inr (.inl 7, 0)), (1, .inl (.inl x1)), (2, .inl (.inl x2))], [.inl (.inl r4.1), .inr (.inr (0, 35), 24)], r4.2)) rfl (e_X7_doneAt hr17) rfl ?_
                        cases hg18 : yin r4.1 35 with
                        | false => rw [hg18] at h; dsimp only [cond] at h; cases h
                        | true =>
                          rw [hg18] at h
                          dsimp only [cond] at h
                          refine yG_t (C' := (153, [(0, .inr (.inl 7, 0)), (1, .inl (.inl x1)), (2, .inl (.inl x2))], [.inl (.inl (r4.2.1 24 r4.1.toNat))], r4.2)) rfl hg18 ?_
                          have h := Option.some.inj h
                          subst h
                          dsimp only
                          exact yG_r rfl rfl
                    | false =>
                      rw [hg16] at h
                      dsimp only [cond] at h
                      refine yG_f (C' := (135, [(0, .inr (.inl 7, 0)), (1, .inl (.inl x1)), (2, .inl (.inl x2))], [], r3.2)) rfl hg16 ?_
                      refine yG_n (n := 1) (C' := (136, [(0, .inr (.inl 7, 0)), (1, .inl (.inl x1)), (2, .inl (.inl x2))], [.inl (.inl ((-1)))], r3.2)) rfl ?_
                      have h := Option.some.inj h
                      subst h
                      dsimp only
                      exact yG_r rfl rfl
    | false =>
      rw [hg2] at h
      dsimp only [cond] at h
      refine yG_f (C' := (11, [(0, .inr (.inl 7, 0)), (1, .inl (.inl x1)), (2, .inl (.inl x2))], [], r1.2)) rfl hg2 ?_
      refine yG_n (n := 1) (C' := (12, [(0, .inr (.inl 7, 0)), (1, .inl (.inl x1)), (2, .inl (.inl x2))], [.inl (.inl ((-1)))], r1.2)) rfl ?_
      have h := Option.some.inj h
      subst h
      dsimp only
      exact yG_r rfl rfl
set_option maxRecDepth 100000 in
set_option maxHeartbeats 4000000 in
theorem m_X7_house {N : Nat} {X : zXT} (hX : zXok X) (hN : zXn X) (l : Launch) {sh : List yH} : yMet X vwCl yct sh l yX7_house wsX7_house { frames := 3, cells := 0, slots := 0, locals := 107 } (F_X7_house N) :=
  ymeth (tb := tb_X7_house N) (pr := pr_X7_house) (rt := 1) (own := RX7) hX (by decide +kernel) rfl rfl ⟨Nat.le_of_ble_eq_true rfl, Nat.le_of_ble_eq_true rfl⟩
    (zfl_all (List.forall_mem_cons.mpr ⟨zfl_X7 (fun w h => List.mem_cons_of_mem _ (List.mem_append_left _ (List.mem_append_right _ h))) (List.mem_of_getElem? (i := 1) rfl) (by decide) (by decide), List.forall_mem_cons.mpr ⟨zfl_X4 (fun w h => List.mem_cons_of_mem _ (List.mem_append_right _ h)) (List.mem_of_getElem? (i := 8) rfl) (by decide) (by decide), List.forall_mem_cons.mpr ⟨zfl_X4 (fun w h => List.mem_cons_of_mem _ (List.mem_append_right _ h)) (List.mem_of_getElem? (i := 2) rfl) (by decide) (by decide), List.forall_mem_cons.mpr ⟨zfl_X4 (fun w h => List.mem_cons_of_mem _ (List.mem_append_right _ h)) (List.mem_of_getElem? (i := 3) rfl) (by decide) (by decide), List.forall_mem_cons.mpr ⟨zfl_X4 (fun w h => List.mem_cons_of_mem _ (List.mem_append_right _ h)) (List.mem_of_getElem? (i := 4) rfl) (by decide) (by decide), List.forall_mem_cons.mpr ⟨zfl_X4 (fun w h => List.mem_cons_of_mem _ (List.mem_append_right _ h)) (List.mem_of_getElem? (i := 5) rfl) (by decide) (by decide), List.forall_mem_cons.mpr ⟨zfl_X4 (fun w h => List.mem_cons_of_mem _ (List.mem_append_right _ h)) (List.mem_of_getElem? (i := 6) rfl) (by decide) (by decide), List.forall_mem_cons.mpr ⟨zfl_X4 (fun w h => List.mem_cons_of_mem _ (List.mem_append_right _ h)) (List.mem_of_getElem? (i := 7) rfl) (by decide) (by decide), List.forall_mem_cons.mpr ⟨zfl_X4 (fun w h => List.mem_cons_of_mem _ (List.mem_append_right _ h)) (List.mem_of_getElem? (i := 9) rfl) (by decide) (by decide), fun _ h => absurd h List.not_mem_nil⟩⟩⟩⟩⟩⟩⟩⟩⟩))
    (zco_all (fun _ h => absurd h List.not_mem_nil)) (zlc_all (fun _ h => absurd h List.not_mem_nil))
    (List.forall_mem_cons.mpr ⟨ycal_V hX (m_X4_isHouse hX hN l) rfl (fun s args hts => cwV 1 hts gX7_house_X4_isHouse rfl rfl rfl (by decide +kernel) ⟨Nat.le_of_ble_eq_true rfl, Nat.le_of_ble_eq_true rfl⟩), fun _ h => absurd h List.not_mem_nil⟩)
    (List.forall_mem_cons.mpr ⟨ycal_S hX (m_X7_within hX hN l) (fun s args hts => va_cwS 3 hts gX7_house_X7_within rfl rfl rfl (by decide +kernel) ⟨Nat.le_of_ble_eq_true rfl, Nat.le_of_ble_eq_true rfl⟩), List.forall_mem_cons.mpr ⟨ycal_S hX (m_X7_bit hX hN l) (fun s args hts => va_cwS 2 hts gX7_house_X7_bit rfl rfl rfl (by decide +kernel) ⟨Nat.le_of_ble_eq_true rfl, Nat.le_of_ble_eq_true rfl⟩), List.forall_mem_cons.mpr ⟨ycal_S hX (m_X7_doneAt hX hN l) (fun s args hts => va_cwS 2 hts gX7_house_X7_doneAt rfl rfl rfl (by decide +kernel) ⟨Nat.le_of_ble_eq_true rfl, Nat.le_of_ble_eq_true rfl⟩), fun _ h => absurd h List.not_mem_nil⟩⟩⟩)
    (zmm_all (fun _ h => absurd h List.not_mem_nil)) (fun _ h => absurd h List.not_mem_nil) (zpr_all hp_X7_house) (fun as σ res h => by
      unfold F_X7_house at h
      split at h
      · rename_i x1 x2
        cases hr : f_X7_house N σ x1 x2 with
        | none => rw [hr] at h; cases h
        | some r =>
          rw [hr] at h
          cases h
          exact ⟨Nat.le_of_ble_eq_true rfl, t_X7_house σ x1 x2 r hr⟩
      · cases h)
noncomputable def pr_X7_isDepth : List (Nat × Instr × Nat) := [(0, .iload_n 0, 1), (1, .iconst 0, 1), (2, .iconst 3, 1), (3, .invokestatic 49, 3), (6, .ifCond .ne 9, 3), (9, .iload_n 0, 1), (10, .bipush 9, 2), (12, .if_icmp .ne 7, 3), (15, .iconst 1, 1), (16, .goto 4, 3), (19, .iconst 0, 1), (20, .ireturn, 1)]
set_option maxRecDepth 100000 in
theorem hp_X7_isDepth : pr_X7_isDepth.all (fun x => decide (decode cX7_isDepth x.1 = .ok x.2)) = true := by decide +kernel
noncomputable def f_X7_isDepth_b20 (N : Nat) (σ : yS) (s0 : Int) : Option (Int × yS) :=
  bif yb1 s0 then some (s0, σ) else none
noncomputable def f_X7_isDepth_b15 (N : Nat) (σ : yS) : Option (Int × yS) :=
  f_X7_isDepth_b20 N σ 1
noncomputable def f_X7_isDepth (N : Nat) (σ : yS) (x0 : Int) : Option (Int × yS) :=
  match f_X7_within N σ x0 0 3 with
  | none => none
  | some r1 => bif ycP .ne r1.1 0 then
      f_X7_isDepth_b15 N r1.2
    else
      bif ycP .ne x0 9 then
        f_X7_isDepth_b20 N r1.2 0
      else
        f_X7_isDepth_b15 N r1.2
noncomputable def F_X7_isDepth (N : Nat) : yF := fun as σ => match as with
  | [.inl (.inl x0)] => (f_X7_isDepth N σ x0).map (fun r => (some (.inl (.inl r.1)), r.2))
  | _ => none
theorem e_X7_isDepth {N : Nat} {σ : yS} {x0 : Int} {r : Int × yS} (h : f_X7_isDepth N σ x0 = some r) : F_X7_isDepth N [.inl (.inl x0)] σ = some (some (.inl (.inl r.1)), r.2) := by
  show (f_X7_isDepth N σ x0).map (fun r => ((some (.inl (.inl r.1)), r.2) : yR)) = _
  rw [h]
  rfl
noncomputable def tb_X7_isDepth (N : Nat) : yTb := ([], [], [], [], [(49, 3, F_X7_within N)], [], [])
abbrev G_X7_isDepth (N : Nat) (X : zXT) (sh : List yH) (l : Launch) (rm : Room) : yC → yR → Prop := yGoes X vwCl yct sh l rm cX7_isDepth 1 wsX7_isDepth RX7 (tb_X7_isDepth N) pr_X7_isDepth 2
set_option maxRecDepth 100000 in
set_option maxHeartbeats 4000000 in
theorem t_X7_isDepth_b20 {N : Nat} {X : zXT} {sh : List yH} {l : Launch} {rm : Room} (σ : yS) (s0 : Int) (res : Int × yS) (h : f_X7_isDepth_b20 N σ s0 = some res) : G_X7_isDepth N X sh l rm (20, [], [.inl (.inl s0)], σ) (some (.inl (.inl res.1)), res.2) := by
  unfold f_X7_isDepth_b20 at h
  cases hg1 : yb1 s0 with
  | false => rw [hg1] at h; dsimp only [cond] at h; cases h
  | true =>
    rw [hg1] at h
    dsimp only [cond] at h
    have h := Option.some.inj h
    subst h
    dsimp only
    exact yG_r rfl hg1
set_option maxRecDepth 100000 in
set_option maxHeartbeats 4000000 in
theorem t_X7_isDepth_b15 {N : Nat} {X : zXT} {sh : List yH} {l : Launch} {rm : Room} (σ : yS) (res : Int × yS) (h : f_X7_isDepth_b15 N σ = some res) : G_X7_isDepth N X sh l rm (15, [], [], σ) (some (.inl (.inl res.1)), res.2) := by
  unfold f_X7_isDepth_b15 at h
  refine yG_n (n := 2) (C' := (20, [], [.inl (.inl 1)], σ)) rfl ?_
  exact t_X7_isDepth_b20 σ 1 res h
set_option maxRecDepth 100000 in
set_option maxHeartbeats 4000000 in
theorem t_X7_isDepth {N : Nat} {X : zXT} {sh : List yH} {l : Launch} {rm : Room} (σ : yS) (x0 : Int) (res : Int × yS) (h : f_X7_isDepth N σ x0 = some res) : G_X7_isDepth N X sh l rm (0, [(0, .inl (.inl x0))], [], σ) (some (.inl (.inl res.1)), res.2) := by
  unfold f_X7_isDepth at h
  refine yG_n (n := 3) (C' := (3, [(0, .inl (.inl x0))], [.inl (.inl 3), .inl (.inl 0), .inl (.inl x0)], σ)) rfl ?_
  cases hr2 : f_X7_within N σ x0 0 3 with
  | none => rw [hr2] at h; dsimp only at h; cases h
  | some r1 =>
    rw [hr2] at h
    dsimp only at h
    refine yG_c (C1 := (6, [(0, .inl (.inl x0))], [.inl (.inl r1.1)], r1.2)) rfl (e_X7_within hr2) rfl ?_
    cases hg3 : ycP .ne r1.1 0 with
    | true =>
      rw [hg3] at h
      dsimp only [cond] at h
      refine yG_t (C' := (15, [(0, .inl (.inl x0))], [], r1.2)) rfl hg3 ?_
      exact yG_w [] rfl (t_X7_isDepth_b15 r1.2 res h)
    | false =>
      rw [hg3] at h
      dsimp only [cond] at h
      refine yG_f (C' := (9, [(0, .inl (.inl x0))], [], r1.2)) rfl hg3 ?_
      refine yG_n (n := 2) (C' := (12, [(0, .inl (.inl x0))], [.inl (.inl 9), .inl (.inl x0)], r1.2)) rfl ?_
      cases hg4 : ycP .ne x0 9 with
      | true =>
        rw [hg4] at h
        dsimp only [cond] at h
        refine yG_t (C' := (19, [(0, .inl (.inl x0))], [], r1.2)) rfl hg4 ?_
        refine yG_n (n := 1) (C' := (20, [(0, .inl (.inl x0))], [.inl (.inl 0)], r1.2)) rfl ?_
        exact yG_w [] rfl (t_X7_isDepth_b20 r1.2 0 res h)
      | false =>
        rw [hg4] at h
        dsimp only [cond] at h
        refine yG_f (C' := (15, [(0, .inl (.inl x0))], [], r1.2)) rfl hg4 ?_
        exact yG_w [] rfl (t_X7_isDepth_b15 r1.2 res h)
set_option maxRecDepth 100000 in
set_option maxHeartbeats 4000000 in
theorem m_X7_isDepth {N : Nat} {X : zXT} (hX : zXok X) (hN : zXn X) (l : Launch) {sh : List yH} : yMet X vwCl yct sh l yX7_isDepth wsX7_isDepth { frames := 2, cells := 0, slots := 0, locals := 86 } (F_X7_isDepth N) :=
  ymeth (tb := tb_X7_isDepth N) (pr := pr_X7_isDepth) (rt := 2) (own := RX7) hX (by decide +kernel) rfl rfl ⟨Nat.le_of_ble_eq_true rfl, Nat.le_of_ble_eq_true rfl⟩
    (zfl_all (fun _ h => absurd h List.not_mem_nil))
    (zco_all (fun _ h => absurd h List.not_mem_nil)) (zlc_all (fun _ h => absurd h List.not_mem_nil))
    (fun _ h => absurd h List.not_mem_nil)
    (List.forall_mem_cons.mpr ⟨ycal_S hX (m_X7_within hX hN l) (fun s args hts => va_cwS 3 hts gX7_isDepth_X7_within rfl rfl rfl (by decide +kernel) ⟨Nat.le_of_ble_eq_true rfl, Nat.le_of_ble_eq_true rfl⟩), fun _ h => absurd h List.not_mem_nil⟩)
    (zmm_all (fun _ h => absurd h List.not_mem_nil)) (fun _ h => absurd h List.not_mem_nil) (zpr_all hp_X7_isDepth) (fun as σ res h => by
      unfold F_X7_isDepth at h
      split at h
      · rename_i x0
        cases hr : f_X7_isDepth N σ x0 with
        | none => rw [hr] at h; cases h
        | some r =>
          rw [hr] at h
          cases h
          exact ⟨Nat.le_of_ble_eq_true rfl, t_X7_isDepth σ x0 r hr⟩
      · cases h)
noncomputable def pr_X7_isLane : List (Nat × Instr × Nat) := [(0, .iload_n 0, 1), (1, .iconst 0, 1), (2, .iconst 2, 1), (3, .invokestatic 49, 3), (6, .ireturn, 1)]
set_option maxRecDepth 100000 in
theorem hp_X7_isLane : pr_X7_isLane.all (fun x => decide (decode cX7_isLane x.1 = .ok x.2)) = true := by decide +kernel
noncomputable def f_X7_isLane (N : Nat) (σ : yS) (x0 : Int) : Option (Int × yS) :=
  match f_X7_within N σ x0 0 2 with
  | none => none
  | some r1 => bif yb1 r1.1 then some (r1.1, r1.2) else none
noncomputable def F_X7_isLane (N : Nat) : yF := fun as σ => match as with
  | [.inl (.inl x0)] => (f_X7_isLane N σ x0).map (fun r => (some (.inl (.inl r.1)), r.2))
  | _ => none
theorem e_X7_isLane {N : Nat} {σ : yS} {x0 : Int} {r : Int × yS} (h : f_X7_isLane N σ x0 = some r) : F_X7_isLane N [.inl (.inl x0)] σ = some (some (.inl (.inl r.1)), r.2) := by
  show (f_X7_isLane N σ x0).map (fun r => ((some (.inl (.inl r.1)), r.2) : yR)) = _
  rw [h]
  rfl
noncomputable def tb_X7_isLane (N : Nat) : yTb := ([], [], [], [], [(49, 3, F_X7_within N)], [], [])
abbrev G_X7_isLane (N : Nat) (X : zXT) (sh : List yH) (l : Launch) (rm : Room) : yC → yR → Prop := yGoes X vwCl yct sh l rm cX7_isLane 1 wsX7_isLane RX7 (tb_X7_isLane N) pr_X7_isLane 2
set_option maxRecDepth 100000 in
set_option maxHeartbeats 4000000 in
theorem t_X7_isLane {N : Nat} {X : zXT} {sh : List yH} {l : Launch} {rm : Room} (σ : yS) (x0 : Int) (res : Int × yS) (h : f_X7_isLane N σ x0 = some res) : G_X7_isLane N X sh l rm (0, [(0, .inl (.inl x0))], [], σ) (some (.inl (.inl res.1)), res.2) := by
  unfold f_X7_isLane at h
  refine yG_n (n := 3) (C' := (3, [(0, .inl (.inl x0))], [.inl (.inl 2), .inl (.inl 0), .inl (.inl x0)], σ)) rfl ?_
  cases hr1 : f_X7_within N σ x0 0 2 with
  | none => rw [hr1] at h; dsimp only at h; cases h
  | some r1 =>
    rw [hr1] at h
    dsimp only at h
    refine yG_c (C1 := (6, [(0, .inl (.inl x0))], [.inl (.inl r1.1)], r1.2)) rfl (e_X7_within hr1) rfl ?_
    cases hg2 : yb1 r1.1 with
    | false => rw [hg2] at h; dsimp only [cond] at h; cases h
    | true =>
      rw [hg2] at h
      dsimp only [cond] at h
      have h := Option.some.inj h
      subst h
      dsimp only
      exact yG_r rfl hg2
set_option maxRecDepth 100000 in
set_option maxHeartbeats 4000000 in
theorem m_X7_isLane {N : Nat} {X : zXT} (hX : zXok X) (hN : zXn X) (l : Launch) {sh : List yH} : yMet X vwCl yct sh l yX7_isLane wsX7_isLane { frames := 2, cells := 0, slots := 0, locals := 86 } (F_X7_isLane N) :=
  ymeth (tb := tb_X7_isLane N) (pr := pr_X7_isLane) (rt := 2) (own := RX7) hX (by decide +kernel) rfl rfl ⟨Nat.le_of_ble_eq_true rfl, Nat.le_of_ble_eq_true rfl⟩
    (zfl_all (fun _ h => absurd h List.not_mem_nil))
    (zco_all (fun _ h => absurd h List.not_mem_nil)) (zlc_all (fun _ h => absurd h List.not_mem_nil))
    (fun _ h => absurd h List.not_mem_nil)
    (List.forall_mem_cons.mpr ⟨ycal_S hX (m_X7_within hX hN l) (fun s args hts => va_cwS 3 hts gX7_isLane_X7_within rfl rfl rfl (by decide +kernel) ⟨Nat.le_of_ble_eq_true rfl, Nat.le_of_ble_eq_true rfl⟩), fun _ h => absurd h List.not_mem_nil⟩)
    (zmm_all (fun _ h => absurd h List.not_mem_nil)) (fun _ h => absurd h List.not_mem_nil) (zpr_all hp_X7_isLane) (fun as σ res h => by
      unfold F_X7_isLane at h
      split at h
      · rename_i x0
        cases hr : f_X7_isLane N σ x0 with
        | none => rw [hr] at h; cases h
        | some r =>
          rw [hr] at h
          cases h
          exact ⟨Nat.le_of_ble_eq_true rfl, t_X7_isLane σ x0 r hr⟩
      · cases h)
noncomputable def pr_X7_isSheet : List (Nat × Instr × Nat) := [(0, .iload_n 0, 1), (1, .iconst 0, 1), (2, .iconst 3, 1), (3, .invokestatic 49, 3), (6, .ireturn, 1)]
set_option maxRecDepth 100000 in
theorem hp_X7_isSheet : pr_X7_isSheet.all (fun x => decide (decode cX7_isSheet x.1 = .ok x.2)) = true := by decide +kernel
noncomputable def f_X7_isSheet (N : Nat) (σ : yS) (x0 : Int) : Option (Int × yS) :=
  match f_X7_within N σ x0 0 3 with
  | none => none
  | some r1 => bif yb1 r1.1 then some (r1.1, r1.2) else none
noncomputable def F_X7_isSheet (N : Nat) : yF := fun as σ => match as with
  | [.inl (.inl x0)] => (f_X7_isSheet N σ x0).map (fun r => (some (.inl (.inl r.1)), r.2))
  | _ => none
theorem e_X7_isSheet {N : Nat} {σ : yS} {x0 : Int} {r : Int × yS} (h : f_X7_isSheet N σ x0 = some r) : F_X7_isSheet N [.inl (.inl x0)] σ = some (some (.inl (.inl r.1)), r.2) := by
  show (f_X7_isSheet N σ x0).map (fun r => ((some (.inl (.inl r.1)), r.2) : yR)) = _
  rw [h]
  rfl
noncomputable def tb_X7_isSheet (N : Nat) : yTb := ([], [], [], [], [(49, 3, F_X7_within N)], [], [])
abbrev G_X7_isSheet (N : Nat) (X : zXT) (sh : List yH) (l : Launch) (rm : Room) : yC → yR → Prop := yGoes X vwCl yct sh l rm cX7_isSheet 1 wsX7_isSheet RX7 (tb_X7_isSheet N) pr_X7_isSheet 2
set_option maxRecDepth 100000 in
set_option maxHeartbeats 4000000 in
theorem t_X7_isSheet {N : Nat} {X : zXT} {sh : List yH} {l : Launch} {rm : Room} (σ : yS) (x0 : Int) (res : Int × yS) (h : f_X7_isSheet N σ x0 = some res) : G_X7_isSheet N X sh l rm (0, [(0, .inl (.inl x0))], [], σ) (some (.inl (.inl res.1)), res.2) := by
  unfold f_X7_isSheet at h
  refine yG_n (n := 3) (C' := (3, [(0, .inl (.inl x0))], [.inl (.inl 3), .inl (.inl 0), .inl (.inl x0)], σ)) rfl ?_
  cases hr1 : f_X7_within N σ x0 0 3 with
  | none => rw [hr1] at h; dsimp only at h; cases h
  | some r1 =>
    rw [hr1] at h
    dsimp only at h
    refine yG_c (C1 := (6, [(0, .inl (.inl x0))], [.inl (.inl r1.1)], r1.2)) rfl (e_X7_within hr1) rfl ?_
    cases hg2 : yb1 r1.1 with
    | false => rw [hg2] at h; dsimp only [cond] at h; cases h
    | true =>
      rw [hg2] at h
      dsimp only [cond] at h
      have h := Option.some.inj h
      subst h
      dsimp only
      exact yG_r rfl hg2
set_option maxRecDepth 100000 in
set_option maxHeartbeats 4000000 in
theorem m_X7_isSheet {N : Nat} {X : zXT} (hX : zXok X) (hN : zXn X) (l : Launch) {sh : List yH} : yMet X vwCl yct sh l yX7_isSheet wsX7_isSheet { frames := 2, cells := 0, slots := 0, locals := 86 } (F_X7_isSheet N) :=
  ymeth (tb := tb_X7_isSheet N) (pr := pr_X7_isSheet) (rt := 2) (own := RX7) hX (by decide +kernel) rfl rfl ⟨Nat.le_of_ble_eq_true rfl, Nat.le_of_ble_eq_true rfl⟩
    (zfl_all (fun _ h => absurd h List.not_mem_nil))
    (zco_all (fun _ h => absurd h List.not_mem_nil)) (zlc_all (fun _ h => absurd h List.not_mem_nil))
    (fun _ h => absurd h List.not_mem_nil)
    (List.forall_mem_cons.mpr ⟨ycal_S hX (m_X7_within hX hN l) (fun s args hts => va_cwS 3 hts gX7_isSheet_X7_within rfl rfl rfl (by decide +kernel) ⟨Nat.le_of_ble_eq_true rfl, Nat.le_of_ble_eq_true rfl⟩), fun _ h => absurd h List.not_mem_nil⟩)
    (zmm_all (fun _ h => absurd h List.not_mem_nil)) (fun _ h => absurd h List.not_mem_nil) (zpr_all hp_X7_isSheet) (fun as σ res h => by
      unfold F_X7_isSheet at h
      split at h
      · rename_i x0
        cases hr : f_X7_isSheet N σ x0 with
        | none => rw [hr] at h; cases h
        | some r =>
          rw [hr] at h
          cases h
          exact ⟨Nat.le_of_ble_eq_true rfl, t_X7_isSheet σ x0 r hr⟩
      · cases h)
noncomputable def pr_X7_keep : List (Nat × Instr × Nat) := [(0, .iload_n 1, 1), (1, .iconst 0, 1), (2, .iconst 1, 1), (3, .invokestatic 49, 3), (6, .ifCond .ne 5, 3), (9, .iconst (-1), 1), (10, .ireturn, 1), (11, .aload_n 0, 1), (12, .getfield 76, 3), (15, .iload_n 1, 1), (16, .invokestatic 131, 3), (19, .istore_n 2, 1), (20, .aload_n 0, 1), (21, .getfield 19, 3), (24, .iload_n 1, 1), (25, .aaload, 1), (26, .aload_n 0, 1), (27, .getfield 10, 3), (30, .invokevirtual 73, 3), (33, .aload_n 0, 1), (34, .aload_n 0, 1), (35, .getfield 76, 3), (38, .iload_n 1, 1), (39, .iconst 1, 1), (40, .invokestatic 170, 3), (43, .putfield 76, 3), (46, .iload_n 2, 1), (47, .ireturn, 1)]
set_option maxRecDepth 100000 in
theorem hp_X7_keep : pr_X7_keep.all (fun x => decide (decode cX7_keep x.1 = .ok x.2)) = true := by decide +kernel
noncomputable def f_X7_keep (N : Nat) (σ : yS) (x1 : Int) : Option (Int × yS) :=
  match f_X7_within N σ x1 0 1 with
  | none => none
  | some r1 => bif ycP .ne r1.1 0 then
      match f_X7_bit N r1.2 (r1.2.1 0 7) x1 with
      | none => none
      | some r2 => bif yin x1 2 then
          match f_X4_copyFrom N r2.2 (r2.2.2 1 x1.toNat) 17 with
          | none => none
          | some r3 => match f_X7_withBit N r3.2 (r3.2.1 0 7) x1 1 with
            | none => none
            | some r4 => some (r2.1, yw r4.2 0 7 r4.1)
        else none
    else
      some ((-1), r1.2)
noncomputable def F_X7_keep (N : Nat) : yF := fun as σ => match as with
  | [.inr (.inl 7, 0), .inl (.inl x1)] => (f_X7_keep N σ x1).map (fun r => (some (.inl (.inl r.1)), r.2))
  | _ => none
theorem e_X7_keep {N : Nat} {σ : yS} {x1 : Int} {r : Int × yS} (h : f_X7_keep N σ x1 = some r) : F_X7_keep N [.inr (.inl 7, 0), .inl (.inl x1)] σ = some (some (.inl (.inl r.1)), r.2) := by
  show (f_X7_keep N σ x1).map (fun r => ((some (.inl (.inl r.1)), r.2) : yR)) = _
  rw [h]
  rfl
noncomputable def tb_X7_keep (N : Nat) : yTb := ([(10, 7, 0, 3), (19, 7, 2, 3), (76, 7, 7, 0)], [], [], [(73, 2, 4, F_X4_copyFrom N)], [(49, 3, F_X7_within N), (131, 2, F_X7_bit N), (170, 3, F_X7_withBit N)], [], [])
abbrev G_X7_keep (N : Nat) (X : zXT) (sh : List yH) (l : Launch) (rm : Room) : yC → yR → Prop := yGoes X vwCl yct sh l rm cX7_keep 3 wsX7_keep RX7 (tb_X7_keep N) pr_X7_keep 1
set_option maxRecDepth 100000 in
set_option maxHeartbeats 4000000 in
theorem t_X7_keep {N : Nat} {X : zXT} {sh : List yH} {l : Launch} {rm : Room} (σ : yS) (x1 : Int) (res : Int × yS) (h : f_X7_keep N σ x1 = some res) : G_X7_keep N X sh l rm (0, [(0, .inr (.inl 7, 0)), (1, .inl (.inl x1))], [], σ) (some (.inl (.inl res.1)), res.2) := by
  unfold f_X7_keep at h
  refine yG_n (n := 3) (C' := (3, [(0, .inr (.inl 7, 0)), (1, .inl (.inl x1))], [.inl (.inl 1), .inl (.inl 0), .inl (.inl x1)], σ)) rfl ?_
  cases hr1 : f_X7_within N σ x1 0 1 with
  | none => rw [hr1] at h; dsimp only at h; cases h
  | some r1 =>
    rw [hr1] at h
    dsimp only at h
    refine yG_c (C1 := (6, [(0, .inr (.inl 7, 0)), (1, .inl (.inl x1))], [.inl (.inl r1.1)], r1.2)) rfl (e_X7_within hr1) rfl ?_
    cases hg2 : ycP .ne r1.1 0 with
    | true =>
      rw [hg2] at h
      dsimp only [cond] at h
      refine yG_t (C' := (11, [(0, .inr (.inl 7, 0)), (1, .inl (.inl x1))], [], r1.2)) rfl hg2 ?_
      refine yG_n (n := 3) (C' := (16, [(0, .inr (.inl 7, 0)), (1, .inl (.inl x1))], [.inl (.inl x1), .inl (.inl (r1.2.1 0 7))], r1.2)) rfl ?_
      cases hr3 : f_X7_bit N r1.2 (r1.2.1 0 7) x1 with
      | none => rw [hr3] at h; dsimp only at h; cases h
      | some r2 =>
        rw [hr3] at h
        dsimp only at h
        refine yG_c (C1 := (19, [(0, .inr (.inl 7, 0)), (1, .inl (.inl x1))], [.inl (.inl r2.1)], r2.2)) rfl (e_X7_bit hr3) rfl ?_
        refine yG_n (n := 4) (C' := (25, [(2, .inl (.inl r2.1)), (0, .inr (.inl 7, 0)), (1, .inl (.inl x1))], [.inl (.inl x1), .inr (.inr (2, 2), 1)], r2.2)) rfl ?_
        cases hg4 : yin x1 2 with
        | false => rw [hg4] at h; dsimp only [cond] at h; cases h
        | true =>
          rw [hg4] at h
          dsimp only [cond] at h
          refine yG_t (C' := (26, [(2, .inl (.inl r2.1)), (0, .inr (.inl 7, 0)), (1, .inl (.inl x1))], [.inr (.inl 4, r2.2.2 1 x1.toNat)], r2.2)) rfl hg4 ?_
          refine yG_n (n := 2) (C' := (30, [(2, .inl (.inl r2.1)), (0, .inr (.inl 7, 0)), (1, .inl (.inl x1))], [.inr (.inl 4, 17), .inr (.inl 4, r2.2.2 1 x1.toNat)], r2.2)) rfl ?_
          cases hr5 : f_X4_copyFrom N r2.2 (r2.2.2 1 x1.toNat) 17 with
          | none => rw [hr5] at h; dsimp only at h; cases h
          | some r3 =>
            rw [hr5] at h
            dsimp only at h
            refine yG_c (C1 := (33, [(2, .inl (.inl r2.1)), (0, .inr (.inl 7, 0)), (1, .inl (.inl x1))], [], r3.2)) rfl (e_X4_copyFrom hr5) rfl ?_
            refine yG_n (n := 5) (C' := (40, [(2, .inl (.inl r2.1)), (0, .inr (.inl 7, 0)), (1, .inl (.inl x1))], [.inl (.inl 1), .inl (.inl x1), .inl (.inl (r3.2.1 0 7)), .inr (.inl 7, 0)], r3.2)) rfl ?_
            cases hr6 : f_X7_withBit N r3.2 (r3.2.1 0 7) x1 1 with
            | none => rw [hr6] at h; dsimp only at h; cases h
            | some r4 =>
              rw [hr6] at h
              dsimp only at h
              refine yG_c (C1 := (43, [(2, .inl (.inl r2.1)), (0, .inr (.inl 7, 0)), (1, .inl (.inl x1))], [.inl (.inl r4.1), .inr (.inl 7, 0)], r4.2)) rfl (e_X7_withBit hr6) rfl ?_
              refine yG_n (n := 2) (C' := (47, [(2, .inl (.inl r2.1)), (0, .inr (.inl 7, 0)), (1, .inl (.inl x1))], [.inl (.inl r2.1)], yw r4.2 0 7 r4.1)) rfl ?_
              have h := Option.some.inj h
              subst h
              dsimp only
              exact yG_r rfl rfl
    | false =>
      rw [hg2] at h
      dsimp only [cond] at h
      refine yG_f (C' := (9, [(0, .inr (.inl 7, 0)), (1, .inl (.inl x1))], [], r1.2)) rfl hg2 ?_
      refine yG_n (n := 1) (C' := (10, [(0, .inr (.inl 7, 0)), (1, .inl (.inl x1))], [.inl (.inl ((-1)))], r1.2)) rfl ?_
      have h := Option.some.inj h
      subst h
      dsimp only
      exact yG_r rfl rfl
set_option maxRecDepth 100000 in
set_option maxHeartbeats 4000000 in
theorem m_X7_keep {N : Nat} {X : zXT} (hX : zXok X) (hN : zXn X) (l : Launch) {sh : List yH} : yMet X vwCl yct sh l yX7_keep wsX7_keep { frames := 3, cells := 0, slots := 0, locals := 106 } (F_X7_keep N) :=
  ymeth (tb := tb_X7_keep N) (pr := pr_X7_keep) (rt := 1) (own := RX7) hX (by decide +kernel) rfl rfl ⟨Nat.le_of_ble_eq_true rfl, Nat.le_of_ble_eq_true rfl⟩
    (zfl_all (List.forall_mem_cons.mpr ⟨zfl_X7 (fun w h => List.mem_cons_of_mem _ (List.mem_append_left _ (List.mem_append_left _ (List.mem_append_left _ (List.mem_append_right _ h))))) (List.mem_of_getElem? (i := 3) rfl) (by decide) (by decide), List.forall_mem_cons.mpr ⟨zfl_X7 (fun w h => List.mem_cons_of_mem _ (List.mem_append_left _ (List.mem_append_left _ (List.mem_append_left _ (List.mem_append_right _ h))))) (List.mem_of_getElem? (i := 2) rfl) (by decide) (by decide), List.forall_mem_cons.mpr ⟨zfl_X7 (fun w h => List.mem_cons_of_mem _ (List.mem_append_left _ (List.mem_append_left _ (List.mem_append_left _ (List.mem_append_right _ h))))) (List.mem_of_getElem? (i := 1) rfl) (by decide) (by decide), fun _ h => absurd h List.not_mem_nil⟩⟩⟩))
    (zco_all (fun _ h => absurd h List.not_mem_nil)) (zlc_all (fun _ h => absurd h List.not_mem_nil))
    (List.forall_mem_cons.mpr ⟨ycal_V hX (m_X4_copyFrom hX hN l) rfl (fun s args hts => cwV 1 hts gX7_keep_X4_copyFrom rfl rfl rfl (by decide +kernel) ⟨Nat.le_of_ble_eq_true rfl, Nat.le_of_ble_eq_true rfl⟩), fun _ h => absurd h List.not_mem_nil⟩)
    (List.forall_mem_cons.mpr ⟨ycal_S hX (m_X7_within hX hN l) (fun s args hts => va_cwS 3 hts gX7_keep_X7_within rfl rfl rfl (by decide +kernel) ⟨Nat.le_of_ble_eq_true rfl, Nat.le_of_ble_eq_true rfl⟩), List.forall_mem_cons.mpr ⟨ycal_S hX (m_X7_bit hX hN l) (fun s args hts => va_cwS 2 hts gX7_keep_X7_bit rfl rfl rfl (by decide +kernel) ⟨Nat.le_of_ble_eq_true rfl, Nat.le_of_ble_eq_true rfl⟩), List.forall_mem_cons.mpr ⟨ycal_S hX (m_X7_withBit hX hN l) (fun s args hts => va_cwS 3 hts gX7_keep_X7_withBit rfl rfl rfl (by decide +kernel) ⟨Nat.le_of_ble_eq_true rfl, Nat.le_of_ble_eq_true rfl⟩), fun _ h => absurd h List.not_mem_nil⟩⟩⟩)
    (zmm_all (fun _ h => absurd h List.not_mem_nil)) (fun _ h => absurd h List.not_mem_nil) (zpr_all hp_X7_keep) (fun as σ res h => by
      unfold F_X7_keep at h
      split at h
      · rename_i x1
        cases hr : f_X7_keep N σ x1 with
        | none => rw [hr] at h; cases h
        | some r =>
          rw [hr] at h
          cases h
          exact ⟨Nat.le_of_ble_eq_true rfl, t_X7_keep σ x1 r hr⟩
      · cases h)
noncomputable def pr_X7_lawyer : List (Nat × Instr × Nat) := [(0, .aload_n 0, 1), (1, .getfield 10, 3), (4, .iload_n 1, 1), (5, .invokevirtual 118, 3), (8, .ifCond .ne 5, 3), (11, .iconst (-1), 1), (12, .ireturn, 1), (13, .aload_n 0, 1), (14, .getfield 10, 3), (17, .getfield 128, 3), (20, .iload_n 1, 1), (21, .invokestatic 131, 3), (24, .istore_n 3, 1), (25, .aload_n 0, 1), (26, .getfield 10, 3), (29, .aload_n 0, 1), (30, .getfield 10, 3), (33, .getfield 128, 3), (36, .iload_n 1, 1), (37, .iload_n 2, 1), (38, .invokestatic 170, 3), (41, .putfield 128, 3), (44, .iload_n 3, 1), (45, .ireturn, 1)]
set_option maxRecDepth 100000 in
theorem hp_X7_lawyer : pr_X7_lawyer.all (fun x => decide (decode cX7_lawyer x.1 = .ok x.2)) = true := by decide +kernel
noncomputable def f_X7_lawyer (N : Nat) (σ : yS) (x1 : Int) (x2 : Int) : Option (Int × yS) :=
  match f_X4_isHouse N σ 17 x1 with
  | none => none
  | some r1 => bif ycP .ne r1.1 0 then
      match f_X7_bit N r1.2 (r1.2.1 17 6) x1 with
      | none => none
      | some r2 => match f_X7_withBit N r2.2 (r2.2.1 17 6) x1 x2 with
        | none => none
        | some r3 => some (r2.1, yw r3.2 17 6 r3.1)
    else
      some ((-1), r1.2)
noncomputable def F_X7_lawyer (N : Nat) : yF := fun as σ => match as with
  | [.inr (.inl 7, 0), .inl (.inl x1), .inl (.inl x2)] => (f_X7_lawyer N σ x1 x2).map (fun r => (some (.inl (.inl r.1)), r.2))
  | _ => none
theorem e_X7_lawyer {N : Nat} {σ : yS} {x1 : Int} {x2 : Int} {r : Int × yS} (h : f_X7_lawyer N σ x1 x2 = some r) : F_X7_lawyer N [.inr (.inl 7, 0), .inl (.inl x1), .inl (.inl x2)] σ = some (some (.inl (.inl r.1)), r.2) := by
  show (f_X7_lawyer N σ x1 x2).map (fun r => ((some (.inl (.inl r.1)), r.2) : yR)) = _
  rw [h]
  rfl
noncomputable def tb_X7_lawyer (N : Nat) : yTb := ([(10, 7, 0, 3), (128, 4, 6, 0)], [], [], [(118, 2, 4, F_X4_isHouse N)], [(131, 2, F_X7_bit N), (170, 3, F_X7_withBit N)], [], [])
abbrev G_X7_lawyer (N : Nat) (X : zXT) (sh : List yH) (l : Launch) (rm : Room) : yC → yR → Prop := yGoes X vwCl yct sh l rm cX7_lawyer 4 wsX7_lawyer RX7 (tb_X7_lawyer N) pr_X7_lawyer 1
set_option maxRecDepth 100000 in
set_option maxHeartbeats 4000000 in
theorem t_X7_lawyer {N : Nat} {X : zXT} {sh : List yH} {l : Launch} {rm : Room} (σ : yS) (x1 : Int) (x2 : Int) (res : Int × yS) (h : f_X7_lawyer N σ x1 x2 = some res) : G_X7_lawyer N X sh l rm (0, [(0, .inr (.inl 7, 0)), (1, .inl (.inl x1)), (2, .inl (.inl x2))], [], σ) (some (.inl (.inl res.1)), res.2) := by
  unfold f_X7_lawyer at h
  refine yG_n (n := 3) (C' := (5, [(0, .inr (.inl 7, 0)), (1, .inl (.inl x1)), (2, .inl (.inl x2))], [.inl (.inl x1), .inr (.inl 4, 17)], σ)) rfl ?_
  cases hr1 : f_X4_isHouse N σ 17 x1 with
  | none => rw [hr1] at h; dsimp only at h; cases h
  | some r1 =>
    rw [hr1] at h
    dsimp only at h
    refine yG_c (C1 := (8, [(0, .inr (.inl 7, 0)), (1, .inl (.inl x1)), (2, .inl (.inl x2))], [.inl (.inl r1.1)], r1.2)) rfl (e_X4_isHouse hr1) rfl ?_
    cases hg2 : ycP .ne r1.1 0 with
    | true =>
      rw [hg2] at h
      dsimp only [cond] at h
      refine yG_t (C' := (13, [(0, .inr (.inl 7, 0)), (1, .inl (.inl x1)), (2, .inl (.inl x2))], [], r1.2)) rfl hg2 ?_
      refine yG_n (n := 4) (C' := (21, [(0, .inr (.inl 7, 0)), (1, .inl (.inl x1)), (2, .inl (.inl x2))], [.inl (.inl x1), .inl (.inl (r1.2.1 17 6))], r1.2)) rfl ?_
      cases hr3 : f_X7_bit N r1.2 (r1.2.1 17 6) x1 with
      | none => rw [hr3] at h; dsimp only at h; cases h
      | some r2 =>
        rw [hr3] at h
        dsimp only at h
        refine yG_c (C1 := (24, [(0, .inr (.inl 7, 0)), (1, .inl (.inl x1)), (2, .inl (.inl x2))], [.inl (.inl r2.1)], r2.2)) rfl (e_X7_bit hr3) rfl ?_
        refine yG_n (n := 8) (C' := (38, [(3, .inl (.inl r2.1)), (0, .inr (.inl 7, 0)), (1, .inl (.inl x1)), (2, .inl (.inl x2))], [.inl (.inl x2), .inl (.inl x1), .inl (.inl (r2.2.1 17 6)), .inr (.inl 4, 17)], r2.2)) rfl ?_
        cases hr4 : f_X7_withBit N r2.2 (r2.2.1 17 6) x1 x2 with
        | none => rw [hr4] at h; dsimp only at h; cases h
        | some r3 =>
          rw [hr4] at h
          dsimp only at h
          refine yG_c (C1 := (41, [(3, .inl (.inl r2.1)), (0, .inr (.inl 7, 0)), (1, .inl (.inl x1)), (2, .inl (.inl x2))], [.inl (.inl r3.1), .inr (.inl 4, 17)], r3.2)) rfl (e_X7_withBit hr4) rfl ?_
          refine yG_n (n := 2) (C' := (45, [(3, .inl (.inl r2.1)), (0, .inr (.inl 7, 0)), (1, .inl (.inl x1)), (2, .inl (.inl x2))], [.inl (.inl r2.1)], yw r3.2 17 6 r3.1)) rfl ?_
          have h := Option.some.inj h
          subst h
          dsimp only
          exact yG_r rfl rfl
    | false =>
      rw [hg2] at h
      dsimp only [cond] at h
      refine yG_f (C' := (11, [(0, .inr (.inl 7, 0)), (1, .inl (.inl x1)), (2, .inl (.inl x2))], [], r1.2)) rfl hg2 ?_
      refine yG_n (n := 1) (C' := (12, [(0, .inr (.inl 7, 0)), (1, .inl (.inl x1)), (2, .inl (.inl x2))], [.inl (.inl ((-1)))], r1.2)) rfl ?_
      have h := Option.some.inj h
      subst h
      dsimp only
      exact yG_r rfl rfl
set_option maxRecDepth 100000 in
set_option maxHeartbeats 4000000 in
theorem m_X7_lawyer {N : Nat} {X : zXT} (hX : zXok X) (hN : zXn X) (l : Launch) {sh : List yH} : yMet X vwCl yct sh l yX7_lawyer wsX7_lawyer { frames := 3, cells := 0, slots := 0, locals := 107 } (F_X7_lawyer N) :=
  ymeth (tb := tb_X7_lawyer N) (pr := pr_X7_lawyer) (rt := 1) (own := RX7) hX (by decide +kernel) rfl rfl ⟨Nat.le_of_ble_eq_true rfl, Nat.le_of_ble_eq_true rfl⟩
    (zfl_all (List.forall_mem_cons.mpr ⟨zfl_X7 (fun w h => List.mem_cons_of_mem _ (List.mem_append_left _ (List.mem_append_right _ h))) (List.mem_of_getElem? (i := 1) rfl) (by decide) (by decide), List.forall_mem_cons.mpr ⟨zfl_X4 (fun w h => List.mem_cons_of_mem _ (List.mem_append_right _ h)) (List.mem_of_getElem? (i := 2) rfl) (by decide) (by decide), fun _ h => absurd h List.not_mem_nil⟩⟩))
    (zco_all (fun _ h => absurd h List.not_mem_nil)) (zlc_all (fun _ h => absurd h List.not_mem_nil))
    (List.forall_mem_cons.mpr ⟨ycal_V hX (m_X4_isHouse hX hN l) rfl (fun s args hts => cwV 1 hts gX7_lawyer_X4_isHouse rfl rfl rfl (by decide +kernel) ⟨Nat.le_of_ble_eq_true rfl, Nat.le_of_ble_eq_true rfl⟩), fun _ h => absurd h List.not_mem_nil⟩)
    (List.forall_mem_cons.mpr ⟨ycal_S hX (m_X7_bit hX hN l) (fun s args hts => va_cwS 2 hts gX7_lawyer_X7_bit rfl rfl rfl (by decide +kernel) ⟨Nat.le_of_ble_eq_true rfl, Nat.le_of_ble_eq_true rfl⟩), List.forall_mem_cons.mpr ⟨ycal_S hX (m_X7_withBit hX hN l) (fun s args hts => va_cwS 3 hts gX7_lawyer_X7_withBit rfl rfl rfl (by decide +kernel) ⟨Nat.le_of_ble_eq_true rfl, Nat.le_of_ble_eq_true rfl⟩), fun _ h => absurd h List.not_mem_nil⟩⟩)
    (zmm_all (fun _ h => absurd h List.not_mem_nil)) (fun _ h => absurd h List.not_mem_nil) (zpr_all hp_X7_lawyer) (fun as σ res h => by
      unfold F_X7_lawyer at h
      split at h
      · rename_i x1 x2
        cases hr : f_X7_lawyer N σ x1 x2 with
        | none => rw [hr] at h; cases h
        | some r =>
          rw [hr] at h
          cases h
          exact ⟨Nat.le_of_ble_eq_true rfl, t_X7_lawyer σ x1 x2 r hr⟩
      · cases h)
noncomputable def pr_X2_faultOfCells : List (Nat × Instr × Nat) := [(0, .aload_n 0, 1), (1, .invokevirtual 22, 3), (4, .ifCond .eq 5, 3), (7, .iconst 1, 1), (8, .ireturn, 1), (9, .iload_n 1, 1), (10, .iconst 0, 1), (11, .aload_n 0, 1), (12, .getfield 19, 3), (15, .iload_n 2, 1), (16, .isub, 1), (17, .invokestatic 26, 3), (20, .ifCond .eq 7, 3), (23, .iconst 0, 1), (24, .goto 4, 3), (27, .iconst 2, 1), (28, .ireturn, 1)]
set_option maxRecDepth 100000 in
theorem hp_X2_faultOfCells : pr_X2_faultOfCells.all (fun x => decide (decode cX2_faultOfCells x.1 = .ok x.2)) = true := by decide +kernel
noncomputable def f_X2_faultOfCells_b28 (N : Nat) (σ : yS) (s0 : Int) : Option (Int × yS) :=
  some (s0, σ)
noncomputable def f_X2_faultOfCells (N : Nat) (σ : yS) (x0 : Nat) (x1 : Int) (x2 : Int) : Option (Int × yS) :=
  match f_X2_isNothing N σ x0 with
  | none => none
  | some r1 => bif ycP .eq r1.1 0 then
      match f_X7_within N r1.2 x1 0 (ysu (r1.2.1 x0 1) x2) with
      | none => none
      | some r2 => bif ycP .eq r2.1 0 then
          f_X2_faultOfCells_b28 N r2.2 2
        else
          f_X2_faultOfCells_b28 N r2.2 0
    else
      some (1, r1.2)
noncomputable def F_X2_faultOfCells (N : Nat) : yF := fun as σ => match as with
  | [.inr (.inl 2, x0), .inl (.inl x1), .inl (.inl x2)] => (f_X2_faultOfCells N σ x0 x1 x2).map (fun r => (some (.inl (.inl r.1)), r.2))
  | _ => none
theorem e_X2_faultOfCells {N : Nat} {σ : yS} {x0 : Nat} {x1 : Int} {x2 : Int} {r : Int × yS} (h : f_X2_faultOfCells N σ x0 x1 x2 = some r) : F_X2_faultOfCells N [.inr (.inl 2, x0), .inl (.inl x1), .inl (.inl x2)] σ = some (some (.inl (.inl r.1)), r.2) := by
  show (f_X2_faultOfCells N σ x0 x1 x2).map (fun r => ((some (.inl (.inl r.1)), r.2) : yR)) = _
  rw [h]
  rfl
noncomputable def tb_X2_faultOfCells (N : Nat) : yTb := ([(19, 2, 1, 0)], [], [], [(22, 1, 2, F_X2_isNothing N)], [(26, 3, F_X7_within N)], [], [])
abbrev G_X2_faultOfCells (N : Nat) (X : zXT) (sh : List yH) (l : Launch) (rm : Room) : yC → yR → Prop := yGoes X vwCl yct sh l rm cX2_faultOfCells 3 wsX2_faultOfCells RX2 (tb_X2_faultOfCells N) pr_X2_faultOfCells 1
set_option maxRecDepth 100000 in
set_option maxHeartbeats 4000000 in
theorem t_X2_faultOfCells_b28 {N : Nat} {X : zXT} {sh : List yH} {l : Launch} {rm : Room} (σ : yS) (s0 : Int) (res : Int × yS) (h : f_X2_faultOfCells_b28 N σ s0 = some res) : G_X2_faultOfCells N X sh l rm (28, [], [.inl (.inl s0)], σ) (some (.inl (.inl res.1)), res.2) := by
  unfold f_X2_faultOfCells_b28 at h
  have h := Option.some.inj h
  subst h
  dsimp only
  exact yG_r rfl rfl
set_option maxRecDepth 100000 in
set_option maxHeartbeats 4000000 in
theorem t_X2_faultOfCells {N : Nat} {X : zXT} {sh : List yH} {l : Launch} {rm : Room} (σ : yS) (x0 : Nat) (x1 : Int) (x2 : Int) (res : Int × yS) (h : f_X2_faultOfCells N σ x0 x1 x2 = some res) : G_X2_faultOfCells N X sh l rm (0, [(0, .inr (.inl 2, x0)), (1, .inl (.inl x1)), (2, .inl (.inl x2))], [], σ) (some (.inl (.inl res.1)), res.2) := by
  unfold f_X2_faultOfCells at h
  refine yG_n (n := 1) (C' := (1, [(0, .inr (.inl 2, x0)), (1, .inl (.inl x1)), (2, .inl (.inl x2))], [.inr (.inl 2, x0)], σ)) rfl ?_
  cases hr1 : f_X2_isNothing N σ x0 with
  | none => rw [hr1] at h; dsimp only at h; cases h
  | some r1 =>
    rw [hr1] at h
    dsimp only at h
    refine yG_c (C1 := (4, [(0, .inr (.inl 2, x0)), (1, .inl (.inl x1)), (2, .inl (.inl x2))], [.inl (.inl r1.1)], r1.2)) rfl (e_X2_isNothing hr1) rfl ?_
    cases hg2 : ycP .eq r1.1 0 with
    | true =>
      rw [hg2] at h
      dsimp only [cond] at h
      refine yG_t (C' := (9, [(0, .inr (.inl 2, x0)), (1, .inl (.inl x1)), (2, .inl (.inl x2))], [], r1.2)) rfl hg2 ?_
      refine yG_n (n := 6) (C' := (17, [(0, .inr (.inl 2, x0)), (1, .inl (.inl x1)), (2, .inl (.inl x2))], [.inl (.inl (ysu (r1.2.1 x0 1) x2)), .inl (.inl 0), .inl (.inl x1)], r1.2)) rfl ?_
      cases hr3 : f_X7_within N r1.2 x1 0 (ysu (r1.2.1 x0 1) x2) with
      | none => rw [hr3] at h; dsimp only at h; cases h
      | some r2 =>
        rw [hr3] at h
        dsimp only at h
        refine yG_c (C1 := (20, [(0, .inr (.inl 2, x0)), (1, .inl (.inl x1)), (2, .inl (.inl x2))], [.inl (.inl r2.1)], r2.2)) rfl (e_X7_within hr3) rfl ?_
        cases hg4 : ycP .eq r2.1 0 with
        | true =>
          rw [hg4] at h
          dsimp only [cond] at h
          refine yG_t (C' := (27, [(0, .inr (.inl 2, x0)), (1, .inl (.inl x1)), (2, .inl (.inl x2))], [], r2.2)) rfl hg4 ?_
          refine yG_n (n := 1) (C' := (28, [(0, .inr (.inl 2, x0)), (1, .inl (.inl x1)), (2, .inl (.inl x2))], [.inl (.inl 2)], r2.2)) rfl ?_
          exact yG_w [] rfl (t_X2_faultOfCells_b28 r2.2 2 res h)
        | false =>
          rw [hg4] at h
          dsimp only [cond] at h
          refine yG_f (C' := (23, [(0, .inr (.inl 2, x0)), (1, .inl (.inl x1)), (2, .inl (.inl x2))], [], r2.2)) rfl hg4 ?_
          refine yG_n (n := 2) (C' := (28, [(0, .inr (.inl 2, x0)), (1, .inl (.inl x1)), (2, .inl (.inl x2))], [.inl (.inl 0)], r2.2)) rfl ?_
          exact yG_w [] rfl (t_X2_faultOfCells_b28 r2.2 0 res h)
    | false =>
      rw [hg2] at h
      dsimp only [cond] at h
      refine yG_f (C' := (7, [(0, .inr (.inl 2, x0)), (1, .inl (.inl x1)), (2, .inl (.inl x2))], [], r1.2)) rfl hg2 ?_
      refine yG_n (n := 1) (C' := (8, [(0, .inr (.inl 2, x0)), (1, .inl (.inl x1)), (2, .inl (.inl x2))], [.inl (.inl 1)], r1.2)) rfl ?_
      have h := Option.some.inj h
      subst h
      dsimp only
      exact yG_r rfl rfl
set_option maxRecDepth 100000 in
set_option maxHeartbeats 4000000 in
theorem m_X2_faultOfCells {N : Nat} {X : zXT} (hX : zXok X) (hN : zXn X) (l : Launch) {sh : List yH} : yMet X vwCl yct sh l yX2_faultOfCells wsX2_faultOfCells { frames := 2, cells := 0, slots := 0, locals := 86 } (F_X2_faultOfCells N) :=
  ymeth (tb := tb_X2_faultOfCells N) (pr := pr_X2_faultOfCells) (rt := 1) (own := RX2) hX (by decide +kernel) rfl rfl ⟨Nat.le_of_ble_eq_true rfl, Nat.le_of_ble_eq_true rfl⟩
    (zfl_all (List.forall_mem_cons.mpr ⟨zfl_X2 (fun w h => List.mem_cons_of_mem _ (List.mem_append_right _ h)) (List.mem_of_getElem? (i := 1) rfl) (by decide) (by decide), fun _ h => absurd h List.not_mem_nil⟩))
    (zco_all (fun _ h => absurd h List.not_mem_nil)) (zlc_all (fun _ h => absurd h List.not_mem_nil))
    (List.forall_mem_cons.mpr ⟨ycal_V hX (m_X2_isNothing hX hN l) rfl (fun s args hts => cwV 0 hts gX2_faultOfCells_X2_isNothing rfl rfl rfl (by decide +kernel) ⟨Nat.le_of_ble_eq_true rfl, Nat.le_of_ble_eq_true rfl⟩), fun _ h => absurd h List.not_mem_nil⟩)
    (List.forall_mem_cons.mpr ⟨ycal_SN hX (m_X7_within hX hN l) (fun A s args hts hx => ⟨va_cnB 3 hts ggX2_faultOfCells_X7_within rfl rfl rfl (hN A s s.heap hx RX2 26 yX7_within RX7 (by decide +kernel)) (hts _ (List.mem_of_getElem? (i := 9) rfl)) (by decide +kernel) ⟨Nat.le_of_ble_eq_true rfl, Nat.le_of_ble_eq_true rfl⟩, hts _ (List.mem_of_getElem? (i := 8) rfl), trivial⟩), fun _ h => absurd h List.not_mem_nil⟩)
    (zmm_all (fun _ h => absurd h List.not_mem_nil)) (fun _ h => absurd h List.not_mem_nil) (zpr_all hp_X2_faultOfCells) (fun as σ res h => by
      unfold F_X2_faultOfCells at h
      split at h
      · rename_i x0 x1 x2
        cases hr : f_X2_faultOfCells N σ x0 x1 x2 with
        | none => rw [hr] at h; cases h
        | some r =>
          rw [hr] at h
          cases h
          exact ⟨Nat.le_of_ble_eq_true rfl, t_X2_faultOfCells σ x0 x1 x2 r hr⟩
      · cases h)
noncomputable def pr_X2_put : List (Nat × Instr × Nat) := [(0, .aload_n 0, 1), (1, .getfield 11, 3), (4, .ifCond .ne 14, 3), (7, .aload_n 0, 1), (8, .getfield 15, 3), (11, .iload_n 1, 1), (12, .iload_n 2, 1), (13, .i2b, 1), (14, .iastore, 1), (15, .goto 29, 3), (18, .aload_n 0, 1), (19, .getfield 11, 3), (22, .iconst 1, 1), (23, .if_icmp .ne 14, 3), (26, .aload_n 0, 1), (27, .getfield 15, 3), (30, .iload_n 1, 1), (31, .iload_n 2, 1), (32, .i2s, 1), (33, .iastore, 1), (34, .goto 10, 3), (37, .aload_n 0, 1), (38, .getfield 15, 3), (41, .iload_n 1, 1), (42, .iload_n 2, 1), (43, .iastore, 1), (44, .return_, 1)]
set_option maxRecDepth 100000 in
theorem hp_X2_put : pr_X2_put.all (fun x => decide (decode cX2_put x.1 = .ok x.2)) = true := by decide +kernel
noncomputable def f_X2_put_b44 (N : Nat) (σ : yS) : Option (Int × yS) :=
  some (0, σ)
noncomputable def f_X2_put (N : Nat) (σ : yS) (x0 : Nat) (x1 : Int) (x2 : Int) : Option (Int × yS) :=
  bif ycP .ne (σ.1 x0 0) 0 then
    bif ycP .ne (σ.1 x0 0) 1 then
      bif yin x1 40 then
        f_X2_put_b44 N (yw σ (x0 + 1) x1.toNat x2)
      else none
    else
      bif yin x1 40 then
        f_X2_put_b44 N (yw σ (x0 + 1) x1.toNat (yi16 x2))
      else none
  else
    bif yin x1 40 then
      f_X2_put_b44 N (yw σ (x0 + 1) x1.toNat (yi8 x2))
    else none
noncomputable def F_X2_put (N : Nat) : yF := fun as σ => match as with
  | [.inr (.inl 2, x0), .inl (.inl x1), .inl (.inl x2)] => (f_X2_put N σ x0 x1 x2).map (fun r => (none, r.2))
  | _ => none
theorem e_X2_put {N : Nat} {σ : yS} {x0 : Nat} {x1 : Int} {x2 : Int} {r : Int × yS} (h : f_X2_put N σ x0 x1 x2 = some r) : F_X2_put N [.inr (.inl 2, x0), .inl (.inl x1), .inl (.inl x2)] σ = some (none, r.2) := by
  show (f_X2_put N σ x0 x1 x2).map (fun r => ((none, r.2) : yR)) = _
  rw [h]
  rfl
noncomputable def tb_X2_put (N : Nat) : yTb := ([(11, 2, 0, 0), (15, 2, 2, 3)], [], [], [], [], [], [])
abbrev G_X2_put (N : Nat) (X : zXT) (sh : List yH) (l : Launch) (rm : Room) : yC → yR → Prop := yGoes X vwCl yct sh l rm cX2_put 3 wsX2_put RX2 (tb_X2_put N) pr_X2_put 0
set_option maxRecDepth 100000 in
set_option maxHeartbeats 4000000 in
theorem t_X2_put_b44 {N : Nat} {X : zXT} {sh : List yH} {l : Launch} {rm : Room} (σ : yS) (res : Int × yS) (h : f_X2_put_b44 N σ = some res) : G_X2_put N X sh l rm (44, [], [], σ) (none, res.2) := by
  unfold f_X2_put_b44 at h
  have h := Option.some.inj h
  subst h
  dsimp only
  exact yG_r rfl rfl
set_option maxRecDepth 100000 in
set_option maxHeartbeats 4000000 in
theorem t_X2_put {N : Nat} {X : zXT} {sh : List yH} {l : Launch} {rm : Room} (σ : yS) (x0 : Nat) (x1 : Int) (x2 : Int) (res : Int × yS) (h : f_X2_put N σ x0 x1 x2 = some res) : G_X2_put N X sh l rm (0, [(0, .inr (.inl 2, x0)), (1, .inl (.inl x1)), (2, .inl (.inl x2))], [], σ) (none, res.2) := by
  unfold f_X2_put at h
  refine yG_n (n := 2) (C' := (4, [(0, .inr (.inl 2, x0)), (1, .inl (.inl x1)), (2, .inl (.inl x2))], [.inl (.inl (σ.1 x0 0))], σ)) rfl ?_
  cases hg1 : ycP .ne (σ.1 x0 0) 0 with
  | true =>
    rw [hg1] at h
    dsimp only [cond] at h
    refine yG_t (C' := (18, [(0, .inr (.inl 2, x0)), (1, .inl (.inl x1)), (2, .inl (.inl x2))], [], σ)) rfl hg1 ?_
    refine yG_n (n := 3) (C' := (23, [(0, .inr (.inl 2, x0)), (1, .inl (.inl x1)), (2, .inl (.inl x2))], [.inl (.inl 1), .inl (.inl (σ.1 x0 0))], σ)) rfl ?_
    cases hg2 : ycP .ne (σ.1 x0 0) 1 with
    | true =>
      rw [hg2] at h
      dsimp only [cond] at h
      refine yG_t (C' := (37, [(0, .inr (.inl 2, x0)), (1, .inl (.inl x1)), (2, .inl (.inl x2))], [], σ)) rfl hg2 ?_
      refine yG_n (n := 4) (C' := (43, [(0, .inr (.inl 2, x0)), (1, .inl (.inl x1)), (2, .inl (.inl x2))], [.inl (.inl x2), .inl (.inl x1), .inr (.inr (0, 40), x0 + 1)], σ)) rfl ?_
      cases hg3 : yin x1 40 with
      | false => rw [hg3] at h; dsimp only [cond] at h; cases h
      | true =>
        rw [hg3] at h
        dsimp only [cond] at h
        refine yG_t (C' := (44, [(0, .inr (.inl 2, x0)), (1, .inl (.inl x1)), (2, .inl (.inl x2))], [], yw σ (x0 + 1) x1.toNat x2)) rfl hg3 ?_
        exact yG_w [] rfl (t_X2_put_b44 (yw σ (x0 + 1) x1.toNat x2) res h)
    | false =>
      rw [hg2] at h
      dsimp only [cond] at h
      refine yG_f (C' := (26, [(0, .inr (.inl 2, x0)), (1, .inl (.inl x1)), (2, .inl (.inl x2))], [], σ)) rfl hg2 ?_
      refine yG_n (n := 5) (C' := (33, [(0, .inr (.inl 2, x0)), (1, .inl (.inl x1)), (2, .inl (.inl x2))], [.inl (.inl (yi16 x2)), .inl (.inl x1), .inr (.inr (0, 40), x0 + 1)], σ)) rfl ?_
      cases hg4 : yin x1 40 with
      | false => rw [hg4] at h; dsimp only [cond] at h; cases h
      | true =>
        rw [hg4] at h
        dsimp only [cond] at h
        refine yG_t (C' := (34, [(0, .inr (.inl 2, x0)), (1, .inl (.inl x1)), (2, .inl (.inl x2))], [], yw σ (x0 + 1) x1.toNat (yi16 x2))) rfl hg4 ?_
        refine yG_n (n := 1) (C' := (44, [(0, .inr (.inl 2, x0)), (1, .inl (.inl x1)), (2, .inl (.inl x2))], [], yw σ (x0 + 1) x1.toNat (yi16 x2))) rfl ?_
        exact yG_w [] rfl (t_X2_put_b44 (yw σ (x0 + 1) x1.toNat (yi16 x2)) res h)
  | false =>
    rw [hg1] at h
    dsimp only [cond] at h
    refine yG_f (C' := (7, [(0, .inr (.inl 2, x0)), (1, .inl (.inl x1)), (2, .inl (.inl x2))], [], σ)) rfl hg1 ?_
    refine yG_n (n := 5) (C' := (14, [(0, .inr (.inl 2, x0)), (1, .inl (.inl x1)), (2, .inl (.inl x2))], [.inl (.inl (yi8 x2)), .inl (.inl x1), .inr (.inr (0, 40), x0 + 1)], σ)) rfl ?_
    cases hg5 : yin x1 40 with
    | false => rw [hg5] at h; dsimp only [cond] at h; cases h
    | true =>
      rw [hg5] at h
      dsimp only [cond] at h
      refine yG_t (C' := (15, [(0, .inr (.inl 2, x0)), (1, .inl (.inl x1)), (2, .inl (.inl x2))], [], yw σ (x0 + 1) x1.toNat (yi8 x2))) rfl hg5 ?_
      refine yG_n (n := 1) (C' := (44, [(0, .inr (.inl 2, x0)), (1, .inl (.inl x1)), (2, .inl (.inl x2))], [], yw σ (x0 + 1) x1.toNat (yi8 x2))) rfl ?_
      exact yG_w [] rfl (t_X2_put_b44 (yw σ (x0 + 1) x1.toNat (yi8 x2)) res h)
set_option maxRecDepth 100000 in
set_option maxHeartbeats 4000000 in
theorem m_X2_put {N : Nat} {X : zXT} (hX : zXok X) (hN : zXn X) (l : Launch) {sh : List yH} : yMet X vwCl yct sh l yX2_put wsX2_put { frames := 1, cells := 0, slots := 0, locals := 64 } (F_X2_put N) :=
  ymeth (tb := tb_X2_put N) (pr := pr_X2_put) (rt := 0) (own := RX2) hX (by decide +kernel) rfl rfl ⟨Nat.le_of_ble_eq_true rfl, Nat.le_of_ble_eq_true rfl⟩
    (zfl_all (List.forall_mem_cons.mpr ⟨zfl_X2 (fun w h => List.mem_cons_of_mem _ (List.mem_append_right _ h)) (List.mem_of_getElem? (i := 1) rfl) (by decide) (by decide), List.forall_mem_cons.mpr ⟨zfl_X2 (fun w h => List.mem_cons_of_mem _ (List.mem_append_right _ h)) (List.mem_of_getElem? (i := 2) rfl) (by decide) (by decide), fun _ h => absurd h List.not_mem_nil⟩⟩))
    (zco_all (fun _ h => absurd h List.not_mem_nil)) (zlc_all (fun _ h => absurd h List.not_mem_nil))
    (fun _ h => absurd h List.not_mem_nil)
    (fun _ h => absurd h List.not_mem_nil)
    (zmm_all (fun _ h => absurd h List.not_mem_nil)) (fun _ h => absurd h List.not_mem_nil) (zpr_all hp_X2_put) (fun as σ res h => by
      unfold F_X2_put at h
      split at h
      · rename_i x0 x1 x2
        cases hr : f_X2_put N σ x0 x1 x2 with
        | none => rw [hr] at h; cases h
        | some r =>
          rw [hr] at h
          cases h
          exact ⟨Nat.le_of_ble_eq_true rfl, t_X2_put σ x0 x1 x2 r hr⟩
      · cases h)
noncomputable def pr_X7_lay : List (Nat × Instr × Nat) := [(0, .iload_n 1, 1), (1, .invokestatic 262, 3), (4, .ifCond .ne 5, 3), (7, .iconst (-1), 1), (8, .ireturn, 1), (9, .aload_n 0, 1), (10, .getfield 44, 3), (13, .iload_n 1, 1), (14, .aaload, 1), (15, .iload_n 2, 1), (16, .iconst 1, 1), (17, .invokevirtual 271, 3), (20, .istore 4, 2), (22, .iload 4, 2), (24, .ifCond .eq 9, 3), (27, .bipush (-10), 2), (29, .iload 4, 2), (31, .isub, 1), (32, .ireturn, 1), (33, .aload_n 0, 1), (34, .getfield 44, 3), (37, .iload_n 1, 1), (38, .aaload, 1), (39, .iload_n 2, 1), (40, .iload_n 3, 1), (41, .invokevirtual 274, 3), (44, .iconst 1, 1), (45, .ireturn, 1)]
set_option maxRecDepth 100000 in
theorem hp_X7_lay : pr_X7_lay.all (fun x => decide (decode cX7_lay x.1 = .ok x.2)) = true := by decide +kernel
noncomputable def f_X7_lay (N : Nat) (σ : yS) (x1 : Int) (x2 : Int) (x3 : Int) : Option (Int × yS) :=
  match f_X7_isSheet N σ x1 with
  | none => none
  | some r1 => bif ycP .ne r1.1 0 then
      bif yin x1 4 then
        match f_X2_faultOfCells N r1.2 (r1.2.2 8 x1.toNat) x2 1 with
        | none => none
        | some r2 => bif ycP .eq r2.1 0 then
            match f_X2_put N r2.2 (r2.2.2 8 x1.toNat) x2 x3 with
            | none => none
            | some r3 => some (1, r3.2)
          else
            some (ysu ((-10)) r2.1, r2.2)
      else none
    else
      some ((-1), r1.2)
noncomputable def F_X7_lay (N : Nat) : yF := fun as σ => match as with
  | [.inr (.inl 7, 0), .inl (.inl x1), .inl (.inl x2), .inl (.inl x3)] => (f_X7_lay N σ x1 x2 x3).map (fun r => (some (.inl (.inl r.1)), r.2))
  | _ => none
theorem e_X7_lay {N : Nat} {σ : yS} {x1 : Int} {x2 : Int} {x3 : Int} {r : Int × yS} (h : f_X7_lay N σ x1 x2 x3 = some r) : F_X7_lay N [.inr (.inl 7, 0), .inl (.inl x1), .inl (.inl x2), .inl (.inl x3)] σ = some (some (.inl (.inl r.1)), r.2) := by
  show (f_X7_lay N σ x1 x2 x3).map (fun r => ((some (.inl (.inl r.1)), r.2) : yR)) = _
  rw [h]
  rfl
noncomputable def tb_X7_lay (N : Nat) : yTb := ([(44, 7, 6, 3)], [], [], [(271, 3, 2, F_X2_faultOfCells N), (274, 3, 2, F_X2_put N)], [(262, 1, F_X7_isSheet N)], [], [])
abbrev G_X7_lay (N : Nat) (X : zXT) (sh : List yH) (l : Launch) (rm : Room) : yC → yR → Prop := yGoes X vwCl yct sh l rm cX7_lay 5 wsX7_lay RX7 (tb_X7_lay N) pr_X7_lay 1
set_option maxRecDepth 100000 in
set_option maxHeartbeats 4000000 in
theorem t_X7_lay {N : Nat} {X : zXT} {sh : List yH} {l : Launch} {rm : Room} (σ : yS) (x1 : Int) (x2 : Int) (x3 : Int) (res : Int × yS) (h : f_X7_lay N σ x1 x2 x3 = some res) : G_X7_lay N X sh l rm (0, [(0, .inr (.inl 7, 0)), (1, .inl (.inl x1)), (2, .inl (.inl x2)), (3, .inl (.inl x3))], [], σ) (some (.inl (.inl res.1)), res.2) := by
  unfold f_X7_lay at h
  refine yG_n (n := 1) (C' := (1, [(0, .inr (.inl 7, 0)), (1, .inl (.inl x1)), (2, .inl (.inl x2)), (3, .inl (.inl x3))], [.inl (.inl x1)], σ)) rfl ?_
  cases hr1 : f_X7_isSheet N σ x1 with
  | none => rw [hr1] at h; dsimp only at h; cases h
  | some r1 =>
    rw [hr1] at h
    dsimp only at h
    refine yG_c (C1 := (4, [(0, .inr (.inl 7, 0)), (1, .inl (.inl x1)), (2, .inl (.inl x2)), (3, .inl (.inl x3))], [.inl (.inl r1.1)], r1.2)) rfl (e_X7_isSheet hr1) rfl ?_
    cases hg2 : ycP .ne r1.1 0 with
    | true =>
      rw [hg2] at h
      dsimp only [cond] at h
      refine yG_t (C' := (9, [(0, .inr (.inl 7, 0)), (1, .inl (.inl x1)), (2, .inl (.inl x2)), (3, .inl (.inl x3))], [], r1.2)) rfl hg2 ?_
      refine yG_n (n := 3) (C' := (14, [(0, .inr (.inl 7, 0)), (1, .inl (.inl x1)), (2, .inl (.inl x2)), (3, .inl (.inl x3))], [.inl (.inl x1), .inr (.inr (3, 4), 8)], r1.2)) rfl ?_
      cases hg3 : yin x1 4 with
      | false => rw [hg3] at h; dsimp only [cond] at h; cases h
      | true =>
        rw [hg3] at h
        dsimp only [cond] at h
        refine yG_t (C' := (15, [(0, .inr (.inl 7, 0)), (1, .inl (.inl x1)), (2, .inl (.inl x2)), (3, .inl (.inl x3))], [.inr (.inl 2, r1.2.2 8 x1.toNat)], r1.2)) rfl hg3 ?_
        refine yG_n (n := 2) (C' := (17, [(0, .inr (.inl 7, 0)), (1, .inl (.inl x1)), (2, .inl (.inl x2)), (3, .inl (.inl x3))], [.inl (.inl 1), .inl (.inl x2), .inr (.inl 2, r1.2.2 8 x1.toNat)], r1.2)) rfl ?_
        cases hr4 : f_X2_faultOfCells N r1.2 (r1.2.2 8 x1.toNat) x2 1 with
        | none => rw [hr4] at h; dsimp only at h; cases h
        | some r2 =>
          rw [hr4] at h
          dsimp only at h
          refine yG_c (C1 := (20, [(0, .inr (.inl 7, 0)), (1, .inl (.inl x1)), (2, .inl (.inl x2)), (3, .inl (.inl x3))], [.inl (.inl r2.1)], r2.2)) rfl (e_X2_faultOfCells hr4) rfl ?_
          refine yG_n (n := 2) (C' := (24, [(4, .inl (.inl r2.1)), (0, .inr (.inl 7, 0)), (1, .inl (.inl x1)), (2, .inl (.inl x2)), (3, .inl (.inl x3))], [.inl (.inl r2.1)], r2.2)) rfl ?_
          cases hg5 : ycP .eq r2.1 0 with
          | true =>
            rw [hg5] at h
            dsimp only [cond] at h
            refine yG_t (C' := (33, [(4, .inl (.inl r2.1)), (0, .inr (.inl 7, 0)), (1, .inl (.inl x1)), (2, .inl (.inl x2)), (3, .inl (.inl x3))], [], r2.2)) rfl hg5 ?_
            refine yG_n (n := 3) (C' := (38, [(4, .inl (.inl r2.1)), (0, .inr (.inl 7, 0)), (1, .inl (.inl x1)), (2, .inl (.inl x2)), (3, .inl (.inl x3))], [.inl (.inl x1), .inr (.inr (3, 4), 8)], r2.2)) rfl ?_
            refine yG_t (C' := (39, [(4, .inl (.inl r2.1)), (0, .inr (.inl 7, 0)), (1, .inl (.inl x1)), (2, .inl (.inl x2)), (3, .inl (.inl x3))], [.inr (.inl 2, r2.2.2 8 x1.toNat)], r2.2)) rfl hg3 ?_
            refine yG_n (n := 2) (C' := (41, [(4, .inl (.inl r2.1)), (0, .inr (.inl 7, 0)), (1, .inl (.inl x1)), (2, .inl (.inl x2)), (3, .inl (.inl x3))], [.inl (.inl x3), .inl (.inl x2), .inr (.inl 2, r2.2.2 8 x1.toNat)], r2.2)) rfl ?_
            cases hr6 : f_X2_put N r2.2 (r2.2.2 8 x1.toNat) x2 x3 with
            | none => rw [hr6] at h; dsimp only at h; cases h
            | some r3 =>
              rw [hr6] at h
              dsimp only at h
              refine yG_c (C1 := (44, [(4, .inl (.inl r2.1)), (0, .inr (.inl 7, 0)), (1, .inl (.inl x1)), (2, .inl (.inl x2)), (3, .inl (.inl x3))], [], r3.2)) rfl (e_X2_put hr6) rfl ?_
              refine yG_n (n := 1) (C' := (45, [(4, .inl (.inl r2.1)), (0, .inr (.inl 7, 0)), (1, .inl (.inl x1)), (2, .inl (.inl x2)), (3, .inl (.inl x3))], [.inl (.inl 1)], r3.2)) rfl ?_
              have h := Option.some.inj h
              subst h
              dsimp only
              exact yG_r rfl rfl
          | false =>
            rw [hg5] at h
            dsimp only [cond] at h
            refine yG_f (C' := (27, [(4, .inl (.inl r2.1)), (0, .inr (.inl 7, 0)), (1, .inl (.inl x1)), (2, .inl (.inl x2)), (3, .inl (.inl x3))], [], r2.2)) rfl hg5 ?_
            refine yG_n (n := 3) (C' := (32, [(4, .inl (.inl r2.1)), (0, .inr (.inl 7, 0)), (1, .inl (.inl x1)), (2, .inl (.inl x2)), (3, .inl (.inl x3))], [.inl (.inl (ysu ((-10)) r2.1))], r2.2)) rfl ?_
            have h := Option.some.inj h
            subst h
            dsimp only
            exact yG_r rfl rfl
    | false =>
      rw [hg2] at h
      dsimp only [cond] at h
      refine yG_f (C' := (7, [(0, .inr (.inl 7, 0)), (1, .inl (.inl x1)), (2, .inl (.inl x2)), (3, .inl (.inl x3))], [], r1.2)) rfl hg2 ?_
      refine yG_n (n := 1) (C' := (8, [(0, .inr (.inl 7, 0)), (1, .inl (.inl x1)), (2, .inl (.inl x2)), (3, .inl (.inl x3))], [.inl (.inl ((-1)))], r1.2)) rfl ?_
      have h := Option.some.inj h
      subst h
      dsimp only
      exact yG_r rfl rfl
set_option maxRecDepth 100000 in
set_option maxHeartbeats 4000000 in
theorem m_X7_lay {N : Nat} {X : zXT} (hX : zXok X) (hN : zXn X) (l : Launch) {sh : List yH} : yMet X vwCl yct sh l yX7_lay wsX7_lay { frames := 3, cells := 0, slots := 0, locals := 108 } (F_X7_lay N) :=
  ymeth (tb := tb_X7_lay N) (pr := pr_X7_lay) (rt := 1) (own := RX7) hX (by decide +kernel) rfl rfl ⟨Nat.le_of_ble_eq_true rfl, Nat.le_of_ble_eq_true rfl⟩
    (zfl_all (List.forall_mem_cons.mpr ⟨zfl_X7 (fun w h => List.mem_cons_of_mem _ (List.mem_append_left _ (List.mem_append_right _ h))) (List.mem_of_getElem? (i := 1) rfl) (by decide) (by decide), fun _ h => absurd h List.not_mem_nil⟩))
    (zco_all (fun _ h => absurd h List.not_mem_nil)) (zlc_all (fun _ h => absurd h List.not_mem_nil))
    (List.forall_mem_cons.mpr ⟨ycal_V hX (m_X2_faultOfCells hX hN l) rfl (fun s args hts => cwV 2 hts gX7_lay_X2_faultOfCells rfl rfl rfl (by decide +kernel) ⟨Nat.le_of_ble_eq_true rfl, Nat.le_of_ble_eq_true rfl⟩), List.forall_mem_cons.mpr ⟨ycal_V hX (m_X2_put hX hN l) rfl (fun s args hts => cwV 2 hts gX7_lay_X2_put rfl rfl rfl (by decide +kernel) ⟨Nat.le_of_ble_eq_true rfl, Nat.le_of_ble_eq_true rfl⟩), fun _ h => absurd h List.not_mem_nil⟩⟩)
    (List.forall_mem_cons.mpr ⟨ycal_S hX (m_X7_isSheet hX hN l) (fun s args hts => va_cwS 1 hts gX7_lay_X7_isSheet rfl rfl rfl (by decide +kernel) ⟨Nat.le_of_ble_eq_true rfl, Nat.le_of_ble_eq_true rfl⟩), fun _ h => absurd h List.not_mem_nil⟩)
    (zmm_all (fun _ h => absurd h List.not_mem_nil)) (fun _ h => absurd h List.not_mem_nil) (zpr_all hp_X7_lay) (fun as σ res h => by
      unfold F_X7_lay at h
      split at h
      · rename_i x1 x2 x3
        cases hr : f_X7_lay N σ x1 x2 x3 with
        | none => rw [hr] at h; cases h
        | some r =>
          rw [hr] at h
          cases h
          exact ⟨Nat.le_of_ble_eq_true rfl, t_X7_lay σ x1 x2 x3 r hr⟩
      · cases h)
noncomputable def pr_X4_habitWeight : List (Nat × Instr × Nat) := [(0, .lconst 1, 1), (1, .lstore_n 2, 1), (2, .iconst 0, 1), (3, .istore 4, 2), (5, .iload 4, 2), (7, .aload_n 0, 1), (8, .getfield 9, 3), (11, .if_icmp .ge 44, 3), (14, .lload_n 2, 1), (15, .iload_n 1, 1), (16, .iload 4, 2), (18, .invokestatic 126, 3), (21, .iconst 1, 1), (22, .if_icmp .ne 14, 3), (25, .aload_n 0, 1), (26, .getfield 31, 3), (29, .iload 4, 2), (31, .iaload, 1), (32, .i2l, 1), (33, .goto 14, 3), (36, .bipush 10, 2), (38, .aload_n 0, 1), (39, .getfield 31, 3), (42, .iload 4, 2), (44, .iaload, 1), (45, .isub, 1), (46, .i2l, 1), (47, .lmul, 1), (48, .lstore_n 2, 1), (49, .iinc 4 1, 3), (52, .goto (-47), 3), (55, .lload_n 2, 1), (56, .lreturn, 1)]
set_option maxRecDepth 100000 in
theorem hp_X4_habitWeight : pr_X4_habitWeight.all (fun x => decide (decode cX4_habitWeight x.1 = .ok x.2)) = true := by decide +kernel
noncomputable def f_X4_habitWeight_b47 (N : Nat) (k5 : yS → Nat → Int → Int → Int → Option (Int × yS)) (σ : yS) (x0 : Nat) (x1 : Int) (x4 : Int) (s0 : Int) (s1 : Int) : Option (Int × yS) :=
  k5 σ x0 x1 (ymuL s1 s0) (yad x4 1)
noncomputable def f_X4_habitWeight_b5 (N : Nat) : Nat → yS → Nat → Int → Int → Int → Option (Int × yS) := yfix (fun _ _ _ _ _ => none) (fun ih σ x0 x1 x2 x4 =>
    bif ycP .ge x4 (σ.1 x0 0) then
      some (x2, σ)
    else
      match f_X7_bit N σ x1 x4 with
      | none => none
      | some r1 => bif ycP .ne r1.1 1 then
          bif yin x4 7 then
            f_X4_habitWeight_b47 N ih r1.2 x0 x1 x4 (ysu 10 (r1.2.1 (x0 + 6) x4.toNat)) x2
          else none
        else
          bif yin x4 7 then
            f_X4_habitWeight_b47 N ih r1.2 x0 x1 x4 (r1.2.1 (x0 + 6) x4.toNat) x2
          else none)
theorem q_X4_habitWeight_b5 (N : Nat) (n : Nat) (σ : yS) (x0 : Nat) (x1 : Int) (x2 : Int) (x4 : Int) : f_X4_habitWeight_b5 N (n + 1) σ x0 x1 x2 x4 =
    (bif ycP .ge x4 (σ.1 x0 0) then
      some (x2, σ)
    else
      match f_X7_bit N σ x1 x4 with
      | none => none
      | some r1 => bif ycP .ne r1.1 1 then
          bif yin x4 7 then
            f_X4_habitWeight_b47 N (f_X4_habitWeight_b5 N n) r1.2 x0 x1 x4 (ysu 10 (r1.2.1 (x0 + 6) x4.toNat)) x2
          else none
        else
          bif yin x4 7 then
            f_X4_habitWeight_b47 N (f_X4_habitWeight_b5 N n) r1.2 x0 x1 x4 (r1.2.1 (x0 + 6) x4.toNat) x2
          else none) := rfl
noncomputable def f_X4_habitWeight (N : Nat) (σ : yS) (x0 : Nat) (x1 : Int) : Option (Int × yS) :=
  f_X4_habitWeight_b5 N N σ x0 x1 1 0
noncomputable def F_X4_habitWeight (N : Nat) : yF := fun as σ => match as with
  | [.inr (.inl 4, x0), .inl (.inl x1)] => (f_X4_habitWeight N σ x0 x1).map (fun r => (some (.inl (.inr r.1)), r.2))
  | _ => none
theorem e_X4_habitWeight {N : Nat} {σ : yS} {x0 : Nat} {x1 : Int} {r : Int × yS} (h : f_X4_habitWeight N σ x0 x1 = some r) : F_X4_habitWeight N [.inr (.inl 4, x0), .inl (.inl x1)] σ = some (some (.inl (.inr r.1)), r.2) := by
  show (f_X4_habitWeight N σ x0 x1).map (fun r => ((some (.inl (.inr r.1)), r.2) : yR)) = _
  rw [h]
  rfl
noncomputable def tb_X4_habitWeight (N : Nat) : yTb := ([(9, 4, 0, 0), (31, 4, 9, 3)], [], [], [], [(126, 2, F_X7_bit N)], [], [])
abbrev G_X4_habitWeight (N : Nat) (X : zXT) (sh : List yH) (l : Launch) (rm : Room) : yC → yR → Prop := yGoes X vwCl yct sh l rm cX4_habitWeight 5 wsX4_habitWeight RX4 (tb_X4_habitWeight N) pr_X4_habitWeight 3
set_option maxRecDepth 100000 in
set_option maxHeartbeats 4000000 in
theorem t_X4_habitWeight_b47 {N : Nat} {X : zXT} {sh : List yH} {l : Launch} {rm : Room} (k5 : yS → Nat → Int → Int → Int → Option (Int × yS)) (hk5 : ∀ (σ : yS) (x0 : Nat) (x1 : Int) (x2 : Int) (x4 : Int) (res : Int × yS), k5 σ x0 x1 x2 x4 = some res → G_X4_habitWeight N X sh l rm (5, [(0, .inr (.inl 4, x0)), (1, .inl (.inl x1)), (2, .inl (.inr x2)), (4, .inl (.inl x4))], [], σ) (some (.inl (.inr res.1)), res.2)) (σ : yS) (x0 : Nat) (x1 : Int) (x4 : Int) (s0 : Int) (s1 : Int) (res : Int × yS) (h : f_X4_habitWeight_b47 N k5 σ x0 x1 x4 s0 s1 = some res) : G_X4_habitWeight N X sh l rm (47, [(0, .inr (.inl 4, x0)), (1, .inl (.inl x1)), (4, .inl (.inl x4))], [.inl (.inr s0), .inl (.inr s1)], σ) (some (.inl (.inr res.1)), res.2) := by
  unfold f_X4_habitWeight_b47 at h
  refine yG_n (n := 4) (C' := (5, [(4, .inl (.inl (yad x4 1))), (2, .inl (.inr (ymuL s1 s0))), (0, .inr (.inl 4, x0)), (1, .inl (.inl x1))], [], σ)) rfl ?_
  exact yG_w [2, 3, 1, 0] rfl (hk5 σ x0 x1 (ymuL s1 s0) (yad x4 1) res h)
set_option maxRecDepth 100000 in
set_option maxHeartbeats 4000000 in
theorem t_X4_habitWeight_b5 {N : Nat} {X : zXT} {sh : List yH} {l : Launch} {rm : Room} : ∀ (n : Nat) (σ : yS) (x0 : Nat) (x1 : Int) (x2 : Int) (x4 : Int) (res : Int × yS), f_X4_habitWeight_b5 N n σ x0 x1 x2 x4 = some res → G_X4_habitWeight N X sh l rm (5, [(0, .inr (.inl 4, x0)), (1, .inl (.inl x1)), (2, .inl (.inr x2)), (4, .inl (.inl x4))], [], σ) (some (.inl (.inr res.1)), res.2) := by
  intro n
  induction n with
  | zero => intro σ x0 x1 x2 x4 res h; exact (yno h).elim
  | succ n ih =>
    intro σ x0 x1 x2 x4 res h
    rw [q_X4_habitWeight_b5] at h
    refine yG_n (n := 3) (C' := (11, [(0, .inr (.inl 4, x0)), (1, .inl (.inl x1)), (2, .inl (.inr x2)), (4, .inl (.inl x4))], [.inl (.inl (σ.1 x0 0)), .inl (.inl x4)], σ)) rfl ?_
    cases hg1 : ycP .ge x4 (σ.1 x0 0) with
    | true =>
      rw [hg1] at h
      dsimp only [cond] at h
      refine yG_t (C' := (55, [(0, .inr (.inl 4, x0)), (1, .inl (.inl x1)), (2, .inl (.inr x2)), (4, .inl (.inl x4))], [], σ)) rfl hg1 ?_
      refine yG_n (n := 1) (C' := (56, [(0, .inr (.inl 4, x0)), (1, .inl (.inl x1)), (2, .inl (.inr x2)), (4, .inl (.inl x4))], [.inl (.inr x2)], σ)) rfl ?_
      have h := Option.some.inj h
      subst h
      dsimp only
      exact yG_r rfl rfl
    | false =>
      rw [hg1] at h
      dsimp only [cond] at h
      refine yG_f (C' := (14, [(0, .inr (.inl 4, x0)), (1, .inl (.inl x1)), (2, .inl (.inr x2)), (4, .inl (.inl x4))], [], σ)) rfl hg1 ?_
      refine yG_n (n := 3) (C' := (18, [(0, .inr (.inl 4, x0)), (1, .inl (.inl x1)), (2, .inl (.inr x2)), (4, .inl (.inl x4))], [.inl (.inl x4), .inl (.inl x1), .inl (.inr x2)], σ)) rfl ?_
      cases hr2 : f_X7_bit N σ x1 x4 with
      | none => rw [hr2] at h; dsimp only at h; cases h
      | some r1 =>
        rw [hr2] at h
        dsimp only at h
        refine yG_c (C1 := (21, [(0, .inr (.inl 4, x0)), (1, .inl (.inl x1)), (2, .inl (.inr x2)), (4, .inl (.inl x4))], [.inl (.inl r1.1), .inl (.inr x2)], r1.2)) rfl (e_X7_bit hr2) rfl ?_
        refine yG_n (n := 1) (C' := (22, [(0, .inr (.inl 4, x0)), (1, .inl (.inl x1)), (2, .inl (.inr x2)), (4, .inl (.inl x4))], [.inl (.inl 1), .inl (.inl r1.1), .inl (.inr x2)], r1.2)) rfl ?_
        cases hg3 : ycP .ne r1.1 1 with
        | true =>
          rw [hg3] at h
          dsimp only [cond] at h
          refine yG_t (C' := (36, [(0, .inr (.inl 4, x0)), (1, .inl (.inl x1)), (2, .inl (.inr x2)), (4, .inl (.inl x4))], [.inl (.inr x2)], r1.2)) rfl hg3 ?_
          refine yG_n (n := 4) (C' := (44, [(0, .inr (.inl 4, x0)), (1, .inl (.inl x1)), (2, .inl (.inr x2)), (4, .inl (.inl x4))], [.inl (.inl x4), .inr (.inr (0, 7), x0 + 6), .inl (.inl 10), .inl (.inr x2)], r1.2)) rfl ?_
          cases hg4 : yin x4 7 with
          | false => rw [hg4] at h; dsimp only [cond] at h; cases h
          | true =>
            rw [hg4] at h
            dsimp only [cond] at h
            refine yG_t (C' := (45, [(0, .inr (.inl 4, x0)), (1, .inl (.inl x1)), (2, .inl (.inr x2)), (4, .inl (.inl x4))], [.inl (.inl (r1.2.1 (x0 + 6) x4.toNat)), .inl (.inl 10), .inl (.inr x2)], r1.2)) rfl hg4 ?_
            refine yG_n (n := 2) (C' := (47, [(0, .inr (.inl 4, x0)), (1, .inl (.inl x1)), (2, .inl (.inr x2)), (4, .inl (.inl x4))], [.inl (.inr (ysu 10 (r1.2.1 (x0 + 6) x4.toNat))), .inl (.inr x2)], r1.2)) rfl ?_
            exact yG_w [0, 1, 3] rfl (t_X4_habitWeight_b47 (f_X4_habitWeight_b5 N n) ih r1.2 x0 x1 x4 (ysu 10 (r1.2.1 (x0 + 6) x4.toNat)) x2 res h)
        | false =>
          rw [hg3] at h
          dsimp only [cond] at h
          refine yG_f (C' := (25, [(0, .inr (.inl 4, x0)), (1, .inl (.inl x1)), (2, .inl (.inr x2)), (4, .inl (.inl x4))], [.inl (.inr x2)], r1.2)) rfl hg3 ?_
          refine yG_n (n := 3) (C' := (31, [(0, .inr (.inl 4, x0)), (1, .inl (.inl x1)), (2, .inl (.inr x2)), (4, .inl (.inl x4))], [.inl (.inl x4), .inr (.inr (0, 7), x0 + 6), .inl (.inr x2)], r1.2)) rfl ?_
          cases hg5 : yin x4 7 with
          | false => rw [hg5] at h; dsimp only [cond] at h; cases h
          | true =>
            rw [hg5] at h
            dsimp only [cond] at h
            refine yG_t (C' := (32, [(0, .inr (.inl 4, x0)), (1, .inl (.inl x1)), (2, .inl (.inr x2)), (4, .inl (.inl x4))], [.inl (.inl (r1.2.1 (x0 + 6) x4.toNat)), .inl (.inr x2)], r1.2)) rfl hg5 ?_
            refine yG_n (n := 2) (C' := (47, [(0, .inr (.inl 4, x0)), (1, .inl (.inl x1)), (2, .inl (.inr x2)), (4, .inl (.inl x4))], [.inl (.inr (r1.2.1 (x0 + 6) x4.toNat)), .inl (.inr x2)], r1.2)) rfl ?_
            exact yG_w [0, 1, 3] rfl (t_X4_habitWeight_b47 (f_X4_habitWeight_b5 N n) ih r1.2 x0 x1 x4 (r1.2.1 (x0 + 6) x4.toNat) x2 res h)
set_option maxRecDepth 100000 in
set_option maxHeartbeats 4000000 in
theorem t_X4_habitWeight {N : Nat} {X : zXT} {sh : List yH} {l : Launch} {rm : Room} (σ : yS) (x0 : Nat) (x1 : Int) (res : Int × yS) (h : f_X4_habitWeight N σ x0 x1 = some res) : G_X4_habitWeight N X sh l rm (0, [(0, .inr (.inl 4, x0)), (1, .inl (.inl x1))], [], σ) (some (.inl (.inr res.1)), res.2) := by
  unfold f_X4_habitWeight at h
  refine yG_n (n := 4) (C' := (5, [(4, .inl (.inl 0)), (2, .inl (.inr 1)), (0, .inr (.inl 4, x0)), (1, .inl (.inl x1))], [], σ)) rfl ?_
  exact yG_w [2, 3, 1, 0] rfl (t_X4_habitWeight_b5 N σ x0 x1 1 0 res h)
set_option maxRecDepth 100000 in
set_option maxHeartbeats 4000000 in
theorem m_X4_habitWeight {N : Nat} {X : zXT} (hX : zXok X) (hN : zXn X) (l : Launch) {sh : List yH} : yMet X vwCl yct sh l yX4_habitWeight wsX4_habitWeight { frames := 2, cells := 0, slots := 0, locals := 85 } (F_X4_habitWeight N) :=
  ymeth (tb := tb_X4_habitWeight N) (pr := pr_X4_habitWeight) (rt := 3) (own := RX4) hX (by decide +kernel) rfl rfl ⟨Nat.le_of_ble_eq_true rfl, Nat.le_of_ble_eq_true rfl⟩
    (zfl_all (List.forall_mem_cons.mpr ⟨zfl_X4 (fun w h => List.mem_cons_of_mem _ (List.mem_append_right _ h)) (List.mem_of_getElem? (i := 1) rfl) (by decide) (by decide), List.forall_mem_cons.mpr ⟨zfl_X4 (fun w h => List.mem_cons_of_mem _ (List.mem_append_right _ h)) (List.mem_of_getElem? (i := 2) rfl) (by decide) (by decide), fun _ h => absurd h List.not_mem_nil⟩⟩))
    (zco_all (fun _ h => absurd h List.not_mem_nil)) (zlc_all (fun _ h => absurd h List.not_mem_nil))
    (fun _ h => absurd h List.not_mem_nil)
    (List.forall_mem_cons.mpr ⟨ycal_SN hX (m_X7_bit hX hN l) (fun A s args hts hx => ⟨va_cnB 2 hts ggX4_habitWeight_X7_bit rfl rfl rfl (hN A s s.heap hx RX4 126 yX7_bit RX7 (by decide +kernel)) (hts _ (List.mem_of_getElem? (i := 4) rfl)) (by decide +kernel) ⟨Nat.le_of_ble_eq_true rfl, Nat.le_of_ble_eq_true rfl⟩, hts _ (List.mem_of_getElem? (i := 3) rfl), trivial⟩), fun _ h => absurd h List.not_mem_nil⟩)
    (zmm_all (fun _ h => absurd h List.not_mem_nil)) (fun _ h => absurd h List.not_mem_nil) (zpr_all hp_X4_habitWeight) (fun as σ res h => by
      unfold F_X4_habitWeight at h
      split at h
      · rename_i x0 x1
        cases hr : f_X4_habitWeight N σ x0 x1 with
        | none => rw [hr] at h; cases h
        | some r =>
          rw [hr] at h
          cases h
          exact ⟨Nat.le_of_ble_eq_true rfl, t_X4_habitWeight σ x0 x1 r hr⟩
      · cases h)
noncomputable def pr_X4_habitFalls : List (Nat × Instr × Nat) := [(0, .aload_n 0, 1), (1, .getfield 31, 3), (4, .iload_n 1, 1), (5, .iaload, 1), (6, .ifCond .eq 25, 3), (9, .aload_n 0, 1), (10, .getfield 25, 3), (13, .iload_n 1, 1), (14, .iaload, 1), (15, .iconst 4, 1), (16, .if_icmp .eq 15, 3), (19, .aload_n 0, 1), (20, .getfield 65, 3), (23, .iload_n 2, 1), (24, .invokestatic 126, 3), (27, .iconst 1, 1), (28, .if_icmp .ne 5, 3), (31, .iconst 0, 1), (32, .ireturn, 1), (33, .iconst 0, 1), (34, .istore_n 3, 1), (35, .iconst 0, 1), (36, .istore 4, 2), (38, .iload 4, 2), (40, .aload_n 0, 1), (41, .getfield 25, 3), (44, .iload_n 1, 1), (45, .iaload, 1), (46, .invokestatic 108, 3), (49, .if_icmp .ge 37, 3), (52, .iload_n 3, 1), (53, .aload_n 0, 1), (54, .iload_n 1, 1), (55, .aload_n 0, 1), (56, .getfield 25, 3), (59, .iload_n 1, 1), (60, .iaload, 1), (61, .iload 4, 2), (63, .invokestatic 115, 3), (66, .invokevirtual 119, 3), (69, .iload_n 2, 1), (70, .if_icmp .ne 7, 3), (73, .iconst 1, 1), (74, .goto 4, 3), (77, .iconst 0, 1), (78, .iadd, 1), (79, .istore_n 3, 1), (80, .iinc 4 1, 3), (83, .goto (-45), 3), (86, .iload_n 3, 1), (87, .ireturn, 1)]
set_option maxRecDepth 100000 in
theorem hp_X4_habitFalls : pr_X4_habitFalls.all (fun x => decide (decode cX4_habitFalls x.1 = .ok x.2)) = true := by decide +kernel
noncomputable def f_X4_habitFalls_b31 (N : Nat) (σ : yS) : Option (Int × yS) :=
  some (0, σ)
noncomputable def f_X4_habitFalls_b78 (N : Nat) (k38 : yS → Nat → Int → Int → Int → Int → Option (Int × yS)) (σ : yS) (x0 : Nat) (x1 : Int) (x2 : Int) (x4 : Int) (s0 : Int) (s1 : Int) : Option (Int × yS) :=
  k38 σ x0 x1 x2 (yad s1 s0) (yad x4 1)
noncomputable def f_X4_habitFalls_b38 (N : Nat) : Nat → yS → Nat → Int → Int → Int → Int → Option (Int × yS) := yfix (fun _ _ _ _ _ _ => none) (fun ih σ x0 x1 x2 x3 x4 =>
    bif yin x1 7 then
      match f_X4_fallsOf N σ (σ.1 (x0 + 4) x1.toNat) with
      | none => none
      | some r2 => bif ycP .ge x4 r2.1 then
          some (x3, r2.2)
        else
          match f_X4_stepOf N r2.2 (r2.2.1 (x0 + 4) x1.toNat) x4 with
          | none => none
          | some r3 => match f_X4_whereFalls N r3.2 x0 x1 r3.1 with
            | none => none
            | some r4 => bif ycP .ne r4.1 x2 then
                f_X4_habitFalls_b78 N ih r4.2 x0 x1 x2 x4 0 x3
              else
                f_X4_habitFalls_b78 N ih r4.2 x0 x1 x2 x4 1 x3
    else none)
theorem q_X4_habitFalls_b38 (N : Nat) (n : Nat) (σ : yS) (x0 : Nat) (x1 : Int) (x2 : Int) (x3 : Int) (x4 : Int) : f_X4_habitFalls_b38 N (n + 1) σ x0 x1 x2 x3 x4 =
    (bif yin x1 7 then
      match f_X4_fallsOf N σ (σ.1 (x0 + 4) x1.toNat) with
      | none => none
      | some r2 => bif ycP .ge x4 r2.1 then
          some (x3, r2.2)
        else
          match f_X4_stepOf N r2.2 (r2.2.1 (x0 + 4) x1.toNat) x4 with
          | none => none
          | some r3 => match f_X4_whereFalls N r3.2 x0 x1 r3.1 with
            | none => none
            | some r4 => bif ycP .ne r4.1 x2 then
                f_X4_habitFalls_b78 N (f_X4_habitFalls_b38 N n) r4.2 x0 x1 x2 x4 0 x3
              else
                f_X4_habitFalls_b78 N (f_X4_habitFalls_b38 N n) r4.2 x0 x1 x2 x4 1 x3
    else none) := rfl
noncomputable def f_X4_habitFalls (N : Nat) (σ : yS) (x0 : Nat) (x1 : Int) (x2 : Int) : Option (Int × yS) :=
  bif yin x1 7 then
    bif ycP .eq (σ.1 (x0 + 6) x1.toNat) 0 then
      f_X4_habitFalls_b31 N σ
    else
      bif ycP .eq (σ.1 (x0 + 4) x1.toNat) 4 then
        f_X4_habitFalls_b31 N σ
      else
        match f_X7_bit N σ (σ.1 x0 6) x2 with
        | none => none
        | some r1 => bif ycP .ne r1.1 1 then
            f_X4_habitFalls_b38 N N r1.2 x0 x1 x2 0 0
          else
            f_X4_habitFalls_b31 N r1.2
  else none
noncomputable def F_X4_habitFalls (N : Nat) : yF := fun as σ => match as with
  | [.inr (.inl 4, x0), .inl (.inl x1), .inl (.inl x2)] => (f_X4_habitFalls N σ x0 x1 x2).map (fun r => (some (.inl (.inl r.1)), r.2))
  | _ => none
theorem e_X4_habitFalls {N : Nat} {σ : yS} {x0 : Nat} {x1 : Int} {x2 : Int} {r : Int × yS} (h : f_X4_habitFalls N σ x0 x1 x2 = some r) : F_X4_habitFalls N [.inr (.inl 4, x0), .inl (.inl x1), .inl (.inl x2)] σ = some (some (.inl (.inl r.1)), r.2) := by
  show (f_X4_habitFalls N σ x0 x1 x2).map (fun r => ((some (.inl (.inl r.1)), r.2) : yR)) = _
  rw [h]
  rfl
noncomputable def tb_X4_habitFalls (N : Nat) : yTb := ([(25, 4, 7, 3), (31, 4, 9, 3), (65, 4, 6, 0)], [], [], [(119, 3, 4, F_X4_whereFalls N)], [(108, 1, F_X4_fallsOf N), (115, 2, F_X4_stepOf N), (126, 2, F_X7_bit N)], [], [])
abbrev G_X4_habitFalls (N : Nat) (X : zXT) (sh : List yH) (l : Launch) (rm : Room) : yC → yR → Prop := yGoes X vwCl yct sh l rm cX4_habitFalls 5 wsX4_habitFalls RX4 (tb_X4_habitFalls N) pr_X4_habitFalls 1
set_option maxRecDepth 100000 in
set_option maxHeartbeats 4000000 in
theorem t_X4_habitFalls_b31 {N : Nat} {X : zXT} {sh : List yH} {l : Launch} {rm : Room} (σ : yS) (res : Int × yS) (h : f_X4_habitFalls_b31 N σ = some res) : G_X4_habitFalls N X sh l rm (31, [], [], σ) (some (.inl (.inl res.1)), res.2) := by
  unfold f_X4_habitFalls_b31 at h
  refine yG_n (n := 1) (C' := (32, [], [.inl (.inl 0)], σ)) rfl ?_
  have h := Option.some.inj h
  subst h
  dsimp only
  exact yG_r rfl rfl
set_option maxRecDepth 100000 in
set_option maxHeartbeats 4000000 in
theorem t_X4_habitFalls_b78 {N : Nat} {X : zXT} {sh : List yH} {l : Launch} {rm : Room} (k38 : yS → Nat → Int → Int → Int → Int → Option (Int × yS)) (hk38 : ∀ (σ : yS) (x0 : Nat) (x1 : Int) (x2 : Int) (x3 : Int) (x4 : Int) (res : Int × yS), k38 σ x0 x1 x2 x3 x4 = some res → G_X4_habitFalls N X sh l rm (38, [(0, .inr (.inl 4, x0)), (1, .inl (.inl x1)), (2, .inl (.inl x2)), (3, .inl (.inl x3)), (4, .inl (.inl x4))], [], σ) (some (.inl (.inl res.1)), res.2)) (σ : yS) (x0 : Nat) (x1 : Int) (x2 : Int) (x4 : Int) (s0 : Int) (s1 : Int) (res : Int × yS) (h : f_X4_habitFalls_b78 N k38 σ x0 x1 x2 x4 s0 s1 = some res) : G_X4_habitFalls N X sh l rm (78, [(0, .inr (.inl 4, x0)), (1, .inl (.inl x1)), (2, .inl (.inl x2)), (4, .inl (.inl x4))], [.inl (.inl s0), .inl (.inl s1)], σ) (some (.inl (.inl res.1)), res.2) := by
  unfold f_X4_habitFalls_b78 at h
  refine yG_n (n := 4) (C' := (38, [(4, .inl (.inl (yad x4 1))), (3, .inl (.inl (yad s1 s0))), (0, .inr (.inl 4, x0)), (1, .inl (.inl x1)), (2, .inl (.inl x2))], [], σ)) rfl ?_
  exact yG_w [2, 3, 4, 1, 0] rfl (hk38 σ x0 x1 x2 (yad s1 s0) (yad x4 1) res h)
set_option maxRecDepth 100000 in
set_option maxHeartbeats 4000000 in
theorem t_X4_habitFalls_b38 {N : Nat} {X : zXT} {sh : List yH} {l : Launch} {rm : Room} : ∀ (n : Nat) (σ : yS) (x0 : Nat) (x1 : Int) (x2 : Int) (x3 : Int) (x4 : Int) (res : Int × yS), f_X4_habitFalls_b38 N n σ x0 x1 x2 x3 x4 = some res → G_X4_habitFalls N X sh l rm (38, [(0, .inr (.inl 4, x0)), (1, .inl (.inl x1)), (2, .inl (.inl x2)), (3, .inl (.inl x3)), (4, .inl (.inl x4))], [], σ) (some (.inl (.inl res.1)), res.2) := by
  intro n
  induction n with
  | zero => intro σ x0 x1 x2 x3 x4 res h; exact (yno h).elim
  | succ n ih =>
    intro σ x0 x1 x2 x3 x4 res h
    rw [q_X4_habitFalls_b38] at h
    refine yG_n (n := 4) (C' := (45, [(0, .inr (.inl 4, x0)), (1, .inl (.inl x1)), (2, .inl (.inl x2)), (3, .inl (.inl x3)), (4, .inl (.inl x4))], [.inl (.inl x1), .inr (.inr (0, 7), x0 + 4), .inl (.inl x4)], σ)) rfl ?_
    cases hg1 : yin x1 7 with
    | false => rw [hg1] at h; dsimp only [cond] at h; cases h
    | true =>
      rw [hg1] at h
      dsimp only [cond] at h
      refine yG_t (C' := (46, [(0, .inr (.inl 4, x0)), (1, .inl (.inl x1)), (2, .inl (.inl x2)), (3, .inl (.inl x3)), (4, .inl (.inl x4))], [.inl (.inl (σ.1 (x0 + 4) x1.toNat)), .inl (.inl x4)], σ)) rfl hg1 ?_
      cases hr2 : f_X4_fallsOf N σ (σ.1 (x0 + 4) x1.toNat) with
      | none => rw [hr2] at h; dsimp only at h; cases h
      | some r2 =>
        rw [hr2] at h
        dsimp only at h
        refine yG_c (C1 := (49, [(0, .inr (.inl 4, x0)), (1, .inl (.inl x1)), (2, .inl (.inl x2)), (3, .inl (.inl x3)), (4, .inl (.inl x4))], [.inl (.inl r2.1), .inl (.inl x4)], r2.2)) rfl (e_X4_fallsOf hr2) rfl ?_
        cases hg3 : ycP .ge x4 r2.1 with
        | true =>
          rw [hg3] at h
          dsimp only [cond] at h
          refine yG_t (C' := (86, [(0, .inr (.inl 4, x0)), (1, .inl (.inl x1)), (2, .inl (.inl x2)), (3, .inl (.inl x3)), (4, .inl (.inl x4))], [], r2.2)) rfl hg3 ?_
          refine yG_n (n := 1) (C' := (87, [(0, .inr (.inl 4, x0)), (1, .inl (.inl x1)), (2, .inl (.inl x2)), (3, .inl (.inl x3)), (4, .inl (.inl x4))], [.inl (.inl x3)], r2.2)) rfl ?_
          have h := Option.some.inj h
          subst h
          dsimp only
          exact yG_r rfl rfl
        | false =>
          rw [hg3] at h
          dsimp only [cond] at h
          refine yG_f (C' := (52, [(0, .inr (.inl 4, x0)), (1, .inl (.inl x1)), (2, .inl (.inl x2)), (3, .inl (.inl x3)), (4, .inl (.inl x4))], [], r2.2)) rfl hg3 ?_
          refine yG_n (n := 6) (C' := (60, [(0, .inr (.inl 4, x0)), (1, .inl (.inl x1)), (2, .inl (.inl x2)), (3, .inl (.inl x3)), (4, .inl (.inl x4))], [.inl (.inl x1), .inr (.inr (0, 7), x0 + 4), .inl (.inl x1), .inr (.inl 4, x0), .inl (.inl x3)], r2.2)) rfl ?_
          refine yG_t (C' := (61, [(0, .inr (.inl 4, x0)), (1, .inl (.inl x1)), (2, .inl (.inl x2)), (3, .inl (.inl x3)), (4, .inl (.inl x4))], [.inl (.inl (r2.2.1 (x0 + 4) x1.toNat)), .inl (.inl x1), .inr (.inl 4, x0), .inl (.inl x3)], r2.2)) rfl hg1 ?_
          refine yG_n (n := 1) (C' := (63, [(0, .inr (.inl 4, x0)), (1, .inl (.inl x1)), (2, .inl (.inl x2)), (3, .inl (.inl x3)), (4, .inl (.inl x4))], [.inl (.inl x4), .inl (.inl (r2.2.1 (x0 + 4) x1.toNat)), .inl (.inl x1), .inr (.inl 4, x0), .inl (.inl x3)], r2.2)) rfl ?_
          cases hr4 : f_X4_stepOf N r2.2 (r2.2.1 (x0 + 4) x1.toNat) x4 with
          | none => rw [hr4] at h; dsimp only at h; cases h
          | some r3 =>
            rw [hr4] at h
            dsimp only at h
            refine yG_c (C1 := (66, [(0, .inr (.inl 4, x0)), (1, .inl (.inl x1)), (2, .inl (.inl x2)), (3, .inl (.inl x3)), (4, .inl (.inl x4))], [.inl (.inl r3.1), .inl (.inl x1), .inr (.inl 4, x0), .inl (.inl x3)], r3.2)) rfl (e_X4_stepOf hr4) rfl ?_
            cases hr5 : f_X4_whereFalls N r3.2 x0 x1 r3.1 with
            | none => rw [hr5] at h; dsimp only at h; cases h
            | some r4 =>
              rw [hr5] at h
              dsimp only at h
              refine yG_c (C1 := (69, [(0, .inr (.inl 4, x0)), (1, .inl (.inl x1)), (2, .inl (.inl x2)), (3, .inl (.inl x3)), (4, .inl (.inl x4))], [.inl (.inl r4.1), .inl (.inl x3)], r4.2)) rfl (e_X4_whereFalls hr5) rfl ?_
              refine yG_n (n := 1) (C' := (70, [(0, .inr (.inl 4, x0)), (1, .inl (.inl x1)), (2, .inl (.inl x2)), (3, .inl (.inl x3)), (4, .inl (.inl x4))], [.inl (.inl x2), .inl (.inl r4.1), .inl (.inl x3)], r4.2)) rfl ?_
              cases hg6 : ycP .ne r4.1 x2 with
              | true =>
                rw [hg6] at h
                dsimp only [cond] at h
                refine yG_t (C' := (77, [(0, .inr (.inl 4, x0)), (1, .inl (.inl x1)), (2, .inl (.inl x2)), (3, .inl (.inl x3)), (4, .inl (.inl x4))], [.inl (.inl x3)], r4.2)) rfl hg6 ?_
                refine yG_n (n := 1) (C' := (78, [(0, .inr (.inl 4, x0)), (1, .inl (.inl x1)), (2, .inl (.inl x2)), (3, .inl (.inl x3)), (4, .inl (.inl x4))], [.inl (.inl 0), .inl (.inl x3)], r4.2)) rfl ?_
                exact yG_w [0, 1, 2, 4] rfl (t_X4_habitFalls_b78 (f_X4_habitFalls_b38 N n) ih r4.2 x0 x1 x2 x4 0 x3 res h)
              | false =>
                rw [hg6] at h
                dsimp only [cond] at h
                refine yG_f (C' := (73, [(0, .inr (.inl 4, x0)), (1, .inl (.inl x1)), (2, .inl (.inl x2)), (3, .inl (.inl x3)), (4, .inl (.inl x4))], [.inl (.inl x3)], r4.2)) rfl hg6 ?_
                refine yG_n (n := 2) (C' := (78, [(0, .inr (.inl 4, x0)), (1, .inl (.inl x1)), (2, .inl (.inl x2)), (3, .inl (.inl x3)), (4, .inl (.inl x4))], [.inl (.inl 1), .inl (.inl x3)], r4.2)) rfl ?_
                exact yG_w [0, 1, 2, 4] rfl (t_X4_habitFalls_b78 (f_X4_habitFalls_b38 N n) ih r4.2 x0 x1 x2 x4 1 x3 res h)
set_option maxRecDepth 100000 in
set_option maxHeartbeats 4000000 in
theorem t_X4_habitFalls {N : Nat} {X : zXT} {sh : List yH} {l : Launch} {rm : Room} (σ : yS) (x0 : Nat) (x1 : Int) (x2 : Int) (res : Int × yS) (h : f_X4_habitFalls N σ x0 x1 x2 = some res) : G_X4_habitFalls N X sh l rm (0, [(0, .inr (.inl 4, x0)), (1, .inl (.inl x1)), (2, .inl (.inl x2))], [], σ) (some (.inl (.inl res.1)), res.2) := by
  unfold f_X4_habitFalls at h
  refine yG_n (n := 3) (C' := (5, [(0, .inr (.inl 4, x0)), (1, .inl (.inl x1)), (2, .inl (.inl x2))], [.inl (.inl x1), .inr (.inr (0, 7), x0 + 6)], σ)) rfl ?_
  cases hg7 : yin x1 7 with
  | false => rw [hg7] at h; dsimp only [cond] at h; cases h
  | true =>
    rw [hg7] at h
    dsimp only [cond] at h
    refine yG_t (C' := (6, [(0, .inr (.inl 4, x0)), (1, .inl (.inl x1)), (2, .inl (.inl x2))], [.inl (.inl (σ.1 (x0 + 6) x1.toNat))], σ)) rfl hg7 ?_
    cases hg8 : ycP .eq (σ.1 (x0 + 6) x1.toNat) 0 with
    | true =>
      rw [hg8] at h
      dsimp only [cond] at h
      refine yG_t (C' := (31, [(0, .inr (.inl 4, x0)), (1, .inl (.inl x1)), (2, .inl (.inl x2))], [], σ)) rfl hg8 ?_
      exact yG_w [] rfl (t_X4_habitFalls_b31 σ res h)
    | false =>
      rw [hg8] at h
      dsimp only [cond] at h
      refine yG_f (C' := (9, [(0, .inr (.inl 4, x0)), (1, .inl (.inl x1)), (2, .inl (.inl x2))], [], σ)) rfl hg8 ?_
      refine yG_n (n := 3) (C' := (14, [(0, .inr (.inl 4, x0)), (1, .inl (.inl x1)), (2, .inl (.inl x2))], [.inl (.inl x1), .inr (.inr (0, 7), x0 + 4)], σ)) rfl ?_
      refine yG_t (C' := (15, [(0, .inr (.inl 4, x0)), (1, .inl (.inl x1)), (2, .inl (.inl x2))], [.inl (.inl (σ.1 (x0 + 4) x1.toNat))], σ)) rfl hg7 ?_
      refine yG_n (n := 1) (C' := (16, [(0, .inr (.inl 4, x0)), (1, .inl (.inl x1)), (2, .inl (.inl x2))], [.inl (.inl 4), .inl (.inl (σ.1 (x0 + 4) x1.toNat))], σ)) rfl ?_
      cases hg9 : ycP .eq (σ.1 (x0 + 4) x1.toNat) 4 with
      | true =>
        rw [hg9] at h
        dsimp only [cond] at h
        refine yG_t (C' := (31, [(0, .inr (.inl 4, x0)), (1, .inl (.inl x1)), (2, .inl (.inl x2))], [], σ)) rfl hg9 ?_
        exact yG_w [] rfl (t_X4_habitFalls_b31 σ res h)
      | false =>
        rw [hg9] at h
        dsimp only [cond] at h
        refine yG_f (C' := (19, [(0, .inr (.inl 4, x0)), (1, .inl (.inl x1)), (2, .inl (.inl x2))], [], σ)) rfl hg9 ?_
        refine yG_n (n := 3) (C' := (24, [(0, .inr (.inl 4, x0)), (1, .inl (.inl x1)), (2, .inl (.inl x2))], [.inl (.inl x2), .inl (.inl (σ.1 x0 6))], σ)) rfl ?_
        cases hr10 : f_X7_bit N σ (σ.1 x0 6) x2 with
        | none => rw [hr10] at h; dsimp only at h; cases h
        | some r1 =>
          rw [hr10] at h
          dsimp only at h
          refine yG_c (C1 := (27, [(0, .inr (.inl 4, x0)), (1, .inl (.inl x1)), (2, .inl (.inl x2))], [.inl (.inl r1.1)], r1.2)) rfl (e_X7_bit hr10) rfl ?_
          refine yG_n (n := 1) (C' := (28, [(0, .inr (.inl 4, x0)), (1, .inl (.inl x1)), (2, .inl (.inl x2))], [.inl (.inl 1), .inl (.inl r1.1)], r1.2)) rfl ?_
          cases hg11 : ycP .ne r1.1 1 with
          | true =>
            rw [hg11] at h
            dsimp only [cond] at h
            refine yG_t (C' := (33, [(0, .inr (.inl 4, x0)), (1, .inl (.inl x1)), (2, .inl (.inl x2))], [], r1.2)) rfl hg11 ?_
            refine yG_n (n := 4) (C' := (38, [(4, .inl (.inl 0)), (3, .inl (.inl 0)), (0, .inr (.inl 4, x0)), (1, .inl (.inl x1)), (2, .inl (.inl x2))], [], r1.2)) rfl ?_
            exact yG_w [2, 3, 4, 1, 0] rfl (t_X4_habitFalls_b38 N r1.2 x0 x1 x2 0 0 res h)
          | false =>
            rw [hg11] at h
            dsimp only [cond] at h
            refine yG_f (C' := (31, [(0, .inr (.inl 4, x0)), (1, .inl (.inl x1)), (2, .inl (.inl x2))], [], r1.2)) rfl hg11 ?_
            exact yG_w [] rfl (t_X4_habitFalls_b31 r1.2 res h)
set_option maxRecDepth 100000 in
set_option maxHeartbeats 4000000 in
theorem m_X4_habitFalls {N : Nat} {X : zXT} (hX : zXok X) (hN : zXn X) (l : Launch) {sh : List yH} : yMet X vwCl yct sh l yX4_habitFalls wsX4_habitFalls { frames := 2, cells := 0, slots := 0, locals := 87 } (F_X4_habitFalls N) :=
  ymeth (tb := tb_X4_habitFalls N) (pr := pr_X4_habitFalls) (rt := 1) (own := RX4) hX (by decide +kernel) rfl rfl ⟨Nat.le_of_ble_eq_true rfl, Nat.le_of_ble_eq_true rfl⟩
    (zfl_all (List.forall_mem_cons.mpr ⟨zfl_X4 (fun w h => List.mem_cons_of_mem _ (List.mem_append_right _ h)) (List.mem_of_getElem? (i := 2) rfl) (by decide) (by decide), List.forall_mem_cons.mpr ⟨zfl_X4 (fun w h => List.mem_cons_of_mem _ (List.mem_append_right _ h)) (List.mem_of_getElem? (i := 1) rfl) (by decide) (by decide), List.forall_mem_cons.mpr ⟨zfl_X4 (fun w h => List.mem_cons_of_mem _ (List.mem_append_right _ h)) (List.mem_of_getElem? (i := 3) rfl) (by decide) (by decide), fun _ h => absurd h List.not_mem_nil⟩⟩⟩))
    (zco_all (fun _ h => absurd h List.not_mem_nil)) (zlc_all (fun _ h => absurd h List.not_mem_nil))
    (List.forall_mem_cons.mpr ⟨ycal_V hX (m_X4_whereFalls hX hN l) rfl (fun s args hts => cwV 2 hts gX4_habitFalls_X4_whereFalls rfl rfl rfl (by decide +kernel) ⟨Nat.le_of_ble_eq_true rfl, Nat.le_of_ble_eq_true rfl⟩), fun _ h => absurd h List.not_mem_nil⟩)
    (List.forall_mem_cons.mpr ⟨ycal_S hX (m_X4_fallsOf hX hN l) (fun s args hts => va_cwS 1 hts gX4_habitFalls_X4_fallsOf rfl rfl rfl (by decide +kernel) ⟨Nat.le_of_ble_eq_true rfl, Nat.le_of_ble_eq_true rfl⟩), List.forall_mem_cons.mpr ⟨ycal_S hX (m_X4_stepOf hX hN l) (fun s args hts => va_cwS 2 hts gX4_habitFalls_X4_stepOf rfl rfl rfl (by decide +kernel) ⟨Nat.le_of_ble_eq_true rfl, Nat.le_of_ble_eq_true rfl⟩), List.forall_mem_cons.mpr ⟨ycal_SN hX (m_X7_bit hX hN l) (fun A s args hts hx => ⟨va_cnB 2 hts ggX4_habitFalls_X7_bit rfl rfl rfl (hN A s s.heap hx RX4 126 yX7_bit RX7 (by decide +kernel)) (hts _ (List.mem_of_getElem? (i := 5) rfl)) (by decide +kernel) ⟨Nat.le_of_ble_eq_true rfl, Nat.le_of_ble_eq_true rfl⟩, hts _ (List.mem_of_getElem? (i := 4) rfl), trivial⟩), fun _ h => absurd h List.not_mem_nil⟩⟩⟩)
    (zmm_all (fun _ h => absurd h List.not_mem_nil)) (fun _ h => absurd h List.not_mem_nil) (zpr_all hp_X4_habitFalls) (fun as σ res h => by
      unfold F_X4_habitFalls at h
      split at h
      · rename_i x0 x1 x2
        cases hr : f_X4_habitFalls N σ x0 x1 x2 with
        | none => rw [hr] at h; cases h
        | some r =>
          rw [hr] at h
          cases h
          exact ⟨Nat.le_of_ble_eq_true rfl, t_X4_habitFalls σ x0 x1 x2 r hr⟩
      · cases h)
end
section
noncomputable def pr_X4_habitCost : List (Nat × Instr × Nat) := [(0, .aload_n 0, 1), (1, .iload_n 1, 1), (2, .iload_n 2, 1), (3, .invokevirtual 167, 3), (6, .aload_n 0, 1), (7, .getfield 15, 3), (10, .aload_n 0, 1), (11, .getfield 28, 3), (14, .iload_n 1, 1), (15, .iaload, 1), (16, .iaload, 1), (17, .imul, 1), (18, .ireturn, 1)]
set_option maxRecDepth 100000 in
theorem hp_X4_habitCost : pr_X4_habitCost.all (fun x => decide (decode cX4_habitCost x.1 = .ok x.2)) = true := by decide +kernel
noncomputable def f_X4_habitCost (N : Nat) (σ : yS) (x0 : Nat) (x1 : Int) (x2 : Int) : Option (Int × yS) :=
  match f_X4_habitFalls N σ x0 x1 x2 with
  | none => none
  | some r1 => bif yin x1 7 then
      bif yin (r1.2.1 (x0 + 5) x1.toNat) 5 then
        some (ymu r1.1 (r1.2.1 (x0 + 1) (r1.2.1 (x0 + 5) x1.toNat).toNat), r1.2)
      else none
    else none
noncomputable def F_X4_habitCost (N : Nat) : yF := fun as σ => match as with
  | [.inr (.inl 4, x0), .inl (.inl x1), .inl (.inl x2)] => (f_X4_habitCost N σ x0 x1 x2).map (fun r => (some (.inl (.inl r.1)), r.2))
  | _ => none
theorem e_X4_habitCost {N : Nat} {σ : yS} {x0 : Nat} {x1 : Int} {x2 : Int} {r : Int × yS} (h : f_X4_habitCost N σ x0 x1 x2 = some r) : F_X4_habitCost N [.inr (.inl 4, x0), .inl (.inl x1), .inl (.inl x2)] σ = some (some (.inl (.inl r.1)), r.2) := by
  show (f_X4_habitCost N σ x0 x1 x2).map (fun r => ((some (.inl (.inl r.1)), r.2) : yR)) = _
  rw [h]
  rfl
noncomputable def tb_X4_habitCost (N : Nat) : yTb := ([(15, 4, 3, 3), (28, 4, 8, 3)], [], [], [(167, 3, 4, F_X4_habitFalls N)], [], [], [])
abbrev G_X4_habitCost (N : Nat) (X : zXT) (sh : List yH) (l : Launch) (rm : Room) : yC → yR → Prop := yGoes X vwCl yct sh l rm cX4_habitCost 3 wsX4_habitCost RX4 (tb_X4_habitCost N) pr_X4_habitCost 1
set_option maxRecDepth 100000 in
set_option maxHeartbeats 4000000 in
theorem t_X4_habitCost {N : Nat} {X : zXT} {sh : List yH} {l : Launch} {rm : Room} (σ : yS) (x0 : Nat) (x1 : Int) (x2 : Int) (res : Int × yS) (h : f_X4_habitCost N σ x0 x1 x2 = some res) : G_X4_habitCost N X sh l rm (0, [(0, .inr (.inl 4, x0)), (1, .inl (.inl x1)), (2, .inl (.inl x2))], [], σ) (some (.inl (.inl res.1)), res.2) := by
  unfold f_X4_habitCost at h
  refine yG_n (n := 3) (C' := (3, [(0, .inr (.inl 4, x0)), (1, .inl (.inl x1)), (2, .inl (.inl x2))], [.inl (.inl x2), .inl (.inl x1), .inr (.inl 4, x0)], σ)) rfl ?_
  cases hr1 : f_X4_habitFalls N σ x0 x1 x2 with
  | none => rw [hr1] at h; dsimp only at h; cases h
  | some r1 =>
    rw [hr1] at h
    dsimp only at h
    refine yG_c (C1 := (6, [(0, .inr (.inl 4, x0)), (1, .inl (.inl x1)), (2, .inl (.inl x2))], [.inl (.inl r1.1)], r1.2)) rfl (e_X4_habitFalls hr1) rfl ?_
    refine yG_n (n := 5) (C' := (15, [(0, .inr (.inl 4, x0)), (1, .inl (.inl x1)), (2, .inl (.inl x2))], [.inl (.inl x1), .inr (.inr (0, 7), x0 + 5), .inr (.inr (0, 5), x0 + 1), .inl (.inl r1.1)], r1.2)) rfl ?_
    cases hg2 : yin x1 7 with
    | false => rw [hg2] at h; dsimp only [cond] at h; cases h
    | true =>
      rw [hg2] at h
      dsimp only [cond] at h
      refine yG_t (C' := (16, [(0, .inr (.inl 4, x0)), (1, .inl (.inl x1)), (2, .inl (.inl x2))], [.inl (.inl (r1.2.1 (x0 + 5) x1.toNat)), .inr (.inr (0, 5), x0 + 1), .inl (.inl r1.1)], r1.2)) rfl hg2 ?_
      cases hg3 : yin (r1.2.1 (x0 + 5) x1.toNat) 5 with
      | false => rw [hg3] at h; dsimp only [cond] at h; cases h
      | true =>
        rw [hg3] at h
        dsimp only [cond] at h
        refine yG_t (C' := (17, [(0, .inr (.inl 4, x0)), (1, .inl (.inl x1)), (2, .inl (.inl x2))], [.inl (.inl (r1.2.1 (x0 + 1) (r1.2.1 (x0 + 5) x1.toNat).toNat)), .inl (.inl r1.1)], r1.2)) rfl hg3 ?_
        refine yG_n (n := 1) (C' := (18, [(0, .inr (.inl 4, x0)), (1, .inl (.inl x1)), (2, .inl (.inl x2))], [.inl (.inl (ymu r1.1 (r1.2.1 (x0 + 1) (r1.2.1 (x0 + 5) x1.toNat).toNat)))], r1.2)) rfl ?_
        have h := Option.some.inj h
        subst h
        dsimp only
        exact yG_r rfl rfl
set_option maxRecDepth 100000 in
set_option maxHeartbeats 4000000 in
theorem m_X4_habitCost {N : Nat} {X : zXT} (hX : zXok X) (hN : zXn X) (l : Launch) {sh : List yH} : yMet X vwCl yct sh l yX4_habitCost wsX4_habitCost { frames := 3, cells := 0, slots := 0, locals := 111 } (F_X4_habitCost N) :=
  ymeth (tb := tb_X4_habitCost N) (pr := pr_X4_habitCost) (rt := 1) (own := RX4) hX (by decide +kernel) rfl rfl ⟨Nat.le_of_ble_eq_true rfl, Nat.le_of_ble_eq_true rfl⟩
    (zfl_all (List.forall_mem_cons.mpr ⟨zfl_X4 (fun w h => List.mem_cons_of_mem _ (List.mem_append_right _ h)) (List.mem_of_getElem? (i := 1) rfl) (by decide) (by decide), List.forall_mem_cons.mpr ⟨zfl_X4 (fun w h => List.mem_cons_of_mem _ (List.mem_append_right _ h)) (List.mem_of_getElem? (i := 2) rfl) (by decide) (by decide), fun _ h => absurd h List.not_mem_nil⟩⟩))
    (zco_all (fun _ h => absurd h List.not_mem_nil)) (zlc_all (fun _ h => absurd h List.not_mem_nil))
    (List.forall_mem_cons.mpr ⟨ycal_V hX (m_X4_habitFalls hX hN l) rfl (fun s args hts => cwV 2 hts gX4_habitCost_X4_habitFalls rfl rfl rfl (by decide +kernel) ⟨Nat.le_of_ble_eq_true rfl, Nat.le_of_ble_eq_true rfl⟩), fun _ h => absurd h List.not_mem_nil⟩)
    (fun _ h => absurd h List.not_mem_nil)
    (zmm_all (fun _ h => absurd h List.not_mem_nil)) (fun _ h => absurd h List.not_mem_nil) (zpr_all hp_X4_habitCost) (fun as σ res h => by
      unfold F_X4_habitCost at h
      split at h
      · rename_i x0 x1 x2
        cases hr : f_X4_habitCost N σ x0 x1 x2 with
        | none => rw [hr] at h; cases h
        | some r =>
          rw [hr] at h
          cases h
          exact ⟨Nat.le_of_ble_eq_true rfl, t_X4_habitCost σ x0 x1 x2 r hr⟩
      · cases h)
noncomputable def pr_X4_canPayHabits : List (Nat × Instr × Nat) := [(0, .iconst 0, 1), (1, .istore_n 3, 1), (2, .iconst 0, 1), (3, .istore 4, 2), (5, .iload 4, 2), (7, .aload_n 0, 1), (8, .getfield 9, 3), (11, .if_icmp .ge 60, 3), (14, .iload_n 1, 1), (15, .iload 4, 2), (17, .invokestatic 126, 3), (20, .iconst 1, 1), (21, .if_icmp .ne 44, 3), (24, .aload_n 0, 1), (25, .iload 4, 2), (27, .iload_n 2, 1), (28, .invokevirtual 167, 3), (31, .ifCond .le 34, 3), (34, .aload_n 0, 1), (35, .getfield 22, 3), (38, .iload_n 2, 1), (39, .iaload, 1), (40, .aload_n 0, 1), (41, .getfield 28, 3), (44, .iload 4, 2), (46, .iaload, 1), (47, .invokestatic 126, 3), (50, .ifCond .ne 5, 3), (53, .iconst 0, 1), (54, .ireturn, 1), (55, .iload_n 3, 1), (56, .aload_n 0, 1), (57, .iload 4, 2), (59, .iload_n 2, 1), (60, .invokevirtual 170, 3), (63, .iadd, 1), (64, .istore_n 3, 1), (65, .iinc 4 1, 3), (68, .goto (-63), 3), (71, .iload_n 3, 1), (72, .aload_n 0, 1), (73, .getfield 19, 3), (76, .iload_n 2, 1), (77, .iaload, 1), (78, .if_icmp .gt 7, 3), (81, .iconst 1, 1), (82, .goto 4, 3), (85, .iconst 0, 1), (86, .ireturn, 1)]
set_option maxRecDepth 100000 in
theorem hp_X4_canPayHabits : pr_X4_canPayHabits.all (fun x => decide (decode cX4_canPayHabits x.1 = .ok x.2)) = true := by decide +kernel
noncomputable def f_X4_canPayHabits_b86 (N : Nat) (σ : yS) (s0 : Int) : Option (Int × yS) :=
  bif yb1 s0 then some (s0, σ) else none
noncomputable def f_X4_canPayHabits_b65 (N : Nat) (k5 : yS → Nat → Int → Int → Int → Int → Option (Int × yS)) (σ : yS) (x0 : Nat) (x1 : Int) (x2 : Int) (x3 : Int) (x4 : Int) : Option (Int × yS) :=
  k5 σ x0 x1 x2 x3 (yad x4 1)
noncomputable def f_X4_canPayHabits_b5 (N : Nat) : Nat → yS → Nat → Int → Int → Int → Int → Option (Int × yS) := yfix (fun _ _ _ _ _ _ => none) (fun ih σ x0 x1 x2 x3 x4 =>
    bif ycP .ge x4 (σ.1 x0 0) then
      bif yin x2 7 then
        bif ycP .gt x3 (σ.1 (x0 + 2) x2.toNat) then
          f_X4_canPayHabits_b86 N σ 0
        else
          f_X4_canPayHabits_b86 N σ 1
      else none
    else
      match f_X7_bit N σ x1 x4 with
      | none => none
      | some r1 => bif ycP .ne r1.1 1 then
          f_X4_canPayHabits_b65 N ih r1.2 x0 x1 x2 x3 x4
        else
          match f_X4_habitFalls N r1.2 x0 x4 x2 with
          | none => none
          | some r2 => bif ycP .le r2.1 0 then
              f_X4_canPayHabits_b65 N ih r2.2 x0 x1 x2 x3 x4
            else
              bif yin x2 7 then
                bif yin x4 7 then
                  match f_X7_bit N r2.2 (r2.2.1 (x0 + 3) x2.toNat) (r2.2.1 (x0 + 5) x4.toNat) with
                  | none => none
                  | some r3 => bif ycP .ne r3.1 0 then
                      match f_X4_habitCost N r3.2 x0 x4 x2 with
                      | none => none
                      | some r4 => f_X4_canPayHabits_b65 N ih r4.2 x0 x1 x2 (yad x3 r4.1) x4
                    else
                      some (0, r3.2)
                else none
              else none)
theorem q_X4_canPayHabits_b5 (N : Nat) (n : Nat) (σ : yS) (x0 : Nat) (x1 : Int) (x2 : Int) (x3 : Int) (x4 : Int) : f_X4_canPayHabits_b5 N (n + 1) σ x0 x1 x2 x3 x4 =
    (bif ycP .ge x4 (σ.1 x0 0) then
      bif yin x2 7 then
        bif ycP .gt x3 (σ.1 (x0 + 2) x2.toNat) then
          f_X4_canPayHabits_b86 N σ 0
        else
          f_X4_canPayHabits_b86 N σ 1
      else none
    else
      match f_X7_bit N σ x1 x4 with
      | none => none
      | some r1 => bif ycP .ne r1.1 1 then
          f_X4_canPayHabits_b65 N (f_X4_canPayHabits_b5 N n) r1.2 x0 x1 x2 x3 x4
        else
          match f_X4_habitFalls N r1.2 x0 x4 x2 with
          | none => none
          | some r2 => bif ycP .le r2.1 0 then
              f_X4_canPayHabits_b65 N (f_X4_canPayHabits_b5 N n) r2.2 x0 x1 x2 x3 x4
            else
              bif yin x2 7 then
                bif yin x4 7 then
                  match f_X7_bit N r2.2 (r2.2.1 (x0 + 3) x2.toNat) (r2.2.1 (x0 + 5) x4.toNat) with
                  | none => none
                  | some r3 => bif ycP .ne r3.1 0 then
                      match f_X4_habitCost N r3.2 x0 x4 x2 with
                      | none => none
                      | some r4 => f_X4_canPayHabits_b65 N (f_X4_canPayHabits_b5 N n) r4.2 x0 x1 x2 (yad x3 r4.1) x4
                    else
                      some (0, r3.2)
                else none
              else none) := rfl
noncomputable def f_X4_canPayHabits (N : Nat) (σ : yS) (x0 : Nat) (x1 : Int) (x2 : Int) : Option (Int × yS) :=
  f_X4_canPayHabits_b5 N N σ x0 x1 x2 0 0
noncomputable def F_X4_canPayHabits (N : Nat) : yF := fun as σ => match as with
  | [.inr (.inl 4, x0), .inl (.inl x1), .inl (.inl x2)] => (f_X4_canPayHabits N σ x0 x1 x2).map (fun r => (some (.inl (.inl r.1)), r.2))
  | _ => none
theorem e_X4_canPayHabits {N : Nat} {σ : yS} {x0 : Nat} {x1 : Int} {x2 : Int} {r : Int × yS} (h : f_X4_canPayHabits N σ x0 x1 x2 = some r) : F_X4_canPayHabits N [.inr (.inl 4, x0), .inl (.inl x1), .inl (.inl x2)] σ = some (some (.inl (.inl r.1)), r.2) := by
  show (f_X4_canPayHabits N σ x0 x1 x2).map (fun r => ((some (.inl (.inl r.1)), r.2) : yR)) = _
  rw [h]
  rfl
noncomputable def tb_X4_canPayHabits (N : Nat) : yTb := ([(9, 4, 0, 0), (19, 4, 4, 3), (22, 4, 5, 3), (28, 4, 8, 3)], [], [], [(167, 3, 4, F_X4_habitFalls N), (170, 3, 4, F_X4_habitCost N)], [(126, 2, F_X7_bit N)], [], [])
abbrev G_X4_canPayHabits (N : Nat) (X : zXT) (sh : List yH) (l : Launch) (rm : Room) : yC → yR → Prop := yGoes X vwCl yct sh l rm cX4_canPayHabits 5 wsX4_canPayHabits RX4 (tb_X4_canPayHabits N) pr_X4_canPayHabits 2
set_option maxRecDepth 100000 in
set_option maxHeartbeats 4000000 in
theorem t_X4_canPayHabits_b86 {N : Nat} {X : zXT} {sh : List yH} {l : Launch} {rm : Room} (σ : yS) (s0 : Int) (res : Int × yS) (h : f_X4_canPayHabits_b86 N σ s0 = some res) : G_X4_canPayHabits N X sh l rm (86, [], [.inl (.inl s0)], σ) (some (.inl (.inl res.1)), res.2) := by
  unfold f_X4_canPayHabits_b86 at h
  cases hg1 : yb1 s0 with
  | false => rw [hg1] at h; dsimp only [cond] at h; cases h
  | true =>
    rw [hg1] at h
    dsimp only [cond] at h
    have h := Option.some.inj h
    subst h
    dsimp only
    exact yG_r rfl hg1
set_option maxRecDepth 100000 in
set_option maxHeartbeats 4000000 in
theorem t_X4_canPayHabits_b65 {N : Nat} {X : zXT} {sh : List yH} {l : Launch} {rm : Room} (k5 : yS → Nat → Int → Int → Int → Int → Option (Int × yS)) (hk5 : ∀ (σ : yS) (x0 : Nat) (x1 : Int) (x2 : Int) (x3 : Int) (x4 : Int) (res : Int × yS), k5 σ x0 x1 x2 x3 x4 = some res → G_X4_canPayHabits N X sh l rm (5, [(0, .inr (.inl 4, x0)), (1, .inl (.inl x1)), (2, .inl (.inl x2)), (3, .inl (.inl x3)), (4, .inl (.inl x4))], [], σ) (some (.inl (.inl res.1)), res.2)) (σ : yS) (x0 : Nat) (x1 : Int) (x2 : Int) (x3 : Int) (x4 : Int) (res : Int × yS) (h : f_X4_canPayHabits_b65 N k5 σ x0 x1 x2 x3 x4 = some res) : G_X4_canPayHabits N X sh l rm (65, [(0, .inr (.inl 4, x0)), (1, .inl (.inl x1)), (2, .inl (.inl x2)), (3, .inl (.inl x3)), (4, .inl (.inl x4))], [], σ) (some (.inl (.inl res.1)), res.2) := by
  unfold f_X4_canPayHabits_b65 at h
  refine yG_n (n := 2) (C' := (5, [(4, .inl (.inl (yad x4 1))), (0, .inr (.inl 4, x0)), (1, .inl (.inl x1)), (2, .inl (.inl x2)), (3, .inl (.inl x3))], [], σ)) rfl ?_
  exact yG_w [1, 2, 3, 4, 0] rfl (hk5 σ x0 x1 x2 x3 (yad x4 1) res h)
set_option maxRecDepth 100000 in
set_option maxHeartbeats 4000000 in
theorem t_X4_canPayHabits_b5 {N : Nat} {X : zXT} {sh : List yH} {l : Launch} {rm : Room} : ∀ (n : Nat) (σ : yS) (x0 : Nat) (x1 : Int) (x2 : Int) (x3 : Int) (x4 : Int) (res : Int × yS), f_X4_canPayHabits_b5 N n σ x0 x1 x2 x3 x4 = some res → G_X4_canPayHabits N X sh l rm (5, [(0, .inr (.inl 4, x0)), (1, .inl (.inl x1)), (2, .inl (.inl x2)), (3, .inl (.inl x3)), (4, .inl (.inl x4))], [], σ) (some (.inl (.inl res.1)), res.2) := by
  intro n
  induction n with
  | zero => intro σ x0 x1 x2 x3 x4 res h; exact (yno h).elim
  | succ n ih =>
    intro σ x0 x1 x2 x3 x4 res h
    rw [q_X4_canPayHabits_b5] at h
    refine yG_n (n := 3) (C' := (11, [(0, .inr (.inl 4, x0)), (1, .inl (.inl x1)), (2, .inl (.inl x2)), (3, .inl (.inl x3)), (4, .inl (.inl x4))], [.inl (.inl (σ.1 x0 0)), .inl (.inl x4)], σ)) rfl ?_
    cases hg2 : ycP .ge x4 (σ.1 x0 0) with
    | true =>
      rw [hg2] at h
      dsimp only [cond] at h
      refine yG_t (C' := (71, [(0, .inr (.inl 4, x0)), (1, .inl (.inl x1)), (2, .inl (.inl x2)), (3, .inl (.inl x3)), (4, .inl (.inl x4))], [], σ)) rfl hg2 ?_
      refine yG_n (n := 4) (C' := (77, [(0, .inr (.inl 4, x0)), (1, .inl (.inl x1)), (2, .inl (.inl x2)), (3, .inl (.inl x3)), (4, .inl (.inl x4))], [.inl (.inl x2), .inr (.inr (0, 7), x0 + 2), .inl (.inl x3)], σ)) rfl ?_
      cases hg3 : yin x2 7 with
      | false => rw [hg3] at h; dsimp only [cond] at h; cases h
      | true =>
        rw [hg3] at h
        dsimp only [cond] at h
        refine yG_t (C' := (78, [(0, .inr (.inl 4, x0)), (1, .inl (.inl x1)), (2, .inl (.inl x2)), (3, .inl (.inl x3)), (4, .inl (.inl x4))], [.inl (.inl (σ.1 (x0 + 2) x2.toNat)), .inl (.inl x3)], σ)) rfl hg3 ?_
        cases hg4 : ycP .gt x3 (σ.1 (x0 + 2) x2.toNat) with
        | true =>
          rw [hg4] at h
          dsimp only [cond] at h
          refine yG_t (C' := (85, [(0, .inr (.inl 4, x0)), (1, .inl (.inl x1)), (2, .inl (.inl x2)), (3, .inl (.inl x3)), (4, .inl (.inl x4))], [], σ)) rfl hg4 ?_
          refine yG_n (n := 1) (C' := (86, [(0, .inr (.inl 4, x0)), (1, .inl (.inl x1)), (2, .inl (.inl x2)), (3, .inl (.inl x3)), (4, .inl (.inl x4))], [.inl (.inl 0)], σ)) rfl ?_
          exact yG_w [] rfl (t_X4_canPayHabits_b86 σ 0 res h)
        | false =>
          rw [hg4] at h
          dsimp only [cond] at h
          refine yG_f (C' := (81, [(0, .inr (.inl 4, x0)), (1, .inl (.inl x1)), (2, .inl (.inl x2)), (3, .inl (.inl x3)), (4, .inl (.inl x4))], [], σ)) rfl hg4 ?_
          refine yG_n (n := 2) (C' := (86, [(0, .inr (.inl 4, x0)), (1, .inl (.inl x1)), (2, .inl (.inl x2)), (3, .inl (.inl x3)), (4, .inl (.inl x4))], [.inl (.inl 1)], σ)) rfl ?_
          exact yG_w [] rfl (t_X4_canPayHabits_b86 σ 1 res h)
    | false =>
      rw [hg2] at h
      dsimp only [cond] at h
      refine yG_f (C' := (14, [(0, .inr (.inl 4, x0)), (1, .inl (.inl x1)), (2, .inl (.inl x2)), (3, .inl (.inl x3)), (4, .inl (.inl x4))], [], σ)) rfl hg2 ?_
      refine yG_n (n := 2) (C' := (17, [(0, .inr (.inl 4, x0)), (1, .inl (.inl x1)), (2, .inl (.inl x2)), (3, .inl (.inl x3)), (4, .inl (.inl x4))], [.inl (.inl x4), .inl (.inl x1)], σ)) rfl ?_
      cases hr5 : f_X7_bit N σ x1 x4 with
      | none => rw [hr5] at h; dsimp only at h; cases h
      | some r1 =>
        rw [hr5] at h
        dsimp only at h
        refine yG_c (C1 := (20, [(0, .inr (.inl 4, x0)), (1, .inl (.inl x1)), (2, .inl (.inl x2)), (3, .inl (.inl x3)), (4, .inl (.inl x4))], [.inl (.inl r1.1)], r1.2)) rfl (e_X7_bit hr5) rfl ?_
        refine yG_n (n := 1) (C' := (21, [(0, .inr (.inl 4, x0)), (1, .inl (.inl x1)), (2, .inl (.inl x2)), (3, .inl (.inl x3)), (4, .inl (.inl x4))], [.inl (.inl 1), .inl (.inl r1.1)], r1.2)) rfl ?_
        cases hg6 : ycP .ne r1.1 1 with
        | true =>
          rw [hg6] at h
          dsimp only [cond] at h
          refine yG_t (C' := (65, [(0, .inr (.inl 4, x0)), (1, .inl (.inl x1)), (2, .inl (.inl x2)), (3, .inl (.inl x3)), (4, .inl (.inl x4))], [], r1.2)) rfl hg6 ?_
          exact t_X4_canPayHabits_b65 (f_X4_canPayHabits_b5 N n) ih r1.2 x0 x1 x2 x3 x4 res h
        | false =>
          rw [hg6] at h
          dsimp only [cond] at h
          refine yG_f (C' := (24, [(0, .inr (.inl 4, x0)), (1, .inl (.inl x1)), (2, .inl (.inl x2)), (3, .inl (.inl x3)), (4, .inl (.inl x4))], [], r1.2)) rfl hg6 ?_
          refine yG_n (n := 3) (C' := (28, [(0, .inr (.inl 4, x0)), (1, .inl (.inl x1)), (2, .inl (.inl x2)), (3, .inl (.inl x3)), (4, .inl (.inl x4))], [.inl (.inl x2), .inl (.inl x4), .inr (.inl 4, x0)], r1.2)) rfl ?_
          cases hr7 : f_X4_habitFalls N r1.2 x0 x4 x2 with
          | none => rw [hr7] at h; dsimp only at h; cases h
          | some r2 =>
            rw [hr7] at h
            dsimp only at h
            refine yG_c (C1 := (31, [(0, .inr (.inl 4, x0)), (1, .inl (.inl x1)), (2, .inl (.inl x2)), (3, .inl (.inl x3)), (4, .inl (.inl x4))], [.inl (.inl r2.1)], r2.2)) rfl (e_X4_habitFalls hr7) rfl ?_
            cases hg8 : ycP .le r2.1 0 with
            | true =>
              rw [hg8] at h
              dsimp only [cond] at h
              refine yG_t (C' := (65, [(0, .inr (.inl 4, x0)), (1, .inl (.inl x1)), (2, .inl (.inl x2)), (3, .inl (.inl x3)), (4, .inl (.inl x4))], [], r2.2)) rfl hg8 ?_
              exact t_X4_canPayHabits_b65 (f_X4_canPayHabits_b5 N n) ih r2.2 x0 x1 x2 x3 x4 res h
            | false =>
              rw [hg8] at h
              dsimp only [cond] at h
              refine yG_f (C' := (34, [(0, .inr (.inl 4, x0)), (1, .inl (.inl x1)), (2, .inl (.inl x2)), (3, .inl (.inl x3)), (4, .inl (.inl x4))], [], r2.2)) rfl hg8 ?_
              refine yG_n (n := 3) (C' := (39, [(0, .inr (.inl 4, x0)), (1, .inl (.inl x1)), (2, .inl (.inl x2)), (3, .inl (.inl x3)), (4, .inl (.inl x4))], [.inl (.inl x2), .inr (.inr (0, 7), x0 + 3)], r2.2)) rfl ?_
              cases hg9 : yin x2 7 with
              | false => rw [hg9] at h; dsimp only [cond] at h; cases h
              | true =>
                rw [hg9] at h
                dsimp only [cond] at h
                refine yG_t (C' := (40, [(0, .inr (.inl 4, x0)), (1, .inl (.inl x1)), (2, .inl (.inl x2)), (3, .inl (.inl x3)), (4, .inl (.inl x4))], [.inl (.inl (r2.2.1 (x0 + 3) x2.toNat))], r2.2)) rfl hg9 ?_
                refine yG_n (n := 3) (C' := (46, [(0, .inr (.inl 4, x0)), (1, .inl (.inl x1)), (2, .inl (.inl x2)), (3, .inl (.inl x3)), (4, .inl (.inl x4))], [.inl (.inl x4), .inr (.inr (0, 7), x0 + 5), .inl (.inl (r2.2.1 (x0 + 3) x2.toNat))], r2.2)) rfl ?_
                cases hg10 : yin x4 7 with
                | false => rw [hg10] at h; dsimp only [cond] at h; cases h
                | true =>
                  rw [hg10] at h
                  dsimp only [cond] at h
                  refine yG_t (C' := (47, [(0, .inr (.inl 4, x0)), (1, .inl (.inl x1)), (2, .inl (.inl x2)), (3, .inl (.inl x3)), (4, .inl (.inl x4))], [.inl (.inl (r2.2.1 (x0 + 5) x4.toNat)), .inl (.inl (r2.2.1 (x0 + 3) x2.toNat))], r2.2)) rfl hg10 ?_
                  cases hr11 : f_X7_bit N r2.2 (r2.2.1 (x0 + 3) x2.toNat) (r2.2.1 (x0 + 5) x4.toNat) with
                  | none => rw [hr11] at h; dsimp only at h; cases h
                  | some r3 =>
                    rw [hr11] at h
                    dsimp only at h
                    refine yG_c (C1 := (50, [(0, .inr (.inl 4, x0)), (1, .inl (.inl x1)), (2, .inl (.inl x2)), (3, .inl (.inl x3)), (4, .inl (.inl x4))], [.inl (.inl r3.1)], r3.2)) rfl (e_X7_bit hr11) rfl ?_
                    cases hg12 : ycP .ne r3.1 0 with
                    | true =>
                      rw [hg12] at h
                      dsimp only [cond] at h
                      refine yG_t (C' := (55, [(0, .inr (.inl 4, x0)), (1, .inl (.inl x1)), (2, .inl (.inl x2)), (3, .inl (.inl x3)), (4, .inl (.inl x4))], [], r3.2)) rfl hg12 ?_
                      refine yG_n (n := 4) (C' := (60, [(0, .inr (.inl 4, x0)), (1, .inl (.inl x1)), (2, .inl (.inl x2)), (3, .inl (.inl x3)), (4, .inl (.inl x4))], [.inl (.inl x2), .inl (.inl x4), .inr (.inl 4, x0), .inl (.inl x3)], r3.2)) rfl ?_
                      cases hr13 : f_X4_habitCost N r3.2 x0 x4 x2 with
                      | none => rw [hr13] at h; dsimp only at h; cases h
                      | some r4 =>
                        rw [hr13] at h
                        dsimp only at h
                        refine yG_c (C1 := (63, [(0, .inr (.inl 4, x0)), (1, .inl (.inl x1)), (2, .inl (.inl x2)), (3, .inl (.inl x3)), (4, .inl (.inl x4))], [.inl (.inl r4.1), .inl (.inl x3)], r4.2)) rfl (e_X4_habitCost hr13) rfl ?_
                        refine yG_n (n := 2) (C' := (65, [(3, .inl (.inl (yad x3 r4.1))), (0, .inr (.inl 4, x0)), (1, .inl (.inl x1)), (2, .inl (.inl x2)), (4, .inl (.inl x4))], [], r4.2)) rfl ?_
                        exact yG_w [1, 2, 3, 0, 4] rfl (t_X4_canPayHabits_b65 (f_X4_canPayHabits_b5 N n) ih r4.2 x0 x1 x2 (yad x3 r4.1) x4 res h)
                    | false =>
                      rw [hg12] at h
                      dsimp only [cond] at h
                      refine yG_f (C' := (53, [(0, .inr (.inl 4, x0)), (1, .inl (.inl x1)), (2, .inl (.inl x2)), (3, .inl (.inl x3)), (4, .inl (.inl x4))], [], r3.2)) rfl hg12 ?_
                      refine yG_n (n := 1) (C' := (54, [(0, .inr (.inl 4, x0)), (1, .inl (.inl x1)), (2, .inl (.inl x2)), (3, .inl (.inl x3)), (4, .inl (.inl x4))], [.inl (.inl 0)], r3.2)) rfl ?_
                      have h := Option.some.inj h
                      subst h
                      dsimp only
                      exact yG_r rfl rfl
set_option maxRecDepth 100000 in
set_option maxHeartbeats 4000000 in
theorem t_X4_canPayHabits {N : Nat} {X : zXT} {sh : List yH} {l : Launch} {rm : Room} (σ : yS) (x0 : Nat) (x1 : Int) (x2 : Int) (res : Int × yS) (h : f_X4_canPayHabits N σ x0 x1 x2 = some res) : G_X4_canPayHabits N X sh l rm (0, [(0, .inr (.inl 4, x0)), (1, .inl (.inl x1)), (2, .inl (.inl x2))], [], σ) (some (.inl (.inl res.1)), res.2) := by
  unfold f_X4_canPayHabits at h
  refine yG_n (n := 4) (C' := (5, [(4, .inl (.inl 0)), (3, .inl (.inl 0)), (0, .inr (.inl 4, x0)), (1, .inl (.inl x1)), (2, .inl (.inl x2))], [], σ)) rfl ?_
  exact yG_w [2, 3, 4, 1, 0] rfl (t_X4_canPayHabits_b5 N σ x0 x1 x2 0 0 res h)
set_option maxRecDepth 100000 in
set_option maxHeartbeats 4000000 in
theorem m_X4_canPayHabits {N : Nat} {X : zXT} (hX : zXok X) (hN : zXn X) (l : Launch) {sh : List yH} : yMet X vwCl yct sh l yX4_canPayHabits wsX4_canPayHabits { frames := 4, cells := 0, slots := 0, locals := 133 } (F_X4_canPayHabits N) :=
  ymeth (tb := tb_X4_canPayHabits N) (pr := pr_X4_canPayHabits) (rt := 2) (own := RX4) hX (by decide +kernel) rfl rfl ⟨Nat.le_of_ble_eq_true rfl, Nat.le_of_ble_eq_true rfl⟩
    (zfl_all (List.forall_mem_cons.mpr ⟨zfl_X4 (fun w h => List.mem_cons_of_mem _ (List.mem_append_right _ h)) (List.mem_of_getElem? (i := 1) rfl) (by decide) (by decide), List.forall_mem_cons.mpr ⟨zfl_X4 (fun w h => List.mem_cons_of_mem _ (List.mem_append_right _ h)) (List.mem_of_getElem? (i := 4) rfl) (by decide) (by decide), List.forall_mem_cons.mpr ⟨zfl_X4 (fun w h => List.mem_cons_of_mem _ (List.mem_append_right _ h)) (List.mem_of_getElem? (i := 2) rfl) (by decide) (by decide), List.forall_mem_cons.mpr ⟨zfl_X4 (fun w h => List.mem_cons_of_mem _ (List.mem_append_right _ h)) (List.mem_of_getElem? (i := 3) rfl) (by decide) (by decide), fun _ h => absurd h List.not_mem_nil⟩⟩⟩⟩))
    (zco_all (fun _ h => absurd h List.not_mem_nil)) (zlc_all (fun _ h => absurd h List.not_mem_nil))
    (List.forall_mem_cons.mpr ⟨ycal_V hX (m_X4_habitFalls hX hN l) rfl (fun s args hts => cwV 2 hts gX4_canPayHabits_X4_habitFalls rfl rfl rfl (by decide +kernel) ⟨Nat.le_of_ble_eq_true rfl, Nat.le_of_ble_eq_true rfl⟩), List.forall_mem_cons.mpr ⟨ycal_V hX (m_X4_habitCost hX hN l) rfl (fun s args hts => cwV 2 hts gX4_canPayHabits_X4_habitCost rfl rfl rfl (by decide +kernel) ⟨Nat.le_of_ble_eq_true rfl, Nat.le_of_ble_eq_true rfl⟩), fun _ h => absurd h List.not_mem_nil⟩⟩)
    (List.forall_mem_cons.mpr ⟨ycal_SN hX (m_X7_bit hX hN l) (fun A s args hts hx => ⟨va_cnB 2 hts ggX4_canPayHabits_X7_bit rfl rfl rfl (hN A s s.heap hx RX4 126 yX7_bit RX7 (by decide +kernel)) (hts _ (List.mem_of_getElem? (i := 6) rfl)) (by decide +kernel) ⟨Nat.le_of_ble_eq_true rfl, Nat.le_of_ble_eq_true rfl⟩, hts _ (List.mem_of_getElem? (i := 5) rfl), trivial⟩), fun _ h => absurd h List.not_mem_nil⟩)
    (zmm_all (fun _ h => absurd h List.not_mem_nil)) (fun _ h => absurd h List.not_mem_nil) (zpr_all hp_X4_canPayHabits) (fun as σ res h => by
      unfold F_X4_canPayHabits at h
      split at h
      · rename_i x0 x1 x2
        cases hr : f_X4_canPayHabits N σ x0 x1 x2 with
        | none => rw [hr] at h; cases h
        | some r =>
          rw [hr] at h
          cases h
          exact ⟨Nat.le_of_ble_eq_true rfl, t_X4_canPayHabits σ x0 x1 x2 r hr⟩
      · cases h)
noncomputable def pr_X7_partOfFraction : List (Nat × Instr × Nat) := [(0, .lload_n 0, 1), (1, .lstore 5, 2), (3, .lload_n 2, 1), (4, .lstore 7, 2), (6, .iconst 0, 1), (7, .istore 9, 2), (9, .iload 9, 2), (11, .bipush 100, 2), (13, .if_icmp .ge 31, 3), (16, .lload 7, 2), (18, .lconst 0, 1), (19, .lcmp, 1), (20, .ifCond .eq 24, 3), (23, .lload 5, 2), (25, .lload 7, 2), (27, .lrem, 1), (28, .lstore 10, 2), (30, .lload 7, 2), (32, .lstore 5, 2), (34, .lload 10, 2), (36, .lstore 7, 2), (38, .iinc 9 1, 3), (41, .goto (-32), 3), (44, .iload 4, 2), (46, .ifCond .ne 7, 3), (49, .lload_n 0, 1), (50, .goto 4, 3), (53, .lload_n 2, 1), (54, .lstore 9, 2), (56, .lload 5, 2), (58, .lconst 0, 1), (59, .lcmp, 1), (60, .ifCond .le 11, 3), (63, .lload 9, 2), (65, .lload 5, 2), (67, .ldiv, 1), (68, .goto 5, 3), (71, .lload 9, 2), (73, .lreturn, 1)]
set_option maxRecDepth 100000 in
theorem hp_X7_partOfFraction : pr_X7_partOfFraction.all (fun x => decide (decode cX7_partOfFraction x.1 = .ok x.2)) = true := by decide +kernel
noncomputable def f_X7_partOfFraction_b73 (N : Nat) (σ : yS) (s0 : Int) : Option (Int × yS) :=
  some (s0, σ)
noncomputable def f_X7_partOfFraction_b54 (N : Nat) (σ : yS) (x5 : Int) (s0 : Int) : Option (Int × yS) :=
  bif ycP .le x5 0 then
    f_X7_partOfFraction_b73 N σ s0
  else
    bif ynz x5 then
      f_X7_partOfFraction_b73 N σ (ydvL s0 x5)
    else none
noncomputable def f_X7_partOfFraction_b44 (N : Nat) (σ : yS) (x0 : Int) (x2 : Int) (x4 : Int) (x5 : Int) : Option (Int × yS) :=
  bif ycP .ne x4 0 then
    f_X7_partOfFraction_b54 N σ x5 x2
  else
    f_X7_partOfFraction_b54 N σ x5 x0
noncomputable def f_X7_partOfFraction_b9 (N : Nat) : Nat → yS → Int → Int → Int → Int → Int → Int → Option (Int × yS) := yfix (fun _ _ _ _ _ _ _ => none) (fun ih σ x0 x2 x4 x5 x7 x9 =>
    bif ycP .ge x9 100 then
      f_X7_partOfFraction_b44 N σ x0 x2 x4 x5
    else
      bif ycP .eq x7 0 then
        f_X7_partOfFraction_b44 N σ x0 x2 x4 x5
      else
        bif ynz x7 then
          ih σ x0 x2 x4 x7 (yrmL x5 x7) (yad x9 1)
        else none)
theorem q_X7_partOfFraction_b9 (N : Nat) (n : Nat) (σ : yS) (x0 : Int) (x2 : Int) (x4 : Int) (x5 : Int) (x7 : Int) (x9 : Int) : f_X7_partOfFraction_b9 N (n + 1) σ x0 x2 x4 x5 x7 x9 =
    (bif ycP .ge x9 100 then
      f_X7_partOfFraction_b44 N σ x0 x2 x4 x5
    else
      bif ycP .eq x7 0 then
        f_X7_partOfFraction_b44 N σ x0 x2 x4 x5
      else
        bif ynz x7 then
          (f_X7_partOfFraction_b9 N n) σ x0 x2 x4 x7 (yrmL x5 x7) (yad x9 1)
        else none) := rfl
noncomputable def f_X7_partOfFraction (N : Nat) (σ : yS) (x0 : Int) (x2 : Int) (x4 : Int) : Option (Int × yS) :=
  f_X7_partOfFraction_b9 N N σ x0 x2 x4 x0 x2 0
noncomputable def F_X7_partOfFraction (N : Nat) : yF := fun as σ => match as with
  | [.inl (.inr x0), .inl (.inr x2), .inl (.inl x4)] => (f_X7_partOfFraction N σ x0 x2 x4).map (fun r => (some (.inl (.inr r.1)), r.2))
  | _ => none
theorem e_X7_partOfFraction {N : Nat} {σ : yS} {x0 : Int} {x2 : Int} {x4 : Int} {r : Int × yS} (h : f_X7_partOfFraction N σ x0 x2 x4 = some r) : F_X7_partOfFraction N [.inl (.inr x0), .inl (.inr x2), .inl (.inl x4)] σ = some (some (.inl (.inr r.1)), r.2) := by
  show (f_X7_partOfFraction N σ x0 x2 x4).map (fun r => ((some (.inl (.inr r.1)), r.2) : yR)) = _
  rw [h]
  rfl
noncomputable def tb_X7_partOfFraction (N : Nat) : yTb := ([], [], [], [], [], [], [])
abbrev G_X7_partOfFraction (N : Nat) (X : zXT) (sh : List yH) (l : Launch) (rm : Room) : yC → yR → Prop := yGoes X vwCl yct sh l rm cX7_partOfFraction 12 wsX7_partOfFraction RX7 (tb_X7_partOfFraction N) pr_X7_partOfFraction 3
set_option maxRecDepth 100000 in
set_option maxHeartbeats 4000000 in
theorem t_X7_partOfFraction_b73 {N : Nat} {X : zXT} {sh : List yH} {l : Launch} {rm : Room} (σ : yS) (s0 : Int) (res : Int × yS) (h : f_X7_partOfFraction_b73 N σ s0 = some res) : G_X7_partOfFraction N X sh l rm (73, [], [.inl (.inr s0)], σ) (some (.inl (.inr res.1)), res.2) := by
  unfold f_X7_partOfFraction_b73 at h
  have h := Option.some.inj h
  subst h
  dsimp only
  exact yG_r rfl rfl
set_option maxRecDepth 100000 in
set_option maxHeartbeats 4000000 in
theorem t_X7_partOfFraction_b54 {N : Nat} {X : zXT} {sh : List yH} {l : Launch} {rm : Room} (σ : yS) (x5 : Int) (s0 : Int) (res : Int × yS) (h : f_X7_partOfFraction_b54 N σ x5 s0 = some res) : G_X7_partOfFraction N X sh l rm (54, [(5, .inl (.inr x5))], [.inl (.inr s0)], σ) (some (.inl (.inr res.1)), res.2) := by
  unfold f_X7_partOfFraction_b54 at h
  refine yG_n (n := 3) (C' := (59, [(9, .inl (.inr s0)), (5, .inl (.inr x5))], [.inl (.inr 0), .inl (.inr x5)], σ)) rfl ?_
  cases hg1 : ycP .le x5 0 with
  | true =>
    rw [hg1] at h
    dsimp only [cond] at h
    refine yG_t (C' := (71, [(9, .inl (.inr s0)), (5, .inl (.inr x5))], [], σ)) rfl hg1 ?_
    refine yG_n (n := 1) (C' := (73, [(9, .inl (.inr s0)), (5, .inl (.inr x5))], [.inl (.inr s0)], σ)) rfl ?_
    exact yG_w [] rfl (t_X7_partOfFraction_b73 σ s0 res h)
  | false =>
    rw [hg1] at h
    dsimp only [cond] at h
    refine yG_f (C' := (63, [(9, .inl (.inr s0)), (5, .inl (.inr x5))], [], σ)) rfl hg1 ?_
    refine yG_n (n := 2) (C' := (67, [(9, .inl (.inr s0)), (5, .inl (.inr x5))], [.inl (.inr x5), .inl (.inr s0)], σ)) rfl ?_
    cases hg2 : ynz x5 with
    | false => rw [hg2] at h; dsimp only [cond] at h; cases h
    | true =>
      rw [hg2] at h
      dsimp only [cond] at h
      refine yG_t (C' := (68, [(9, .inl (.inr s0)), (5, .inl (.inr x5))], [.inl (.inr (ydvL s0 x5))], σ)) rfl hg2 ?_
      refine yG_n (n := 1) (C' := (73, [(9, .inl (.inr s0)), (5, .inl (.inr x5))], [.inl (.inr (ydvL s0 x5))], σ)) rfl ?_
      exact yG_w [] rfl (t_X7_partOfFraction_b73 σ (ydvL s0 x5) res h)
set_option maxRecDepth 100000 in
set_option maxHeartbeats 4000000 in
theorem t_X7_partOfFraction_b44 {N : Nat} {X : zXT} {sh : List yH} {l : Launch} {rm : Room} (σ : yS) (x0 : Int) (x2 : Int) (x4 : Int) (x5 : Int) (res : Int × yS) (h : f_X7_partOfFraction_b44 N σ x0 x2 x4 x5 = some res) : G_X7_partOfFraction N X sh l rm (44, [(0, .inl (.inr x0)), (2, .inl (.inr x2)), (4, .inl (.inl x4)), (5, .inl (.inr x5))], [], σ) (some (.inl (.inr res.1)), res.2) := by
  unfold f_X7_partOfFraction_b44 at h
  refine yG_n (n := 1) (C' := (46, [(0, .inl (.inr x0)), (2, .inl (.inr x2)), (4, .inl (.inl x4)), (5, .inl (.inr x5))], [.inl (.inl x4)], σ)) rfl ?_
  cases hg3 : ycP .ne x4 0 with
  | true =>
    rw [hg3] at h
    dsimp only [cond] at h
    refine yG_t (C' := (53, [(0, .inl (.inr x0)), (2, .inl (.inr x2)), (4, .inl (.inl x4)), (5, .inl (.inr x5))], [], σ)) rfl hg3 ?_
    refine yG_n (n := 1) (C' := (54, [(0, .inl (.inr x0)), (2, .inl (.inr x2)), (4, .inl (.inl x4)), (5, .inl (.inr x5))], [.inl (.inr x2)], σ)) rfl ?_
    exact yG_w [3] rfl (t_X7_partOfFraction_b54 σ x5 x2 res h)
  | false =>
    rw [hg3] at h
    dsimp only [cond] at h
    refine yG_f (C' := (49, [(0, .inl (.inr x0)), (2, .inl (.inr x2)), (4, .inl (.inl x4)), (5, .inl (.inr x5))], [], σ)) rfl hg3 ?_
    refine yG_n (n := 2) (C' := (54, [(0, .inl (.inr x0)), (2, .inl (.inr x2)), (4, .inl (.inl x4)), (5, .inl (.inr x5))], [.inl (.inr x0)], σ)) rfl ?_
    exact yG_w [3] rfl (t_X7_partOfFraction_b54 σ x5 x0 res h)
set_option maxRecDepth 100000 in
set_option maxHeartbeats 4000000 in
theorem t_X7_partOfFraction_b9 {N : Nat} {X : zXT} {sh : List yH} {l : Launch} {rm : Room} : ∀ (n : Nat) (σ : yS) (x0 : Int) (x2 : Int) (x4 : Int) (x5 : Int) (x7 : Int) (x9 : Int) (res : Int × yS), f_X7_partOfFraction_b9 N n σ x0 x2 x4 x5 x7 x9 = some res → G_X7_partOfFraction N X sh l rm (9, [(0, .inl (.inr x0)), (2, .inl (.inr x2)), (4, .inl (.inl x4)), (5, .inl (.inr x5)), (7, .inl (.inr x7)), (9, .inl (.inl x9))], [], σ) (some (.inl (.inr res.1)), res.2) := by
  intro n
  induction n with
  | zero => intro σ x0 x2 x4 x5 x7 x9 res h; exact (yno h).elim
  | succ n ih =>
    intro σ x0 x2 x4 x5 x7 x9 res h
    rw [q_X7_partOfFraction_b9] at h
    refine yG_n (n := 2) (C' := (13, [(0, .inl (.inr x0)), (2, .inl (.inr x2)), (4, .inl (.inl x4)), (5, .inl (.inr x5)), (7, .inl (.inr x7)), (9, .inl (.inl x9))], [.inl (.inl 100), .inl (.inl x9)], σ)) rfl ?_
    cases hg4 : ycP .ge x9 100 with
    | true =>
      rw [hg4] at h
      dsimp only [cond] at h
      refine yG_t (C' := (44, [(0, .inl (.inr x0)), (2, .inl (.inr x2)), (4, .inl (.inl x4)), (5, .inl (.inr x5)), (7, .inl (.inr x7)), (9, .inl (.inl x9))], [], σ)) rfl hg4 ?_
      exact yG_w [0, 1, 2, 3] rfl (t_X7_partOfFraction_b44 σ x0 x2 x4 x5 res h)
    | false =>
      rw [hg4] at h
      dsimp only [cond] at h
      refine yG_f (C' := (16, [(0, .inl (.inr x0)), (2, .inl (.inr x2)), (4, .inl (.inl x4)), (5, .inl (.inr x5)), (7, .inl (.inr x7)), (9, .inl (.inl x9))], [], σ)) rfl hg4 ?_
      refine yG_n (n := 2) (C' := (19, [(0, .inl (.inr x0)), (2, .inl (.inr x2)), (4, .inl (.inl x4)), (5, .inl (.inr x5)), (7, .inl (.inr x7)), (9, .inl (.inl x9))], [.inl (.inr 0), .inl (.inr x7)], σ)) rfl ?_
      cases hg5 : ycP .eq x7 0 with
      | true =>
        rw [hg5] at h
        dsimp only [cond] at h
        refine yG_t (C' := (44, [(0, .inl (.inr x0)), (2, .inl (.inr x2)), (4, .inl (.inl x4)), (5, .inl (.inr x5)), (7, .inl (.inr x7)), (9, .inl (.inl x9))], [], σ)) rfl hg5 ?_
        exact yG_w [0, 1, 2, 3] rfl (t_X7_partOfFraction_b44 σ x0 x2 x4 x5 res h)
      | false =>
        rw [hg5] at h
        dsimp only [cond] at h
        refine yG_f (C' := (23, [(0, .inl (.inr x0)), (2, .inl (.inr x2)), (4, .inl (.inl x4)), (5, .inl (.inr x5)), (7, .inl (.inr x7)), (9, .inl (.inl x9))], [], σ)) rfl hg5 ?_
        refine yG_n (n := 2) (C' := (27, [(0, .inl (.inr x0)), (2, .inl (.inr x2)), (4, .inl (.inl x4)), (5, .inl (.inr x5)), (7, .inl (.inr x7)), (9, .inl (.inl x9))], [.inl (.inr x7), .inl (.inr x5)], σ)) rfl ?_
        cases hg6 : ynz x7 with
        | false => rw [hg6] at h; dsimp only [cond] at h; cases h
        | true =>
          rw [hg6] at h
          dsimp only [cond] at h
          refine yG_t (C' := (28, [(0, .inl (.inr x0)), (2, .inl (.inr x2)), (4, .inl (.inl x4)), (5, .inl (.inr x5)), (7, .inl (.inr x7)), (9, .inl (.inl x9))], [.inl (.inr (yrmL x5 x7))], σ)) rfl hg6 ?_
          refine yG_n (n := 7) (C' := (9, [(9, .inl (.inl (yad x9 1))), (7, .inl (.inr (yrmL x5 x7))), (5, .inl (.inr x7)), (10, .inl (.inr (yrmL x5 x7))), (0, .inl (.inr x0)), (2, .inl (.inr x2)), (4, .inl (.inl x4))], [], σ)) rfl ?_
          exact yG_w [4, 5, 6, 2, 1, 0] rfl (ih σ x0 x2 x4 x7 (yrmL x5 x7) (yad x9 1) res h)
set_option maxRecDepth 100000 in
set_option maxHeartbeats 4000000 in
theorem t_X7_partOfFraction {N : Nat} {X : zXT} {sh : List yH} {l : Launch} {rm : Room} (σ : yS) (x0 : Int) (x2 : Int) (x4 : Int) (res : Int × yS) (h : f_X7_partOfFraction N σ x0 x2 x4 = some res) : G_X7_partOfFraction N X sh l rm (0, [(0, .inl (.inr x0)), (2, .inl (.inr x2)), (4, .inl (.inl x4))], [], σ) (some (.inl (.inr res.1)), res.2) := by
  unfold f_X7_partOfFraction at h
  refine yG_n (n := 6) (C' := (9, [(9, .inl (.inl 0)), (7, .inl (.inr x2)), (5, .inl (.inr x0)), (0, .inl (.inr x0)), (2, .inl (.inr x2)), (4, .inl (.inl x4))], [], σ)) rfl ?_
  exact yG_w [3, 4, 5, 2, 1, 0] rfl (t_X7_partOfFraction_b9 N σ x0 x2 x4 x0 x2 0 res h)
set_option maxRecDepth 100000 in
set_option maxHeartbeats 4000000 in
theorem m_X7_partOfFraction {N : Nat} {X : zXT} (hX : zXok X) (hN : zXn X) (l : Launch) {sh : List yH} : yMet X vwCl yct sh l yX7_partOfFraction wsX7_partOfFraction { frames := 1, cells := 0, slots := 0, locals := 64 } (F_X7_partOfFraction N) :=
  ymeth (tb := tb_X7_partOfFraction N) (pr := pr_X7_partOfFraction) (rt := 3) (own := RX7) hX (by decide +kernel) rfl rfl ⟨Nat.le_of_ble_eq_true rfl, Nat.le_of_ble_eq_true rfl⟩
    (zfl_all (fun _ h => absurd h List.not_mem_nil))
    (zco_all (fun _ h => absurd h List.not_mem_nil)) (zlc_all (fun _ h => absurd h List.not_mem_nil))
    (fun _ h => absurd h List.not_mem_nil)
    (fun _ h => absurd h List.not_mem_nil)
    (zmm_all (fun _ h => absurd h List.not_mem_nil)) (fun _ h => absurd h List.not_mem_nil) (zpr_all hp_X7_partOfFraction) (fun as σ res h => by
      unfold F_X7_partOfFraction at h
      split at h
      · rename_i x0 x2 x4
        cases hr : f_X7_partOfFraction N σ x0 x2 x4 with
        | none => rw [hr] at h; cases h
        | some r =>
          rw [hr] at h
          cases h
          exact ⟨Nat.le_of_ble_eq_true rfl, t_X7_partOfFraction σ x0 x2 x4 r hr⟩
      · cases h)
noncomputable def pr_X7_luck : List (Nat × Instr × Nat) := [(0, .aload_n 0, 1), (1, .getfield 10, 3), (4, .iload_n 1, 1), (5, .invokevirtual 118, 3), (8, .ifCond .eq 12, 3), (11, .iload_n 2, 1), (12, .iconst 0, 1), (13, .iconst 1, 1), (14, .invokestatic 49, 3), (17, .ifCond .ne 7, 3), (20, .ldc2_w 231, 3), (23, .lreturn, 1), (24, .lconst 0, 1), (25, .lstore_n 3, 1), (26, .lconst 0, 1), (27, .lstore 5, 2), (29, .iconst 0, 1), (30, .istore 7, 2), (32, .iload 7, 2), (34, .iconst 1, 1), (35, .aload_n 0, 1), (36, .getfield 10, 3), (39, .getfield 82, 3), (42, .ishl, 1), (43, .if_icmp .ge 45, 3), (46, .aload_n 0, 1), (47, .getfield 10, 3), (50, .iload 7, 2), (52, .invokevirtual 242, 3), (55, .lstore 8, 2), (57, .lload 5, 2), (59, .lload 8, 2), (61, .ladd, 1), (62, .lstore 5, 2), (64, .aload_n 0, 1), (65, .getfield 10, 3), (68, .iload 7, 2), (70, .iload_n 1, 1), (71, .invokevirtual 246, 3), (74, .ifCond .eq 8, 3), (77, .lload_n 3, 1), (78, .lload 8, 2), (80, .ladd, 1), (81, .lstore_n 3, 1), (82, .iinc 7 1, 3), (85, .goto (-53), 3), (88, .lload_n 3, 1), (89, .lload 5, 2), (91, .iload_n 2, 1), (92, .invokestatic 238, 3), (95, .lreturn, 1)]
set_option maxRecDepth 100000 in
theorem hp_X7_luck : pr_X7_luck.all (fun x => decide (decode cX7_luck x.1 = .ok x.2)) = true := by decide +kernel
noncomputable def f_X7_luck_b20 (N : Nat) (σ : yS) : Option (Int × yS) :=
  some ((-1), σ)
noncomputable def f_X7_luck_b82 (N : Nat) (k32 : yS → Int → Int → Int → Int → Int → Option (Int × yS)) (σ : yS) (x1 : Int) (x2 : Int) (x3 : Int) (x5 : Int) (x7 : Int) : Option (Int × yS) :=
  k32 σ x1 x2 x3 x5 (yad x7 1)
noncomputable def f_X7_luck_b32 (N : Nat) : Nat → yS → Int → Int → Int → Int → Int → Option (Int × yS) := yfix (fun _ _ _ _ _ _ => none) (fun ih σ x1 x2 x3 x5 x7 =>
    bif ycP .ge x7 (ysl 1 (σ.1 17 0)) then
      match f_X7_partOfFraction N σ x3 x5 x2 with
      | none => none
      | some r3 => some (r3.1, r3.2)
    else
      match f_X4_habitWeight N σ 17 x7 with
      | none => none
      | some r4 => match f_X4_canPayHabits N r4.2 17 x7 x1 with
        | none => none
        | some r5 => bif ycP .eq r5.1 0 then
            f_X7_luck_b82 N ih r5.2 x1 x2 x3 (yadL x5 r4.1) x7
          else
            f_X7_luck_b82 N ih r5.2 x1 x2 (yadL x3 r4.1) (yadL x5 r4.1) x7)
theorem q_X7_luck_b32 (N : Nat) (n : Nat) (σ : yS) (x1 : Int) (x2 : Int) (x3 : Int) (x5 : Int) (x7 : Int) : f_X7_luck_b32 N (n + 1) σ x1 x2 x3 x5 x7 =
    (bif ycP .ge x7 (ysl 1 (σ.1 17 0)) then
      match f_X7_partOfFraction N σ x3 x5 x2 with
      | none => none
      | some r3 => some (r3.1, r3.2)
    else
      match f_X4_habitWeight N σ 17 x7 with
      | none => none
      | some r4 => match f_X4_canPayHabits N r4.2 17 x7 x1 with
        | none => none
        | some r5 => bif ycP .eq r5.1 0 then
            f_X7_luck_b82 N (f_X7_luck_b32 N n) r5.2 x1 x2 x3 (yadL x5 r4.1) x7
          else
            f_X7_luck_b82 N (f_X7_luck_b32 N n) r5.2 x1 x2 (yadL x3 r4.1) (yadL x5 r4.1) x7) := rfl
noncomputable def f_X7_luck (N : Nat) (σ : yS) (x1 : Int) (x2 : Int) : Option (Int × yS) :=
  match f_X4_isHouse N σ 17 x1 with
  | none => none
  | some r1 => bif ycP .eq r1.1 0 then
      f_X7_luck_b20 N r1.2
    else
      match f_X7_within N r1.2 x2 0 1 with
      | none => none
      | some r2 => bif ycP .ne r2.1 0 then
          f_X7_luck_b32 N N r2.2 x1 x2 0 0 0
        else
          f_X7_luck_b20 N r2.2
noncomputable def F_X7_luck (N : Nat) : yF := fun as σ => match as with
  | [.inr (.inl 7, 0), .inl (.inl x1), .inl (.inl x2)] => (f_X7_luck N σ x1 x2).map (fun r => (some (.inl (.inr r.1)), r.2))
  | _ => none
theorem e_X7_luck {N : Nat} {σ : yS} {x1 : Int} {x2 : Int} {r : Int × yS} (h : f_X7_luck N σ x1 x2 = some r) : F_X7_luck N [.inr (.inl 7, 0), .inl (.inl x1), .inl (.inl x2)] σ = some (some (.inl (.inr r.1)), r.2) := by
  show (f_X7_luck N σ x1 x2).map (fun r => ((some (.inl (.inr r.1)), r.2) : yR)) = _
  rw [h]
  rfl
noncomputable def tb_X7_luck (N : Nat) : yTb := ([(10, 7, 0, 3), (82, 4, 0, 0)], [], [(231, (-1))], [(118, 2, 4, F_X4_isHouse N), (242, 2, 4, F_X4_habitWeight N), (246, 3, 4, F_X4_canPayHabits N)], [(49, 3, F_X7_within N), (238, 3, F_X7_partOfFraction N)], [], [])
abbrev G_X7_luck (N : Nat) (X : zXT) (sh : List yH) (l : Launch) (rm : Room) : yC → yR → Prop := yGoes X vwCl yct sh l rm cX7_luck 10 wsX7_luck RX7 (tb_X7_luck N) pr_X7_luck 3
set_option maxRecDepth 100000 in
set_option maxHeartbeats 4000000 in
theorem t_X7_luck_b20 {N : Nat} {X : zXT} {sh : List yH} {l : Launch} {rm : Room} (σ : yS) (res : Int × yS) (h : f_X7_luck_b20 N σ = some res) : G_X7_luck N X sh l rm (20, [], [], σ) (some (.inl (.inr res.1)), res.2) := by
  unfold f_X7_luck_b20 at h
  refine yG_n (n := 1) (C' := (23, [], [.inl (.inr ((-1)))], σ)) rfl ?_
  have h := Option.some.inj h
  subst h
  dsimp only
  exact yG_r rfl rfl
set_option maxRecDepth 100000 in
set_option maxHeartbeats 4000000 in
theorem t_X7_luck_b82 {N : Nat} {X : zXT} {sh : List yH} {l : Launch} {rm : Room} (k32 : yS → Int → Int → Int → Int → Int → Option (Int × yS)) (hk32 : ∀ (σ : yS) (x1 : Int) (x2 : Int) (x3 : Int) (x5 : Int) (x7 : Int) (res : Int × yS), k32 σ x1 x2 x3 x5 x7 = some res → G_X7_luck N X sh l rm (32, [(0, .inr (.inl 7, 0)), (1, .inl (.inl x1)), (2, .inl (.inl x2)), (3, .inl (.inr x3)), (5, .inl (.inr x5)), (7, .inl (.inl x7))], [], σ) (some (.inl (.inr res.1)), res.2)) (σ : yS) (x1 : Int) (x2 : Int) (x3 : Int) (x5 : Int) (x7 : Int) (res : Int × yS) (h : f_X7_luck_b82 N k32 σ x1 x2 x3 x5 x7 = some res) : G_X7_luck N X sh l rm (82, [(0, .inr (.inl 7, 0)), (1, .inl (.inl x1)), (2, .inl (.inl x2)), (3, .inl (.inr x3)), (5, .inl (.inr x5)), (7, .inl (.inl x7))], [], σ) (some (.inl (.inr res.1)), res.2) := by
  unfold f_X7_luck_b82 at h
  refine yG_n (n := 2) (C' := (32, [(7, .inl (.inl (yad x7 1))), (0, .inr (.inl 7, 0)), (1, .inl (.inl x1)), (2, .inl (.inl x2)), (3, .inl (.inr x3)), (5, .inl (.inr x5))], [], σ)) rfl ?_
  exact yG_w [1, 2, 3, 4, 5, 0] rfl (hk32 σ x1 x2 x3 x5 (yad x7 1) res h)
set_option maxRecDepth 100000 in
set_option maxHeartbeats 4000000 in
theorem t_X7_luck_b32 {N : Nat} {X : zXT} {sh : List yH} {l : Launch} {rm : Room} : ∀ (n : Nat) (σ : yS) (x1 : Int) (x2 : Int) (x3 : Int) (x5 : Int) (x7 : Int) (res : Int × yS), f_X7_luck_b32 N n σ x1 x2 x3 x5 x7 = some res → G_X7_luck N X sh l rm (32, [(0, .inr (.inl 7, 0)), (1, .inl (.inl x1)), (2, .inl (.inl x2)), (3, .inl (.inr x3)), (5, .inl (.inr x5)), (7, .inl (.inl x7))], [], σ) (some (.inl (.inr res.1)), res.2) := by
  intro n
  induction n with
  | zero => intro σ x1 x2 x3 x5 x7 res h; exact (yno h).elim
  | succ n ih =>
    intro σ x1 x2 x3 x5 x7 res h
    rw [q_X7_luck_b32] at h
    refine yG_n (n := 6) (C' := (43, [(0, .inr (.inl 7, 0)), (1, .inl (.inl x1)), (2, .inl (.inl x2)), (3, .inl (.inr x3)), (5, .inl (.inr x5)), (7, .inl (.inl x7))], [.inl (.inl (ysl 1 (σ.1 17 0))), .inl (.inl x7)], σ)) rfl ?_
    cases hg1 : ycP .ge x7 (ysl 1 (σ.1 17 0)) with
    | true =>
      rw [hg1] at h
      dsimp only [cond] at h
      refine yG_t (C' := (88, [(0, .inr (.inl 7, 0)), (1, .inl (.inl x1)), (2, .inl (.inl x2)), (3, .inl (.inr x3)), (5, .inl (.inr x5)), (7, .inl (.inl x7))], [], σ)) rfl hg1 ?_
      refine yG_n (n := 3) (C' := (92, [(0, .inr (.inl 7, 0)), (1, .inl (.inl x1)), (2, .inl (.inl x2)), (3, .inl (.inr x3)), (5, .inl (.inr x5)), (7, .inl (.inl x7))], [.inl (.inl x2), .inl (.inr x5), .inl (.inr x3)], σ)) rfl ?_
      cases hr2 : f_X7_partOfFraction N σ x3 x5 x2 with
      | none => rw [hr2] at h; dsimp only at h; cases h
      | some r3 =>
        rw [hr2] at h
        dsimp only at h
        refine yG_c (C1 := (95, [(0, .inr (.inl 7, 0)), (1, .inl (.inl x1)), (2, .inl (.inl x2)), (3, .inl (.inr x3)), (5, .inl (.inr x5)), (7, .inl (.inl x7))], [.inl (.inr r3.1)], r3.2)) rfl (e_X7_partOfFraction hr2) rfl ?_
        have h := Option.some.inj h
        subst h
        dsimp only
        exact yG_r rfl rfl
    | false =>
      rw [hg1] at h
      dsimp only [cond] at h
      refine yG_f (C' := (46, [(0, .inr (.inl 7, 0)), (1, .inl (.inl x1)), (2, .inl (.inl x2)), (3, .inl (.inr x3)), (5, .inl (.inr x5)), (7, .inl (.inl x7))], [], σ)) rfl hg1 ?_
      refine yG_n (n := 3) (C' := (52, [(0, .inr (.inl 7, 0)), (1, .inl (.inl x1)), (2, .inl (.inl x2)), (3, .inl (.inr x3)), (5, .inl (.inr x5)), (7, .inl (.inl x7))], [.inl (.inl x7), .inr (.inl 4, 17)], σ)) rfl ?_
      cases hr3 : f_X4_habitWeight N σ 17 x7 with
      | none => rw [hr3] at h; dsimp only at h; cases h
      | some r4 =>
        rw [hr3] at h
        dsimp only at h
        refine yG_c (C1 := (55, [(0, .inr (.inl 7, 0)), (1, .inl (.inl x1)), (2, .inl (.inl x2)), (3, .inl (.inr x3)), (5, .inl (.inr x5)), (7, .inl (.inl x7))], [.inl (.inr r4.1)], r4.2)) rfl (e_X4_habitWeight hr3) rfl ?_
        refine yG_n (n := 9) (C' := (71, [(5, .inl (.inr (yadL x5 r4.1))), (8, .inl (.inr r4.1)), (0, .inr (.inl 7, 0)), (1, .inl (.inl x1)), (2, .inl (.inl x2)), (3, .inl (.inr x3)), (7, .inl (.inl x7))], [.inl (.inl x1), .inl (.inl x7), .inr (.inl 4, 17)], r4.2)) rfl ?_
        cases hr4 : f_X4_canPayHabits N r4.2 17 x7 x1 with
        | none => rw [hr4] at h; dsimp only at h; cases h
        | some r5 =>
          rw [hr4] at h
          dsimp only at h
          refine yG_c (C1 := (74, [(5, .inl (.inr (yadL x5 r4.1))), (8, .inl (.inr r4.1)), (0, .inr (.inl 7, 0)), (1, .inl (.inl x1)), (2, .inl (.inl x2)), (3, .inl (.inr x3)), (7, .inl (.inl x7))], [.inl (.inl r5.1)], r5.2)) rfl (e_X4_canPayHabits hr4) rfl ?_
          cases hg5 : ycP .eq r5.1 0 with
          | true =>
            rw [hg5] at h
            dsimp only [cond] at h
            refine yG_t (C' := (82, [(5, .inl (.inr (yadL x5 r4.1))), (8, .inl (.inr r4.1)), (0, .inr (.inl 7, 0)), (1, .inl (.inl x1)), (2, .inl (.inl x2)), (3, .inl (.inr x3)), (7, .inl (.inl x7))], [], r5.2)) rfl hg5 ?_
            exact yG_w [2, 3, 4, 5, 0, 6] rfl (t_X7_luck_b82 (f_X7_luck_b32 N n) ih r5.2 x1 x2 x3 (yadL x5 r4.1) x7 res h)
          | false =>
            rw [hg5] at h
            dsimp only [cond] at h
            refine yG_f (C' := (77, [(5, .inl (.inr (yadL x5 r4.1))), (8, .inl (.inr r4.1)), (0, .inr (.inl 7, 0)), (1, .inl (.inl x1)), (2, .inl (.inl x2)), (3, .inl (.inr x3)), (7, .inl (.inl x7))], [], r5.2)) rfl hg5 ?_
            refine yG_n (n := 4) (C' := (82, [(3, .inl (.inr (yadL x3 r4.1))), (5, .inl (.inr (yadL x5 r4.1))), (8, .inl (.inr r4.1)), (0, .inr (.inl 7, 0)), (1, .inl (.inl x1)), (2, .inl (.inl x2)), (7, .inl (.inl x7))], [], r5.2)) rfl ?_
            exact yG_w [3, 4, 5, 0, 1, 6] rfl (t_X7_luck_b82 (f_X7_luck_b32 N n) ih r5.2 x1 x2 (yadL x3 r4.1) (yadL x5 r4.1) x7 res h)
set_option maxRecDepth 100000 in
set_option maxHeartbeats 4000000 in
theorem t_X7_luck {N : Nat} {X : zXT} {sh : List yH} {l : Launch} {rm : Room} (σ : yS) (x1 : Int) (x2 : Int) (res : Int × yS) (h : f_X7_luck N σ x1 x2 = some res) : G_X7_luck N X sh l rm (0, [(0, .inr (.inl 7, 0)), (1, .inl (.inl x1)), (2, .inl (.inl x2))], [], σ) (some (.inl (.inr res.1)), res.2) := by
  unfold f_X7_luck at h
  refine yG_n (n := 3) (C' := (5, [(0, .inr (.inl 7, 0)), (1, .inl (.inl x1)), (2, .inl (.inl x2))], [.inl (.inl x1), .inr (.inl 4, 17)], σ)) rfl ?_
  cases hr6 : f_X4_isHouse N σ 17 x1 with
  | none => rw [hr6] at h; dsimp only at h; cases h
  | some r1 =>
    rw [hr6] at h
    dsimp only at h
    refine yG_c (C1 := (8, [(0, .inr (.inl 7, 0)), (1, .inl (.inl x1)), (2, .inl (.inl x2))], [.inl (.inl r1.1)], r1.2)) rfl (e_X4_isHouse hr6) rfl ?_
    cases hg7 : ycP .eq r1.1 0 with
    | true =>
      rw [hg7] at h
      dsimp only [cond] at h
      refine yG_t (C' := (20, [(0, .inr (.inl 7, 0)), (1, .inl (.inl x1)), (2, .inl (.inl x2))], [], r1.2)) rfl hg7 ?_
      exact yG_w [] rfl (t_X7_luck_b20 r1.2 res h)
    | false =>
      rw [hg7] at h
      dsimp only [cond] at h
      refine yG_f (C' := (11, [(0, .inr (.inl 7, 0)), (1, .inl (.inl x1)), (2, .inl (.inl x2))], [], r1.2)) rfl hg7 ?_
      refine yG_n (n := 3) (C' := (14, [(0, .inr (.inl 7, 0)), (1, .inl (.inl x1)), (2, .inl (.inl x2))], [.inl (.inl 1), .inl (.inl 0), .inl (.inl x2)], r1.2)) rfl ?_
      cases hr8 : f_X7_within N r1.2 x2 0 1 with
      | none => rw [hr8] at h; dsimp only at h; cases h
      | some r2 =>
        rw [hr8] at h
        dsimp only at h
        refine yG_c (C1 := (17, [(0, .inr (.inl 7, 0)), (1, .inl (.inl x1)), (2, .inl (.inl x2))], [.inl (.inl r2.1)], r2.2)) rfl (e_X7_within hr8) rfl ?_
        cases hg9 : ycP .ne r2.1 0 with
        | true =>
          rw [hg9] at h
          dsimp only [cond] at h
          refine yG_t (C' := (24, [(0, .inr (.inl 7, 0)), (1, .inl (.inl x1)), (2, .inl (.inl x2))], [], r2.2)) rfl hg9 ?_
          refine yG_n (n := 6) (C' := (32, [(7, .inl (.inl 0)), (5, .inl (.inr 0)), (3, .inl (.inr 0)), (0, .inr (.inl 7, 0)), (1, .inl (.inl x1)), (2, .inl (.inl x2))], [], r2.2)) rfl ?_
          exact yG_w [3, 4, 5, 2, 1, 0] rfl (t_X7_luck_b32 N r2.2 x1 x2 0 0 0 res h)
        | false =>
          rw [hg9] at h
          dsimp only [cond] at h
          refine yG_f (C' := (20, [(0, .inr (.inl 7, 0)), (1, .inl (.inl x1)), (2, .inl (.inl x2))], [], r2.2)) rfl hg9 ?_
          exact yG_w [] rfl (t_X7_luck_b20 r2.2 res h)
set_option maxRecDepth 100000 in
set_option maxHeartbeats 4000000 in
theorem m_X7_luck {N : Nat} {X : zXT} (hX : zXok X) (hN : zXn X) (l : Launch) {sh : List yH} : yMet X vwCl yct sh l yX7_luck wsX7_luck { frames := 5, cells := 0, slots := 0, locals := 157 } (F_X7_luck N) :=
  ymeth (tb := tb_X7_luck N) (pr := pr_X7_luck) (rt := 3) (own := RX7) hX (by decide +kernel) rfl rfl ⟨Nat.le_of_ble_eq_true rfl, Nat.le_of_ble_eq_true rfl⟩
    (zfl_all (List.forall_mem_cons.mpr ⟨zfl_X7 (fun w h => List.mem_cons_of_mem _ (List.mem_append_left _ (List.mem_append_right _ h))) (List.mem_of_getElem? (i := 1) rfl) (by decide) (by decide), List.forall_mem_cons.mpr ⟨zfl_X4 (fun w h => List.mem_cons_of_mem _ (List.mem_append_right _ h)) (List.mem_of_getElem? (i := 3) rfl) (by decide) (by decide), fun _ h => absurd h List.not_mem_nil⟩⟩))
    (zco_all (fun _ h => absurd h List.not_mem_nil)) (zlc_all (List.forall_mem_cons.mpr ⟨(List.mem_of_getElem? (i := 2) rfl), fun _ h => absurd h List.not_mem_nil⟩))
    (List.forall_mem_cons.mpr ⟨ycal_V hX (m_X4_isHouse hX hN l) rfl (fun s args hts => cwV 1 hts gX7_luck_X4_isHouse rfl rfl rfl (by decide +kernel) ⟨Nat.le_of_ble_eq_true rfl, Nat.le_of_ble_eq_true rfl⟩), List.forall_mem_cons.mpr ⟨ycal_V hX (m_X4_habitWeight hX hN l) rfl (fun s args hts => cwV 1 hts gX7_luck_X4_habitWeight rfl rfl rfl (by decide +kernel) ⟨Nat.le_of_ble_eq_true rfl, Nat.le_of_ble_eq_true rfl⟩), List.forall_mem_cons.mpr ⟨ycal_V hX (m_X4_canPayHabits hX hN l) rfl (fun s args hts => cwV 2 hts gX7_luck_X4_canPayHabits rfl rfl rfl (by decide +kernel) ⟨Nat.le_of_ble_eq_true rfl, Nat.le_of_ble_eq_true rfl⟩), fun _ h => absurd h List.not_mem_nil⟩⟩⟩)
    (List.forall_mem_cons.mpr ⟨ycal_S hX (m_X7_within hX hN l) (fun s args hts => va_cwS 3 hts gX7_luck_X7_within rfl rfl rfl (by decide +kernel) ⟨Nat.le_of_ble_eq_true rfl, Nat.le_of_ble_eq_true rfl⟩), List.forall_mem_cons.mpr ⟨ycal_S hX (m_X7_partOfFraction hX hN l) (fun s args hts => va_cwS 3 hts gX7_luck_X7_partOfFraction rfl rfl rfl (by decide +kernel) ⟨Nat.le_of_ble_eq_true rfl, Nat.le_of_ble_eq_true rfl⟩), fun _ h => absurd h List.not_mem_nil⟩⟩)
    (zmm_all (fun _ h => absurd h List.not_mem_nil)) (fun _ h => absurd h List.not_mem_nil) (zpr_all hp_X7_luck) (fun as σ res h => by
      unfold F_X7_luck at h
      split at h
      · rename_i x1 x2
        cases hr : f_X7_luck N σ x1 x2 with
        | none => rw [hr] at h; cases h
        | some r =>
          rw [hr] at h
          cases h
          exact ⟨Nat.le_of_ble_eq_true rfl, t_X7_luck σ x1 x2 r hr⟩
      · cases h)
noncomputable def pr_X7_mean : List (Nat × Instr × Nat) := [(0, .aload_n 0, 1), (1, .getfield 10, 3), (4, .iload_n 1, 1), (5, .invokevirtual 118, 3), (8, .ifCond .eq 12, 3), (11, .iload_n 2, 1), (12, .iconst 0, 1), (13, .iconst 1, 1), (14, .invokestatic 49, 3), (17, .ifCond .ne 7, 3), (20, .ldc2_w 231, 3), (23, .lreturn, 1), (24, .lconst 0, 1), (25, .lstore_n 3, 1), (26, .iconst 0, 1), (27, .istore 5, 2), (29, .iload 5, 2), (31, .aload_n 0, 1), (32, .getfield 10, 3), (35, .getfield 82, 3), (38, .if_icmp .ge 34, 3), (41, .lload_n 3, 1), (42, .aload_n 0, 1), (43, .getfield 10, 3), (46, .getfield 141, 3), (49, .iload 5, 2), (51, .iaload, 1), (52, .aload_n 0, 1), (53, .getfield 10, 3), (56, .iload 5, 2), (58, .iload_n 1, 1), (59, .invokevirtual 233, 3), (62, .imul, 1), (63, .i2l, 1), (64, .ladd, 1), (65, .lstore_n 3, 1), (66, .iinc 5 1, 3), (69, .goto (-40), 3), (72, .lload_n 3, 1), (73, .ldc2_w 236, 3), (76, .iload_n 2, 1), (77, .invokestatic 238, 3), (80, .lreturn, 1)]
set_option maxRecDepth 100000 in
theorem hp_X7_mean : pr_X7_mean.all (fun x => decide (decode cX7_mean x.1 = .ok x.2)) = true := by decide +kernel
noncomputable def f_X7_mean_b20 (N : Nat) (σ : yS) : Option (Int × yS) :=
  some ((-1), σ)
noncomputable def f_X7_mean_b29 (N : Nat) : Nat → yS → Int → Int → Int → Int → Option (Int × yS) := yfix (fun _ _ _ _ _ => none) (fun ih σ x1 x2 x3 x5 =>
    bif ycP .ge x5 (σ.1 17 0) then
      match f_X7_partOfFraction N σ x3 10 x2 with
      | none => none
      | some r3 => some (r3.1, r3.2)
    else
      bif yin x5 7 then
        match f_X4_habitCost N σ 17 x5 x1 with
        | none => none
        | some r4 => ih r4.2 x1 x2 (yadL x3 (ymu (σ.1 23 x5.toNat) r4.1)) (yad x5 1)
      else none)
theorem q_X7_mean_b29 (N : Nat) (n : Nat) (σ : yS) (x1 : Int) (x2 : Int) (x3 : Int) (x5 : Int) : f_X7_mean_b29 N (n + 1) σ x1 x2 x3 x5 =
    (bif ycP .ge x5 (σ.1 17 0) then
      match f_X7_partOfFraction N σ x3 10 x2 with
      | none => none
      | some r3 => some (r3.1, r3.2)
    else
      bif yin x5 7 then
        match f_X4_habitCost N σ 17 x5 x1 with
        | none => none
        | some r4 => (f_X7_mean_b29 N n) r4.2 x1 x2 (yadL x3 (ymu (σ.1 23 x5.toNat) r4.1)) (yad x5 1)
      else none) := rfl
noncomputable def f_X7_mean (N : Nat) (σ : yS) (x1 : Int) (x2 : Int) : Option (Int × yS) :=
  match f_X4_isHouse N σ 17 x1 with
  | none => none
  | some r1 => bif ycP .eq r1.1 0 then
      f_X7_mean_b20 N r1.2
    else
      match f_X7_within N r1.2 x2 0 1 with
      | none => none
      | some r2 => bif ycP .ne r2.1 0 then
          f_X7_mean_b29 N N r2.2 x1 x2 0 0
        else
          f_X7_mean_b20 N r2.2
noncomputable def F_X7_mean (N : Nat) : yF := fun as σ => match as with
  | [.inr (.inl 7, 0), .inl (.inl x1), .inl (.inl x2)] => (f_X7_mean N σ x1 x2).map (fun r => (some (.inl (.inr r.1)), r.2))
  | _ => none
theorem e_X7_mean {N : Nat} {σ : yS} {x1 : Int} {x2 : Int} {r : Int × yS} (h : f_X7_mean N σ x1 x2 = some r) : F_X7_mean N [.inr (.inl 7, 0), .inl (.inl x1), .inl (.inl x2)] σ = some (some (.inl (.inr r.1)), r.2) := by
  show (f_X7_mean N σ x1 x2).map (fun r => ((some (.inl (.inr r.1)), r.2) : yR)) = _
  rw [h]
  rfl
noncomputable def tb_X7_mean (N : Nat) : yTb := ([(10, 7, 0, 3), (82, 4, 0, 0), (141, 4, 9, 3)], [], [(231, (-1)), (236, 10)], [(118, 2, 4, F_X4_isHouse N), (233, 3, 4, F_X4_habitCost N)], [(49, 3, F_X7_within N), (238, 3, F_X7_partOfFraction N)], [], [])
abbrev G_X7_mean (N : Nat) (X : zXT) (sh : List yH) (l : Launch) (rm : Room) : yC → yR → Prop := yGoes X vwCl yct sh l rm cX7_mean 6 wsX7_mean RX7 (tb_X7_mean N) pr_X7_mean 3
set_option maxRecDepth 100000 in
set_option maxHeartbeats 4000000 in
theorem t_X7_mean_b20 {N : Nat} {X : zXT} {sh : List yH} {l : Launch} {rm : Room} (σ : yS) (res : Int × yS) (h : f_X7_mean_b20 N σ = some res) : G_X7_mean N X sh l rm (20, [], [], σ) (some (.inl (.inr res.1)), res.2) := by
  unfold f_X7_mean_b20 at h
  refine yG_n (n := 1) (C' := (23, [], [.inl (.inr ((-1)))], σ)) rfl ?_
  have h := Option.some.inj h
  subst h
  dsimp only
  exact yG_r rfl rfl
set_option maxRecDepth 100000 in
set_option maxHeartbeats 4000000 in
theorem t_X7_mean_b29 {N : Nat} {X : zXT} {sh : List yH} {l : Launch} {rm : Room} : ∀ (n : Nat) (σ : yS) (x1 : Int) (x2 : Int) (x3 : Int) (x5 : Int) (res : Int × yS), f_X7_mean_b29 N n σ x1 x2 x3 x5 = some res → G_X7_mean N X sh l rm (29, [(0, .inr (.inl 7, 0)), (1, .inl (.inl x1)), (2, .inl (.inl x2)), (3, .inl (.inr x3)), (5, .inl (.inl x5))], [], σ) (some (.inl (.inr res.1)), res.2) := by
  intro n
  induction n with
  | zero => intro σ x1 x2 x3 x5 res h; exact (yno h).elim
  | succ n ih =>
    intro σ x1 x2 x3 x5 res h
    rw [q_X7_mean_b29] at h
    refine yG_n (n := 4) (C' := (38, [(0, .inr (.inl 7, 0)), (1, .inl (.inl x1)), (2, .inl (.inl x2)), (3, .inl (.inr x3)), (5, .inl (.inl x5))], [.inl (.inl (σ.1 17 0)), .inl (.inl x5)], σ)) rfl ?_
    cases hg1 : ycP .ge x5 (σ.1 17 0) with
    | true =>
      rw [hg1] at h
      dsimp only [cond] at h
      refine yG_t (C' := (72, [(0, .inr (.inl 7, 0)), (1, .inl (.inl x1)), (2, .inl (.inl x2)), (3, .inl (.inr x3)), (5, .inl (.inl x5))], [], σ)) rfl hg1 ?_
      refine yG_n (n := 3) (C' := (77, [(0, .inr (.inl 7, 0)), (1, .inl (.inl x1)), (2, .inl (.inl x2)), (3, .inl (.inr x3)), (5, .inl (.inl x5))], [.inl (.inl x2), .inl (.inr 10), .inl (.inr x3)], σ)) rfl ?_
      cases hr2 : f_X7_partOfFraction N σ x3 10 x2 with
      | none => rw [hr2] at h; dsimp only at h; cases h
      | some r3 =>
        rw [hr2] at h
        dsimp only at h
        refine yG_c (C1 := (80, [(0, .inr (.inl 7, 0)), (1, .inl (.inl x1)), (2, .inl (.inl x2)), (3, .inl (.inr x3)), (5, .inl (.inl x5))], [.inl (.inr r3.1)], r3.2)) rfl (e_X7_partOfFraction hr2) rfl ?_
        have h := Option.some.inj h
        subst h
        dsimp only
        exact yG_r rfl rfl
    | false =>
      rw [hg1] at h
      dsimp only [cond] at h
      refine yG_f (C' := (41, [(0, .inr (.inl 7, 0)), (1, .inl (.inl x1)), (2, .inl (.inl x2)), (3, .inl (.inr x3)), (5, .inl (.inl x5))], [], σ)) rfl hg1 ?_
      refine yG_n (n := 5) (C' := (51, [(0, .inr (.inl 7, 0)), (1, .inl (.inl x1)), (2, .inl (.inl x2)), (3, .inl (.inr x3)), (5, .inl (.inl x5))], [.inl (.inl x5), .inr (.inr (0, 7), 23), .inl (.inr x3)], σ)) rfl ?_
      cases hg3 : yin x5 7 with
      | false => rw [hg3] at h; dsimp only [cond] at h; cases h
      | true =>
        rw [hg3] at h
        dsimp only [cond] at h
        refine yG_t (C' := (52, [(0, .inr (.inl 7, 0)), (1, .inl (.inl x1)), (2, .inl (.inl x2)), (3, .inl (.inr x3)), (5, .inl (.inl x5))], [.inl (.inl (σ.1 23 x5.toNat)), .inl (.inr x3)], σ)) rfl hg3 ?_
        refine yG_n (n := 4) (C' := (59, [(0, .inr (.inl 7, 0)), (1, .inl (.inl x1)), (2, .inl (.inl x2)), (3, .inl (.inr x3)), (5, .inl (.inl x5))], [.inl (.inl x1), .inl (.inl x5), .inr (.inl 4, 17), .inl (.inl (σ.1 23 x5.toNat)), .inl (.inr x3)], σ)) rfl ?_
        cases hr4 : f_X4_habitCost N σ 17 x5 x1 with
        | none => rw [hr4] at h; dsimp only at h; cases h
        | some r4 =>
          rw [hr4] at h
          dsimp only at h
          refine yG_c (C1 := (62, [(0, .inr (.inl 7, 0)), (1, .inl (.inl x1)), (2, .inl (.inl x2)), (3, .inl (.inr x3)), (5, .inl (.inl x5))], [.inl (.inl r4.1), .inl (.inl (σ.1 23 x5.toNat)), .inl (.inr x3)], r4.2)) rfl (e_X4_habitCost hr4) rfl ?_
          refine yG_n (n := 6) (C' := (29, [(5, .inl (.inl (yad x5 1))), (3, .inl (.inr (yadL x3 (ymu (σ.1 23 x5.toNat) r4.1)))), (0, .inr (.inl 7, 0)), (1, .inl (.inl x1)), (2, .inl (.inl x2))], [], r4.2)) rfl ?_
          exact yG_w [2, 3, 4, 1, 0] rfl (ih r4.2 x1 x2 (yadL x3 (ymu (σ.1 23 x5.toNat) r4.1)) (yad x5 1) res h)
set_option maxRecDepth 100000 in
set_option maxHeartbeats 4000000 in
theorem t_X7_mean {N : Nat} {X : zXT} {sh : List yH} {l : Launch} {rm : Room} (σ : yS) (x1 : Int) (x2 : Int) (res : Int × yS) (h : f_X7_mean N σ x1 x2 = some res) : G_X7_mean N X sh l rm (0, [(0, .inr (.inl 7, 0)), (1, .inl (.inl x1)), (2, .inl (.inl x2))], [], σ) (some (.inl (.inr res.1)), res.2) := by
  unfold f_X7_mean at h
  refine yG_n (n := 3) (C' := (5, [(0, .inr (.inl 7, 0)), (1, .inl (.inl x1)), (2, .inl (.inl x2))], [.inl (.inl x1), .inr (.inl 4, 17)], σ)) rfl ?_
  cases hr5 : f_X4_isHouse N σ 17 x1 with
  | none => rw [hr5] at h; dsimp only at h; cases h
  | some r1 =>
    rw [hr5] at h
    dsimp only at h
    refine yG_c (C1 := (8, [(0, .inr (.inl 7, 0)), (1, .inl (.inl x1)), (2, .inl (.inl x2))], [.inl (.inl r1.1)], r1.2)) rfl (e_X4_isHouse hr5) rfl ?_
    cases hg6 : ycP .eq r1.1 0 with
    | true =>
      rw [hg6] at h
      dsimp only [cond] at h
      refine yG_t (C' := (20, [(0, .inr (.inl 7, 0)), (1, .inl (.inl x1)), (2, .inl (.inl x2))], [], r1.2)) rfl hg6 ?_
      exact yG_w [] rfl (t_X7_mean_b20 r1.2 res h)
    | false =>
      rw [hg6] at h
      dsimp only [cond] at h
      refine yG_f (C' := (11, [(0, .inr (.inl 7, 0)), (1, .inl (.inl x1)), (2, .inl (.inl x2))], [], r1.2)) rfl hg6 ?_
      refine yG_n (n := 3) (C' := (14, [(0, .inr (.inl 7, 0)), (1, .inl (.inl x1)), (2, .inl (.inl x2))], [.inl (.inl 1), .inl (.inl 0), .inl (.inl x2)], r1.2)) rfl ?_
      cases hr7 : f_X7_within N r1.2 x2 0 1 with
      | none => rw [hr7] at h; dsimp only at h; cases h
      | some r2 =>
        rw [hr7] at h
        dsimp only at h
        refine yG_c (C1 := (17, [(0, .inr (.inl 7, 0)), (1, .inl (.inl x1)), (2, .inl (.inl x2))], [.inl (.inl r2.1)], r2.2)) rfl (e_X7_within hr7) rfl ?_
        cases hg8 : ycP .ne r2.1 0 with
        | true =>
          rw [hg8] at h
          dsimp only [cond] at h
          refine yG_t (C' := (24, [(0, .inr (.inl 7, 0)), (1, .inl (.inl x1)), (2, .inl (.inl x2))], [], r2.2)) rfl hg8 ?_
          refine yG_n (n := 4) (C' := (29, [(5, .inl (.inl 0)), (3, .inl (.inr 0)), (0, .inr (.inl 7, 0)), (1, .inl (.inl x1)), (2, .inl (.inl x2))], [], r2.2)) rfl ?_
          exact yG_w [2, 3, 4, 1, 0] rfl (t_X7_mean_b29 N r2.2 x1 x2 0 0 res h)
        | false =>
          rw [hg8] at h
          dsimp only [cond] at h
          refine yG_f (C' := (20, [(0, .inr (.inl 7, 0)), (1, .inl (.inl x1)), (2, .inl (.inl x2))], [], r2.2)) rfl hg8 ?_
          exact yG_w [] rfl (t_X7_mean_b20 r2.2 res h)
set_option maxRecDepth 100000 in
set_option maxHeartbeats 4000000 in
theorem m_X7_mean {N : Nat} {X : zXT} (hX : zXok X) (hN : zXn X) (l : Launch) {sh : List yH} : yMet X vwCl yct sh l yX7_mean wsX7_mean { frames := 4, cells := 0, slots := 0, locals := 133 } (F_X7_mean N) :=
  ymeth (tb := tb_X7_mean N) (pr := pr_X7_mean) (rt := 3) (own := RX7) hX (by decide +kernel) rfl rfl ⟨Nat.le_of_ble_eq_true rfl, Nat.le_of_ble_eq_true rfl⟩
    (zfl_all (List.forall_mem_cons.mpr ⟨zfl_X7 (fun w h => List.mem_cons_of_mem _ (List.mem_append_left _ (List.mem_append_right _ h))) (List.mem_of_getElem? (i := 1) rfl) (by decide) (by decide), List.forall_mem_cons.mpr ⟨zfl_X4 (fun w h => List.mem_cons_of_mem _ (List.mem_append_right _ h)) (List.mem_of_getElem? (i := 3) rfl) (by decide) (by decide), List.forall_mem_cons.mpr ⟨zfl_X4 (fun w h => List.mem_cons_of_mem _ (List.mem_append_right _ h)) (List.mem_of_getElem? (i := 4) rfl) (by decide) (by decide), fun _ h => absurd h List.not_mem_nil⟩⟩⟩))
    (zco_all (fun _ h => absurd h List.not_mem_nil)) (zlc_all (List.forall_mem_cons.mpr ⟨(List.mem_of_getElem? (i := 2) rfl), List.forall_mem_cons.mpr ⟨(List.mem_of_getElem? (i := 5) rfl), fun _ h => absurd h List.not_mem_nil⟩⟩))
    (List.forall_mem_cons.mpr ⟨ycal_V hX (m_X4_isHouse hX hN l) rfl (fun s args hts => cwV 1 hts gX7_mean_X4_isHouse rfl rfl rfl (by decide +kernel) ⟨Nat.le_of_ble_eq_true rfl, Nat.le_of_ble_eq_true rfl⟩), List.forall_mem_cons.mpr ⟨ycal_V hX (m_X4_habitCost hX hN l) rfl (fun s args hts => cwV 2 hts gX7_mean_X4_habitCost rfl rfl rfl (by decide +kernel) ⟨Nat.le_of_ble_eq_true rfl, Nat.le_of_ble_eq_true rfl⟩), fun _ h => absurd h List.not_mem_nil⟩⟩)
    (List.forall_mem_cons.mpr ⟨ycal_S hX (m_X7_within hX hN l) (fun s args hts => va_cwS 3 hts gX7_mean_X7_within rfl rfl rfl (by decide +kernel) ⟨Nat.le_of_ble_eq_true rfl, Nat.le_of_ble_eq_true rfl⟩), List.forall_mem_cons.mpr ⟨ycal_S hX (m_X7_partOfFraction hX hN l) (fun s args hts => va_cwS 3 hts gX7_mean_X7_partOfFraction rfl rfl rfl (by decide +kernel) ⟨Nat.le_of_ble_eq_true rfl, Nat.le_of_ble_eq_true rfl⟩), fun _ h => absurd h List.not_mem_nil⟩⟩)
    (zmm_all (fun _ h => absurd h List.not_mem_nil)) (fun _ h => absurd h List.not_mem_nil) (zpr_all hp_X7_mean) (fun as σ res h => by
      unfold F_X7_mean at h
      split at h
      · rename_i x1 x2
        cases hr : f_X7_mean N σ x1 x2 with
        | none => rw [hr] at h; cases h
        | some r =>
          rw [hr] at h
          cases h
          exact ⟨Nat.le_of_ble_eq_true rfl, t_X7_mean σ x1 x2 r hr⟩
      · cases h)
noncomputable def pr_X7_move : List (Nat × Instr × Nat) := [(0, .aload_n 0, 1), (1, .getfield 10, 3), (4, .iload_n 1, 1), (5, .invokevirtual 118, 3), (8, .ifCond .eq 19, 3), (11, .aload_n 0, 1), (12, .getfield 10, 3), (15, .iload_n 2, 1), (16, .invokevirtual 118, 3), (19, .ifCond .eq 8, 3), (22, .iload_n 1, 1), (23, .iload_n 2, 1), (24, .if_icmp .ne 5, 3), (27, .iconst (-1), 1), (28, .ireturn, 1), (29, .aload_n 0, 1), (30, .getfield 10, 3), (33, .iload_n 1, 1), (34, .iload_n 2, 1), (35, .invokevirtual 190, 3), (38, .aload_n 0, 1), (39, .getfield 10, 3), (42, .getfield 125, 3), (45, .iload_n 1, 1), (46, .iaload, 1), (47, .invokestatic 194, 3), (50, .ireturn, 1)]
set_option maxRecDepth 100000 in
theorem hp_X7_move : pr_X7_move.all (fun x => decide (decode cX7_move x.1 = .ok x.2)) = true := by decide +kernel
noncomputable def f_X7_move_b27 (N : Nat) (σ : yS) : Option (Int × yS) :=
  some ((-1), σ)
noncomputable def f_X7_move (N : Nat) (σ : yS) (x1 : Int) (x2 : Int) : Option (Int × yS) :=
  match f_X4_isHouse N σ 17 x1 with
  | none => none
  | some r1 => bif ycP .eq r1.1 0 then
      f_X7_move_b27 N r1.2
    else
      match f_X4_isHouse N r1.2 17 x2 with
      | none => none
      | some r2 => bif ycP .eq r2.1 0 then
          f_X7_move_b27 N r2.2
        else
          bif ycP .ne x1 x2 then
            match f_X4_changeHouses N r2.2 17 x1 x2 with
            | none => none
            | some r3 => bif yin x1 7 then
                match f_J6_bitCount_0f7a4 N r3.2 (r3.2.1 20 x1.toNat) with
                | none => none
                | some r4 => some (r4.1, r4.2)
              else none
          else
            f_X7_move_b27 N r2.2
noncomputable def F_X7_move (N : Nat) : yF := fun as σ => match as with
  | [.inr (.inl 7, 0), .inl (.inl x1), .inl (.inl x2)] => (f_X7_move N σ x1 x2).map (fun r => (some (.inl (.inl r.1)), r.2))
  | _ => none
theorem e_X7_move {N : Nat} {σ : yS} {x1 : Int} {x2 : Int} {r : Int × yS} (h : f_X7_move N σ x1 x2 = some r) : F_X7_move N [.inr (.inl 7, 0), .inl (.inl x1), .inl (.inl x2)] σ = some (some (.inl (.inl r.1)), r.2) := by
  show (f_X7_move N σ x1 x2).map (fun r => ((some (.inl (.inl r.1)), r.2) : yR)) = _
  rw [h]
  rfl
noncomputable def tb_X7_move (N : Nat) : yTb := ([(10, 7, 0, 3), (125, 4, 5, 3)], [], [], [(118, 2, 4, F_X4_isHouse N), (190, 3, 4, F_X4_changeHouses N)], [(194, 1, F_J6_bitCount_0f7a4 N)], [], [])
abbrev G_X7_move (N : Nat) (X : zXT) (sh : List yH) (l : Launch) (rm : Room) : yC → yR → Prop := yGoes X vwCl yct sh l rm cX7_move 3 wsX7_move RX7 (tb_X7_move N) pr_X7_move 1
set_option maxRecDepth 100000 in
set_option maxHeartbeats 4000000 in
theorem t_X7_move_b27 {N : Nat} {X : zXT} {sh : List yH} {l : Launch} {rm : Room} (σ : yS) (res : Int × yS) (h : f_X7_move_b27 N σ = some res) : G_X7_move N X sh l rm (27, [], [], σ) (some (.inl (.inl res.1)), res.2) := by
  unfold f_X7_move_b27 at h
  refine yG_n (n := 1) (C' := (28, [], [.inl (.inl ((-1)))], σ)) rfl ?_
  have h := Option.some.inj h
  subst h
  dsimp only
  exact yG_r rfl rfl
set_option maxRecDepth 100000 in
set_option maxHeartbeats 4000000 in
theorem t_X7_move {N : Nat} {X : zXT} {sh : List yH} {l : Launch} {rm : Room} (σ : yS) (x1 : Int) (x2 : Int) (res : Int × yS) (h : f_X7_move N σ x1 x2 = some res) : G_X7_move N X sh l rm (0, [(0, .inr (.inl 7, 0)), (1, .inl (.inl x1)), (2, .inl (.inl x2))], [], σ) (some (.inl (.inl res.1)), res.2) := by
  unfold f_X7_move at h
  refine yG_n (n := 3) (C' := (5, [(0, .inr (.inl 7, 0)), (1, .inl (.inl x1)), (2, .inl (.inl x2))], [.inl (.inl x1), .inr (.inl 4, 17)], σ)) rfl ?_
  cases hr1 : f_X4_isHouse N σ 17 x1 with
  | none => rw [hr1] at h; dsimp only at h; cases h
  | some r1 =>
    rw [hr1] at h
    dsimp only at h
    refine yG_c (C1 := (8, [(0, .inr (.inl 7, 0)), (1, .inl (.inl x1)), (2, .inl (.inl x2))], [.inl (.inl r1.1)], r1.2)) rfl (e_X4_isHouse hr1) rfl ?_
    cases hg2 : ycP .eq r1.1 0 with
    | true =>
      rw [hg2] at h
      dsimp only [cond] at h
      refine yG_t (C' := (27, [(0, .inr (.inl 7, 0)), (1, .inl (.inl x1)), (2, .inl (.inl x2))], [], r1.2)) rfl hg2 ?_
      exact yG_w [] rfl (t_X7_move_b27 r1.2 res h)
    | false =>
      rw [hg2] at h
      dsimp only [cond] at h
      refine yG_f (C' := (11, [(0, .inr (.inl 7, 0)), (1, .inl (.inl x1)), (2, .inl (.inl x2))], [], r1.2)) rfl hg2 ?_
      refine yG_n (n := 3) (C' := (16, [(0, .inr (.inl 7, 0)), (1, .inl (.inl x1)), (2, .inl (.inl x2))], [.inl (.inl x2), .inr (.inl 4, 17)], r1.2)) rfl ?_
      cases hr3 : f_X4_isHouse N r1.2 17 x2 with
      | none => rw [hr3] at h; dsimp only at h; cases h
      | some r2 =>
        rw [hr3] at h
        dsimp only at h
        refine yG_c (C1 := (19, [(0, .inr (.inl 7, 0)), (1, .inl (.inl x1)), (2, .inl (.inl x2))], [.inl (.inl r2.1)], r2.2)) rfl (e_X4_isHouse hr3) rfl ?_
        cases hg4 : ycP .eq r2.1 0 with
        | true =>
          rw [hg4] at h
          dsimp only [cond] at h
          refine yG_t (C' := (27, [(0, .inr (.inl 7, 0)), (1, .inl (.inl x1)), (2, .inl (.inl x2))], [], r2.2)) rfl hg4 ?_
          exact yG_w [] rfl (t_X7_move_b27 r2.2 res h)
        | false =>
          rw [hg4] at h
          dsimp only [cond] at h
          refine yG_f (C' := (22, [(0, .inr (.inl 7, 0)), (1, .inl (.inl x1)), (2, .inl (.inl x2))], [], r2.2)) rfl hg4 ?_
          refine yG_n (n := 2) (C' := (24, [(0, .inr (.inl 7, 0)), (1, .inl (.inl x1)), (2, .inl (.inl x2))], [.inl (.inl x2), .inl (.inl x1)], r2.2)) rfl ?_
          cases hg5 : ycP .ne x1 x2 with
          | true =>
            rw [hg5] at h
            dsimp only [cond] at h
            refine yG_t (C' := (29, [(0, .inr (.inl 7, 0)), (1, .inl (.inl x1)), (2, .inl (.inl x2))], [], r2.2)) rfl hg5 ?_
            refine yG_n (n := 4) (C' := (35, [(0, .inr (.inl 7, 0)), (1, .inl (.inl x1)), (2, .inl (.inl x2))], [.inl (.inl x2), .inl (.inl x1), .inr (.inl 4, 17)], r2.2)) rfl ?_
            cases hr6 : f_X4_changeHouses N r2.2 17 x1 x2 with
            | none => rw [hr6] at h; dsimp only at h; cases h
            | some r3 =>
              rw [hr6] at h
              dsimp only at h
              refine yG_c (C1 := (38, [(0, .inr (.inl 7, 0)), (1, .inl (.inl x1)), (2, .inl (.inl x2))], [], r3.2)) rfl (e_X4_changeHouses hr6) rfl ?_
              refine yG_n (n := 4) (C' := (46, [(0, .inr (.inl 7, 0)), (1, .inl (.inl x1)), (2, .inl (.inl x2))], [.inl (.inl x1), .inr (.inr (0, 7), 20)], r3.2)) rfl ?_
              cases hg7 : yin x1 7 with
              | false => rw [hg7] at h; dsimp only [cond] at h; cases h
              | true =>
                rw [hg7] at h
                dsimp only [cond] at h
                refine yG_t (C' := (47, [(0, .inr (.inl 7, 0)), (1, .inl (.inl x1)), (2, .inl (.inl x2))], [.inl (.inl (r3.2.1 20 x1.toNat))], r3.2)) rfl hg7 ?_
                cases hr8 : f_J6_bitCount_0f7a4 N r3.2 (r3.2.1 20 x1.toNat) with
                | none => rw [hr8] at h; dsimp only at h; cases h
                | some r4 =>
                  rw [hr8] at h
                  dsimp only at h
                  refine yG_c (C1 := (50, [(0, .inr (.inl 7, 0)), (1, .inl (.inl x1)), (2, .inl (.inl x2))], [.inl (.inl r4.1)], r4.2)) rfl (e_J6_bitCount_0f7a4 hr8) rfl ?_
                  have h := Option.some.inj h
                  subst h
                  dsimp only
                  exact yG_r rfl rfl
          | false =>
            rw [hg5] at h
            dsimp only [cond] at h
            refine yG_f (C' := (27, [(0, .inr (.inl 7, 0)), (1, .inl (.inl x1)), (2, .inl (.inl x2))], [], r2.2)) rfl hg5 ?_
            exact yG_w [] rfl (t_X7_move_b27 r2.2 res h)
set_option maxRecDepth 100000 in
set_option maxHeartbeats 4000000 in
theorem m_X7_move {N : Nat} {X : zXT} (hX : zXok X) (hN : zXn X) (l : Launch) {sh : List yH} : yMet X vwCl yct sh l yX7_move wsX7_move { frames := 3, cells := 0, slots := 0, locals := 107 } (F_X7_move N) :=
  ymeth (tb := tb_X7_move N) (pr := pr_X7_move) (rt := 1) (own := RX7) hX (by decide +kernel) rfl rfl ⟨Nat.le_of_ble_eq_true rfl, Nat.le_of_ble_eq_true rfl⟩
    (zfl_all (List.forall_mem_cons.mpr ⟨zfl_X7 (fun w h => List.mem_cons_of_mem _ (List.mem_append_left _ (List.mem_append_right _ h))) (List.mem_of_getElem? (i := 1) rfl) (by decide) (by decide), List.forall_mem_cons.mpr ⟨zfl_X4 (fun w h => List.mem_cons_of_mem _ (List.mem_append_right _ h)) (List.mem_of_getElem? (i := 2) rfl) (by decide) (by decide), fun _ h => absurd h List.not_mem_nil⟩⟩))
    (zco_all (fun _ h => absurd h List.not_mem_nil)) (zlc_all (fun _ h => absurd h List.not_mem_nil))
    (List.forall_mem_cons.mpr ⟨ycal_V hX (m_X4_isHouse hX hN l) rfl (fun s args hts => cwV 1 hts gX7_move_X4_isHouse rfl rfl rfl (by decide +kernel) ⟨Nat.le_of_ble_eq_true rfl, Nat.le_of_ble_eq_true rfl⟩), List.forall_mem_cons.mpr ⟨ycal_V hX (m_X4_changeHouses hX hN l) rfl (fun s args hts => cwV 2 hts gX7_move_X4_changeHouses rfl rfl rfl (by decide +kernel) ⟨Nat.le_of_ble_eq_true rfl, Nat.le_of_ble_eq_true rfl⟩), fun _ h => absurd h List.not_mem_nil⟩⟩)
    (List.forall_mem_cons.mpr ⟨ycal_S hX (m_J6_bitCount_0f7a4 hX hN l) (fun s args hts => va_cwS 1 hts gX7_move_J6_bitCount_0f7a4 rfl rfl rfl (by decide +kernel) ⟨Nat.le_of_ble_eq_true rfl, Nat.le_of_ble_eq_true rfl⟩), fun _ h => absurd h List.not_mem_nil⟩)
    (zmm_all (fun _ h => absurd h List.not_mem_nil)) (fun _ h => absurd h List.not_mem_nil) (zpr_all hp_X7_move) (fun as σ res h => by
      unfold F_X7_move at h
      split at h
      · rename_i x1 x2
        cases hr : f_X7_move N σ x1 x2 with
        | none => rw [hr] at h; cases h
        | some r =>
          rw [hr] at h
          cases h
          exact ⟨Nat.le_of_ble_eq_true rfl, t_X7_move σ x1 x2 r hr⟩
      · cases h)
noncomputable def pr_X7_numberOf : List (Nat × Instr × Nat) := [(0, .bipush 100, 2), (2, .iload_n 0, 1), (3, .imul, 1), (4, .bipush 20, 2), (6, .iload_n 1, 1), (7, .imul, 1), (8, .iadd, 1), (9, .iconst 5, 1), (10, .iload_n 2, 1), (11, .imul, 1), (12, .iadd, 1), (13, .iload_n 3, 1), (14, .iadd, 1), (15, .ireturn, 1)]
set_option maxRecDepth 100000 in
theorem hp_X7_numberOf : pr_X7_numberOf.all (fun x => decide (decode cX7_numberOf x.1 = .ok x.2)) = true := by decide +kernel
noncomputable def f_X7_numberOf (N : Nat) (σ : yS) (x0 : Int) (x1 : Int) (x2 : Int) (x3 : Int) : Option (Int × yS) :=
  some (yad (yad (yad (ymu 100 x0) (ymu 20 x1)) (ymu 5 x2)) x3, σ)
noncomputable def F_X7_numberOf (N : Nat) : yF := fun as σ => match as with
  | [.inl (.inl x0), .inl (.inl x1), .inl (.inl x2), .inl (.inl x3)] => (f_X7_numberOf N σ x0 x1 x2 x3).map (fun r => (some (.inl (.inl r.1)), r.2))
  | _ => none
theorem e_X7_numberOf {N : Nat} {σ : yS} {x0 : Int} {x1 : Int} {x2 : Int} {x3 : Int} {r : Int × yS} (h : f_X7_numberOf N σ x0 x1 x2 x3 = some r) : F_X7_numberOf N [.inl (.inl x0), .inl (.inl x1), .inl (.inl x2), .inl (.inl x3)] σ = some (some (.inl (.inl r.1)), r.2) := by
  show (f_X7_numberOf N σ x0 x1 x2 x3).map (fun r => ((some (.inl (.inl r.1)), r.2) : yR)) = _
  rw [h]
  rfl
noncomputable def tb_X7_numberOf (N : Nat) : yTb := ([], [], [], [], [], [], [])
abbrev G_X7_numberOf (N : Nat) (X : zXT) (sh : List yH) (l : Launch) (rm : Room) : yC → yR → Prop := yGoes X vwCl yct sh l rm cX7_numberOf 4 wsX7_numberOf RX7 (tb_X7_numberOf N) pr_X7_numberOf 1
set_option maxRecDepth 100000 in
set_option maxHeartbeats 4000000 in
theorem t_X7_numberOf {N : Nat} {X : zXT} {sh : List yH} {l : Launch} {rm : Room} (σ : yS) (x0 : Int) (x1 : Int) (x2 : Int) (x3 : Int) (res : Int × yS) (h : f_X7_numberOf N σ x0 x1 x2 x3 = some res) : G_X7_numberOf N X sh l rm (0, [(0, .inl (.inl x0)), (1, .inl (.inl x1)), (2, .inl (.inl x2)), (3, .inl (.inl x3))], [], σ) (some (.inl (.inl res.1)), res.2) := by
  unfold f_X7_numberOf at h
  refine yG_n (n := 13) (C' := (15, [(0, .inl (.inl x0)), (1, .inl (.inl x1)), (2, .inl (.inl x2)), (3, .inl (.inl x3))], [.inl (.inl (yad (yad (yad (ymu 100 x0) (ymu 20 x1)) (ymu 5 x2)) x3))], σ)) rfl ?_
  have h := Option.some.inj h
  subst h
  dsimp only
  exact yG_r rfl rfl
set_option maxRecDepth 100000 in
set_option maxHeartbeats 4000000 in
theorem m_X7_numberOf {N : Nat} {X : zXT} (hX : zXok X) (hN : zXn X) (l : Launch) {sh : List yH} : yMet X vwCl yct sh l yX7_numberOf wsX7_numberOf { frames := 1, cells := 0, slots := 0, locals := 64 } (F_X7_numberOf N) :=
  ymeth (tb := tb_X7_numberOf N) (pr := pr_X7_numberOf) (rt := 1) (own := RX7) hX (by decide +kernel) rfl rfl ⟨Nat.le_of_ble_eq_true rfl, Nat.le_of_ble_eq_true rfl⟩
    (zfl_all (fun _ h => absurd h List.not_mem_nil))
    (zco_all (fun _ h => absurd h List.not_mem_nil)) (zlc_all (fun _ h => absurd h List.not_mem_nil))
    (fun _ h => absurd h List.not_mem_nil)
    (fun _ h => absurd h List.not_mem_nil)
    (zmm_all (fun _ h => absurd h List.not_mem_nil)) (fun _ h => absurd h List.not_mem_nil) (zpr_all hp_X7_numberOf) (fun as σ res h => by
      unfold F_X7_numberOf at h
      split at h
      · rename_i x0 x1 x2 x3
        cases hr : f_X7_numberOf N σ x0 x1 x2 x3 with
        | none => rw [hr] at h; cases h
        | some r =>
          rw [hr] at h
          cases h
          exact ⟨Nat.le_of_ble_eq_true rfl, t_X7_numberOf σ x0 x1 x2 x3 r hr⟩
      · cases h)
noncomputable def pr_X7_numbersOf : List (Nat × Instr × Nat) := [(0, .bipush 100, 2), (2, .iload_n 0, 1), (3, .imul, 1), (4, .ireturn, 1)]
set_option maxRecDepth 100000 in
theorem hp_X7_numbersOf : pr_X7_numbersOf.all (fun x => decide (decode cX7_numbersOf x.1 = .ok x.2)) = true := by decide +kernel
noncomputable def f_X7_numbersOf (N : Nat) (σ : yS) (x0 : Int) : Option (Int × yS) :=
  some (ymu 100 x0, σ)
noncomputable def F_X7_numbersOf (N : Nat) : yF := fun as σ => match as with
  | [.inl (.inl x0)] => (f_X7_numbersOf N σ x0).map (fun r => (some (.inl (.inl r.1)), r.2))
  | _ => none
theorem e_X7_numbersOf {N : Nat} {σ : yS} {x0 : Int} {r : Int × yS} (h : f_X7_numbersOf N σ x0 = some r) : F_X7_numbersOf N [.inl (.inl x0)] σ = some (some (.inl (.inl r.1)), r.2) := by
  show (f_X7_numbersOf N σ x0).map (fun r => ((some (.inl (.inl r.1)), r.2) : yR)) = _
  rw [h]
  rfl
noncomputable def tb_X7_numbersOf (N : Nat) : yTb := ([], [], [], [], [], [], [])
abbrev G_X7_numbersOf (N : Nat) (X : zXT) (sh : List yH) (l : Launch) (rm : Room) : yC → yR → Prop := yGoes X vwCl yct sh l rm cX7_numbersOf 1 wsX7_numbersOf RX7 (tb_X7_numbersOf N) pr_X7_numbersOf 1
set_option maxRecDepth 100000 in
set_option maxHeartbeats 4000000 in
theorem t_X7_numbersOf {N : Nat} {X : zXT} {sh : List yH} {l : Launch} {rm : Room} (σ : yS) (x0 : Int) (res : Int × yS) (h : f_X7_numbersOf N σ x0 = some res) : G_X7_numbersOf N X sh l rm (0, [(0, .inl (.inl x0))], [], σ) (some (.inl (.inl res.1)), res.2) := by
  unfold f_X7_numbersOf at h
  refine yG_n (n := 3) (C' := (4, [(0, .inl (.inl x0))], [.inl (.inl (ymu 100 x0))], σ)) rfl ?_
  have h := Option.some.inj h
  subst h
  dsimp only
  exact yG_r rfl rfl
set_option maxRecDepth 100000 in
set_option maxHeartbeats 4000000 in
theorem m_X7_numbersOf {N : Nat} {X : zXT} (hX : zXok X) (hN : zXn X) (l : Launch) {sh : List yH} : yMet X vwCl yct sh l yX7_numbersOf wsX7_numbersOf { frames := 1, cells := 0, slots := 0, locals := 64 } (F_X7_numbersOf N) :=
  ymeth (tb := tb_X7_numbersOf N) (pr := pr_X7_numbersOf) (rt := 1) (own := RX7) hX (by decide +kernel) rfl rfl ⟨Nat.le_of_ble_eq_true rfl, Nat.le_of_ble_eq_true rfl⟩
    (zfl_all (fun _ h => absurd h List.not_mem_nil))
    (zco_all (fun _ h => absurd h List.not_mem_nil)) (zlc_all (fun _ h => absurd h List.not_mem_nil))
    (fun _ h => absurd h List.not_mem_nil)
    (fun _ h => absurd h List.not_mem_nil)
    (zmm_all (fun _ h => absurd h List.not_mem_nil)) (fun _ h => absurd h List.not_mem_nil) (zpr_all hp_X7_numbersOf) (fun as σ res h => by
      unfold F_X7_numbersOf at h
      split at h
      · rename_i x0
        cases hr : f_X7_numbersOf N σ x0 with
        | none => rw [hr] at h; cases h
        | some r =>
          rw [hr] at h
          cases h
          exact ⟨Nat.le_of_ble_eq_true rfl, t_X7_numbersOf σ x0 r hr⟩
      · cases h)
noncomputable def pr_X4_broughtBy : List (Nat × Instr × Nat) := [(0, .iload_n 1, 1), (1, .bipush 20, 2), (3, .idiv, 1), (4, .iconst 5, 1), (5, .irem, 1), (6, .istore_n 2, 1), (7, .iload_n 2, 1), (8, .iconst 4, 1), (9, .if_icmp .ne 5, 3), (12, .iconst 0, 1), (13, .ireturn, 1), (14, .iconst 1, 1), (15, .iload_n 1, 1), (16, .bipush 100, 2), (18, .idiv, 1), (19, .ishl, 1), (20, .istore_n 3, 1), (21, .iload_n 1, 1), (22, .iconst 5, 1), (23, .idiv, 1), (24, .iconst 4, 1), (25, .irem, 1), (26, .istore 4, 2), (28, .iload 4, 2), (30, .ifCond .lt 20, 3), (33, .aload_n 0, 1), (34, .iload_n 3, 1), (35, .iload_n 2, 1), (36, .aload_n 0, 1), (37, .getfield 65, 3), (40, .invokevirtual 156, 3), (43, .istore_n 3, 1), (44, .iinc 4 (-1), 3), (47, .goto (-19), 3), (50, .iconst 0, 1), (51, .istore 4, 2), (53, .iload 4, 2), (55, .aload_n 0, 1), (56, .getfield 9, 3), (59, .if_icmp .ge 33, 3), (62, .aload_n 0, 1), (63, .getfield 22, 3), (66, .iload 4, 2), (68, .iaload, 1), (69, .iload_n 1, 1), (70, .iconst 5, 1), (71, .irem, 1), (72, .invokestatic 126, 3), (75, .ifCond .ne 11, 3), (78, .iload_n 3, 1), (79, .iload 4, 2), (81, .iconst 0, 1), (82, .invokestatic 160, 3), (85, .istore_n 3, 1), (86, .iinc 4 1, 3), (89, .goto (-36), 3), (92, .iload_n 3, 1), (93, .ireturn, 1)]
set_option maxRecDepth 100000 in
theorem hp_X4_broughtBy : pr_X4_broughtBy.all (fun x => decide (decode cX4_broughtBy x.1 = .ok x.2)) = true := by decide +kernel
noncomputable def f_X4_broughtBy_b86 (N : Nat) (k53 : yS → Nat → Int → Int → Int → Option (Int × yS)) (σ : yS) (x0 : Nat) (x1 : Int) (x3 : Int) (x4 : Int) : Option (Int × yS) :=
  k53 σ x0 x1 x3 (yad x4 1)
noncomputable def f_X4_broughtBy_b53 (N : Nat) : Nat → yS → Nat → Int → Int → Int → Option (Int × yS) := yfix (fun _ _ _ _ _ => none) (fun ih σ x0 x1 x3 x4 =>
    bif ycP .ge x4 (σ.1 x0 0) then
      some (x3, σ)
    else
      bif yin x4 7 then
        match f_X7_bit N σ (σ.1 (x0 + 3) x4.toNat) (yrm x1 5) with
        | none => none
        | some r1 => bif ycP .ne r1.1 0 then
            f_X4_broughtBy_b86 N ih r1.2 x0 x1 x3 x4
          else
            match f_X7_withBit N r1.2 x3 x4 0 with
            | none => none
            | some r2 => f_X4_broughtBy_b86 N ih r2.2 x0 x1 r2.1 x4
      else none)
theorem q_X4_broughtBy_b53 (N : Nat) (n : Nat) (σ : yS) (x0 : Nat) (x1 : Int) (x3 : Int) (x4 : Int) : f_X4_broughtBy_b53 N (n + 1) σ x0 x1 x3 x4 =
    (bif ycP .ge x4 (σ.1 x0 0) then
      some (x3, σ)
    else
      bif yin x4 7 then
        match f_X7_bit N σ (σ.1 (x0 + 3) x4.toNat) (yrm x1 5) with
        | none => none
        | some r1 => bif ycP .ne r1.1 0 then
            f_X4_broughtBy_b86 N (f_X4_broughtBy_b53 N n) r1.2 x0 x1 x3 x4
          else
            match f_X7_withBit N r1.2 x3 x4 0 with
            | none => none
            | some r2 => f_X4_broughtBy_b86 N (f_X4_broughtBy_b53 N n) r2.2 x0 x1 r2.1 x4
      else none) := rfl
noncomputable def f_X4_broughtBy_b28 (N : Nat) : Nat → yS → Nat → Int → Int → Int → Int → Option (Int × yS) := yfix (fun _ _ _ _ _ _ => none) (fun ih σ x0 x1 x2 x3 x4 =>
    bif ycP .lt x4 0 then
      f_X4_broughtBy_b53 N N σ x0 x1 x3 0
    else
      match f_X4_fallSet N σ x0 x3 x2 (σ.1 x0 6) with
      | none => none
      | some r3 => ih r3.2 x0 x1 x2 r3.1 (yad x4 (-1)))
theorem q_X4_broughtBy_b28 (N : Nat) (n : Nat) (σ : yS) (x0 : Nat) (x1 : Int) (x2 : Int) (x3 : Int) (x4 : Int) : f_X4_broughtBy_b28 N (n + 1) σ x0 x1 x2 x3 x4 =
    (bif ycP .lt x4 0 then
      f_X4_broughtBy_b53 N N σ x0 x1 x3 0
    else
      match f_X4_fallSet N σ x0 x3 x2 (σ.1 x0 6) with
      | none => none
      | some r3 => (f_X4_broughtBy_b28 N n) r3.2 x0 x1 x2 r3.1 (yad x4 (-1))) := rfl
noncomputable def f_X4_broughtBy (N : Nat) (σ : yS) (x0 : Nat) (x1 : Int) : Option (Int × yS) :=
  bif ycP .ne (yrm (ydv x1 20) 5) 4 then
    f_X4_broughtBy_b28 N N σ x0 x1 (yrm (ydv x1 20) 5) (ysl 1 (ydv x1 100)) (yrm (ydv x1 5) 4)
  else
    some (0, σ)
noncomputable def F_X4_broughtBy (N : Nat) : yF := fun as σ => match as with
  | [.inr (.inl 4, x0), .inl (.inl x1)] => (f_X4_broughtBy N σ x0 x1).map (fun r => (some (.inl (.inl r.1)), r.2))
  | _ => none
theorem e_X4_broughtBy {N : Nat} {σ : yS} {x0 : Nat} {x1 : Int} {r : Int × yS} (h : f_X4_broughtBy N σ x0 x1 = some r) : F_X4_broughtBy N [.inr (.inl 4, x0), .inl (.inl x1)] σ = some (some (.inl (.inl r.1)), r.2) := by
  show (f_X4_broughtBy N σ x0 x1).map (fun r => ((some (.inl (.inl r.1)), r.2) : yR)) = _
  rw [h]
  rfl
noncomputable def tb_X4_broughtBy (N : Nat) : yTb := ([(9, 4, 0, 0), (22, 4, 5, 3), (65, 4, 6, 0)], [], [], [(156, 4, 4, F_X4_fallSet N)], [(126, 2, F_X7_bit N), (160, 3, F_X7_withBit N)], [], [])
abbrev G_X4_broughtBy (N : Nat) (X : zXT) (sh : List yH) (l : Launch) (rm : Room) : yC → yR → Prop := yGoes X vwCl yct sh l rm cX4_broughtBy 5 wsX4_broughtBy RX4 (tb_X4_broughtBy N) pr_X4_broughtBy 1
set_option maxRecDepth 100000 in
set_option maxHeartbeats 4000000 in
theorem t_X4_broughtBy_b86 {N : Nat} {X : zXT} {sh : List yH} {l : Launch} {rm : Room} (k53 : yS → Nat → Int → Int → Int → Option (Int × yS)) (hk53 : ∀ (σ : yS) (x0 : Nat) (x1 : Int) (x3 : Int) (x4 : Int) (res : Int × yS), k53 σ x0 x1 x3 x4 = some res → G_X4_broughtBy N X sh l rm (53, [(0, .inr (.inl 4, x0)), (1, .inl (.inl x1)), (3, .inl (.inl x3)), (4, .inl (.inl x4))], [], σ) (some (.inl (.inl res.1)), res.2)) (σ : yS) (x0 : Nat) (x1 : Int) (x3 : Int) (x4 : Int) (res : Int × yS) (h : f_X4_broughtBy_b86 N k53 σ x0 x1 x3 x4 = some res) : G_X4_broughtBy N X sh l rm (86, [(0, .inr (.inl 4, x0)), (1, .inl (.inl x1)), (3, .inl (.inl x3)), (4, .inl (.inl x4))], [], σ) (some (.inl (.inl res.1)), res.2) := by
  unfold f_X4_broughtBy_b86 at h
  refine yG_n (n := 2) (C' := (53, [(4, .inl (.inl (yad x4 1))), (0, .inr (.inl 4, x0)), (1, .inl (.inl x1)), (3, .inl (.inl x3))], [], σ)) rfl ?_
  exact yG_w [1, 2, 3, 0] rfl (hk53 σ x0 x1 x3 (yad x4 1) res h)
set_option maxRecDepth 100000 in
set_option maxHeartbeats 4000000 in
theorem t_X4_broughtBy_b53 {N : Nat} {X : zXT} {sh : List yH} {l : Launch} {rm : Room} : ∀ (n : Nat) (σ : yS) (x0 : Nat) (x1 : Int) (x3 : Int) (x4 : Int) (res : Int × yS), f_X4_broughtBy_b53 N n σ x0 x1 x3 x4 = some res → G_X4_broughtBy N X sh l rm (53, [(0, .inr (.inl 4, x0)), (1, .inl (.inl x1)), (3, .inl (.inl x3)), (4, .inl (.inl x4))], [], σ) (some (.inl (.inl res.1)), res.2) := by
  intro n
  induction n with
  | zero => intro σ x0 x1 x3 x4 res h; exact (yno h).elim
  | succ n ih =>
    intro σ x0 x1 x3 x4 res h
    rw [q_X4_broughtBy_b53] at h
    refine yG_n (n := 3) (C' := (59, [(0, .inr (.inl 4, x0)), (1, .inl (.inl x1)), (3, .inl (.inl x3)), (4, .inl (.inl x4))], [.inl (.inl (σ.1 x0 0)), .inl (.inl x4)], σ)) rfl ?_
    cases hg1 : ycP .ge x4 (σ.1 x0 0) with
    | true =>
      rw [hg1] at h
      dsimp only [cond] at h
      refine yG_t (C' := (92, [(0, .inr (.inl 4, x0)), (1, .inl (.inl x1)), (3, .inl (.inl x3)), (4, .inl (.inl x4))], [], σ)) rfl hg1 ?_
      refine yG_n (n := 1) (C' := (93, [(0, .inr (.inl 4, x0)), (1, .inl (.inl x1)), (3, .inl (.inl x3)), (4, .inl (.inl x4))], [.inl (.inl x3)], σ)) rfl ?_
      have h := Option.some.inj h
      subst h
      dsimp only
      exact yG_r rfl rfl
    | false =>
      rw [hg1] at h
      dsimp only [cond] at h
      refine yG_f (C' := (62, [(0, .inr (.inl 4, x0)), (1, .inl (.inl x1)), (3, .inl (.inl x3)), (4, .inl (.inl x4))], [], σ)) rfl hg1 ?_
      refine yG_n (n := 3) (C' := (68, [(0, .inr (.inl 4, x0)), (1, .inl (.inl x1)), (3, .inl (.inl x3)), (4, .inl (.inl x4))], [.inl (.inl x4), .inr (.inr (0, 7), x0 + 3)], σ)) rfl ?_
      cases hg2 : yin x4 7 with
      | false => rw [hg2] at h; dsimp only [cond] at h; cases h
      | true =>
        rw [hg2] at h
        dsimp only [cond] at h
        refine yG_t (C' := (69, [(0, .inr (.inl 4, x0)), (1, .inl (.inl x1)), (3, .inl (.inl x3)), (4, .inl (.inl x4))], [.inl (.inl (σ.1 (x0 + 3) x4.toNat))], σ)) rfl hg2 ?_
        refine yG_n (n := 3) (C' := (72, [(0, .inr (.inl 4, x0)), (1, .inl (.inl x1)), (3, .inl (.inl x3)), (4, .inl (.inl x4))], [.inl (.inl (yrm x1 5)), .inl (.inl (σ.1 (x0 + 3) x4.toNat))], σ)) rfl ?_
        cases hr3 : f_X7_bit N σ (σ.1 (x0 + 3) x4.toNat) (yrm x1 5) with
        | none => rw [hr3] at h; dsimp only at h; cases h
        | some r1 =>
          rw [hr3] at h
          dsimp only at h
          refine yG_c (C1 := (75, [(0, .inr (.inl 4, x0)), (1, .inl (.inl x1)), (3, .inl (.inl x3)), (4, .inl (.inl x4))], [.inl (.inl r1.1)], r1.2)) rfl (e_X7_bit hr3) rfl ?_
          cases hg4 : ycP .ne r1.1 0 with
          | true =>
            rw [hg4] at h
            dsimp only [cond] at h
            refine yG_t (C' := (86, [(0, .inr (.inl 4, x0)), (1, .inl (.inl x1)), (3, .inl (.inl x3)), (4, .inl (.inl x4))], [], r1.2)) rfl hg4 ?_
            exact t_X4_broughtBy_b86 (f_X4_broughtBy_b53 N n) ih r1.2 x0 x1 x3 x4 res h
          | false =>
            rw [hg4] at h
            dsimp only [cond] at h
            refine yG_f (C' := (78, [(0, .inr (.inl 4, x0)), (1, .inl (.inl x1)), (3, .inl (.inl x3)), (4, .inl (.inl x4))], [], r1.2)) rfl hg4 ?_
            refine yG_n (n := 3) (C' := (82, [(0, .inr (.inl 4, x0)), (1, .inl (.inl x1)), (3, .inl (.inl x3)), (4, .inl (.inl x4))], [.inl (.inl 0), .inl (.inl x4), .inl (.inl x3)], r1.2)) rfl ?_
            cases hr5 : f_X7_withBit N r1.2 x3 x4 0 with
            | none => rw [hr5] at h; dsimp only at h; cases h
            | some r2 =>
              rw [hr5] at h
              dsimp only at h
              refine yG_c (C1 := (85, [(0, .inr (.inl 4, x0)), (1, .inl (.inl x1)), (3, .inl (.inl x3)), (4, .inl (.inl x4))], [.inl (.inl r2.1)], r2.2)) rfl (e_X7_withBit hr5) rfl ?_
              refine yG_n (n := 1) (C' := (86, [(3, .inl (.inl r2.1)), (0, .inr (.inl 4, x0)), (1, .inl (.inl x1)), (4, .inl (.inl x4))], [], r2.2)) rfl ?_
              exact yG_w [1, 2, 0, 3] rfl (t_X4_broughtBy_b86 (f_X4_broughtBy_b53 N n) ih r2.2 x0 x1 r2.1 x4 res h)
set_option maxRecDepth 100000 in
set_option maxHeartbeats 4000000 in
theorem t_X4_broughtBy_b28 {N : Nat} {X : zXT} {sh : List yH} {l : Launch} {rm : Room} : ∀ (n : Nat) (σ : yS) (x0 : Nat) (x1 : Int) (x2 : Int) (x3 : Int) (x4 : Int) (res : Int × yS), f_X4_broughtBy_b28 N n σ x0 x1 x2 x3 x4 = some res → G_X4_broughtBy N X sh l rm (28, [(0, .inr (.inl 4, x0)), (1, .inl (.inl x1)), (2, .inl (.inl x2)), (3, .inl (.inl x3)), (4, .inl (.inl x4))], [], σ) (some (.inl (.inl res.1)), res.2) := by
  intro n
  induction n with
  | zero => intro σ x0 x1 x2 x3 x4 res h; exact (yno h).elim
  | succ n ih =>
    intro σ x0 x1 x2 x3 x4 res h
    rw [q_X4_broughtBy_b28] at h
    refine yG_n (n := 1) (C' := (30, [(0, .inr (.inl 4, x0)), (1, .inl (.inl x1)), (2, .inl (.inl x2)), (3, .inl (.inl x3)), (4, .inl (.inl x4))], [.inl (.inl x4)], σ)) rfl ?_
    cases hg6 : ycP .lt x4 0 with
    | true =>
      rw [hg6] at h
      dsimp only [cond] at h
      refine yG_t (C' := (50, [(0, .inr (.inl 4, x0)), (1, .inl (.inl x1)), (2, .inl (.inl x2)), (3, .inl (.inl x3)), (4, .inl (.inl x4))], [], σ)) rfl hg6 ?_
      refine yG_n (n := 2) (C' := (53, [(4, .inl (.inl 0)), (0, .inr (.inl 4, x0)), (1, .inl (.inl x1)), (2, .inl (.inl x2)), (3, .inl (.inl x3))], [], σ)) rfl ?_
      exact yG_w [1, 2, 4, 0] rfl (t_X4_broughtBy_b53 N σ x0 x1 x3 0 res h)
    | false =>
      rw [hg6] at h
      dsimp only [cond] at h
      refine yG_f (C' := (33, [(0, .inr (.inl 4, x0)), (1, .inl (.inl x1)), (2, .inl (.inl x2)), (3, .inl (.inl x3)), (4, .inl (.inl x4))], [], σ)) rfl hg6 ?_
      refine yG_n (n := 5) (C' := (40, [(0, .inr (.inl 4, x0)), (1, .inl (.inl x1)), (2, .inl (.inl x2)), (3, .inl (.inl x3)), (4, .inl (.inl x4))], [.inl (.inl (σ.1 x0 6)), .inl (.inl x2), .inl (.inl x3), .inr (.inl 4, x0)], σ)) rfl ?_
      cases hr7 : f_X4_fallSet N σ x0 x3 x2 (σ.1 x0 6) with
      | none => rw [hr7] at h; dsimp only at h; cases h
      | some r3 =>
        rw [hr7] at h
        dsimp only at h
        refine yG_c (C1 := (43, [(0, .inr (.inl 4, x0)), (1, .inl (.inl x1)), (2, .inl (.inl x2)), (3, .inl (.inl x3)), (4, .inl (.inl x4))], [.inl (.inl r3.1)], r3.2)) rfl (e_X4_fallSet hr7) rfl ?_
        refine yG_n (n := 3) (C' := (28, [(4, .inl (.inl (yad x4 (-1)))), (3, .inl (.inl r3.1)), (0, .inr (.inl 4, x0)), (1, .inl (.inl x1)), (2, .inl (.inl x2))], [], r3.2)) rfl ?_
        exact yG_w [2, 3, 4, 1, 0] rfl (ih r3.2 x0 x1 x2 r3.1 (yad x4 (-1)) res h)
set_option maxRecDepth 100000 in
set_option maxHeartbeats 4000000 in
theorem t_X4_broughtBy {N : Nat} {X : zXT} {sh : List yH} {l : Launch} {rm : Room} (σ : yS) (x0 : Nat) (x1 : Int) (res : Int × yS) (h : f_X4_broughtBy N σ x0 x1 = some res) : G_X4_broughtBy N X sh l rm (0, [(0, .inr (.inl 4, x0)), (1, .inl (.inl x1))], [], σ) (some (.inl (.inl res.1)), res.2) := by
  unfold f_X4_broughtBy at h
  refine yG_n (n := 8) (C' := (9, [(2, .inl (.inl (yrm (ydv x1 20) 5))), (0, .inr (.inl 4, x0)), (1, .inl (.inl x1))], [.inl (.inl 4), .inl (.inl (yrm (ydv x1 20) 5))], σ)) rfl ?_
  cases hg8 : ycP .ne (yrm (ydv x1 20) 5) 4 with
  | true =>
    rw [hg8] at h
    dsimp only [cond] at h
    refine yG_t (C' := (14, [(2, .inl (.inl (yrm (ydv x1 20) 5))), (0, .inr (.inl 4, x0)), (1, .inl (.inl x1))], [], σ)) rfl hg8 ?_
    refine yG_n (n := 12) (C' := (28, [(4, .inl (.inl (yrm (ydv x1 5) 4))), (3, .inl (.inl (ysl 1 (ydv x1 100)))), (2, .inl (.inl (yrm (ydv x1 20) 5))), (0, .inr (.inl 4, x0)), (1, .inl (.inl x1))], [], σ)) rfl ?_
    exact yG_w [3, 4, 2, 1, 0] rfl (t_X4_broughtBy_b28 N σ x0 x1 (yrm (ydv x1 20) 5) (ysl 1 (ydv x1 100)) (yrm (ydv x1 5) 4) res h)
  | false =>
    rw [hg8] at h
    dsimp only [cond] at h
    refine yG_f (C' := (12, [(2, .inl (.inl (yrm (ydv x1 20) 5))), (0, .inr (.inl 4, x0)), (1, .inl (.inl x1))], [], σ)) rfl hg8 ?_
    refine yG_n (n := 1) (C' := (13, [(2, .inl (.inl (yrm (ydv x1 20) 5))), (0, .inr (.inl 4, x0)), (1, .inl (.inl x1))], [.inl (.inl 0)], σ)) rfl ?_
    have h := Option.some.inj h
    subst h
    dsimp only
    exact yG_r rfl rfl
set_option maxRecDepth 100000 in
set_option maxHeartbeats 4000000 in
theorem m_X4_broughtBy {N : Nat} {X : zXT} (hX : zXok X) (hN : zXn X) (l : Launch) {sh : List yH} : yMet X vwCl yct sh l yX4_broughtBy wsX4_broughtBy { frames := 3, cells := 0, slots := 0, locals := 113 } (F_X4_broughtBy N) :=
  ymeth (tb := tb_X4_broughtBy N) (pr := pr_X4_broughtBy) (rt := 1) (own := RX4) hX (by decide +kernel) rfl rfl ⟨Nat.le_of_ble_eq_true rfl, Nat.le_of_ble_eq_true rfl⟩
    (zfl_all (List.forall_mem_cons.mpr ⟨zfl_X4 (fun w h => List.mem_cons_of_mem _ (List.mem_append_right _ h)) (List.mem_of_getElem? (i := 2) rfl) (by decide) (by decide), List.forall_mem_cons.mpr ⟨zfl_X4 (fun w h => List.mem_cons_of_mem _ (List.mem_append_right _ h)) (List.mem_of_getElem? (i := 3) rfl) (by decide) (by decide), List.forall_mem_cons.mpr ⟨zfl_X4 (fun w h => List.mem_cons_of_mem _ (List.mem_append_right _ h)) (List.mem_of_getElem? (i := 1) rfl) (by decide) (by decide), fun _ h => absurd h List.not_mem_nil⟩⟩⟩))
    (zco_all (fun _ h => absurd h List.not_mem_nil)) (zlc_all (fun _ h => absurd h List.not_mem_nil))
    (List.forall_mem_cons.mpr ⟨ycal_V hX (m_X4_fallSet hX hN l) rfl (fun s args hts => cwV 3 hts gX4_broughtBy_X4_fallSet rfl rfl rfl (by decide +kernel) ⟨Nat.le_of_ble_eq_true rfl, Nat.le_of_ble_eq_true rfl⟩), fun _ h => absurd h List.not_mem_nil⟩)
    (List.forall_mem_cons.mpr ⟨ycal_SN hX (m_X7_bit hX hN l) (fun A s args hts hx => ⟨va_cnB 2 hts ggX4_broughtBy_X7_bit rfl rfl rfl (hN A s s.heap hx RX4 126 yX7_bit RX7 (by decide +kernel)) (hts _ (List.mem_of_getElem? (i := 21) rfl)) (by decide +kernel) ⟨Nat.le_of_ble_eq_true rfl, Nat.le_of_ble_eq_true rfl⟩, hts _ (List.mem_of_getElem? (i := 20) rfl), trivial⟩), List.forall_mem_cons.mpr ⟨ycal_SN hX (m_X7_withBit hX hN l) (fun A s args hts hx => ⟨va_cnB 3 hts ggX4_broughtBy_X7_withBit rfl rfl rfl (hN A s s.heap hx RX4 160 yX7_withBit RX7 (by decide +kernel)) (hts _ (List.mem_of_getElem? (i := 21) rfl)) (by decide +kernel) ⟨Nat.le_of_ble_eq_true rfl, Nat.le_of_ble_eq_true rfl⟩, hts _ (List.mem_of_getElem? (i := 23) rfl), trivial⟩), fun _ h => absurd h List.not_mem_nil⟩⟩)
    (zmm_all (fun _ h => absurd h List.not_mem_nil)) (fun _ h => absurd h List.not_mem_nil) (zpr_all hp_X4_broughtBy) (fun as σ res h => by
      unfold F_X4_broughtBy at h
      split at h
      · rename_i x0 x1
        cases hr : f_X4_broughtBy N σ x0 x1 with
        | none => rw [hr] at h; cases h
        | some r =>
          rw [hr] at h
          cases h
          exact ⟨Nat.le_of_ble_eq_true rfl, t_X4_broughtBy σ x0 x1 r hr⟩
      · cases h)
end
