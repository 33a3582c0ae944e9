section
noncomputable def pr_X1_readLine : List (Nat × Instr × Nat) := [(0, .aload_n 0, 1), (1, .ldc 81, 2), (3, .invokevirtual 83, 3), (6, .ifCond .eq 12, 3), (9, .aload_n 0, 1), (10, .aload_n 1, 1), (11, .iconst 0, 1), (12, .invokevirtual 87, 3), (15, .goto 132, 3), (18, .aload_n 0, 1), (19, .ldc 91, 2), (21, .invokevirtual 83, 3), (24, .ifCond .eq 12, 3), (27, .aload_n 0, 1), (28, .aload_n 1, 1), (29, .iconst 1, 1), (30, .invokevirtual 87, 3), (33, .goto 114, 3), (36, .aload_n 0, 1), (37, .ldc 93, 2), (39, .invokevirtual 83, 3), (42, .ifCond .eq 11, 3), (45, .aload_n 0, 1), (46, .aload_n 1, 1), (47, .invokevirtual 95, 3), (50, .goto 97, 3), (53, .aload_n 0, 1), (54, .ldc 98, 2), (56, .invokevirtual 83, 3), (59, .ifCond .eq 11, 3), (62, .aload_n 0, 1), (63, .aload_n 1, 1), (64, .invokevirtual 100, 3), (67, .goto 80, 3), (70, .aload_n 0, 1), (71, .ldc 103, 2), (73, .invokevirtual 83, 3), (76, .ifCond .eq 11, 3), (79, .aload_n 0, 1), (80, .aload_n 1, 1), (81, .invokevirtual 105, 3), (84, .goto 63, 3), (87, .aload_n 0, 1), (88, .ldc 108, 2), (90, .invokevirtual 83, 3), (93, .ifCond .eq 11, 3), (96, .aload_n 0, 1), (97, .aload_n 1, 1), (98, .invokevirtual 110, 3), (101, .goto 46, 3), (104, .aload_n 0, 1), (105, .ldc 113, 2), (107, .invokevirtual 83, 3), (110, .ifCond .eq 11, 3), (113, .aload_n 0, 1), (114, .aload_n 1, 1), (115, .invokevirtual 115, 3), (118, .goto 29, 3), (121, .aload_n 0, 1), (122, .ldc 118, 2), (124, .invokevirtual 83, 3), (127, .ifCond .eq 11, 3), (130, .aload_n 0, 1), (131, .aload_n 1, 1), (132, .invokevirtual 120, 3), (135, .goto 12, 3), (138, .aload_n 0, 1), (139, .iconst 2, 1), (140, .aload_n 0, 1), (141, .getfield 123, 3), (144, .invokevirtual 77, 3), (147, .return_, 1)]
set_option maxRecDepth 100000 in
theorem hp_X1_readLine : pr_X1_readLine.all (fun x => decide (decode cX1_readLine x.1 = .ok x.2)) = true := by decide +kernel
noncomputable def f_X1_readLine_b147 (N : Nat) (σ : yS) : Option (Int × yS) :=
  some (0, σ)
noncomputable def f_X1_readLine (N : Nat) (σ : yS) (x1 : Nat) : Option (Int × yS) :=
  match f_X1_isName [114, 111, 119] σ 2 with
  | none => none
  | some r1 => bif ycP .eq r1.1 0 then
      match f_X1_isName [114, 105, 110, 103] r1.2 2 with
      | none => none
      | some r2 => bif ycP .eq r2.1 0 then
          match f_X1_isName [100, 101, 101, 100] r2.2 2 with
          | none => none
          | some r3 => bif ycP .eq r3.1 0 then
              match f_X1_isName [104, 111, 117, 115, 101] r3.2 2 with
              | none => none
              | some r4 => bif ycP .eq r4.1 0 then
                  match f_X1_isName [108, 97, 119, 121, 101, 114] r4.2 2 with
                  | none => none
                  | some r5 => bif ycP .eq r5.1 0 then
                      match f_X1_isName [104, 97, 98, 105, 116] r5.2 2 with
                      | none => none
                      | some r6 => bif ycP .eq r6.1 0 then
                          match f_X1_isName [118, 111, 119] r6.2 2 with
                          | none => none
                          | some r7 => bif ycP .eq r7.1 0 then
                              match f_X1_isName [119, 97, 110, 116] r7.2 2 with
                              | none => none
                              | some r8 => bif ycP .eq r8.1 0 then
                                  match f_X1_complain N r8.2 2 (r8.2.1 2 3) with
                                  | none => none
                                  | some r9 => f_X1_readLine_b147 N r9.2
                                else
                                  match f_X1_readWant N r8.2 x1 with
                                  | none => none
                                  | some r10 => f_X1_readLine_b147 N r10.2
                            else
                              match f_X1_readVow N r7.2 x1 with
                              | none => none
                              | some r11 => f_X1_readLine_b147 N r11.2
                        else
                          match f_X1_readHabit N r6.2 x1 with
                          | none => none
                          | some r12 => f_X1_readLine_b147 N r12.2
                    else
                      match f_X1_readLawyer N r5.2 x1 with
                      | none => none
                      | some r13 => f_X1_readLine_b147 N r13.2
                else
                  match f_X1_readHouse N r4.2 x1 with
                  | none => none
                  | some r14 => f_X1_readLine_b147 N r14.2
            else
              match f_X1_readDeed N r3.2 x1 with
              | none => none
              | some r15 => f_X1_readLine_b147 N r15.2
        else
          match f_X1_readShape N r2.2 x1 1 with
          | none => none
          | some r16 => f_X1_readLine_b147 N r16.2
    else
      match f_X1_readShape N r1.2 x1 0 with
      | none => none
      | some r17 => f_X1_readLine_b147 N r17.2
noncomputable def F_X1_readLine (N : Nat) : yF := fun as σ => match as with
  | [.inr (.inl 1, 2), .inr (.inl 4, x1)] => (f_X1_readLine N σ x1).map (fun r => (none, r.2))
  | _ => none
theorem e_X1_readLine {N : Nat} {σ : yS} {x1 : Nat} {r : Int × yS} (h : f_X1_readLine N σ x1 = some r) : F_X1_readLine N [.inr (.inl 1, 2), .inr (.inl 4, x1)] σ = some (none, r.2) := by
  show (f_X1_readLine N σ x1).map (fun r => ((none, r.2) : yR)) = _
  rw [h]
  rfl
noncomputable def tb_X1_readLine (N : Nat) : yTb := ([(123, 1, 3, 0)], [], [], [(77, 3, 1, F_X1_complain N), (87, 3, 1, F_X1_readShape N), (95, 2, 1, F_X1_readDeed N), (100, 2, 1, F_X1_readHouse N), (105, 2, 1, F_X1_readLawyer N), (110, 2, 1, F_X1_readHabit N), (115, 2, 1, F_X1_readVow N), (120, 2, 1, F_X1_readWant N)], [], [], [(81, 83, F_T [114, 111, 119]), (91, 83, F_T [114, 105, 110, 103]), (93, 83, F_T [100, 101, 101, 100]), (98, 83, F_T [104, 111, 117, 115, 101]), (103, 83, F_T [108, 97, 119, 121, 101, 114]), (108, 83, F_T [104, 97, 98, 105, 116]), (113, 83, F_T [118, 111, 119]), (118, 83, F_T [119, 97, 110, 116])])
abbrev G_X1_readLine (N : Nat) (X : zXT) (sh : List yH) (l : Launch) (rm : Room) : yC → yR → Prop := yGoes X vwCl yct sh l rm cX1_readLine 2 wsX1_readLine RX1 (tb_X1_readLine N) pr_X1_readLine 0
set_option maxRecDepth 100000 in
set_option maxHeartbeats 4000000 in
theorem t_X1_readLine_b147 {N : Nat} {X : zXT} {sh : List yH} {l : Launch} {rm : Room} (σ : yS) (res : Int × yS) (h : f_X1_readLine_b147 N σ = some res) : G_X1_readLine N X sh l rm (147, [], [], σ) (none, res.2) := by
  unfold f_X1_readLine_b147 at h
  have h := Option.some.inj h
  subst h
  dsimp only
  exact yG_r rfl rfl
set_option maxRecDepth 100000 in
set_option maxHeartbeats 4000000 in
theorem t_X1_readLine {N : Nat} {X : zXT} {sh : List yH} {l : Launch} {rm : Room} (σ : yS) (x1 : Nat) (res : Int × yS) (h : f_X1_readLine N σ x1 = some res) : G_X1_readLine N X sh l rm (0, [(0, .inr (.inl 1, 2)), (1, .inr (.inl 4, x1))], [], σ) (none, res.2) := by
  unfold f_X1_readLine at h
  refine yG_n (n := 1) (C' := (1, [(0, .inr (.inl 1, 2)), (1, .inr (.inl 4, x1))], [.inr (.inl 1, 2)], σ)) rfl ?_
  cases hr1 : f_X1_isName [114, 111, 119] σ 2 with
  | none => rw [hr1] at h; dsimp only at h; cases h
  | some r1 =>
    rw [hr1] at h
    dsimp only at h
    refine yG_c (C1 := (6, [(0, .inr (.inl 1, 2)), (1, .inr (.inl 4, x1))], [.inl (.inl r1.1)], r1.2)) rfl (e_T hr1) rfl ?_
    cases hg2 : ycP .eq r1.1 0 with
    | true =>
      rw [hg2] at h
      dsimp only [cond] at h
      refine yG_t (C' := (18, [(0, .inr (.inl 1, 2)), (1, .inr (.inl 4, x1))], [], r1.2)) rfl hg2 ?_
      refine yG_n (n := 1) (C' := (19, [(0, .inr (.inl 1, 2)), (1, .inr (.inl 4, x1))], [.inr (.inl 1, 2)], r1.2)) rfl ?_
      cases hr3 : f_X1_isName [114, 105, 110, 103] r1.2 2 with
      | none => rw [hr3] at h; dsimp only at h; cases h
      | some r2 =>
        rw [hr3] at h
        dsimp only at h
        refine yG_c (C1 := (24, [(0, .inr (.inl 1, 2)), (1, .inr (.inl 4, x1))], [.inl (.inl r2.1)], r2.2)) rfl (e_T hr3) rfl ?_
        cases hg4 : ycP .eq r2.1 0 with
        | true =>
          rw [hg4] at h
          dsimp only [cond] at h
          refine yG_t (C' := (36, [(0, .inr (.inl 1, 2)), (1, .inr (.inl 4, x1))], [], r2.2)) rfl hg4 ?_
          refine yG_n (n := 1) (C' := (37, [(0, .inr (.inl 1, 2)), (1, .inr (.inl 4, x1))], [.inr (.inl 1, 2)], r2.2)) rfl ?_
          cases hr5 : f_X1_isName [100, 101, 101, 100] r2.2 2 with
          | none => rw [hr5] at h; dsimp only at h; cases h
          | some r3 =>
            rw [hr5] at h
            dsimp only at h
            refine yG_c (C1 := (42, [(0, .inr (.inl 1, 2)), (1, .inr (.inl 4, x1))], [.inl (.inl r3.1)], r3.2)) rfl (e_T hr5) rfl ?_
            cases hg6 : ycP .eq r3.1 0 with
            | true =>
              rw [hg6] at h
              dsimp only [cond] at h
              refine yG_t (C' := (53, [(0, .inr (.inl 1, 2)), (1, .inr (.inl 4, x1))], [], r3.2)) rfl hg6 ?_
              refine yG_n (n := 1) (C' := (54, [(0, .inr (.inl 1, 2)), (1, .inr (.inl 4, x1))], [.inr (.inl 1, 2)], r3.2)) rfl ?_
              cases hr7 : f_X1_isName [104, 111, 117, 115, 101] r3.2 2 with
              | none => rw [hr7] at h; dsimp only at h; cases h
              | some r4 =>
                rw [hr7] at h
                dsimp only at h
                refine yG_c (C1 := (59, [(0, .inr (.inl 1, 2)), (1, .inr (.inl 4, x1))], [.inl (.inl r4.1)], r4.2)) rfl (e_T hr7) rfl ?_
                cases hg8 : ycP .eq r4.1 0 with
                | true =>
                  rw [hg8] at h
                  dsimp only [cond] at h
                  refine yG_t (C' := (70, [(0, .inr (.inl 1, 2)), (1, .inr (.inl 4, x1))], [], r4.2)) rfl hg8 ?_
                  refine yG_n (n := 1) (C' := (71, [(0, .inr (.inl 1, 2)), (1, .inr (.inl 4, x1))], [.inr (.inl 1, 2)], r4.2)) rfl ?_
                  cases hr9 : f_X1_isName [108, 97, 119, 121, 101, 114] r4.2 2 with
                  | none => rw [hr9] at h; dsimp only at h; cases h
                  | some r5 =>
                    rw [hr9] at h
                    dsimp only at h
                    refine yG_c (C1 := (76, [(0, .inr (.inl 1, 2)), (1, .inr (.inl 4, x1))], [.inl (.inl r5.1)], r5.2)) rfl (e_T hr9) rfl ?_
                    cases hg10 : ycP .eq r5.1 0 with
                    | true =>
                      rw [hg10] at h
                      dsimp only [cond] at h
                      refine yG_t (C' := (87, [(0, .inr (.inl 1, 2)), (1, .inr (.inl 4, x1))], [], r5.2)) rfl hg10 ?_
                      refine yG_n (n := 1) (C' := (88, [(0, .inr (.inl 1, 2)), (1, .inr (.inl 4, x1))], [.inr (.inl 1, 2)], r5.2)) rfl ?_
                      cases hr11 : f_X1_isName [104, 97, 98, 105, 116] r5.2 2 with
                      | none => rw [hr11] at h; dsimp only at h; cases h
                      | some r6 =>
                        rw [hr11] at h
                        dsimp only at h
                        refine yG_c (C1 := (93, [(0, .inr (.inl 1, 2)), (1, .inr (.inl 4, x1))], [.inl (.inl r6.1)], r6.2)) rfl (e_T hr11) rfl ?_
                        cases hg12 : ycP .eq r6.1 0 with
                        | true =>
                          rw [hg12] at h
                          dsimp only [cond] at h
                          refine yG_t (C' := (104, [(0, .inr (.inl 1, 2)), (1, .inr (.inl 4, x1))], [], r6.2)) rfl hg12 ?_
                          refine yG_n (n := 1) (C' := (105, [(0, .inr (.inl 1, 2)), (1, .inr (.inl 4, x1))], [.inr (.inl 1, 2)], r6.2)) rfl ?_
                          cases hr13 : f_X1_isName [118, 111, 119] r6.2 2 with
                          | none => rw [hr13] at h; dsimp only at h; cases h
                          | some r7 =>
                            rw [hr13] at h
                            dsimp only at h
                            refine yG_c (C1 := (110, [(0, .inr (.inl 1, 2)), (1, .inr (.inl 4, x1))], [.inl (.inl r7.1)], r7.2)) rfl (e_T hr13) rfl ?_
                            cases hg14 : ycP .eq r7.1 0 with
                            | true =>
                              rw [hg14] at h
                              dsimp only [cond] at h
                              refine yG_t (C' := (121, [(0, .inr (.inl 1, 2)), (1, .inr (.inl 4, x1))], [], r7.2)) rfl hg14 ?_
                              refine yG_n (n := 1) (C' := (122, [(0, .inr (.inl 1, 2)), (1, .inr (.inl 4, x1))], [.inr (.inl 1, 2)], r7.2)) rfl ?_
                              cases hr15 : f_X1_isName [119, 97, 110, 116] r7.2 2 with
                              | none => rw [hr15] at h; dsimp only at h; cases h
                              | some r8 =>
                                rw [hr15] at h
                                dsimp only at h
                                refine yG_c (C1 := (127, [(0, .inr (.inl 1, 2)), (1, .inr (.inl 4, x1))], [.inl (.inl r8.1)], r8.2)) rfl (e_T hr15) rfl ?_
                                cases hg16 : ycP .eq r8.1 0 with
                                | true =>
                                  rw [hg16] at h
                                  dsimp only [cond] at h
                                  refine yG_t (C' := (138, [(0, .inr (.inl 1, 2)), (1, .inr (.inl 4, x1))], [], r8.2)) rfl hg16 ?_
                                  refine yG_n (n := 4) (C' := (144, [(0, .inr (.inl 1, 2)), (1, .inr (.inl 4, x1))], [.inl (.inl (r8.2.1 2 3)), .inl (.inl 2), .inr (.inl 1, 2)], r8.2)) rfl ?_
                                  cases hr17 : f_X1_complain N r8.2 2 (r8.2.1 2 3) with
                                  | none => rw [hr17] at h; dsimp only at h; cases h
                                  | some r9 =>
                                    rw [hr17] at h
                                    dsimp only at h
                                    refine yG_c (C1 := (147, [(0, .inr (.inl 1, 2)), (1, .inr (.inl 4, x1))], [], r9.2)) rfl (e_X1_complain hr17) rfl ?_
                                    exact yG_w [] rfl (t_X1_readLine_b147 r9.2 res h)
                                | false =>
                                  rw [hg16] at h
                                  dsimp only [cond] at h
                                  refine yG_f (C' := (130, [(0, .inr (.inl 1, 2)), (1, .inr (.inl 4, x1))], [], r8.2)) rfl hg16 ?_
                                  refine yG_n (n := 2) (C' := (132, [(0, .inr (.inl 1, 2)), (1, .inr (.inl 4, x1))], [.inr (.inl 4, x1), .inr (.inl 1, 2)], r8.2)) rfl ?_
                                  cases hr18 : f_X1_readWant N r8.2 x1 with
                                  | none => rw [hr18] at h; dsimp only at h; cases h
                                  | some r10 =>
                                    rw [hr18] at h
                                    dsimp only at h
                                    refine yG_c (C1 := (135, [(0, .inr (.inl 1, 2)), (1, .inr (.inl 4, x1))], [], r10.2)) rfl (e_X1_readWant hr18) rfl ?_
                                    refine yG_n (n := 1) (C' := (147, [(0, .inr (.inl 1, 2)), (1, .inr (.inl 4, x1))], [], r10.2)) rfl ?_
                                    exact yG_w [] rfl (t_X1_readLine_b147 r10.2 res h)
                            | false =>
                              rw [hg14] at h
                              dsimp only [cond] at h
                              refine yG_f (C' := (113, [(0, .inr (.inl 1, 2)), (1, .inr (.inl 4, x1))], [], r7.2)) rfl hg14 ?_
                              refine yG_n (n := 2) (C' := (115, [(0, .inr (.inl 1, 2)), (1, .inr (.inl 4, x1))], [.inr (.inl 4, x1), .inr (.inl 1, 2)], r7.2)) rfl ?_
                              cases hr19 : f_X1_readVow N r7.2 x1 with
                              | none => rw [hr19] at h; dsimp only at h; cases h
                              | some r11 =>
                                rw [hr19] at h
                                dsimp only at h
                                refine yG_c (C1 := (118, [(0, .inr (.inl 1, 2)), (1, .inr (.inl 4, x1))], [], r11.2)) rfl (e_X1_readVow hr19) rfl ?_
                                refine yG_n (n := 1) (C' := (147, [(0, .inr (.inl 1, 2)), (1, .inr (.inl 4, x1))], [], r11.2)) rfl ?_
                                exact yG_w [] rfl (t_X1_readLine_b147 r11.2 res h)
                        | false =>
                          rw [hg12] at h
                          dsimp only [cond] at h
                          refine yG_f (C' := (96, [(0, .inr (.inl 1, 2)), (1, .inr (.inl 4, x1))], [], r6.2)) rfl hg12 ?_
                          refine yG_n (n := 2) (C' := (98, [(0, .inr (.inl 1, 2)), (1, .inr (.inl 4, x1))], [.inr (.inl 4, x1), .inr (.inl 1, 2)], r6.2)) rfl ?_
                          cases hr20 : f_X1_readHabit N r6.2 x1 with
                          | none => rw [hr20] at h; dsimp only at h; cases h
                          | some r12 =>
                            rw [hr20] at h
                            dsimp only at h
                            refine yG_c (C1 := (101, [(0, .inr (.inl 1, 2)), (1, .inr (.inl 4, x1))], [], r12.2)) rfl (e_X1_readHabit hr20) rfl ?_
                            refine yG_n (n := 1) (C' := (147, [(0, .inr (.inl 1, 2)), (1, .inr (.inl 4, x1))], [], r12.2)) rfl ?_
                            exact yG_w [] rfl (t_X1_readLine_b147 r12.2 res h)
                    | false =>
                      rw [hg10] at h
                      dsimp only [cond] at h
                      refine yG_f (C' := (79, [(0, .inr (.inl 1, 2)), (1, .inr (.inl 4, x1))], [], r5.2)) rfl hg10 ?_
                      refine yG_n (n := 2) (C' := (81, [(0, .inr (.inl 1, 2)), (1, .inr (.inl 4, x1))], [.inr (.inl 4, x1), .inr (.inl 1, 2)], r5.2)) rfl ?_
                      cases hr21 : f_X1_readLawyer N r5.2 x1 with
                      | none => rw [hr21] at h; dsimp only at h; cases h
                      | some r13 =>
                        rw [hr21] at h
                        dsimp only at h
                        refine yG_c (C1 := (84, [(0, .inr (.inl 1, 2)), (1, .inr (.inl 4, x1))], [], r13.2)) rfl (e_X1_readLawyer hr21) rfl ?_
                        refine yG_n (n := 1) (C' := (147, [(0, .inr (.inl 1, 2)), (1, .inr (.inl 4, x1))], [], r13.2)) rfl ?_
                        exact yG_w [] rfl (t_X1_readLine_b147 r13.2 res h)
                | false =>
                  rw [hg8] at h
                  dsimp only [cond] at h
                  refine yG_f (C' := (62, [(0, .inr (.inl 1, 2)), (1, .inr (.inl 4, x1))], [], r4.2)) rfl hg8 ?_
                  refine yG_n (n := 2) (C' := (64, [(0, .inr (.inl 1, 2)), (1, .inr (.inl 4, x1))], [.inr (.inl 4, x1), .inr (.inl 1, 2)], r4.2)) rfl ?_
                  cases hr22 : f_X1_readHouse N r4.2 x1 with
                  | none => rw [hr22] at h; dsimp only at h; cases h
                  | some r14 =>
                    rw [hr22] at h
                    dsimp only at h
                    refine yG_c (C1 := (67, [(0, .inr (.inl 1, 2)), (1, .inr (.inl 4, x1))], [], r14.2)) rfl (e_X1_readHouse hr22) rfl ?_
                    refine yG_n (n := 1) (C' := (147, [(0, .inr (.inl 1, 2)), (1, .inr (.inl 4, x1))], [], r14.2)) rfl ?_
                    exact yG_w [] rfl (t_X1_readLine_b147 r14.2 res h)
            | false =>
              rw [hg6] at h
              dsimp only [cond] at h
              refine yG_f (C' := (45, [(0, .inr (.inl 1, 2)), (1, .inr (.inl 4, x1))], [], r3.2)) rfl hg6 ?_
              refine yG_n (n := 2) (C' := (47, [(0, .inr (.inl 1, 2)), (1, .inr (.inl 4, x1))], [.inr (.inl 4, x1), .inr (.inl 1, 2)], r3.2)) rfl ?_
              cases hr23 : f_X1_readDeed N r3.2 x1 with
              | none => rw [hr23] at h; dsimp only at h; cases h
              | some r15 =>
                rw [hr23] at h
                dsimp only at h
                refine yG_c (C1 := (50, [(0, .inr (.inl 1, 2)), (1, .inr (.inl 4, x1))], [], r15.2)) rfl (e_X1_readDeed hr23) rfl ?_
                refine yG_n (n := 1) (C' := (147, [(0, .inr (.inl 1, 2)), (1, .inr (.inl 4, x1))], [], r15.2)) rfl ?_
                exact yG_w [] rfl (t_X1_readLine_b147 r15.2 res h)
        | false =>
          rw [hg4] at h
          dsimp only [cond] at h
          refine yG_f (C' := (27, [(0, .inr (.inl 1, 2)), (1, .inr (.inl 4, x1))], [], r2.2)) rfl hg4 ?_
          refine yG_n (n := 3) (C' := (30, [(0, .inr (.inl 1, 2)), (1, .inr (.inl 4, x1))], [.inl (.inl 1), .inr (.inl 4, x1), .inr (.inl 1, 2)], r2.2)) rfl ?_
          cases hr24 : f_X1_readShape N r2.2 x1 1 with
          | none => rw [hr24] at h; dsimp only at h; cases h
          | some r16 =>
            rw [hr24] at h
            dsimp only at h
            refine yG_c (C1 := (33, [(0, .inr (.inl 1, 2)), (1, .inr (.inl 4, x1))], [], r16.2)) rfl (e_X1_readShape hr24) rfl ?_
            refine yG_n (n := 1) (C' := (147, [(0, .inr (.inl 1, 2)), (1, .inr (.inl 4, x1))], [], r16.2)) rfl ?_
            exact yG_w [] rfl (t_X1_readLine_b147 r16.2 res h)
    | false =>
      rw [hg2] at h
      dsimp only [cond] at h
      refine yG_f (C' := (9, [(0, .inr (.inl 1, 2)), (1, .inr (.inl 4, x1))], [], r1.2)) rfl hg2 ?_
      refine yG_n (n := 3) (C' := (12, [(0, .inr (.inl 1, 2)), (1, .inr (.inl 4, x1))], [.inl (.inl 0), .inr (.inl 4, x1), .inr (.inl 1, 2)], r1.2)) rfl ?_
      cases hr25 : f_X1_readShape N r1.2 x1 0 with
      | none => rw [hr25] at h; dsimp only at h; cases h
      | some r17 =>
        rw [hr25] at h
        dsimp only at h
        refine yG_c (C1 := (15, [(0, .inr (.inl 1, 2)), (1, .inr (.inl 4, x1))], [], r17.2)) rfl (e_X1_readShape hr25) rfl ?_
        refine yG_n (n := 1) (C' := (147, [(0, .inr (.inl 1, 2)), (1, .inr (.inl 4, x1))], [], r17.2)) rfl ?_
        exact yG_w [] rfl (t_X1_readLine_b147 r17.2 res h)
set_option maxRecDepth 100000 in
set_option maxHeartbeats 4000000 in
theorem m_X1_readLine {N : Nat} {X : zXT} (hX : zXok X) (hN : zXn X) (hs : yXs X) (l : Launch) {sh : List yH} (hsh : yshR sh) : yMet X vwCl yct sh l yX1_readLine wsX1_readLine { frames := 8, cells := 0, slots := 0, locals := 266 } (F_X1_readLine N) :=
  ymeth (tb := tb_X1_readLine N) (pr := pr_X1_readLine) (rt := 0) (own := RX1) hX (by decide +kernel) rfl rfl ⟨Nat.le_of_ble_eq_true rfl, Nat.le_of_ble_eq_true rfl⟩
    (zfl_all (List.forall_mem_cons.mpr ⟨zfl_X1 (fun w h => List.mem_cons_of_mem _ (List.mem_append_left _ (List.mem_append_left _ (List.mem_append_left _ (List.mem_append_left _ (List.mem_append_right _ h)))))) (List.mem_of_getElem? (i := 1) rfl) (by decide) (by decide), fun _ h => absurd h List.not_mem_nil⟩))
    (zco_all (fun _ h => absurd h List.not_mem_nil)) (zlc_all (fun _ h => absurd h List.not_mem_nil))
    (List.forall_mem_cons.mpr ⟨ycal_V hX (m_X1_complain hX hN l) rfl (fun s args hts => cwV 2 hts gX1_readLine_X1_complain rfl rfl rfl (by decide +kernel) ⟨Nat.le_of_ble_eq_true rfl, Nat.le_of_ble_eq_true rfl⟩), List.forall_mem_cons.mpr ⟨ycal_V hX (m_X1_readShape hX hN l) rfl (fun s args hts => cwV 2 hts gX1_readLine_X1_readShape rfl rfl rfl (by decide +kernel) ⟨Nat.le_of_ble_eq_true rfl, Nat.le_of_ble_eq_true rfl⟩), List.forall_mem_cons.mpr ⟨ycal_V hX (m_X1_readDeed hX hN l) rfl (fun s args hts => cwV 1 hts gX1_readLine_X1_readDeed rfl rfl rfl (by decide +kernel) ⟨Nat.le_of_ble_eq_true rfl, Nat.le_of_ble_eq_true rfl⟩), List.forall_mem_cons.mpr ⟨ycal_V hX (m_X1_readHouse hX hN l) rfl (fun s args hts => cwV 1 hts gX1_readLine_X1_readHouse rfl rfl rfl (by decide +kernel) ⟨Nat.le_of_ble_eq_true rfl, Nat.le_of_ble_eq_true rfl⟩), List.forall_mem_cons.mpr ⟨ycal_V hX (m_X1_readLawyer hX hN l) rfl (fun s args hts => cwV 1 hts gX1_readLine_X1_readLawyer rfl rfl rfl (by decide +kernel) ⟨Nat.le_of_ble_eq_true rfl, Nat.le_of_ble_eq_true rfl⟩), List.forall_mem_cons.mpr ⟨ycal_V hX (m_X1_readHabit hX hN hs l hsh) rfl (fun s args hts => cwV 1 hts gX1_readLine_X1_readHabit rfl rfl rfl (by decide +kernel) ⟨Nat.le_of_ble_eq_true rfl, Nat.le_of_ble_eq_true rfl⟩), List.forall_mem_cons.mpr ⟨ycal_V hX (m_X1_readVow hX hN hs l hsh) rfl (fun s args hts => cwV 1 hts gX1_readLine_X1_readVow rfl rfl rfl (by decide +kernel) ⟨Nat.le_of_ble_eq_true rfl, Nat.le_of_ble_eq_true rfl⟩), List.forall_mem_cons.mpr ⟨ycal_V hX (m_X1_readWant hX hN l) rfl (fun s args hts => cwV 1 hts gX1_readLine_X1_readWant rfl rfl rfl (by decide +kernel) ⟨Nat.le_of_ble_eq_true rfl, Nat.le_of_ble_eq_true rfl⟩), fun _ h => absurd h List.not_mem_nil⟩⟩⟩⟩⟩⟩⟩⟩)
    (fun _ h => absurd h List.not_mem_nil)
    (zmm_all (fun _ h => absurd h List.not_mem_nil)) (List.forall_mem_cons.mpr ⟨ycal_T hX hs hsh (tx := "row") (byt := [114, 111, 119]) (wl := [114, 111, 119]) (by decide +kernel) (fun s args hts => cwV 1 hts gX1_readLine_X1_isName rfl rfl rfl (by decide +kernel) ⟨Nat.le_of_ble_eq_true rfl, Nat.le_of_ble_eq_true rfl⟩), List.forall_mem_cons.mpr ⟨ycal_T hX hs hsh (tx := "ring") (byt := [114, 105, 110, 103]) (wl := [114, 105, 110, 103]) (by decide +kernel) (fun s args hts => cwV 1 hts gX1_readLine_X1_isName rfl rfl rfl (by decide +kernel) ⟨Nat.le_of_ble_eq_true rfl, Nat.le_of_ble_eq_true rfl⟩), List.forall_mem_cons.mpr ⟨ycal_T hX hs hsh (tx := "deed") (byt := [100, 101, 101, 100]) (wl := [100, 101, 101, 100]) (by decide +kernel) (fun s args hts => cwV 1 hts gX1_readLine_X1_isName rfl rfl rfl (by decide +kernel) ⟨Nat.le_of_ble_eq_true rfl, Nat.le_of_ble_eq_true rfl⟩), List.forall_mem_cons.mpr ⟨ycal_T hX hs hsh (tx := "house") (byt := [104, 111, 117, 115, 101]) (wl := [104, 111, 117, 115, 101]) (by decide +kernel) (fun s args hts => cwV 1 hts gX1_readLine_X1_isName rfl rfl rfl (by decide +kernel) ⟨Nat.le_of_ble_eq_true rfl, Nat.le_of_ble_eq_true rfl⟩), List.forall_mem_cons.mpr ⟨ycal_T hX hs hsh (tx := "lawyer") (byt := [108, 97, 119, 121, 101, 114]) (wl := [108, 97, 119, 121, 101, 114]) (by decide +kernel) (fun s args hts => cwV 1 hts gX1_readLine_X1_isName rfl rfl rfl (by decide +kernel) ⟨Nat.le_of_ble_eq_true rfl, Nat.le_of_ble_eq_true rfl⟩), List.forall_mem_cons.mpr ⟨ycal_T hX hs hsh (tx := "habit") (byt := [104, 97, 98, 105, 116]) (wl := [104, 97, 98, 105, 116]) (by decide +kernel) (fun s args hts => cwV 1 hts gX1_readLine_X1_isName rfl rfl rfl (by decide +kernel) ⟨Nat.le_of_ble_eq_true rfl, Nat.le_of_ble_eq_true rfl⟩), List.forall_mem_cons.mpr ⟨ycal_T hX hs hsh (tx := "vow") (byt := [118, 111, 119]) (wl := [118, 111, 119]) (by decide +kernel) (fun s args hts => cwV 1 hts gX1_readLine_X1_isName rfl rfl rfl (by decide +kernel) ⟨Nat.le_of_ble_eq_true rfl, Nat.le_of_ble_eq_true rfl⟩), List.forall_mem_cons.mpr ⟨ycal_T hX hs hsh (tx := "want") (byt := [119, 97, 110, 116]) (wl := [119, 97, 110, 116]) (by decide +kernel) (fun s args hts => cwV 1 hts gX1_readLine_X1_isName rfl rfl rfl (by decide +kernel) ⟨Nat.le_of_ble_eq_true rfl, Nat.le_of_ble_eq_true rfl⟩), fun _ h => absurd h List.not_mem_nil⟩⟩⟩⟩⟩⟩⟩⟩) (zpr_all hp_X1_readLine) (fun as σ res h => by
      unfold F_X1_readLine at h
      split at h
      · rename_i x1
        cases hr : f_X1_readLine N σ x1 with
        | none => rw [hr] at h; cases h
        | some r =>
          rw [hr] at h
          cases h
          exact ⟨Nat.le_of_ble_eq_true rfl, t_X1_readLine σ x1 r hr⟩
      · cases h)
noncomputable def pr_X1_needStroke : List (Nat × Instr × Nat) := [(0, .aload_n 0, 1), (1, .getfield 58, 3), (4, .iconst 3, 1), (5, .if_icmp .eq 12, 3), (8, .aload_n 0, 1), (9, .iconst 2, 1), (10, .aload_n 0, 1), (11, .getfield 123, 3), (14, .invokevirtual 77, 3), (17, .return_, 1)]
set_option maxRecDepth 100000 in
theorem hp_X1_needStroke : pr_X1_needStroke.all (fun x => decide (decode cX1_needStroke x.1 = .ok x.2)) = true := by decide +kernel
noncomputable def f_X1_needStroke_b17 (N : Nat) (σ : yS) : Option (Int × yS) :=
  some (0, σ)
noncomputable def f_X1_needStroke (N : Nat) (σ : yS) : Option (Int × yS) :=
  bif ycP .eq (σ.1 2 2) 3 then
    f_X1_needStroke_b17 N σ
  else
    match f_X1_complain N σ 2 (σ.1 2 3) with
    | none => none
    | some r1 => f_X1_needStroke_b17 N r1.2
noncomputable def F_X1_needStroke (N : Nat) : yF := fun as σ => match as with
  | [.inr (.inl 1, 2)] => (f_X1_needStroke N σ).map (fun r => (none, r.2))
  | _ => none
theorem e_X1_needStroke {N : Nat} {σ : yS} {r : Int × yS} (h : f_X1_needStroke N σ = some r) : F_X1_needStroke N [.inr (.inl 1, 2)] σ = some (none, r.2) := by
  show (f_X1_needStroke N σ).map (fun r => ((none, r.2) : yR)) = _
  rw [h]
  rfl
noncomputable def tb_X1_needStroke (N : Nat) : yTb := ([(58, 1, 2, 0), (123, 1, 3, 0)], [], [], [(77, 3, 1, F_X1_complain N)], [], [], [])
abbrev G_X1_needStroke (N : Nat) (X : zXT) (sh : List yH) (l : Launch) (rm : Room) : yC → yR → Prop := yGoes X vwCl yct sh l rm cX1_needStroke 1 wsX1_needStroke RX1 (tb_X1_needStroke N) pr_X1_needStroke 0
set_option maxRecDepth 100000 in
set_option maxHeartbeats 4000000 in
theorem t_X1_needStroke_b17 {N : Nat} {X : zXT} {sh : List yH} {l : Launch} {rm : Room} (σ : yS) (res : Int × yS) (h : f_X1_needStroke_b17 N σ = some res) : G_X1_needStroke N X sh l rm (17, [], [], σ) (none, res.2) := by
  unfold f_X1_needStroke_b17 at h
  have h := Option.some.inj h
  subst h
  dsimp only
  exact yG_r rfl rfl
set_option maxRecDepth 100000 in
set_option maxHeartbeats 4000000 in
theorem t_X1_needStroke {N : Nat} {X : zXT} {sh : List yH} {l : Launch} {rm : Room} (σ : yS) (res : Int × yS) (h : f_X1_needStroke N σ = some res) : G_X1_needStroke N X sh l rm (0, [(0, .inr (.inl 1, 2))], [], σ) (none, res.2) := by
  unfold f_X1_needStroke at h
  refine yG_n (n := 3) (C' := (5, [(0, .inr (.inl 1, 2))], [.inl (.inl 3), .inl (.inl (σ.1 2 2))], σ)) rfl ?_
  cases hg1 : ycP .eq (σ.1 2 2) 3 with
  | true =>
    rw [hg1] at h
    dsimp only [cond] at h
    refine yG_t (C' := (17, [(0, .inr (.inl 1, 2))], [], σ)) rfl hg1 ?_
    exact yG_w [] rfl (t_X1_needStroke_b17 σ res h)
  | false =>
    rw [hg1] at h
    dsimp only [cond] at h
    refine yG_f (C' := (8, [(0, .inr (.inl 1, 2))], [], σ)) rfl hg1 ?_
    refine yG_n (n := 4) (C' := (14, [(0, .inr (.inl 1, 2))], [.inl (.inl (σ.1 2 3)), .inl (.inl 2), .inr (.inl 1, 2)], σ)) rfl ?_
    cases hr2 : f_X1_complain N σ 2 (σ.1 2 3) with
    | none => rw [hr2] at h; dsimp only at h; cases h
    | some r1 =>
      rw [hr2] at h
      dsimp only at h
      refine yG_c (C1 := (17, [(0, .inr (.inl 1, 2))], [], r1.2)) rfl (e_X1_complain hr2) rfl ?_
      exact yG_w [] rfl (t_X1_needStroke_b17 r1.2 res h)
set_option maxRecDepth 100000 in
set_option maxHeartbeats 4000000 in
theorem m_X1_needStroke {N : Nat} {X : zXT} (hX : zXok X) (hN : zXn X) (l : Launch) {sh : List yH} : yMet X vwCl yct sh l yX1_needStroke wsX1_needStroke { frames := 2, cells := 0, slots := 0, locals := 86 } (F_X1_needStroke N) :=
  ymeth (tb := tb_X1_needStroke N) (pr := pr_X1_needStroke) (rt := 0) (own := RX1) hX (by decide +kernel) rfl rfl ⟨Nat.le_of_ble_eq_true rfl, Nat.le_of_ble_eq_true rfl⟩
    (zfl_all (List.forall_mem_cons.mpr ⟨zfl_X1 (fun w h => List.mem_cons_of_mem _ (List.mem_append_right _ h)) (List.mem_of_getElem? (i := 1) rfl) (by decide) (by decide), List.forall_mem_cons.mpr ⟨zfl_X1 (fun w h => List.mem_cons_of_mem _ (List.mem_append_right _ h)) (List.mem_of_getElem? (i := 2) rfl) (by decide) (by decide), fun _ h => absurd h List.not_mem_nil⟩⟩))
    (zco_all (fun _ h => absurd h List.not_mem_nil)) (zlc_all (fun _ h => absurd h List.not_mem_nil))
    (List.forall_mem_cons.mpr ⟨ycal_V hX (m_X1_complain hX hN l) rfl (fun s args hts => cwV 2 hts gX1_needStroke_X1_complain rfl rfl rfl (by decide +kernel) ⟨Nat.le_of_ble_eq_true rfl, Nat.le_of_ble_eq_true rfl⟩), fun _ h => absurd h List.not_mem_nil⟩)
    (fun _ h => absurd h List.not_mem_nil)
    (zmm_all (fun _ h => absurd h List.not_mem_nil)) (fun _ h => absurd h List.not_mem_nil) (zpr_all hp_X1_needStroke) (fun as σ res h => by
      unfold F_X1_needStroke at h
      split at h
      · cases hr : f_X1_needStroke N σ with
        | none => rw [hr] at h; cases h
        | some r =>
          rw [hr] at h
          cases h
          exact ⟨Nat.le_of_ble_eq_true rfl, t_X1_needStroke σ r hr⟩
      · cases h)
noncomputable def pr_X1_readInto : List (Nat × Instr × Nat) := [(0, .aload_n 1, 1), (1, .invokevirtual 18, 3), (4, .aload_n 0, 1), (5, .iconst 0, 1), (6, .putfield 23, 3), (9, .aload_n 0, 1), (10, .iconst 0, 1), (11, .putfield 27, 3), (14, .aload_n 0, 1), (15, .iconst 0, 1), (16, .putfield 30, 3), (19, .aload_n 0, 1), (20, .iconst 0, 1), (21, .putfield 33, 3), (24, .aload_n 0, 1), (25, .iconst 0, 1), (26, .putfield 36, 3), (29, .aload_n 0, 1), (30, .iconst 0, 1), (31, .putfield 40, 3), (34, .aload_n 0, 1), (35, .iconst 0, 1), (36, .putfield 43, 3), (39, .aload_n 0, 1), (40, .iconst 0, 1), (41, .putfield 46, 3), (44, .aload_n 0, 1), (45, .iconst (-1), 1), (46, .putfield 49, 3), (49, .aload_n 0, 1), (50, .iconst (-1), 1), (51, .putfield 52, 3), (54, .aload_n 0, 1), (55, .invokevirtual 55, 3), (58, .iconst 0, 1), (59, .istore_n 2, 1), (60, .iload_n 2, 1), (61, .sipush 160, 3), (64, .if_icmp .ge 46, 3), (67, .aload_n 0, 1), (68, .getfield 27, 3), (71, .ifCond .ne 39, 3), (74, .aload_n 0, 1), (75, .getfield 58, 3), (78, .ifCond .eq 32, 3), (81, .aload_n 0, 1), (82, .aload_n 1, 1), (83, .invokevirtual 61, 3), (86, .aload_n 0, 1), (87, .invokevirtual 65, 3), (90, .aload_n 0, 1), (91, .dup, 1), (92, .getfield 33, 3), (95, .iconst 1, 1), (96, .iadd, 1), (97, .putfield 33, 3), (100, .aload_n 0, 1), (101, .invokevirtual 55, 3), (104, .iinc 2 1, 3), (107, .goto (-47), 3), (110, .aload_n 0, 1), (111, .getfield 49, 3), (114, .aload_n 1, 1), (115, .getfield 68, 3), (118, .if_icmp .ge 14, 3), (121, .aload_n 0, 1), (122, .getfield 52, 3), (125, .aload_n 1, 1), (126, .getfield 71, 3), (129, .if_icmp .lt 16, 3), (132, .aload_n 0, 1), (133, .bipush 6, 2), (135, .aload_n 0, 1), (136, .getfield 12, 3), (139, .getfield 74, 3), (142, .invokevirtual 77, 3), (145, .return_, 1)]
set_option maxRecDepth 100000 in
theorem hp_X1_readInto : pr_X1_readInto.all (fun x => decide (decode cX1_readInto x.1 = .ok x.2)) = true := by decide +kernel
noncomputable def f_X1_readInto_b145 (N : Nat) (σ : yS) : Option (Int × yS) :=
  some (0, σ)
noncomputable def f_X1_readInto_b132 (N : Nat) (σ : yS) : Option (Int × yS) :=
  match f_X1_complain N σ 6 (σ.1 3 0) with
  | none => none
  | some r3 => f_X1_readInto_b145 N r3.2
noncomputable def f_X1_readInto_b110 (N : Nat) (σ : yS) (x1 : Nat) : Option (Int × yS) :=
  bif ycP .ge (σ.1 2 11) (σ.1 x1 0) then
    f_X1_readInto_b132 N σ
  else
    bif ycP .lt (σ.1 2 12) (σ.1 x1 2) then
      f_X1_readInto_b145 N σ
    else
      f_X1_readInto_b132 N σ
noncomputable def f_X1_readInto_b60 (N : Nat) : Nat → yS → Nat → Int → Option (Int × yS) := yfix (fun _ _ _ => none) (fun ih σ x1 x2 =>
    bif ycP .ge x2 160 then
      f_X1_readInto_b110 N σ x1
    else
      bif ycP .ne (σ.1 2 4) 0 then
        f_X1_readInto_b110 N σ x1
      else
        bif ycP .eq (σ.1 2 2) 0 then
          f_X1_readInto_b110 N σ x1
        else
          match f_X1_readLine N σ x1 with
          | none => none
          | some r4 => match f_X1_needStroke N r4.2 with
            | none => none
            | some r5 => match f_X1_readToken N (yw r5.2 2 6 (yad (r5.2.1 2 6) 1)) with
              | none => none
              | some r6 => ih r6.2 x1 (yad x2 1))
theorem q_X1_readInto_b60 (N : Nat) (n : Nat) (σ : yS) (x1 : Nat) (x2 : Int) : f_X1_readInto_b60 N (n + 1) σ x1 x2 =
    (bif ycP .ge x2 160 then
      f_X1_readInto_b110 N σ x1
    else
      bif ycP .ne (σ.1 2 4) 0 then
        f_X1_readInto_b110 N σ x1
      else
        bif ycP .eq (σ.1 2 2) 0 then
          f_X1_readInto_b110 N σ x1
        else
          match f_X1_readLine N σ x1 with
          | none => none
          | some r4 => match f_X1_needStroke N r4.2 with
            | none => none
            | some r5 => match f_X1_readToken N (yw r5.2 2 6 (yad (r5.2.1 2 6) 1)) with
              | none => none
              | some r6 => (f_X1_readInto_b60 N n) r6.2 x1 (yad x2 1)) := rfl
noncomputable def f_X1_readInto (N : Nat) (σ : yS) (x1 : Nat) : Option (Int × yS) :=
  match f_X4_makeNew N σ x1 with
  | none => none
  | some r1 => match f_X1_readToken N (yw (yw (yw (yw (yw (yw (yw (yw (yw (yw r1.2 2 1 0) 2 4 0) 2 5 0) 2 6 0) 2 7 0) 2 8 0) 2 9 0) 2 10 0) 2 11 ((-1))) 2 12 ((-1))) with
    | none => none
    | some r2 => f_X1_readInto_b60 N N r2.2 x1 0
noncomputable def F_X1_readInto (N : Nat) : yF := fun as σ => match as with
  | [.inr (.inl 1, 2), .inr (.inl 4, x1)] => (f_X1_readInto N σ x1).map (fun r => (none, r.2))
  | _ => none
theorem e_X1_readInto {N : Nat} {σ : yS} {x1 : Nat} {r : Int × yS} (h : f_X1_readInto N σ x1 = some r) : F_X1_readInto N [.inr (.inl 1, 2), .inr (.inl 4, x1)] σ = some (none, r.2) := by
  show (f_X1_readInto N σ x1).map (fun r => ((none, r.2) : yR)) = _
  rw [h]
  rfl
noncomputable def tb_X1_readInto (N : Nat) : yTb := ([(12, 1, 0, 3), (23, 1, 1, 0), (27, 1, 4, 0), (30, 1, 5, 0), (33, 1, 6, 0), (36, 1, 7, 1), (40, 1, 8, 0), (43, 1, 9, 0), (46, 1, 10, 0), (49, 1, 11, 0), (52, 1, 12, 0), (58, 1, 2, 0), (68, 4, 0, 0), (71, 4, 2, 0), (74, 3, 0, 0)], [], [], [(18, 1, 4, F_X4_makeNew N), (55, 1, 1, F_X1_readToken N), (61, 2, 1, F_X1_readLine N), (65, 1, 1, F_X1_needStroke N), (77, 3, 1, F_X1_complain N)], [], [], [])
abbrev G_X1_readInto (N : Nat) (X : zXT) (sh : List yH) (l : Launch) (rm : Room) : yC → yR → Prop := yGoes X vwCl yct sh l rm cX1_readInto 3 wsX1_readInto RX1 (tb_X1_readInto N) pr_X1_readInto 0
set_option maxRecDepth 100000 in
set_option maxHeartbeats 4000000 in
theorem t_X1_readInto_b145 {N : Nat} {X : zXT} {sh : List yH} {l : Launch} {rm : Room} (σ : yS) (res : Int × yS) (h : f_X1_readInto_b145 N σ = some res) : G_X1_readInto N X sh l rm (145, [], [], σ) (none, res.2) := by
  unfold f_X1_readInto_b145 at h
  have h := Option.some.inj h
  subst h
  dsimp only
  exact yG_r rfl rfl
set_option maxRecDepth 100000 in
set_option maxHeartbeats 4000000 in
theorem t_X1_readInto_b132 {N : Nat} {X : zXT} {sh : List yH} {l : Launch} {rm : Room} (σ : yS) (res : Int × yS) (h : f_X1_readInto_b132 N σ = some res) : G_X1_readInto N X sh l rm (132, [(0, .inr (.inl 1, 2))], [], σ) (none, res.2) := by
  unfold f_X1_readInto_b132 at h
  refine yG_n (n := 5) (C' := (142, [(0, .inr (.inl 1, 2))], [.inl (.inl (σ.1 3 0)), .inl (.inl 6), .inr (.inl 1, 2)], σ)) rfl ?_
  cases hr1 : f_X1_complain N σ 6 (σ.1 3 0) with
  | none => rw [hr1] at h; dsimp only at h; cases h
  | some r3 =>
    rw [hr1] at h
    dsimp only at h
    refine yG_c (C1 := (145, [(0, .inr (.inl 1, 2))], [], r3.2)) rfl (e_X1_complain hr1) rfl ?_
    exact yG_w [] rfl (t_X1_readInto_b145 r3.2 res h)
set_option maxRecDepth 100000 in
set_option maxHeartbeats 4000000 in
theorem t_X1_readInto_b110 {N : Nat} {X : zXT} {sh : List yH} {l : Launch} {rm : Room} (σ : yS) (x1 : Nat) (res : Int × yS) (h : f_X1_readInto_b110 N σ x1 = some res) : G_X1_readInto N X sh l rm (110, [(0, .inr (.inl 1, 2)), (1, .inr (.inl 4, x1))], [], σ) (none, res.2) := by
  unfold f_X1_readInto_b110 at h
  refine yG_n (n := 4) (C' := (118, [(0, .inr (.inl 1, 2)), (1, .inr (.inl 4, x1))], [.inl (.inl (σ.1 x1 0)), .inl (.inl (σ.1 2 11))], σ)) rfl ?_
  cases hg2 : ycP .ge (σ.1 2 11) (σ.1 x1 0) with
  | true =>
    rw [hg2] at h
    dsimp only [cond] at h
    refine yG_t (C' := (132, [(0, .inr (.inl 1, 2)), (1, .inr (.inl 4, x1))], [], σ)) rfl hg2 ?_
    exact yG_w [0] rfl (t_X1_readInto_b132 σ res h)
  | false =>
    rw [hg2] at h
    dsimp only [cond] at h
    refine yG_f (C' := (121, [(0, .inr (.inl 1, 2)), (1, .inr (.inl 4, x1))], [], σ)) rfl hg2 ?_
    refine yG_n (n := 4) (C' := (129, [(0, .inr (.inl 1, 2)), (1, .inr (.inl 4, x1))], [.inl (.inl (σ.1 x1 2)), .inl (.inl (σ.1 2 12))], σ)) rfl ?_
    cases hg3 : ycP .lt (σ.1 2 12) (σ.1 x1 2) with
    | true =>
      rw [hg3] at h
      dsimp only [cond] at h
      refine yG_t (C' := (145, [(0, .inr (.inl 1, 2)), (1, .inr (.inl 4, x1))], [], σ)) rfl hg3 ?_
      exact yG_w [] rfl (t_X1_readInto_b145 σ res h)
    | false =>
      rw [hg3] at h
      dsimp only [cond] at h
      refine yG_f (C' := (132, [(0, .inr (.inl 1, 2)), (1, .inr (.inl 4, x1))], [], σ)) rfl hg3 ?_
      exact yG_w [0] rfl (t_X1_readInto_b132 σ res h)
set_option maxRecDepth 100000 in
set_option maxHeartbeats 4000000 in
theorem t_X1_readInto_b60 {N : Nat} {X : zXT} {sh : List yH} {l : Launch} {rm : Room} : ∀ (n : Nat) (σ : yS) (x1 : Nat) (x2 : Int) (res : Int × yS), f_X1_readInto_b60 N n σ x1 x2 = some res → G_X1_readInto N X sh l rm (60, [(0, .inr (.inl 1, 2)), (1, .inr (.inl 4, x1)), (2, .inl (.inl x2))], [], σ) (none, res.2) := by
  intro n
  induction n with
  | zero => intro σ x1 x2 res h; exact (yno h).elim
  | succ n ih =>
    intro σ x1 x2 res h
    rw [q_X1_readInto_b60] at h
    refine yG_n (n := 2) (C' := (64, [(0, .inr (.inl 1, 2)), (1, .inr (.inl 4, x1)), (2, .inl (.inl x2))], [.inl (.inl 160), .inl (.inl x2)], σ)) rfl ?_
    cases hg4 : ycP .ge x2 160 with
    | true =>
      rw [hg4] at h
      dsimp only [cond] at h
      refine yG_t (C' := (110, [(0, .inr (.inl 1, 2)), (1, .inr (.inl 4, x1)), (2, .inl (.inl x2))], [], σ)) rfl hg4 ?_
      exact yG_w [0, 1] rfl (t_X1_readInto_b110 σ x1 res h)
    | false =>
      rw [hg4] at h
      dsimp only [cond] at h
      refine yG_f (C' := (67, [(0, .inr (.inl 1, 2)), (1, .inr (.inl 4, x1)), (2, .inl (.inl x2))], [], σ)) rfl hg4 ?_
      refine yG_n (n := 2) (C' := (71, [(0, .inr (.inl 1, 2)), (1, .inr (.inl 4, x1)), (2, .inl (.inl x2))], [.inl (.inl (σ.1 2 4))], σ)) rfl ?_
      cases hg5 : ycP .ne (σ.1 2 4) 0 with
      | true =>
        rw [hg5] at h
        dsimp only [cond] at h
        refine yG_t (C' := (110, [(0, .inr (.inl 1, 2)), (1, .inr (.inl 4, x1)), (2, .inl (.inl x2))], [], σ)) rfl hg5 ?_
        exact yG_w [0, 1] rfl (t_X1_readInto_b110 σ x1 res h)
      | false =>
        rw [hg5] at h
        dsimp only [cond] at h
        refine yG_f (C' := (74, [(0, .inr (.inl 1, 2)), (1, .inr (.inl 4, x1)), (2, .inl (.inl x2))], [], σ)) rfl hg5 ?_
        refine yG_n (n := 2) (C' := (78, [(0, .inr (.inl 1, 2)), (1, .inr (.inl 4, x1)), (2, .inl (.inl x2))], [.inl (.inl (σ.1 2 2))], σ)) rfl ?_
        cases hg6 : ycP .eq (σ.1 2 2) 0 with
        | true =>
          rw [hg6] at h
          dsimp only [cond] at h
          refine yG_t (C' := (110, [(0, .inr (.inl 1, 2)), (1, .inr (.inl 4, x1)), (2, .inl (.inl x2))], [], σ)) rfl hg6 ?_
          exact yG_w [0, 1] rfl (t_X1_readInto_b110 σ x1 res h)
        | false =>
          rw [hg6] at h
          dsimp only [cond] at h
          refine yG_f (C' := (81, [(0, .inr (.inl 1, 2)), (1, .inr (.inl 4, x1)), (2, .inl (.inl x2))], [], σ)) rfl hg6 ?_
          refine yG_n (n := 2) (C' := (83, [(0, .inr (.inl 1, 2)), (1, .inr (.inl 4, x1)), (2, .inl (.inl x2))], [.inr (.inl 4, x1), .inr (.inl 1, 2)], σ)) rfl ?_
          cases hr7 : f_X1_readLine N σ x1 with
          | none => rw [hr7] at h; dsimp only at h; cases h
          | some r4 =>
            rw [hr7] at h
            dsimp only at h
            refine yG_c (C1 := (86, [(0, .inr (.inl 1, 2)), (1, .inr (.inl 4, x1)), (2, .inl (.inl x2))], [], r4.2)) rfl (e_X1_readLine hr7) rfl ?_
            refine yG_n (n := 1) (C' := (87, [(0, .inr (.inl 1, 2)), (1, .inr (.inl 4, x1)), (2, .inl (.inl x2))], [.inr (.inl 1, 2)], r4.2)) rfl ?_
            cases hr8 : f_X1_needStroke N r4.2 with
            | none => rw [hr8] at h; dsimp only at h; cases h
            | some r5 =>
              rw [hr8] at h
              dsimp only at h
              refine yG_c (C1 := (90, [(0, .inr (.inl 1, 2)), (1, .inr (.inl 4, x1)), (2, .inl (.inl x2))], [], r5.2)) rfl (e_X1_needStroke hr8) rfl ?_
              refine yG_n (n := 7) (C' := (101, [(0, .inr (.inl 1, 2)), (1, .inr (.inl 4, x1)), (2, .inl (.inl x2))], [.inr (.inl 1, 2)], yw r5.2 2 6 (yad (r5.2.1 2 6) 1))) rfl ?_
              cases hr9 : f_X1_readToken N (yw r5.2 2 6 (yad (r5.2.1 2 6) 1)) with
              | none => rw [hr9] at h; dsimp only at h; cases h
              | some r6 =>
                rw [hr9] at h
                dsimp only at h
                refine yG_c (C1 := (104, [(0, .inr (.inl 1, 2)), (1, .inr (.inl 4, x1)), (2, .inl (.inl x2))], [], r6.2)) rfl (e_X1_readToken hr9) rfl ?_
                refine yG_n (n := 2) (C' := (60, [(2, .inl (.inl (yad x2 1))), (0, .inr (.inl 1, 2)), (1, .inr (.inl 4, x1))], [], r6.2)) rfl ?_
                exact yG_w [1, 2, 0] rfl (ih r6.2 x1 (yad x2 1) res h)
set_option maxRecDepth 100000 in
set_option maxHeartbeats 4000000 in
theorem t_X1_readInto {N : Nat} {X : zXT} {sh : List yH} {l : Launch} {rm : Room} (σ : yS) (x1 : Nat) (res : Int × yS) (h : f_X1_readInto N σ x1 = some res) : G_X1_readInto N X sh l rm (0, [(0, .inr (.inl 1, 2)), (1, .inr (.inl 4, x1))], [], σ) (none, res.2) := by
  unfold f_X1_readInto at h
  refine yG_n (n := 1) (C' := (1, [(0, .inr (.inl 1, 2)), (1, .inr (.inl 4, x1))], [.inr (.inl 4, x1)], σ)) rfl ?_
  cases hr10 : f_X4_makeNew N σ x1 with
  | none => rw [hr10] at h; dsimp only at h; cases h
  | some r1 =>
    rw [hr10] at h
    dsimp only at h
    refine yG_c (C1 := (4, [(0, .inr (.inl 1, 2)), (1, .inr (.inl 4, x1))], [], r1.2)) rfl (e_X4_makeNew hr10) rfl ?_
    refine yG_n (n := 31) (C' := (55, [(0, .inr (.inl 1, 2)), (1, .inr (.inl 4, x1))], [.inr (.inl 1, 2)], yw (yw (yw (yw (yw (yw (yw (yw (yw (yw r1.2 2 1 0) 2 4 0) 2 5 0) 2 6 0) 2 7 0) 2 8 0) 2 9 0) 2 10 0) 2 11 ((-1))) 2 12 ((-1)))) rfl ?_
    cases hr11 : f_X1_readToken N (yw (yw (yw (yw (yw (yw (yw (yw (yw (yw r1.2 2 1 0) 2 4 0) 2 5 0) 2 6 0) 2 7 0) 2 8 0) 2 9 0) 2 10 0) 2 11 ((-1))) 2 12 ((-1))) with
    | none => rw [hr11] at h; dsimp only at h; cases h
    | some r2 =>
      rw [hr11] at h
      dsimp only at h
      refine yG_c (C1 := (58, [(0, .inr (.inl 1, 2)), (1, .inr (.inl 4, x1))], [], r2.2)) rfl (e_X1_readToken hr11) rfl ?_
      refine yG_n (n := 2) (C' := (60, [(2, .inl (.inl 0)), (0, .inr (.inl 1, 2)), (1, .inr (.inl 4, x1))], [], r2.2)) rfl ?_
      exact yG_w [1, 2, 0] rfl (t_X1_readInto_b60 N r2.2 x1 0 res h)
set_option maxRecDepth 100000 in
set_option maxHeartbeats 4000000 in
theorem m_X1_readInto {N : Nat} {X : zXT} (hX : zXok X) (hN : zXn X) (hs : yXs X) (l : Launch) {sh : List yH} (hsh : yshR sh) : yMet X vwCl yct sh l yX1_readInto wsX1_readInto { frames := 9, cells := 0, slots := 0, locals := 287 } (F_X1_readInto N) :=
  ymeth (tb := tb_X1_readInto N) (pr := pr_X1_readInto) (rt := 0) (own := RX1) hX (by decide +kernel) rfl rfl ⟨Nat.le_of_ble_eq_true rfl, Nat.le_of_ble_eq_true rfl⟩
    (zfl_all (List.forall_mem_cons.mpr ⟨zfl_X1 (fun w h => List.mem_cons_of_mem _ (List.mem_append_left _ (List.mem_append_left _ (List.mem_append_left _ (List.mem_append_left _ (List.mem_append_right _ h)))))) (List.mem_of_getElem? (i := 14) rfl) (by decide) (by decide), List.forall_mem_cons.mpr ⟨zfl_X1 (fun w h => List.mem_cons_of_mem _ (List.mem_append_left _ (List.mem_append_left _ (List.mem_append_left _ (List.mem_append_left _ (List.mem_append_right _ h)))))) (List.mem_of_getElem? (i := 1) rfl) (by decide) (by decide), List.forall_mem_cons.mpr ⟨zfl_X1 (fun w h => List.mem_cons_of_mem _ (List.mem_append_left _ (List.mem_append_left _ (List.mem_append_left _ (List.mem_append_left _ (List.mem_append_right _ h)))))) (List.mem_of_getElem? (i := 2) rfl) (by decide) (by decide), List.forall_mem_cons.mpr ⟨zfl_X1 (fun w h => List.mem_cons_of_mem _ (List.mem_append_left _ (List.mem_append_left _ (List.mem_append_left _ (List.mem_append_left _ (List.mem_append_right _ h)))))) (List.mem_of_getElem? (i := 3) rfl) (by decide) (by decide), List.forall_mem_cons.mpr ⟨zfl_X1 (fun w h => List.mem_cons_of_mem _ (List.mem_append_left _ (List.mem_append_left _ (List.mem_append_left _ (List.mem_append_left _ (List.mem_append_right _ h)))))) (List.mem_of_getElem? (i := 4) rfl) (by decide) (by decide), List.forall_mem_cons.mpr ⟨zfl_X1 (fun w h => List.mem_cons_of_mem _ (List.mem_append_left _ (List.mem_append_left _ (List.mem_append_left _ (List.mem_append_left _ (List.mem_append_right _ h)))))) (List.mem_of_getElem? (i := 5) rfl) (by decide) (by decide), List.forall_mem_cons.mpr ⟨zfl_X1 (fun w h => List.mem_cons_of_mem _ (List.mem_append_left _ (List.mem_append_left _ (List.mem_append_left _ (List.mem_append_left _ (List.mem_append_right _ h)))))) (List.mem_of_getElem? (i := 6) rfl) (by decide) (by decide), List.forall_mem_cons.mpr ⟨zfl_X1 (fun w h => List.mem_cons_of_mem _ (List.mem_append_left _ (List.mem_append_left _ (List.mem_append_left _ (List.mem_append_left _ (List.mem_append_right _ h)))))) (List.mem_of_getElem? (i := 7) rfl) (by decide) (by decide), List.forall_mem_cons.mpr ⟨zfl_X1 (fun w h => List.mem_cons_of_mem _ (List.mem_append_left _ (List.mem_append_left _ (List.mem_append_left _ (List.mem_append_left _ (List.mem_append_right _ h)))))) (List.mem_of_getElem? (i := 8) rfl) (by decide) (by decide), List.forall_mem_cons.mpr ⟨zfl_X1 (fun w h => List.mem_cons_of_mem _ (List.mem_append_left _ (List.mem_append_left _ (List.mem_append_left _ (List.mem_append_left _ (List.mem_append_right _ h)))))) (List.mem_of_getElem? (i := 9) rfl) (by decide) (by decide), List.forall_mem_cons.mpr ⟨zfl_X1 (fun w h => List.mem_cons_of_mem _ (List.mem_append_left _ (List.mem_append_left _ (List.mem_append_left _ (List.mem_append_left _ (List.mem_append_right _ h)))))) (List.mem_of_getElem? (i := 10) rfl) (by decide) (by decide), List.forall_mem_cons.mpr ⟨zfl_X1 (fun w h => List.mem_cons_of_mem _ (List.mem_append_left _ (List.mem_append_left _ (List.mem_append_left _ (List.mem_append_left _ (List.mem_append_right _ h)))))) (List.mem_of_getElem? (i := 11) rfl) (by decide) (by decide), List.forall_mem_cons.mpr ⟨zfl_X4 (fun w h => List.mem_cons_of_mem _ (List.mem_append_left _ (List.mem_append_left _ (List.mem_append_left _ (List.mem_append_right _ h))))) (List.mem_of_getElem? (i := 12) rfl) (by decide) (by decide), List.forall_mem_cons.mpr ⟨zfl_X4 (fun w h => List.mem_cons_of_mem _ (List.mem_append_left _ (List.mem_append_left _ (List.mem_append_left _ (List.mem_append_right _ h))))) (List.mem_of_getElem? (i := 13) rfl) (by decide) (by decide), List.forall_mem_cons.mpr ⟨zfl_X3 (fun w h => List.mem_cons_of_mem _ (List.mem_append_left _ (List.mem_append_left _ (List.mem_append_right _ h)))) (List.mem_of_getElem? (i := 15) rfl) (by decide) (by decide), fun _ h => absurd h List.not_mem_nil⟩⟩⟩⟩⟩⟩⟩⟩⟩⟩⟩⟩⟩⟩⟩))
    (zco_all (fun _ h => absurd h List.not_mem_nil)) (zlc_all (fun _ h => absurd h List.not_mem_nil))
    (List.forall_mem_cons.mpr ⟨ycal_V hX (m_X4_makeNew hX hN l) rfl (fun s args hts => cwV 0 hts gX1_readInto_X4_makeNew rfl rfl rfl (by decide +kernel) ⟨Nat.le_of_ble_eq_true rfl, Nat.le_of_ble_eq_true rfl⟩), List.forall_mem_cons.mpr ⟨ycal_V hX (m_X1_readToken hX hN l) rfl (fun s args hts => cwV 0 hts gX1_readInto_X1_readToken rfl rfl rfl (by decide +kernel) ⟨Nat.le_of_ble_eq_true rfl, Nat.le_of_ble_eq_true rfl⟩), List.forall_mem_cons.mpr ⟨ycal_V hX (m_X1_readLine hX hN hs l hsh) rfl (fun s args hts => cwV 1 hts gX1_readInto_X1_readLine rfl rfl rfl (by decide +kernel) ⟨Nat.le_of_ble_eq_true rfl, Nat.le_of_ble_eq_true rfl⟩), List.forall_mem_cons.mpr ⟨ycal_V hX (m_X1_needStroke hX hN l) rfl (fun s args hts => cwV 0 hts gX1_readInto_X1_needStroke rfl rfl rfl (by decide +kernel) ⟨Nat.le_of_ble_eq_true rfl, Nat.le_of_ble_eq_true rfl⟩), List.forall_mem_cons.mpr ⟨ycal_V hX (m_X1_complain hX hN l) rfl (fun s args hts => cwV 2 hts gX1_readInto_X1_complain rfl rfl rfl (by decide +kernel) ⟨Nat.le_of_ble_eq_true rfl, Nat.le_of_ble_eq_true rfl⟩), fun _ h => absurd h List.not_mem_nil⟩⟩⟩⟩⟩)
    (fun _ h => absurd h List.not_mem_nil)
    (zmm_all (fun _ h => absurd h List.not_mem_nil)) (fun _ h => absurd h List.not_mem_nil) (zpr_all hp_X1_readInto) (fun as σ res h => by
      unfold F_X1_readInto at h
      split at h
      · rename_i x1
        cases hr : f_X1_readInto N σ x1 with
        | none => rw [hr] at h; cases h
        | some r =>
          rw [hr] at h
          cases h
          exact ⟨Nat.le_of_ble_eq_true rfl, t_X1_readInto σ x1 r hr⟩
      · cases h)
noncomputable def pr_X7_text : List (Nat × Instr × Nat) := [(0, .aload_n 0, 1), (1, .getfield 26, 3), (4, .aload_n 0, 1), (5, .getfield 16, 3), (8, .invokevirtual 63, 3), (11, .aload_n 0, 1), (12, .getfield 34, 3), (15, .iconst 0, 1), (16, .putfield 59, 3), (19, .aload_n 0, 1), (20, .getfield 26, 3), (23, .getfield 67, 3), (26, .ifCond .eq 14, 3), (29, .bipush (-10), 2), (31, .aload_n 0, 1), (32, .getfield 26, 3), (35, .getfield 70, 3), (38, .isub, 1), (39, .ireturn, 1), (40, .aload_n 0, 1), (41, .getfield 10, 3), (44, .aload_n 0, 1), (45, .getfield 16, 3), (48, .invokevirtual 73, 3), (51, .aload_n 0, 1), (52, .iconst 0, 1), (53, .putfield 76, 3), (56, .aload_n 0, 1), (57, .getfield 26, 3), (60, .getfield 79, 3), (63, .ireturn, 1)]
set_option maxRecDepth 100000 in
theorem hp_X7_text : pr_X7_text.all (fun x => decide (decode cX7_text x.1 = .ok x.2)) = true := by decide +kernel
noncomputable def f_X7_text_b60 (N : Nat) (σ : yS) : Option (Int × yS) :=
  some (σ.1 2 6, σ)
noncomputable def f_X7_text_b23 (N : Nat) (σ : yS) : Option (Int × yS) :=
  bif ycP .eq (σ.1 2 4) 0 then
    match f_X4_copyFrom N σ 17 38 with
    | none => none
    | some r2 => f_X7_text_b60 N (yw r2.2 0 7 0)
  else
    some (ysu ((-10)) (σ.1 2 5), σ)
noncomputable def f_X7_text (N : Nat) (σ : yS) : Option (Int × yS) :=
  match f_X1_readInto N σ 38 with
  | none => none
  | some r1 => f_X7_text_b23 N (yw r1.2 3 0 0)
noncomputable def F_X7_text (N : Nat) : yF := fun as σ => match as with
  | [.inr (.inl 7, 0)] => (f_X7_text N σ).map (fun r => (some (.inl (.inl r.1)), r.2))
  | _ => none
theorem e_X7_text {N : Nat} {σ : yS} {r : Int × yS} (h : f_X7_text N σ = some r) : F_X7_text N [.inr (.inl 7, 0)] σ = some (some (.inl (.inl r.1)), r.2) := by
  show (f_X7_text N σ).map (fun r => ((some (.inl (.inl r.1)), r.2) : yR)) = _
  rw [h]
  rfl
noncomputable def tb_X7_text (N : Nat) : yTb := ([(10, 7, 0, 3), (16, 7, 1, 3), (26, 7, 3, 3), (34, 7, 4, 3), (59, 3, 0, 0), (67, 1, 4, 0), (70, 1, 5, 0), (76, 7, 7, 0), (79, 1, 6, 0)], [], [], [(63, 2, 1, F_X1_readInto N), (73, 2, 4, F_X4_copyFrom N)], [], [], [])
abbrev G_X7_text (N : Nat) (X : zXT) (sh : List yH) (l : Launch) (rm : Room) : yC → yR → Prop := yGoes X vwCl yct sh l rm cX7_text 1 wsX7_text RX7 (tb_X7_text N) pr_X7_text 1
set_option maxRecDepth 100000 in
set_option maxHeartbeats 4000000 in
theorem t_X7_text_b60 {N : Nat} {X : zXT} {sh : List yH} {l : Launch} {rm : Room} (σ : yS) (res : Int × yS) (h : f_X7_text_b60 N σ = some res) : G_X7_text N X sh l rm (60, [], [.inr (.inl 1, 2)], σ) (some (.inl (.inl res.1)), res.2) := by
  unfold f_X7_text_b60 at h
  refine yG_n (n := 1) (C' := (63, [], [.inl (.inl (σ.1 2 6))], σ)) rfl ?_
  have h := Option.some.inj h
  subst h
  dsimp only
  exact yG_r rfl rfl
set_option maxRecDepth 100000 in
set_option maxHeartbeats 4000000 in
theorem t_X7_text_b23 {N : Nat} {X : zXT} {sh : List yH} {l : Launch} {rm : Room} (σ : yS) (res : Int × yS) (h : f_X7_text_b23 N σ = some res) : G_X7_text N X sh l rm (23, [(0, .inr (.inl 7, 0))], [.inr (.inl 1, 2)], σ) (some (.inl (.inl res.1)), res.2) := by
  unfold f_X7_text_b23 at h
  refine yG_n (n := 1) (C' := (26, [(0, .inr (.inl 7, 0))], [.inl (.inl (σ.1 2 4))], σ)) rfl ?_
  cases hg1 : ycP .eq (σ.1 2 4) 0 with
  | true =>
    rw [hg1] at h
    dsimp only [cond] at h
    refine yG_t (C' := (40, [(0, .inr (.inl 7, 0))], [], σ)) rfl hg1 ?_
    refine yG_n (n := 4) (C' := (48, [(0, .inr (.inl 7, 0))], [.inr (.inl 4, 38), .inr (.inl 4, 17)], σ)) rfl ?_
    cases hr2 : f_X4_copyFrom N σ 17 38 with
    | none => rw [hr2] at h; dsimp only at h; cases h
    | some r2 =>
      rw [hr2] at h
      dsimp only at h
      refine yG_c (C1 := (51, [(0, .inr (.inl 7, 0))], [], r2.2)) rfl (e_X4_copyFrom hr2) rfl ?_
      refine yG_n (n := 5) (C' := (60, [(0, .inr (.inl 7, 0))], [.inr (.inl 1, 2)], yw r2.2 0 7 0)) rfl ?_
      exact yG_w [] rfl (t_X7_text_b60 (yw r2.2 0 7 0) res h)
  | false =>
    rw [hg1] at h
    dsimp only [cond] at h
    refine yG_f (C' := (29, [(0, .inr (.inl 7, 0))], [], σ)) rfl hg1 ?_
    refine yG_n (n := 5) (C' := (39, [(0, .inr (.inl 7, 0))], [.inl (.inl (ysu ((-10)) (σ.1 2 5)))], σ)) rfl ?_
    have h := Option.some.inj h
    subst h
    dsimp only
    exact yG_r rfl rfl
set_option maxRecDepth 100000 in
set_option maxHeartbeats 4000000 in
theorem t_X7_text {N : Nat} {X : zXT} {sh : List yH} {l : Launch} {rm : Room} (σ : yS) (res : Int × yS) (h : f_X7_text N σ = some res) : G_X7_text N X sh l rm (0, [(0, .inr (.inl 7, 0))], [], σ) (some (.inl (.inl res.1)), res.2) := by
  unfold f_X7_text at h
  refine yG_n (n := 4) (C' := (8, [(0, .inr (.inl 7, 0))], [.inr (.inl 4, 38), .inr (.inl 1, 2)], σ)) rfl ?_
  cases hr3 : f_X1_readInto N σ 38 with
  | none => rw [hr3] at h; dsimp only at h; cases h
  | some r1 =>
    rw [hr3] at h
    dsimp only at h
    refine yG_c (C1 := (11, [(0, .inr (.inl 7, 0))], [], r1.2)) rfl (e_X1_readInto hr3) rfl ?_
    refine yG_n (n := 6) (C' := (23, [(0, .inr (.inl 7, 0))], [.inr (.inl 1, 2)], yw r1.2 3 0 0)) rfl ?_
    exact t_X7_text_b23 (yw r1.2 3 0 0) res h
set_option maxRecDepth 100000 in
set_option maxHeartbeats 4000000 in
theorem m_X7_text {N : Nat} {X : zXT} (hX : zXok X) (hN : zXn X) (hs : yXs X) (l : Launch) {sh : List yH} (hsh : yshR sh) : yMet X vwCl yct sh l yX7_text wsX7_text { frames := 10, cells := 0, slots := 0, locals := 309 } (F_X7_text N) :=
  ymeth (tb := tb_X7_text N) (pr := pr_X7_text) (rt := 1) (own := RX7) hX (by decide +kernel) rfl rfl ⟨Nat.le_of_ble_eq_true rfl, Nat.le_of_ble_eq_true rfl⟩
    (zfl_all (List.forall_mem_cons.mpr ⟨zfl_X7 (fun w h => List.mem_cons_of_mem _ (List.mem_append_left _ (List.mem_append_left _ (List.mem_append_left _ (List.mem_append_left _ (List.mem_append_left _ (List.mem_append_right _ h))))))) (List.mem_of_getElem? (i := 7) rfl) (by decide) (by decide), List.forall_mem_cons.mpr ⟨zfl_X7 (fun w h => List.mem_cons_of_mem _ (List.mem_append_left _ (List.mem_append_left _ (List.mem_append_left _ (List.mem_append_left _ (List.mem_append_left _ (List.mem_append_right _ h))))))) (List.mem_of_getElem? (i := 2) rfl) (by decide) (by decide), List.forall_mem_cons.mpr ⟨zfl_X7 (fun w h => List.mem_cons_of_mem _ (List.mem_append_left _ (List.mem_append_left _ (List.mem_append_left _ (List.mem_append_left _ (List.mem_append_left _ (List.mem_append_right _ h))))))) (List.mem_of_getElem? (i := 1) rfl) (by decide) (by decide), List.forall_mem_cons.mpr ⟨zfl_X7 (fun w h => List.mem_cons_of_mem _ (List.mem_append_left _ (List.mem_append_left _ (List.mem_append_left _ (List.mem_append_left _ (List.mem_append_left _ (List.mem_append_right _ h))))))) (List.mem_of_getElem? (i := 3) rfl) (by decide) (by decide), List.forall_mem_cons.mpr ⟨zfl_X3 (fun w h => List.mem_cons_of_mem _ (List.mem_append_left _ (List.mem_append_left _ (List.mem_append_left _ (List.mem_append_left _ (List.mem_append_right _ h)))))) (List.mem_of_getElem? (i := 4) rfl) (by decide) (by decide), List.forall_mem_cons.mpr ⟨zfl_X1 (fun w h => List.mem_cons_of_mem _ (List.mem_append_left _ (List.mem_append_left _ (List.mem_append_left _ (List.mem_append_right _ h))))) (List.mem_of_getElem? (i := 5) rfl) (by decide) (by decide), List.forall_mem_cons.mpr ⟨zfl_X1 (fun w h => List.mem_cons_of_mem _ (List.mem_append_left _ (List.mem_append_left _ (List.mem_append_left _ (List.mem_append_right _ h))))) (List.mem_of_getElem? (i := 6) rfl) (by decide) (by decide), List.forall_mem_cons.mpr ⟨zfl_X7 (fun w h => List.mem_cons_of_mem _ (List.mem_append_left _ (List.mem_append_left _ (List.mem_append_left _ (List.mem_append_left _ (List.mem_append_left _ (List.mem_append_right _ h))))))) (List.mem_of_getElem? (i := 8) rfl) (by decide) (by decide), List.forall_mem_cons.mpr ⟨zfl_X1 (fun w h => List.mem_cons_of_mem _ (List.mem_append_left _ (List.mem_append_left _ (List.mem_append_left _ (List.mem_append_right _ h))))) (List.mem_of_getElem? (i := 9) rfl) (by decide) (by decide), fun _ h => absurd h List.not_mem_nil⟩⟩⟩⟩⟩⟩⟩⟩⟩))
    (zco_all (fun _ h => absurd h List.not_mem_nil)) (zlc_all (fun _ h => absurd h List.not_mem_nil))
    (List.forall_mem_cons.mpr ⟨ycal_V hX (m_X1_readInto hX hN hs l hsh) rfl (fun s args hts => cwV 1 hts gX7_text_X1_readInto rfl rfl rfl (by decide +kernel) ⟨Nat.le_of_ble_eq_true rfl, Nat.le_of_ble_eq_true rfl⟩), List.forall_mem_cons.mpr ⟨ycal_V hX (m_X4_copyFrom hX hN l) rfl (fun s args hts => cwV 1 hts gX7_text_X4_copyFrom rfl rfl rfl (by decide +kernel) ⟨Nat.le_of_ble_eq_true rfl, Nat.le_of_ble_eq_true rfl⟩), fun _ h => absurd h List.not_mem_nil⟩⟩)
    (fun _ h => absurd h List.not_mem_nil)
    (zmm_all (fun _ h => absurd h List.not_mem_nil)) (fun _ h => absurd h List.not_mem_nil) (zpr_all hp_X7_text) (fun as σ res h => by
      unfold F_X7_text at h
      split at h
      · cases hr : f_X7_text N σ with
        | none => rw [hr] at h; cases h
        | some r =>
          rw [hr] at h
          cases h
          exact ⟨Nat.le_of_ble_eq_true rfl, t_X7_text σ r hr⟩
      · cases h)
noncomputable def pr_X7_torn : List (Nat × Instr × Nat) := [(0, .aload_n 0, 1), (1, .getfield 287, 3), (4, .ireturn, 1)]
set_option maxRecDepth 100000 in
theorem hp_X7_torn : pr_X7_torn.all (fun x => decide (decode cX7_torn x.1 = .ok x.2)) = true := by decide +kernel
noncomputable def f_X7_torn (N : Nat) (σ : yS) : Option (Int × yS) :=
  some (σ.1 0 8, σ)
noncomputable def F_X7_torn (N : Nat) : yF := fun as σ => match as with
  | [.inr (.inl 7, 0)] => (f_X7_torn N σ).map (fun r => (some (.inl (.inl r.1)), r.2))
  | _ => none
theorem e_X7_torn {N : Nat} {σ : yS} {r : Int × yS} (h : f_X7_torn N σ = some r) : F_X7_torn N [.inr (.inl 7, 0)] σ = some (some (.inl (.inl r.1)), r.2) := by
  show (f_X7_torn N σ).map (fun r => ((some (.inl (.inl r.1)), r.2) : yR)) = _
  rw [h]
  rfl
noncomputable def tb_X7_torn (N : Nat) : yTb := ([(287, 7, 8, 0)], [], [], [], [], [], [])
abbrev G_X7_torn (N : Nat) (X : zXT) (sh : List yH) (l : Launch) (rm : Room) : yC → yR → Prop := yGoes X vwCl yct sh l rm cX7_torn 1 wsX7_torn RX7 (tb_X7_torn N) pr_X7_torn 1
set_option maxRecDepth 100000 in
set_option maxHeartbeats 4000000 in
theorem t_X7_torn {N : Nat} {X : zXT} {sh : List yH} {l : Launch} {rm : Room} (σ : yS) (res : Int × yS) (h : f_X7_torn N σ = some res) : G_X7_torn N X sh l rm (0, [(0, .inr (.inl 7, 0))], [], σ) (some (.inl (.inl res.1)), res.2) := by
  unfold f_X7_torn at h
  refine yG_n (n := 2) (C' := (4, [(0, .inr (.inl 7, 0))], [.inl (.inl (σ.1 0 8))], σ)) rfl ?_
  have h := Option.some.inj h
  subst h
  dsimp only
  exact yG_r rfl rfl
set_option maxRecDepth 100000 in
set_option maxHeartbeats 4000000 in
theorem m_X7_torn {N : Nat} {X : zXT} (hX : zXok X) (hN : zXn X) (l : Launch) {sh : List yH} : yMet X vwCl yct sh l yX7_torn wsX7_torn { frames := 1, cells := 0, slots := 0, locals := 64 } (F_X7_torn N) :=
  ymeth (tb := tb_X7_torn N) (pr := pr_X7_torn) (rt := 1) (own := RX7) hX (by decide +kernel) rfl rfl ⟨Nat.le_of_ble_eq_true rfl, Nat.le_of_ble_eq_true rfl⟩
    (zfl_all (List.forall_mem_cons.mpr ⟨zfl_X7 (fun w h => List.mem_cons_of_mem _ (List.mem_append_right _ h)) (List.mem_of_getElem? (i := 1) rfl) (by decide) (by decide), fun _ h => absurd h List.not_mem_nil⟩))
    (zco_all (fun _ h => absurd h List.not_mem_nil)) (zlc_all (fun _ h => absurd h List.not_mem_nil))
    (fun _ h => absurd h List.not_mem_nil)
    (fun _ h => absurd h List.not_mem_nil)
    (zmm_all (fun _ h => absurd h List.not_mem_nil)) (fun _ h => absurd h List.not_mem_nil) (zpr_all hp_X7_torn) (fun as σ res h => by
      unfold F_X7_torn at h
      split at h
      · cases hr : f_X7_torn N σ with
        | none => rw [hr] at h; cases h
        | some r =>
          rw [hr] at h
          cases h
          exact ⟨Nat.le_of_ble_eq_true rfl, t_X7_torn σ r hr⟩
      · cases h)
noncomputable def pr_X7_vow : List (Nat × Instr × Nat) := [(0, .iload_n 1, 1), (1, .iconst 0, 1), (2, .aload_n 0, 1), (3, .getfield 10, 3), (6, .getfield 92, 3), (9, .getfield 96, 3), (12, .iconst 1, 1), (13, .isub, 1), (14, .invokestatic 49, 3), (17, .ifCond .ne 5, 3), (20, .iconst (-1), 1), (21, .ireturn, 1), (22, .iload_n 2, 1), (23, .tableswitch 81 0 3 #[29, 42, 55, 68], 29), (52, .aload_n 0, 1), (53, .getfield 10, 3), (56, .getfield 92, 3), (59, .getfield 156, 3), (62, .iload_n 1, 1), (63, .iaload, 1), (64, .ireturn, 1), (65, .aload_n 0, 1), (66, .getfield 10, 3), (69, .getfield 92, 3), (72, .getfield 159, 3), (75, .iload_n 1, 1), (76, .iaload, 1), (77, .ireturn, 1), (78, .aload_n 0, 1), (79, .getfield 10, 3), (82, .getfield 92, 3), (85, .getfield 162, 3), (88, .iload_n 1, 1), (89, .iaload, 1), (90, .ireturn, 1), (91, .aload_n 0, 1), (92, .getfield 10, 3), (95, .getfield 92, 3), (98, .getfield 165, 3), (101, .iload_n 1, 1), (102, .iaload, 1), (103, .ireturn, 1), (104, .iconst (-1), 1), (105, .ireturn, 1)]
set_option maxRecDepth 100000 in
theorem hp_X7_vow : pr_X7_vow.all (fun x => decide (decode cX7_vow x.1 = .ok x.2)) = true := by decide +kernel
noncomputable def f_X7_vow (N : Nat) (σ : yS) (x1 : Int) (x2 : Int) : Option (Int × yS) :=
  match f_X7_within N σ x1 0 (ysu (σ.1 (σ.2 17 11) 0) 1) with
  | none => none
  | some r1 => bif ycP .ne r1.1 0 then
      bif zle x2 0 && zle 0 x2 then
        bif yin x1 10 then
          some (r1.2.1 (r1.2.2 17 11 + 1) x1.toNat, r1.2)
        else none
      else
        bif zle x2 1 && zle 1 x2 then
        bif yin x1 10 then
          some (r1.2.1 (r1.2.2 17 11 + 2) x1.toNat, r1.2)
        else none
      else
        bif zle x2 2 && zle 2 x2 then
        bif yin x1 10 then
          some (r1.2.1 (r1.2.2 17 11 + 3) x1.toNat, r1.2)
        else none
      else
        bif zle x2 3 && zle 3 x2 then
        bif yin x1 10 then
          some (r1.2.1 (r1.2.2 17 11 + 4) x1.toNat, r1.2)
        else none
      else
        some ((-1), r1.2)
    else
      some ((-1), r1.2)
noncomputable def F_X7_vow (N : Nat) : yF := fun as σ => match as with
  | [.inr (.inl 7, 0), .inl (.inl x1), .inl (.inl x2)] => (f_X7_vow N σ x1 x2).map (fun r => (some (.inl (.inl r.1)), r.2))
  | _ => none
theorem e_X7_vow {N : Nat} {σ : yS} {x1 : Int} {x2 : Int} {r : Int × yS} (h : f_X7_vow N σ x1 x2 = some r) : F_X7_vow N [.inr (.inl 7, 0), .inl (.inl x1), .inl (.inl x2)] σ = some (some (.inl (.inl r.1)), r.2) := by
  show (f_X7_vow N σ x1 x2).map (fun r => ((some (.inl (.inl r.1)), r.2) : yR)) = _
  rw [h]
  rfl
noncomputable def tb_X7_vow (N : Nat) : yTb := ([(10, 7, 0, 3), (92, 4, 11, 2), (96, 5, 0, 0), (156, 5, 1, 3), (159, 5, 2, 3), (162, 5, 3, 3), (165, 5, 4, 3)], [], [], [], [(49, 3, F_X7_within N)], [], [])
abbrev G_X7_vow (N : Nat) (X : zXT) (sh : List yH) (l : Launch) (rm : Room) : yC → yR → Prop := yGoes X vwCl yct sh l rm cX7_vow 3 wsX7_vow RX7 (tb_X7_vow N) pr_X7_vow 1
set_option maxRecDepth 100000 in
set_option maxHeartbeats 4000000 in
theorem t_X7_vow {N : Nat} {X : zXT} {sh : List yH} {l : Launch} {rm : Room} (σ : yS) (x1 : Int) (x2 : Int) (res : Int × yS) (h : f_X7_vow N σ x1 x2 = some res) : G_X7_vow N X sh l rm (0, [(0, .inr (.inl 7, 0)), (1, .inl (.inl x1)), (2, .inl (.inl x2))], [], σ) (some (.inl (.inl res.1)), res.2) := by
  unfold f_X7_vow at h
  refine yG_n (n := 8) (C' := (14, [(0, .inr (.inl 7, 0)), (1, .inl (.inl x1)), (2, .inl (.inl x2))], [.inl (.inl (ysu (σ.1 (σ.2 17 11) 0) 1)), .inl (.inl 0), .inl (.inl x1)], σ)) rfl ?_
  cases hr1 : f_X7_within N σ x1 0 (ysu (σ.1 (σ.2 17 11) 0) 1) with
  | none => rw [hr1] at h; dsimp only at h; cases h
  | some r1 =>
    rw [hr1] at h
    dsimp only at h
    refine yG_c (C1 := (17, [(0, .inr (.inl 7, 0)), (1, .inl (.inl x1)), (2, .inl (.inl x2))], [.inl (.inl r1.1)], r1.2)) rfl (e_X7_within hr1) rfl ?_
    cases hg2 : ycP .ne r1.1 0 with
    | true =>
      rw [hg2] at h
      dsimp only [cond] at h
      refine yG_t (C' := (22, [(0, .inr (.inl 7, 0)), (1, .inl (.inl x1)), (2, .inl (.inl x2))], [], r1.2)) rfl hg2 ?_
      refine yG_n (n := 1) (C' := (23, [(0, .inr (.inl 7, 0)), (1, .inl (.inl x1)), (2, .inl (.inl x2))], [.inl (.inl x2)], r1.2)) rfl ?_
      refine yG_n (n := 1) (C' := ((bif zle x2 0 && zle 0 x2 then 52 else (bif zle x2 1 && zle 1 x2 then 65 else (bif zle x2 2 && zle 2 x2 then 78 else (bif zle x2 3 && zle 3 x2 then 91 else 104)))), [(0, .inr (.inl 7, 0)), (1, .inl (.inl x1)), (2, .inl (.inl x2))], [], r1.2)) rfl ?_
      cases hg3 : (zle x2 0 && zle 0 x2) with
      | true =>
        rw [hg3] at h
        dsimp only [cond] at h
        show G_X7_vow N X sh l rm (52, [(0, .inr (.inl 7, 0)), (1, .inl (.inl x1)), (2, .inl (.inl x2))], [], r1.2) ((some (.inl (.inl res.1)), res.2))
        refine yG_n (n := 5) (C' := (63, [(0, .inr (.inl 7, 0)), (1, .inl (.inl x1)), (2, .inl (.inl x2))], [.inl (.inl x1), .inr (.inr (0, 10), r1.2.2 17 11 + 1)], r1.2)) rfl ?_
        cases hg4 : yin x1 10 with
        | false => rw [hg4] at h; dsimp only [cond] at h; cases h
        | true =>
          rw [hg4] at h
          dsimp only [cond] at h
          refine yG_t (C' := (64, [(0, .inr (.inl 7, 0)), (1, .inl (.inl x1)), (2, .inl (.inl x2))], [.inl (.inl (r1.2.1 (r1.2.2 17 11 + 1) x1.toNat))], r1.2)) rfl hg4 ?_
          have h := Option.some.inj h
          subst h
          dsimp only
          exact yG_r rfl rfl
      | false =>
        rw [hg3] at h
        dsimp only [cond] at h
        show G_X7_vow N X sh l rm ((bif zle x2 1 && zle 1 x2 then 65 else (bif zle x2 2 && zle 2 x2 then 78 else (bif zle x2 3 && zle 3 x2 then 91 else 104))), [(0, .inr (.inl 7, 0)), (1, .inl (.inl x1)), (2, .inl (.inl x2))], [], r1.2) (some (.inl (.inl res.1)), res.2)
        cases hg5 : (zle x2 1 && zle 1 x2) with
        | true =>
          rw [hg5] at h
          dsimp only [cond] at h
          show G_X7_vow N X sh l rm (65, [(0, .inr (.inl 7, 0)), (1, .inl (.inl x1)), (2, .inl (.inl x2))], [], r1.2) ((some (.inl (.inl res.1)), res.2))
          refine yG_n (n := 5) (C' := (76, [(0, .inr (.inl 7, 0)), (1, .inl (.inl x1)), (2, .inl (.inl x2))], [.inl (.inl x1), .inr (.inr (0, 10), r1.2.2 17 11 + 2)], r1.2)) rfl ?_
          cases hg6 : yin x1 10 with
          | false => rw [hg6] at h; dsimp only [cond] at h; cases h
          | true =>
            rw [hg6] at h
            dsimp only [cond] at h
            refine yG_t (C' := (77, [(0, .inr (.inl 7, 0)), (1, .inl (.inl x1)), (2, .inl (.inl x2))], [.inl (.inl (r1.2.1 (r1.2.2 17 11 + 2) x1.toNat))], r1.2)) rfl hg6 ?_
            have h := Option.some.inj h
            subst h
            dsimp only
            exact yG_r rfl rfl
        | false =>
          rw [hg5] at h
          dsimp only [cond] at h
          show G_X7_vow N X sh l rm ((bif zle x2 2 && zle 2 x2 then 78 else (bif zle x2 3 && zle 3 x2 then 91 else 104)), [(0, .inr (.inl 7, 0)), (1, .inl (.inl x1)), (2, .inl (.inl x2))], [], r1.2) (some (.inl (.inl res.1)), res.2)
          cases hg7 : (zle x2 2 && zle 2 x2) with
          | true =>
            rw [hg7] at h
            dsimp only [cond] at h
            show G_X7_vow N X sh l rm (78, [(0, .inr (.inl 7, 0)), (1, .inl (.inl x1)), (2, .inl (.inl x2))], [], r1.2) ((some (.inl (.inl res.1)), res.2))
            refine yG_n (n := 5) (C' := (89, [(0, .inr (.inl 7, 0)), (1, .inl (.inl x1)), (2, .inl (.inl x2))], [.inl (.inl x1), .inr (.inr (0, 10), r1.2.2 17 11 + 3)], r1.2)) rfl ?_
            cases hg8 : yin x1 10 with
            | false => rw [hg8] at h; dsimp only [cond] at h; cases h
            | true =>
              rw [hg8] at h
              dsimp only [cond] at h
              refine yG_t (C' := (90, [(0, .inr (.inl 7, 0)), (1, .inl (.inl x1)), (2, .inl (.inl x2))], [.inl (.inl (r1.2.1 (r1.2.2 17 11 + 3) x1.toNat))], r1.2)) rfl hg8 ?_
              have h := Option.some.inj h
              subst h
              dsimp only
              exact yG_r rfl rfl
          | false =>
            rw [hg7] at h
            dsimp only [cond] at h
            show G_X7_vow N X sh l rm ((bif zle x2 3 && zle 3 x2 then 91 else 104), [(0, .inr (.inl 7, 0)), (1, .inl (.inl x1)), (2, .inl (.inl x2))], [], r1.2) (some (.inl (.inl res.1)), res.2)
            cases hg9 : (zle x2 3 && zle 3 x2) with
            | true =>
              rw [hg9] at h
              dsimp only [cond] at h
              show G_X7_vow N X sh l rm (91, [(0, .inr (.inl 7, 0)), (1, .inl (.inl x1)), (2, .inl (.inl x2))], [], r1.2) ((some (.inl (.inl res.1)), res.2))
              refine yG_n (n := 5) (C' := (102, [(0, .inr (.inl 7, 0)), (1, .inl (.inl x1)), (2, .inl (.inl x2))], [.inl (.inl x1), .inr (.inr (0, 10), r1.2.2 17 11 + 4)], r1.2)) rfl ?_
              cases hg10 : yin x1 10 with
              | false => rw [hg10] at h; dsimp only [cond] at h; cases h
              | true =>
                rw [hg10] at h
                dsimp only [cond] at h
                refine yG_t (C' := (103, [(0, .inr (.inl 7, 0)), (1, .inl (.inl x1)), (2, .inl (.inl x2))], [.inl (.inl (r1.2.1 (r1.2.2 17 11 + 4) x1.toNat))], r1.2)) rfl hg10 ?_
                have h := Option.some.inj h
                subst h
                dsimp only
                exact yG_r rfl rfl
            | false =>
              rw [hg9] at h
              dsimp only [cond] at h
              show G_X7_vow N X sh l rm (104, [(0, .inr (.inl 7, 0)), (1, .inl (.inl x1)), (2, .inl (.inl x2))], [], r1.2) (some (.inl (.inl res.1)), res.2)
              refine yG_n (n := 1) (C' := (105, [(0, .inr (.inl 7, 0)), (1, .inl (.inl x1)), (2, .inl (.inl x2))], [.inl (.inl ((-1)))], r1.2)) rfl ?_
              have h := Option.some.inj h
              subst h
              dsimp only
              exact yG_r rfl rfl
    | false =>
      rw [hg2] at h
      dsimp only [cond] at h
      refine yG_f (C' := (20, [(0, .inr (.inl 7, 0)), (1, .inl (.inl x1)), (2, .inl (.inl x2))], [], r1.2)) rfl hg2 ?_
      refine yG_n (n := 1) (C' := (21, [(0, .inr (.inl 7, 0)), (1, .inl (.inl x1)), (2, .inl (.inl x2))], [.inl (.inl ((-1)))], r1.2)) rfl ?_
      have h := Option.some.inj h
      subst h
      dsimp only
      exact yG_r rfl rfl
set_option maxRecDepth 100000 in
set_option maxHeartbeats 4000000 in
theorem m_X7_vow {N : Nat} {X : zXT} (hX : zXok X) (hN : zXn X) (l : Launch) {sh : List yH} : yMet X vwCl yct sh l yX7_vow wsX7_vow { frames := 2, cells := 0, slots := 0, locals := 86 } (F_X7_vow N) :=
  ymeth (tb := tb_X7_vow N) (pr := pr_X7_vow) (rt := 1) (own := RX7) hX (by decide +kernel) rfl rfl ⟨Nat.le_of_ble_eq_true rfl, Nat.le_of_ble_eq_true rfl⟩
    (zfl_all (List.forall_mem_cons.mpr ⟨zfl_X7 (fun w h => List.mem_cons_of_mem _ (List.mem_append_left _ (List.mem_append_left _ (List.mem_append_right _ h)))) (List.mem_of_getElem? (i := 1) rfl) (by decide) (by decide), List.forall_mem_cons.mpr ⟨zfl_X4 (fun w h => List.mem_cons_of_mem _ (List.mem_append_left _ (List.mem_append_right _ h))) (List.mem_of_getElem? (i := 2) rfl) (by decide) (by decide), List.forall_mem_cons.mpr ⟨zfl_X5 (fun w h => List.mem_cons_of_mem _ (List.mem_append_right _ h)) (List.mem_of_getElem? (i := 3) rfl) (by decide) (by decide), List.forall_mem_cons.mpr ⟨zfl_X5 (fun w h => List.mem_cons_of_mem _ (List.mem_append_right _ h)) (List.mem_of_getElem? (i := 4) rfl) (by decide) (by decide), List.forall_mem_cons.mpr ⟨zfl_X5 (fun w h => List.mem_cons_of_mem _ (List.mem_append_right _ h)) (List.mem_of_getElem? (i := 5) rfl) (by decide) (by decide), List.forall_mem_cons.mpr ⟨zfl_X5 (fun w h => List.mem_cons_of_mem _ (List.mem_append_right _ h)) (List.mem_of_getElem? (i := 6) rfl) (by decide) (by decide), List.forall_mem_cons.mpr ⟨zfl_X5 (fun w h => List.mem_cons_of_mem _ (List.mem_append_right _ h)) (List.mem_of_getElem? (i := 7) rfl) (by decide) (by decide), fun _ h => absurd h List.not_mem_nil⟩⟩⟩⟩⟩⟩⟩))
    (zco_all (fun _ h => absurd h List.not_mem_nil)) (zlc_all (fun _ h => absurd h List.not_mem_nil))
    (fun _ h => absurd h List.not_mem_nil)
    (List.forall_mem_cons.mpr ⟨ycal_S hX (m_X7_within hX hN l) (fun s args hts => va_cwS 3 hts gX7_vow_X7_within rfl rfl rfl (by decide +kernel) ⟨Nat.le_of_ble_eq_true rfl, Nat.le_of_ble_eq_true rfl⟩), fun _ h => absurd h List.not_mem_nil⟩)
    (zmm_all (fun _ h => absurd h List.not_mem_nil)) (fun _ h => absurd h List.not_mem_nil) (zpr_all hp_X7_vow) (fun as σ res h => by
      unfold F_X7_vow at h
      split at h
      · rename_i x1 x2
        cases hr : f_X7_vow N σ x1 x2 with
        | none => rw [hr] at h; cases h
        | some r =>
          rw [hr] at h
          cases h
          exact ⟨Nat.le_of_ble_eq_true rfl, t_X7_vow σ x1 x2 r hr⟩
      · cases h)
noncomputable def pr_X7_want : List (Nat × Instr × Nat) := [(0, .iload_n 1, 1), (1, .iconst 0, 1), (2, .aload_n 0, 1), (3, .getfield 10, 3), (6, .getfield 99, 3), (9, .getfield 103, 3), (12, .iconst 1, 1), (13, .isub, 1), (14, .invokestatic 49, 3), (17, .ifCond .ne 5, 3), (20, .iconst (-1), 1), (21, .ireturn, 1), (22, .iload_n 2, 1), (23, .lookupswitch 51 #[(0, 25), (1, 38)], 25), (48, .aload_n 0, 1), (49, .getfield 10, 3), (52, .getfield 99, 3), (55, .getfield 168, 3), (58, .iload_n 1, 1), (59, .iaload, 1), (60, .ireturn, 1), (61, .aload_n 0, 1), (62, .getfield 10, 3), (65, .getfield 99, 3), (68, .getfield 169, 3), (71, .iload_n 1, 1), (72, .iaload, 1), (73, .ireturn, 1), (74, .iconst (-1), 1), (75, .ireturn, 1)]
set_option maxRecDepth 100000 in
theorem hp_X7_want : pr_X7_want.all (fun x => decide (decode cX7_want x.1 = .ok x.2)) = true := by decide +kernel
noncomputable def f_X7_want (N : Nat) (σ : yS) (x1 : Int) (x2 : Int) : Option (Int × yS) :=
  match f_X7_within N σ x1 0 (ysu (σ.1 35 0) 1) with
  | none => none
  | some r1 => bif ycP .ne r1.1 0 then
      bif zle x2 0 && zle 0 x2 then
        bif yin x1 4 then
          some (r1.2.1 36 x1.toNat, r1.2)
        else none
      else
        bif zle x2 1 && zle 1 x2 then
        bif yin x1 4 then
          some (r1.2.1 37 x1.toNat, r1.2)
        else none
      else
        some ((-1), r1.2)
    else
      some ((-1), r1.2)
noncomputable def F_X7_want (N : Nat) : yF := fun as σ => match as with
  | [.inr (.inl 7, 0), .inl (.inl x1), .inl (.inl x2)] => (f_X7_want N σ x1 x2).map (fun r => (some (.inl (.inl r.1)), r.2))
  | _ => none
theorem e_X7_want {N : Nat} {σ : yS} {x1 : Int} {x2 : Int} {r : Int × yS} (h : f_X7_want N σ x1 x2 = some r) : F_X7_want N [.inr (.inl 7, 0), .inl (.inl x1), .inl (.inl x2)] σ = some (some (.inl (.inl r.1)), r.2) := by
  show (f_X7_want N σ x1 x2).map (fun r => ((some (.inl (.inl r.1)), r.2) : yR)) = _
  rw [h]
  rfl
noncomputable def tb_X7_want (N : Nat) : yTb := ([(10, 7, 0, 3), (99, 4, 13, 3), (103, 6, 0, 0), (168, 6, 1, 3), (169, 6, 2, 3)], [], [], [], [(49, 3, F_X7_within N)], [], [])
abbrev G_X7_want (N : Nat) (X : zXT) (sh : List yH) (l : Launch) (rm : Room) : yC → yR → Prop := yGoes X vwCl yct sh l rm cX7_want 3 wsX7_want RX7 (tb_X7_want N) pr_X7_want 1
set_option maxRecDepth 100000 in
set_option maxHeartbeats 4000000 in
theorem t_X7_want {N : Nat} {X : zXT} {sh : List yH} {l : Launch} {rm : Room} (σ : yS) (x1 : Int) (x2 : Int) (res : Int × yS) (h : f_X7_want N σ x1 x2 = some res) : G_X7_want N X sh l rm (0, [(0, .inr (.inl 7, 0)), (1, .inl (.inl x1)), (2, .inl (.inl x2))], [], σ) (some (.inl (.inl res.1)), res.2) := by
  unfold f_X7_want at h
  refine yG_n (n := 8) (C' := (14, [(0, .inr (.inl 7, 0)), (1, .inl (.inl x1)), (2, .inl (.inl x2))], [.inl (.inl (ysu (σ.1 35 0) 1)), .inl (.inl 0), .inl (.inl x1)], σ)) rfl ?_
  cases hr1 : f_X7_within N σ x1 0 (ysu (σ.1 35 0) 1) with
  | none => rw [hr1] at h; dsimp only at h; cases h
  | some r1 =>
    rw [hr1] at h
    dsimp only at h
    refine yG_c (C1 := (17, [(0, .inr (.inl 7, 0)), (1, .inl (.inl x1)), (2, .inl (.inl x2))], [.inl (.inl r1.1)], r1.2)) rfl (e_X7_within hr1) rfl ?_
    cases hg2 : ycP .ne r1.1 0 with
    | true =>
      rw [hg2] at h
      dsimp only [cond] at h
      refine yG_t (C' := (22, [(0, .inr (.inl 7, 0)), (1, .inl (.inl x1)), (2, .inl (.inl x2))], [], r1.2)) rfl hg2 ?_
      refine yG_n (n := 1) (C' := (23, [(0, .inr (.inl 7, 0)), (1, .inl (.inl x1)), (2, .inl (.inl x2))], [.inl (.inl x2)], r1.2)) rfl ?_
      refine yG_n (n := 1) (C' := ((bif zle x2 0 && zle 0 x2 then 48 else (bif zle x2 1 && zle 1 x2 then 61 else 74)), [(0, .inr (.inl 7, 0)), (1, .inl (.inl x1)), (2, .inl (.inl x2))], [], r1.2)) rfl ?_
      cases hg3 : (zle x2 0 && zle 0 x2) with
      | true =>
        rw [hg3] at h
        dsimp only [cond] at h
        show G_X7_want N X sh l rm (48, [(0, .inr (.inl 7, 0)), (1, .inl (.inl x1)), (2, .inl (.inl x2))], [], r1.2) ((some (.inl (.inl res.1)), res.2))
        refine yG_n (n := 5) (C' := (59, [(0, .inr (.inl 7, 0)), (1, .inl (.inl x1)), (2, .inl (.inl x2))], [.inl (.inl x1), .inr (.inr (0, 4), 36)], r1.2)) rfl ?_
        cases hg4 : yin x1 4 with
        | false => rw [hg4] at h; dsimp only [cond] at h; cases h
        | true =>
          rw [hg4] at h
          dsimp only [cond] at h
          refine yG_t (C' := (60, [(0, .inr (.inl 7, 0)), (1, .inl (.inl x1)), (2, .inl (.inl x2))], [.inl (.inl (r1.2.1 36 x1.toNat))], r1.2)) rfl hg4 ?_
          have h := Option.some.inj h
          subst h
          dsimp only
          exact yG_r rfl rfl
      | false =>
        rw [hg3] at h
        dsimp only [cond] at h
        show G_X7_want N X sh l rm ((bif zle x2 1 && zle 1 x2 then 61 else 74), [(0, .inr (.inl 7, 0)), (1, .inl (.inl x1)), (2, .inl (.inl x2))], [], r1.2) (some (.inl (.inl res.1)), res.2)
        cases hg5 : (zle x2 1 && zle 1 x2) with
        | true =>
          rw [hg5] at h
          dsimp only [cond] at h
          show G_X7_want N X sh l rm (61, [(0, .inr (.inl 7, 0)), (1, .inl (.inl x1)), (2, .inl (.inl x2))], [], r1.2) ((some (.inl (.inl res.1)), res.2))
          refine yG_n (n := 5) (C' := (72, [(0, .inr (.inl 7, 0)), (1, .inl (.inl x1)), (2, .inl (.inl x2))], [.inl (.inl x1), .inr (.inr (0, 4), 37)], r1.2)) rfl ?_
          cases hg6 : yin x1 4 with
          | false => rw [hg6] at h; dsimp only [cond] at h; cases h
          | true =>
            rw [hg6] at h
            dsimp only [cond] at h
            refine yG_t (C' := (73, [(0, .inr (.inl 7, 0)), (1, .inl (.inl x1)), (2, .inl (.inl x2))], [.inl (.inl (r1.2.1 37 x1.toNat))], r1.2)) rfl hg6 ?_
            have h := Option.some.inj h
            subst h
            dsimp only
            exact yG_r rfl rfl
        | false =>
          rw [hg5] at h
          dsimp only [cond] at h
          show G_X7_want N X sh l rm (74, [(0, .inr (.inl 7, 0)), (1, .inl (.inl x1)), (2, .inl (.inl x2))], [], r1.2) (some (.inl (.inl res.1)), res.2)
          refine yG_n (n := 1) (C' := (75, [(0, .inr (.inl 7, 0)), (1, .inl (.inl x1)), (2, .inl (.inl x2))], [.inl (.inl ((-1)))], r1.2)) rfl ?_
          have h := Option.some.inj h
          subst h
          dsimp only
          exact yG_r rfl rfl
    | false =>
      rw [hg2] at h
      dsimp only [cond] at h
      refine yG_f (C' := (20, [(0, .inr (.inl 7, 0)), (1, .inl (.inl x1)), (2, .inl (.inl x2))], [], r1.2)) rfl hg2 ?_
      refine yG_n (n := 1) (C' := (21, [(0, .inr (.inl 7, 0)), (1, .inl (.inl x1)), (2, .inl (.inl x2))], [.inl (.inl ((-1)))], r1.2)) rfl ?_
      have h := Option.some.inj h
      subst h
      dsimp only
      exact yG_r rfl rfl
set_option maxRecDepth 100000 in
set_option maxHeartbeats 4000000 in
theorem m_X7_want {N : Nat} {X : zXT} (hX : zXok X) (hN : zXn X) (l : Launch) {sh : List yH} : yMet X vwCl yct sh l yX7_want wsX7_want { frames := 2, cells := 0, slots := 0, locals := 86 } (F_X7_want N) :=
  ymeth (tb := tb_X7_want N) (pr := pr_X7_want) (rt := 1) (own := RX7) hX (by decide +kernel) rfl rfl ⟨Nat.le_of_ble_eq_true rfl, Nat.le_of_ble_eq_true rfl⟩
    (zfl_all (List.forall_mem_cons.mpr ⟨zfl_X7 (fun w h => List.mem_cons_of_mem _ (List.mem_append_left _ (List.mem_append_left _ (List.mem_append_right _ h)))) (List.mem_of_getElem? (i := 1) rfl) (by decide) (by decide), List.forall_mem_cons.mpr ⟨zfl_X4 (fun w h => List.mem_cons_of_mem _ (List.mem_append_left _ (List.mem_append_right _ h))) (List.mem_of_getElem? (i := 2) rfl) (by decide) (by decide), List.forall_mem_cons.mpr ⟨zfl_X6 (fun w h => List.mem_cons_of_mem _ (List.mem_append_right _ h)) (List.mem_of_getElem? (i := 3) rfl) (by decide) (by decide), List.forall_mem_cons.mpr ⟨zfl_X6 (fun w h => List.mem_cons_of_mem _ (List.mem_append_right _ h)) (List.mem_of_getElem? (i := 4) rfl) (by decide) (by decide), List.forall_mem_cons.mpr ⟨zfl_X6 (fun w h => List.mem_cons_of_mem _ (List.mem_append_right _ h)) (List.mem_of_getElem? (i := 5) rfl) (by decide) (by decide), fun _ h => absurd h List.not_mem_nil⟩⟩⟩⟩⟩))
    (zco_all (fun _ h => absurd h List.not_mem_nil)) (zlc_all (fun _ h => absurd h List.not_mem_nil))
    (fun _ h => absurd h List.not_mem_nil)
    (List.forall_mem_cons.mpr ⟨ycal_S hX (m_X7_within hX hN l) (fun s args hts => va_cwS 3 hts gX7_want_X7_within rfl rfl rfl (by decide +kernel) ⟨Nat.le_of_ble_eq_true rfl, Nat.le_of_ble_eq_true rfl⟩), fun _ h => absurd h List.not_mem_nil⟩)
    (zmm_all (fun _ h => absurd h List.not_mem_nil)) (fun _ h => absurd h List.not_mem_nil) (zpr_all hp_X7_want) (fun as σ res h => by
      unfold F_X7_want at h
      split at h
      · rename_i x1 x2
        cases hr : f_X7_want N σ x1 x2 with
        | none => rw [hr] at h; cases h
        | some r =>
          rw [hr] at h
          cases h
          exact ⟨Nat.le_of_ble_eq_true rfl, t_X7_want σ x1 x2 r hr⟩
      · cases h)
noncomputable def pr_X7_ways : List (Nat × Instr × Nat) := [(0, .aload_n 0, 1), (1, .getfield 10, 3), (4, .iload_n 1, 1), (5, .invokevirtual 118, 3), (8, .ifCond .eq 23, 3), (11, .aload_n 0, 1), (12, .getfield 10, 3), (15, .iload_n 2, 1), (16, .invokevirtual 150, 3), (19, .ifCond .eq 12, 3), (22, .iload_n 3, 1), (23, .iconst 0, 1), (24, .iconst 1, 1), (25, .invokestatic 49, 3), (28, .ifCond .ne 5, 3), (31, .iconst (-1), 1), (32, .ireturn, 1), (33, .iconst 0, 1), (34, .istore 4, 2), (36, .iload_n 2, 1), (37, .istore 5, 2), (39, .iload 5, 2), (41, .aload_n 0, 1), (42, .getfield 10, 3), (45, .getfield 82, 3), (48, .invokestatic 222, 3), (51, .if_icmp .ge 37, 3), (54, .aload_n 0, 1), (55, .getfield 10, 3), (58, .iload 5, 2), (60, .invokevirtual 219, 3), (63, .iload_n 1, 1), (64, .invokestatic 131, 3), (67, .iconst 1, 1), (68, .if_icmp .ne 14, 3), (71, .iload_n 3, 1), (72, .iconst 1, 1), (73, .if_icmp .ne 6, 3), (76, .iload 5, 2), (78, .ireturn, 1), (79, .iinc 4 1, 3), (82, .iinc 5 5, 3), (85, .goto (-46), 3), (88, .iload_n 3, 1), (89, .ifCond .ne 8, 3), (92, .iload 4, 2), (94, .goto 5, 3), (97, .bipush (-4), 2), (99, .ireturn, 1)]
set_option maxRecDepth 100000 in
theorem hp_X7_ways : pr_X7_ways.all (fun x => decide (decode cX7_ways x.1 = .ok x.2)) = true := by decide +kernel
noncomputable def f_X7_ways_b31 (N : Nat) (σ : yS) : Option (Int × yS) :=
  some ((-1), σ)
noncomputable def f_X7_ways_b99 (N : Nat) (σ : yS) (s0 : Int) : Option (Int × yS) :=
  some (s0, σ)
noncomputable def f_X7_ways_b82 (N : Nat) (k39 : yS → Int → Int → Int → Int → Option (Int × yS)) (σ : yS) (x1 : Int) (x3 : Int) (x4 : Int) (x5 : Int) : Option (Int × yS) :=
  k39 σ x1 x3 x4 (yad x5 5)
noncomputable def f_X7_ways_b39 (N : Nat) : Nat → yS → Int → Int → Int → Int → Option (Int × yS) := yfix (fun _ _ _ _ _ => none) (fun ih σ x1 x3 x4 x5 =>
    match f_X7_numbersOf N σ (σ.1 17 0) with
    | none => none
    | some r4 => bif ycP .ge x5 r4.1 then
        bif ycP .ne x3 0 then
          f_X7_ways_b99 N r4.2 ((-4))
        else
          f_X7_ways_b99 N r4.2 x4
      else
        match f_X4_broughtBy N r4.2 17 x5 with
        | none => none
        | some r5 => match f_X7_bit N r5.2 r5.1 x1 with
          | none => none
          | some r6 => bif ycP .ne r6.1 1 then
              f_X7_ways_b82 N ih r6.2 x1 x3 x4 x5
            else
              bif ycP .ne x3 1 then
                f_X7_ways_b82 N ih r6.2 x1 x3 (yad x4 1) x5
              else
                some (x5, r6.2))
theorem q_X7_ways_b39 (N : Nat) (n : Nat) (σ : yS) (x1 : Int) (x3 : Int) (x4 : Int) (x5 : Int) : f_X7_ways_b39 N (n + 1) σ x1 x3 x4 x5 =
    (match f_X7_numbersOf N σ (σ.1 17 0) with
    | none => none
    | some r4 => bif ycP .ge x5 r4.1 then
        bif ycP .ne x3 0 then
          f_X7_ways_b99 N r4.2 ((-4))
        else
          f_X7_ways_b99 N r4.2 x4
      else
        match f_X4_broughtBy N r4.2 17 x5 with
        | none => none
        | some r5 => match f_X7_bit N r5.2 r5.1 x1 with
          | none => none
          | some r6 => bif ycP .ne r6.1 1 then
              f_X7_ways_b82 N (f_X7_ways_b39 N n) r6.2 x1 x3 x4 x5
            else
              bif ycP .ne x3 1 then
                f_X7_ways_b82 N (f_X7_ways_b39 N n) r6.2 x1 x3 (yad x4 1) x5
              else
                some (x5, r6.2)) := rfl
noncomputable def f_X7_ways (N : Nat) (σ : yS) (x1 : Int) (x2 : Int) (x3 : Int) : Option (Int × yS) :=
  match f_X4_isHouse N σ 17 x1 with
  | none => none
  | some r1 => bif ycP .eq r1.1 0 then
      f_X7_ways_b31 N r1.2
    else
      match f_X4_isDeed N r1.2 17 x2 with
      | none => none
      | some r2 => bif ycP .eq r2.1 0 then
          f_X7_ways_b31 N r2.2
        else
          match f_X7_within N r2.2 x3 0 1 with
          | none => none
          | some r3 => bif ycP .ne r3.1 0 then
              f_X7_ways_b39 N N r3.2 x1 x3 0 x2
            else
              f_X7_ways_b31 N r3.2
noncomputable def F_X7_ways (N : Nat) : yF := fun as σ => match as with
  | [.inr (.inl 7, 0), .inl (.inl x1), .inl (.inl x2), .inl (.inl x3)] => (f_X7_ways N σ x1 x2 x3).map (fun r => (some (.inl (.inl r.1)), r.2))
  | _ => none
theorem e_X7_ways {N : Nat} {σ : yS} {x1 : Int} {x2 : Int} {x3 : Int} {r : Int × yS} (h : f_X7_ways N σ x1 x2 x3 = some r) : F_X7_ways N [.inr (.inl 7, 0), .inl (.inl x1), .inl (.inl x2), .inl (.inl x3)] σ = some (some (.inl (.inl r.1)), r.2) := by
  show (f_X7_ways N σ x1 x2 x3).map (fun r => ((some (.inl (.inl r.1)), r.2) : yR)) = _
  rw [h]
  rfl
noncomputable def tb_X7_ways (N : Nat) : yTb := ([(10, 7, 0, 3), (82, 4, 0, 0)], [], [], [(118, 2, 4, F_X4_isHouse N), (150, 2, 4, F_X4_isDeed N), (219, 2, 4, F_X4_broughtBy N)], [(49, 3, F_X7_within N), (131, 2, F_X7_bit N), (222, 1, F_X7_numbersOf N)], [], [])
abbrev G_X7_ways (N : Nat) (X : zXT) (sh : List yH) (l : Launch) (rm : Room) : yC → yR → Prop := yGoes X vwCl yct sh l rm cX7_ways 6 wsX7_ways RX7 (tb_X7_ways N) pr_X7_ways 1
set_option maxRecDepth 100000 in
set_option maxHeartbeats 4000000 in
theorem t_X7_ways_b31 {N : Nat} {X : zXT} {sh : List yH} {l : Launch} {rm : Room} (σ : yS) (res : Int × yS) (h : f_X7_ways_b31 N σ = some res) : G_X7_ways N X sh l rm (31, [], [], σ) (some (.inl (.inl res.1)), res.2) := by
  unfold f_X7_ways_b31 at h
  refine yG_n (n := 1) (C' := (32, [], [.inl (.inl ((-1)))], σ)) rfl ?_
  have h := Option.some.inj h
  subst h
  dsimp only
  exact yG_r rfl rfl
set_option maxRecDepth 100000 in
set_option maxHeartbeats 4000000 in
theorem t_X7_ways_b99 {N : Nat} {X : zXT} {sh : List yH} {l : Launch} {rm : Room} (σ : yS) (s0 : Int) (res : Int × yS) (h : f_X7_ways_b99 N σ s0 = some res) : G_X7_ways N X sh l rm (99, [], [.inl (.inl s0)], σ) (some (.inl (.inl res.1)), res.2) := by
  unfold f_X7_ways_b99 at h
  have h := Option.some.inj h
  subst h
  dsimp only
  exact yG_r rfl rfl
set_option maxRecDepth 100000 in
set_option maxHeartbeats 4000000 in
theorem t_X7_ways_b82 {N : Nat} {X : zXT} {sh : List yH} {l : Launch} {rm : Room} (k39 : yS → Int → Int → Int → Int → Option (Int × yS)) (hk39 : ∀ (σ : yS) (x1 : Int) (x3 : Int) (x4 : Int) (x5 : Int) (res : Int × yS), k39 σ x1 x3 x4 x5 = some res → G_X7_ways N X sh l rm (39, [(0, .inr (.inl 7, 0)), (1, .inl (.inl x1)), (3, .inl (.inl x3)), (4, .inl (.inl x4)), (5, .inl (.inl x5))], [], σ) (some (.inl (.inl res.1)), res.2)) (σ : yS) (x1 : Int) (x3 : Int) (x4 : Int) (x5 : Int) (res : Int × yS) (h : f_X7_ways_b82 N k39 σ x1 x3 x4 x5 = some res) : G_X7_ways N X sh l rm (82, [(0, .inr (.inl 7, 0)), (1, .inl (.inl x1)), (3, .inl (.inl x3)), (4, .inl (.inl x4)), (5, .inl (.inl x5))], [], σ) (some (.inl (.inl res.1)), res.2) := by
  unfold f_X7_ways_b82 at h
  refine yG_n (n := 2) (C' := (39, [(5, .inl (.inl (yad x5 5))), (0, .inr (.inl 7, 0)), (1, .inl (.inl x1)), (3, .inl (.inl x3)), (4, .inl (.inl x4))], [], σ)) rfl ?_
  exact yG_w [1, 2, 3, 4, 0] rfl (hk39 σ x1 x3 x4 (yad x5 5) res h)
set_option maxRecDepth 100000 in
set_option maxHeartbeats 4000000 in
theorem t_X7_ways_b39 {N : Nat} {X : zXT} {sh : List yH} {l : Launch} {rm : Room} : ∀ (n : Nat) (σ : yS) (x1 : Int) (x3 : Int) (x4 : Int) (x5 : Int) (res : Int × yS), f_X7_ways_b39 N n σ x1 x3 x4 x5 = some res → G_X7_ways N X sh l rm (39, [(0, .inr (.inl 7, 0)), (1, .inl (.inl x1)), (3, .inl (.inl x3)), (4, .inl (.inl x4)), (5, .inl (.inl x5))], [], σ) (some (.inl (.inl res.1)), res.2) := by
  intro n
  induction n with
  | zero => intro σ x1 x3 x4 x5 res h; exact (yno h).elim
  | succ n ih =>
    intro σ x1 x3 x4 x5 res h
    rw [q_X7_ways_b39] at h
    refine yG_n (n := 4) (C' := (48, [(0, .inr (.inl 7, 0)), (1, .inl (.inl x1)), (3, .inl (.inl x3)), (4, .inl (.inl x4)), (5, .inl (.inl x5))], [.inl (.inl (σ.1 17 0)), .inl (.inl x5)], σ)) rfl ?_
    cases hr1 : f_X7_numbersOf N σ (σ.1 17 0) with
    | none => rw [hr1] at h; dsimp only at h; cases h
    | some r4 =>
      rw [hr1] at h
      dsimp only at h
      refine yG_c (C1 := (51, [(0, .inr (.inl 7, 0)), (1, .inl (.inl x1)), (3, .inl (.inl x3)), (4, .inl (.inl x4)), (5, .inl (.inl x5))], [.inl (.inl r4.1), .inl (.inl x5)], r4.2)) rfl (e_X7_numbersOf hr1) rfl ?_
      cases hg2 : ycP .ge x5 r4.1 with
      | true =>
        rw [hg2] at h
        dsimp only [cond] at h
        refine yG_t (C' := (88, [(0, .inr (.inl 7, 0)), (1, .inl (.inl x1)), (3, .inl (.inl x3)), (4, .inl (.inl x4)), (5, .inl (.inl x5))], [], r4.2)) rfl hg2 ?_
        refine yG_n (n := 1) (C' := (89, [(0, .inr (.inl 7, 0)), (1, .inl (.inl x1)), (3, .inl (.inl x3)), (4, .inl (.inl x4)), (5, .inl (.inl x5))], [.inl (.inl x3)], r4.2)) rfl ?_
        cases hg3 : ycP .ne x3 0 with
        | true =>
          rw [hg3] at h
          dsimp only [cond] at h
          refine yG_t (C' := (97, [(0, .inr (.inl 7, 0)), (1, .inl (.inl x1)), (3, .inl (.inl x3)), (4, .inl (.inl x4)), (5, .inl (.inl x5))], [], r4.2)) rfl hg3 ?_
          refine yG_n (n := 1) (C' := (99, [(0, .inr (.inl 7, 0)), (1, .inl (.inl x1)), (3, .inl (.inl x3)), (4, .inl (.inl x4)), (5, .inl (.inl x5))], [.inl (.inl ((-4)))], r4.2)) rfl ?_
          exact yG_w [] rfl (t_X7_ways_b99 r4.2 ((-4)) res h)
        | false =>
          rw [hg3] at h
          dsimp only [cond] at h
          refine yG_f (C' := (92, [(0, .inr (.inl 7, 0)), (1, .inl (.inl x1)), (3, .inl (.inl x3)), (4, .inl (.inl x4)), (5, .inl (.inl x5))], [], r4.2)) rfl hg3 ?_
          refine yG_n (n := 2) (C' := (99, [(0, .inr (.inl 7, 0)), (1, .inl (.inl x1)), (3, .inl (.inl x3)), (4, .inl (.inl x4)), (5, .inl (.inl x5))], [.inl (.inl x4)], r4.2)) rfl ?_
          exact yG_w [] rfl (t_X7_ways_b99 r4.2 x4 res h)
      | false =>
        rw [hg2] at h
        dsimp only [cond] at h
        refine yG_f (C' := (54, [(0, .inr (.inl 7, 0)), (1, .inl (.inl x1)), (3, .inl (.inl x3)), (4, .inl (.inl x4)), (5, .inl (.inl x5))], [], r4.2)) rfl hg2 ?_
        refine yG_n (n := 3) (C' := (60, [(0, .inr (.inl 7, 0)), (1, .inl (.inl x1)), (3, .inl (.inl x3)), (4, .inl (.inl x4)), (5, .inl (.inl x5))], [.inl (.inl x5), .inr (.inl 4, 17)], r4.2)) rfl ?_
        cases hr4 : f_X4_broughtBy N r4.2 17 x5 with
        | none => rw [hr4] at h; dsimp only at h; cases h
        | some r5 =>
          rw [hr4] at h
          dsimp only at h
          refine yG_c (C1 := (63, [(0, .inr (.inl 7, 0)), (1, .inl (.inl x1)), (3, .inl (.inl x3)), (4, .inl (.inl x4)), (5, .inl (.inl x5))], [.inl (.inl r5.1)], r5.2)) rfl (e_X4_broughtBy hr4) rfl ?_
          refine yG_n (n := 1) (C' := (64, [(0, .inr (.inl 7, 0)), (1, .inl (.inl x1)), (3, .inl (.inl x3)), (4, .inl (.inl x4)), (5, .inl (.inl x5))], [.inl (.inl x1), .inl (.inl r5.1)], r5.2)) rfl ?_
          cases hr5 : f_X7_bit N r5.2 r5.1 x1 with
          | none => rw [hr5] at h; dsimp only at h; cases h
          | some r6 =>
            rw [hr5] at h
            dsimp only at h
            refine yG_c (C1 := (67, [(0, .inr (.inl 7, 0)), (1, .inl (.inl x1)), (3, .inl (.inl x3)), (4, .inl (.inl x4)), (5, .inl (.inl x5))], [.inl (.inl r6.1)], r6.2)) rfl (e_X7_bit hr5) rfl ?_
            refine yG_n (n := 1) (C' := (68, [(0, .inr (.inl 7, 0)), (1, .inl (.inl x1)), (3, .inl (.inl x3)), (4, .inl (.inl x4)), (5, .inl (.inl x5))], [.inl (.inl 1), .inl (.inl r6.1)], r6.2)) rfl ?_
            cases hg6 : ycP .ne r6.1 1 with
            | true =>
              rw [hg6] at h
              dsimp only [cond] at h
              refine yG_t (C' := (82, [(0, .inr (.inl 7, 0)), (1, .inl (.inl x1)), (3, .inl (.inl x3)), (4, .inl (.inl x4)), (5, .inl (.inl x5))], [], r6.2)) rfl hg6 ?_
              exact t_X7_ways_b82 (f_X7_ways_b39 N n) ih r6.2 x1 x3 x4 x5 res h
            | false =>
              rw [hg6] at h
              dsimp only [cond] at h
              refine yG_f (C' := (71, [(0, .inr (.inl 7, 0)), (1, .inl (.inl x1)), (3, .inl (.inl x3)), (4, .inl (.inl x4)), (5, .inl (.inl x5))], [], r6.2)) rfl hg6 ?_
              refine yG_n (n := 2) (C' := (73, [(0, .inr (.inl 7, 0)), (1, .inl (.inl x1)), (3, .inl (.inl x3)), (4, .inl (.inl x4)), (5, .inl (.inl x5))], [.inl (.inl 1), .inl (.inl x3)], r6.2)) rfl ?_
              cases hg7 : ycP .ne x3 1 with
              | true =>
                rw [hg7] at h
                dsimp only [cond] at h
                refine yG_t (C' := (79, [(0, .inr (.inl 7, 0)), (1, .inl (.inl x1)), (3, .inl (.inl x3)), (4, .inl (.inl x4)), (5, .inl (.inl x5))], [], r6.2)) rfl hg7 ?_
                refine yG_n (n := 1) (C' := (82, [(4, .inl (.inl (yad x4 1))), (0, .inr (.inl 7, 0)), (1, .inl (.inl x1)), (3, .inl (.inl x3)), (5, .inl (.inl x5))], [], r6.2)) rfl ?_
                exact yG_w [1, 2, 3, 0, 4] rfl (t_X7_ways_b82 (f_X7_ways_b39 N n) ih r6.2 x1 x3 (yad x4 1) x5 res h)
              | false =>
                rw [hg7] at h
                dsimp only [cond] at h
                refine yG_f (C' := (76, [(0, .inr (.inl 7, 0)), (1, .inl (.inl x1)), (3, .inl (.inl x3)), (4, .inl (.inl x4)), (5, .inl (.inl x5))], [], r6.2)) rfl hg7 ?_
                refine yG_n (n := 1) (C' := (78, [(0, .inr (.inl 7, 0)), (1, .inl (.inl x1)), (3, .inl (.inl x3)), (4, .inl (.inl x4)), (5, .inl (.inl x5))], [.inl (.inl x5)], r6.2)) rfl ?_
                have h := Option.some.inj h
                subst h
                dsimp only
                exact yG_r rfl rfl
set_option maxRecDepth 100000 in
set_option maxHeartbeats 4000000 in
theorem t_X7_ways {N : Nat} {X : zXT} {sh : List yH} {l : Launch} {rm : Room} (σ : yS) (x1 : Int) (x2 : Int) (x3 : Int) (res : Int × yS) (h : f_X7_ways N σ x1 x2 x3 = some res) : G_X7_ways N X sh l rm (0, [(0, .inr (.inl 7, 0)), (1, .inl (.inl x1)), (2, .inl (.inl x2)), (3, .inl (.inl x3))], [], σ) (some (.inl (.inl res.1)), res.2) := by
  unfold f_X7_ways at h
  refine yG_n (n := 3) (C' := (5, [(0, .inr (.inl 7, 0)), (1, .inl (.inl x1)), (2, .inl (.inl x2)), (3, .inl (.inl x3))], [.inl (.inl x1), .inr (.inl 4, 17)], σ)) rfl ?_
  cases hr8 : f_X4_isHouse N σ 17 x1 with
  | none => rw [hr8] at h; dsimp only at h; cases h
  | some r1 =>
    rw [hr8] at h
    dsimp only at h
    refine yG_c (C1 := (8, [(0, .inr (.inl 7, 0)), (1, .inl (.inl x1)), (2, .inl (.inl x2)), (3, .inl (.inl x3))], [.inl (.inl r1.1)], r1.2)) rfl (e_X4_isHouse hr8) rfl ?_
    cases hg9 : ycP .eq r1.1 0 with
    | true =>
      rw [hg9] at h
      dsimp only [cond] at h
      refine yG_t (C' := (31, [(0, .inr (.inl 7, 0)), (1, .inl (.inl x1)), (2, .inl (.inl x2)), (3, .inl (.inl x3))], [], r1.2)) rfl hg9 ?_
      exact yG_w [] rfl (t_X7_ways_b31 r1.2 res h)
    | false =>
      rw [hg9] at h
      dsimp only [cond] at h
      refine yG_f (C' := (11, [(0, .inr (.inl 7, 0)), (1, .inl (.inl x1)), (2, .inl (.inl x2)), (3, .inl (.inl x3))], [], r1.2)) rfl hg9 ?_
      refine yG_n (n := 3) (C' := (16, [(0, .inr (.inl 7, 0)), (1, .inl (.inl x1)), (2, .inl (.inl x2)), (3, .inl (.inl x3))], [.inl (.inl x2), .inr (.inl 4, 17)], r1.2)) rfl ?_
      cases hr10 : f_X4_isDeed N r1.2 17 x2 with
      | none => rw [hr10] at h; dsimp only at h; cases h
      | some r2 =>
        rw [hr10] at h
        dsimp only at h
        refine yG_c (C1 := (19, [(0, .inr (.inl 7, 0)), (1, .inl (.inl x1)), (2, .inl (.inl x2)), (3, .inl (.inl x3))], [.inl (.inl r2.1)], r2.2)) rfl (e_X4_isDeed hr10) rfl ?_
        cases hg11 : ycP .eq r2.1 0 with
        | true =>
          rw [hg11] at h
          dsimp only [cond] at h
          refine yG_t (C' := (31, [(0, .inr (.inl 7, 0)), (1, .inl (.inl x1)), (2, .inl (.inl x2)), (3, .inl (.inl x3))], [], r2.2)) rfl hg11 ?_
          exact yG_w [] rfl (t_X7_ways_b31 r2.2 res h)
        | false =>
          rw [hg11] at h
          dsimp only [cond] at h
          refine yG_f (C' := (22, [(0, .inr (.inl 7, 0)), (1, .inl (.inl x1)), (2, .inl (.inl x2)), (3, .inl (.inl x3))], [], r2.2)) rfl hg11 ?_
          refine yG_n (n := 3) (C' := (25, [(0, .inr (.inl 7, 0)), (1, .inl (.inl x1)), (2, .inl (.inl x2)), (3, .inl (.inl x3))], [.inl (.inl 1), .inl (.inl 0), .inl (.inl x3)], r2.2)) rfl ?_
          cases hr12 : f_X7_within N r2.2 x3 0 1 with
          | none => rw [hr12] at h; dsimp only at h; cases h
          | some r3 =>
            rw [hr12] at h
            dsimp only at h
            refine yG_c (C1 := (28, [(0, .inr (.inl 7, 0)), (1, .inl (.inl x1)), (2, .inl (.inl x2)), (3, .inl (.inl x3))], [.inl (.inl r3.1)], r3.2)) rfl (e_X7_within hr12) rfl ?_
            cases hg13 : ycP .ne r3.1 0 with
            | true =>
              rw [hg13] at h
              dsimp only [cond] at h
              refine yG_t (C' := (33, [(0, .inr (.inl 7, 0)), (1, .inl (.inl x1)), (2, .inl (.inl x2)), (3, .inl (.inl x3))], [], r3.2)) rfl hg13 ?_
              refine yG_n (n := 4) (C' := (39, [(5, .inl (.inl x2)), (4, .inl (.inl 0)), (0, .inr (.inl 7, 0)), (1, .inl (.inl x1)), (2, .inl (.inl x2)), (3, .inl (.inl x3))], [], r3.2)) rfl ?_
              exact yG_w [2, 3, 5, 1, 0] rfl (t_X7_ways_b39 N r3.2 x1 x3 0 x2 res h)
            | false =>
              rw [hg13] at h
              dsimp only [cond] at h
              refine yG_f (C' := (31, [(0, .inr (.inl 7, 0)), (1, .inl (.inl x1)), (2, .inl (.inl x2)), (3, .inl (.inl x3))], [], r3.2)) rfl hg13 ?_
              exact yG_w [] rfl (t_X7_ways_b31 r3.2 res h)
set_option maxRecDepth 100000 in
set_option maxHeartbeats 4000000 in
theorem m_X7_ways {N : Nat} {X : zXT} (hX : zXok X) (hN : zXn X) (l : Launch) {sh : List yH} : yMet X vwCl yct sh l yX7_ways wsX7_ways { frames := 4, cells := 0, slots := 0, locals := 137 } (F_X7_ways N) :=
  ymeth (tb := tb_X7_ways N) (pr := pr_X7_ways) (rt := 1) (own := RX7) hX (by decide +kernel) rfl rfl ⟨Nat.le_of_ble_eq_true rfl, Nat.le_of_ble_eq_true rfl⟩
    (zfl_all (List.forall_mem_cons.mpr ⟨zfl_X7 (fun w h => List.mem_cons_of_mem _ (List.mem_append_left _ (List.mem_append_right _ h))) (List.mem_of_getElem? (i := 1) rfl) (by decide) (by decide), List.forall_mem_cons.mpr ⟨zfl_X4 (fun w h => List.mem_cons_of_mem _ (List.mem_append_right _ h)) (List.mem_of_getElem? (i := 2) rfl) (by decide) (by decide), fun _ h => absurd h List.not_mem_nil⟩⟩))
    (zco_all (fun _ h => absurd h List.not_mem_nil)) (zlc_all (fun _ h => absurd h List.not_mem_nil))
    (List.forall_mem_cons.mpr ⟨ycal_V hX (m_X4_isHouse hX hN l) rfl (fun s args hts => cwV 1 hts gX7_ways_X4_isHouse rfl rfl rfl (by decide +kernel) ⟨Nat.le_of_ble_eq_true rfl, Nat.le_of_ble_eq_true rfl⟩), List.forall_mem_cons.mpr ⟨ycal_V hX (m_X4_isDeed hX hN l) rfl (fun s args hts => cwV 1 hts gX7_ways_X4_isDeed rfl rfl rfl (by decide +kernel) ⟨Nat.le_of_ble_eq_true rfl, Nat.le_of_ble_eq_true rfl⟩), List.forall_mem_cons.mpr ⟨ycal_V hX (m_X4_broughtBy hX hN l) rfl (fun s args hts => cwV 1 hts gX7_ways_X4_broughtBy rfl rfl rfl (by decide +kernel) ⟨Nat.le_of_ble_eq_true rfl, Nat.le_of_ble_eq_true rfl⟩), fun _ h => absurd h List.not_mem_nil⟩⟩⟩)
    (List.forall_mem_cons.mpr ⟨ycal_S hX (m_X7_within hX hN l) (fun s args hts => va_cwS 3 hts gX7_ways_X7_within rfl rfl rfl (by decide +kernel) ⟨Nat.le_of_ble_eq_true rfl, Nat.le_of_ble_eq_true rfl⟩), List.forall_mem_cons.mpr ⟨ycal_S hX (m_X7_bit hX hN l) (fun s args hts => va_cwS 2 hts gX7_ways_X7_bit rfl rfl rfl (by decide +kernel) ⟨Nat.le_of_ble_eq_true rfl, Nat.le_of_ble_eq_true rfl⟩), List.forall_mem_cons.mpr ⟨ycal_S hX (m_X7_numbersOf hX hN l) (fun s args hts => va_cwS 1 hts gX7_ways_X7_numbersOf rfl rfl rfl (by decide +kernel) ⟨Nat.le_of_ble_eq_true rfl, Nat.le_of_ble_eq_true rfl⟩), fun _ h => absurd h List.not_mem_nil⟩⟩⟩)
    (zmm_all (fun _ h => absurd h List.not_mem_nil)) (fun _ h => absurd h List.not_mem_nil) (zpr_all hp_X7_ways) (fun as σ res h => by
      unfold F_X7_ways at h
      split at h
      · rename_i x1 x2 x3
        cases hr : f_X7_ways N σ x1 x2 x3 with
        | none => rw [hr] at h; cases h
        | some r =>
          rw [hr] at h
          cases h
          exact ⟨Nat.le_of_ble_eq_true rfl, t_X7_ways σ x1 x2 x3 r hr⟩
      · cases h)
end
section
noncomputable def pr_X7_who : List (Nat × Instr × Nat) := [(0, .aload_n 0, 1), (1, .getfield 10, 3), (4, .iload_n 1, 1), (5, .invokevirtual 118, 3), (8, .ifCond .eq 23, 3), (11, .aload_n 0, 1), (12, .getfield 10, 3), (15, .iload_n 2, 1), (16, .invokevirtual 150, 3), (19, .ifCond .eq 12, 3), (22, .iload_n 3, 1), (23, .iconst 1, 1), (24, .iconst 4, 1), (25, .invokestatic 49, 3), (28, .ifCond .ne 5, 3), (31, .iconst (-1), 1), (32, .ireturn, 1), (33, .iconst 0, 1), (34, .istore 4, 2), (36, .iconst 0, 1), (37, .istore 5, 2), (39, .iload 5, 2), (41, .aload_n 0, 1), (42, .getfield 10, 3), (45, .getfield 82, 3), (48, .if_icmp .ge 60, 3), (51, .iconst 0, 1), (52, .istore 6, 2), (54, .iload 6, 2), (56, .iconst 4, 1), (57, .if_icmp .ge 45, 3), (60, .aload_n 0, 1), (61, .getfield 10, 3), (64, .iload 5, 2), (66, .iload 6, 2), (68, .iload_n 3, 1), (69, .iconst 1, 1), (70, .isub, 1), (71, .iload_n 2, 1), (72, .invokestatic 215, 3), (75, .invokevirtual 219, 3), (78, .iload_n 1, 1), (79, .invokestatic 131, 3), (82, .iconst 1, 1), (83, .if_icmp .ne 13, 3), (86, .iload 4, 2), (88, .iload 5, 2), (90, .iconst 1, 1), (91, .invokestatic 170, 3), (94, .istore 4, 2), (96, .iinc 6 1, 3), (99, .goto (-45), 3), (102, .iinc 5 1, 3), (105, .goto (-66), 3), (108, .iload 4, 2), (110, .ireturn, 1)]
set_option maxRecDepth 100000 in
theorem hp_X7_who : pr_X7_who.all (fun x => decide (decode cX7_who x.1 = .ok x.2)) = true := by decide +kernel
noncomputable def f_X7_who_b31 (N : Nat) (σ : yS) : Option (Int × yS) :=
  some ((-1), σ)
noncomputable def f_X7_who_b96 (N : Nat) (k39 : yS → Int → Int → Int → Int → Int → Option (Int × yS)) (k54 : yS → Int → Int → Int → Int → Int → Int → Option (Int × yS)) (σ : yS) (x1 : Int) (x2 : Int) (x3 : Int) (x4 : Int) (x5 : Int) (x6 : Int) : Option (Int × yS) :=
  k54 σ x1 x2 x3 x4 x5 (yad x6 1)
noncomputable def f_X7_who_b54 (N : Nat) (k39 : yS → Int → Int → Int → Int → Int → Option (Int × yS)) : Nat → yS → Int → Int → Int → Int → Int → Int → Option (Int × yS) := yfix (fun _ _ _ _ _ _ _ => none) (fun ih σ x1 x2 x3 x4 x5 x6 =>
    bif ycP .ge x6 4 then
      k39 σ x1 x2 x3 x4 (yad x5 1)
    else
      match f_X7_numberOf N σ x5 x6 (ysu x3 1) x2 with
      | none => none
      | some r4 => match f_X4_broughtBy N r4.2 17 r4.1 with
        | none => none
        | some r5 => match f_X7_bit N r5.2 r5.1 x1 with
          | none => none
          | some r6 => bif ycP .ne r6.1 1 then
              f_X7_who_b96 N k39 ih r6.2 x1 x2 x3 x4 x5 x6
            else
              match f_X7_withBit N r6.2 x4 x5 1 with
              | none => none
              | some r7 => f_X7_who_b96 N k39 ih r7.2 x1 x2 x3 r7.1 x5 x6)
theorem q_X7_who_b54 (N : Nat) (k39 : yS → Int → Int → Int → Int → Int → Option (Int × yS)) (n : Nat) (σ : yS) (x1 : Int) (x2 : Int) (x3 : Int) (x4 : Int) (x5 : Int) (x6 : Int) : f_X7_who_b54 N k39 (n + 1) σ x1 x2 x3 x4 x5 x6 =
    (bif ycP .ge x6 4 then
      k39 σ x1 x2 x3 x4 (yad x5 1)
    else
      match f_X7_numberOf N σ x5 x6 (ysu x3 1) x2 with
      | none => none
      | some r4 => match f_X4_broughtBy N r4.2 17 r4.1 with
        | none => none
        | some r5 => match f_X7_bit N r5.2 r5.1 x1 with
          | none => none
          | some r6 => bif ycP .ne r6.1 1 then
              f_X7_who_b96 N k39 (f_X7_who_b54 N k39 n) r6.2 x1 x2 x3 x4 x5 x6
            else
              match f_X7_withBit N r6.2 x4 x5 1 with
              | none => none
              | some r7 => f_X7_who_b96 N k39 (f_X7_who_b54 N k39 n) r7.2 x1 x2 x3 r7.1 x5 x6) := rfl
noncomputable def f_X7_who_b39 (N : Nat) : Nat → yS → Int → Int → Int → Int → Int → Option (Int × yS) := yfix (fun _ _ _ _ _ _ => none) (fun ih σ x1 x2 x3 x4 x5 =>
    bif ycP .ge x5 (σ.1 17 0) then
      some (x4, σ)
    else
      f_X7_who_b54 N ih N σ x1 x2 x3 x4 x5 0)
theorem q_X7_who_b39 (N : Nat) (n : Nat) (σ : yS) (x1 : Int) (x2 : Int) (x3 : Int) (x4 : Int) (x5 : Int) : f_X7_who_b39 N (n + 1) σ x1 x2 x3 x4 x5 =
    (bif ycP .ge x5 (σ.1 17 0) then
      some (x4, σ)
    else
      f_X7_who_b54 N (f_X7_who_b39 N n) N σ x1 x2 x3 x4 x5 0) := rfl
noncomputable def f_X7_who (N : Nat) (σ : yS) (x1 : Int) (x2 : Int) (x3 : Int) : Option (Int × yS) :=
  match f_X4_isHouse N σ 17 x1 with
  | none => none
  | some r1 => bif ycP .eq r1.1 0 then
      f_X7_who_b31 N r1.2
    else
      match f_X4_isDeed N r1.2 17 x2 with
      | none => none
      | some r2 => bif ycP .eq r2.1 0 then
          f_X7_who_b31 N r2.2
        else
          match f_X7_within N r2.2 x3 1 4 with
          | none => none
          | some r3 => bif ycP .ne r3.1 0 then
              f_X7_who_b39 N N r3.2 x1 x2 x3 0 0
            else
              f_X7_who_b31 N r3.2
noncomputable def F_X7_who (N : Nat) : yF := fun as σ => match as with
  | [.inr (.inl 7, 0), .inl (.inl x1), .inl (.inl x2), .inl (.inl x3)] => (f_X7_who N σ x1 x2 x3).map (fun r => (some (.inl (.inl r.1)), r.2))
  | _ => none
theorem e_X7_who {N : Nat} {σ : yS} {x1 : Int} {x2 : Int} {x3 : Int} {r : Int × yS} (h : f_X7_who N σ x1 x2 x3 = some r) : F_X7_who N [.inr (.inl 7, 0), .inl (.inl x1), .inl (.inl x2), .inl (.inl x3)] σ = some (some (.inl (.inl r.1)), r.2) := by
  show (f_X7_who N σ x1 x2 x3).map (fun r => ((some (.inl (.inl r.1)), r.2) : yR)) = _
  rw [h]
  rfl
noncomputable def tb_X7_who (N : Nat) : yTb := ([(10, 7, 0, 3), (82, 4, 0, 0)], [], [], [(118, 2, 4, F_X4_isHouse N), (150, 2, 4, F_X4_isDeed N), (219, 2, 4, F_X4_broughtBy N)], [(49, 3, F_X7_within N), (131, 2, F_X7_bit N), (170, 3, F_X7_withBit N), (215, 4, F_X7_numberOf N)], [], [])
abbrev G_X7_who (N : Nat) (X : zXT) (sh : List yH) (l : Launch) (rm : Room) : yC → yR → Prop := yGoes X vwCl yct sh l rm cX7_who 7 wsX7_who RX7 (tb_X7_who N) pr_X7_who 1
set_option maxRecDepth 100000 in
set_option maxHeartbeats 4000000 in
theorem t_X7_who_b31 {N : Nat} {X : zXT} {sh : List yH} {l : Launch} {rm : Room} (σ : yS) (res : Int × yS) (h : f_X7_who_b31 N σ = some res) : G_X7_who N X sh l rm (31, [], [], σ) (some (.inl (.inl res.1)), res.2) := by
  unfold f_X7_who_b31 at h
  refine yG_n (n := 1) (C' := (32, [], [.inl (.inl ((-1)))], σ)) rfl ?_
  have h := Option.some.inj h
  subst h
  dsimp only
  exact yG_r rfl rfl
set_option maxRecDepth 100000 in
set_option maxHeartbeats 4000000 in
theorem t_X7_who_b96 {N : Nat} {X : zXT} {sh : List yH} {l : Launch} {rm : Room} (k39 : yS → Int → Int → Int → Int → Int → Option (Int × yS)) (hk39 : ∀ (σ : yS) (x1 : Int) (x2 : Int) (x3 : Int) (x4 : Int) (x5 : Int) (res : Int × yS), k39 σ x1 x2 x3 x4 x5 = some res → G_X7_who N X sh l rm (39, [(0, .inr (.inl 7, 0)), (1, .inl (.inl x1)), (2, .inl (.inl x2)), (3, .inl (.inl x3)), (4, .inl (.inl x4)), (5, .inl (.inl x5))], [], σ) (some (.inl (.inl res.1)), res.2)) (k54 : yS → Int → Int → Int → Int → Int → Int → Option (Int × yS)) (hk54 : ∀ (σ : yS) (x1 : Int) (x2 : Int) (x3 : Int) (x4 : Int) (x5 : Int) (x6 : Int) (res : Int × yS), k54 σ x1 x2 x3 x4 x5 x6 = some res → G_X7_who N X sh l rm (54, [(0, .inr (.inl 7, 0)), (1, .inl (.inl x1)), (2, .inl (.inl x2)), (3, .inl (.inl x3)), (4, .inl (.inl x4)), (5, .inl (.inl x5)), (6, .inl (.inl x6))], [], σ) (some (.inl (.inl res.1)), res.2)) (σ : yS) (x1 : Int) (x2 : Int) (x3 : Int) (x4 : Int) (x5 : Int) (x6 : Int) (res : Int × yS) (h : f_X7_who_b96 N k39 k54 σ x1 x2 x3 x4 x5 x6 = some res) : G_X7_who N X sh l rm (96, [(0, .inr (.inl 7, 0)), (1, .inl (.inl x1)), (2, .inl (.inl x2)), (3, .inl (.inl x3)), (4, .inl (.inl x4)), (5, .inl (.inl x5)), (6, .inl (.inl x6))], [], σ) (some (.inl (.inl res.1)), res.2) := by
  unfold f_X7_who_b96 at h
  refine yG_n (n := 2) (C' := (54, [(6, .inl (.inl (yad x6 1))), (0, .inr (.inl 7, 0)), (1, .inl (.inl x1)), (2, .inl (.inl x2)), (3, .inl (.inl x3)), (4, .inl (.inl x4)), (5, .inl (.inl x5))], [], σ)) rfl ?_
  exact yG_w [1, 2, 3, 4, 5, 6, 0] rfl (hk54 σ x1 x2 x3 x4 x5 (yad x6 1) res h)
set_option maxRecDepth 100000 in
set_option maxHeartbeats 4000000 in
theorem t_X7_who_b54 {N : Nat} {X : zXT} {sh : List yH} {l : Launch} {rm : Room} (k39 : yS → Int → Int → Int → Int → Int → Option (Int × yS)) (hk39 : ∀ (σ : yS) (x1 : Int) (x2 : Int) (x3 : Int) (x4 : Int) (x5 : Int) (res : Int × yS), k39 σ x1 x2 x3 x4 x5 = some res → G_X7_who N X sh l rm (39, [(0, .inr (.inl 7, 0)), (1, .inl (.inl x1)), (2, .inl (.inl x2)), (3, .inl (.inl x3)), (4, .inl (.inl x4)), (5, .inl (.inl x5))], [], σ) (some (.inl (.inl res.1)), res.2)) : ∀ (n : Nat) (σ : yS) (x1 : Int) (x2 : Int) (x3 : Int) (x4 : Int) (x5 : Int) (x6 : Int) (res : Int × yS), f_X7_who_b54 N k39 n σ x1 x2 x3 x4 x5 x6 = some res → G_X7_who N X sh l rm (54, [(0, .inr (.inl 7, 0)), (1, .inl (.inl x1)), (2, .inl (.inl x2)), (3, .inl (.inl x3)), (4, .inl (.inl x4)), (5, .inl (.inl x5)), (6, .inl (.inl x6))], [], σ) (some (.inl (.inl res.1)), res.2) := by
  intro n
  induction n with
  | zero => intro σ x1 x2 x3 x4 x5 x6 res h; exact (yno h).elim
  | succ n ih =>
    intro σ x1 x2 x3 x4 x5 x6 res h
    rw [q_X7_who_b54] at h
    refine yG_n (n := 2) (C' := (57, [(0, .inr (.inl 7, 0)), (1, .inl (.inl x1)), (2, .inl (.inl x2)), (3, .inl (.inl x3)), (4, .inl (.inl x4)), (5, .inl (.inl x5)), (6, .inl (.inl x6))], [.inl (.inl 4), .inl (.inl x6)], σ)) rfl ?_
    cases hg1 : ycP .ge x6 4 with
    | true =>
      rw [hg1] at h
      dsimp only [cond] at h
      refine yG_t (C' := (102, [(0, .inr (.inl 7, 0)), (1, .inl (.inl x1)), (2, .inl (.inl x2)), (3, .inl (.inl x3)), (4, .inl (.inl x4)), (5, .inl (.inl x5)), (6, .inl (.inl x6))], [], σ)) rfl hg1 ?_
      refine yG_n (n := 2) (C' := (39, [(5, .inl (.inl (yad x5 1))), (0, .inr (.inl 7, 0)), (1, .inl (.inl x1)), (2, .inl (.inl x2)), (3, .inl (.inl x3)), (4, .inl (.inl x4)), (6, .inl (.inl x6))], [], σ)) rfl ?_
      exact yG_w [1, 2, 3, 4, 5, 0] rfl (hk39 σ x1 x2 x3 x4 (yad x5 1) res h)
    | false =>
      rw [hg1] at h
      dsimp only [cond] at h
      refine yG_f (C' := (60, [(0, .inr (.inl 7, 0)), (1, .inl (.inl x1)), (2, .inl (.inl x2)), (3, .inl (.inl x3)), (4, .inl (.inl x4)), (5, .inl (.inl x5)), (6, .inl (.inl x6))], [], σ)) rfl hg1 ?_
      refine yG_n (n := 8) (C' := (72, [(0, .inr (.inl 7, 0)), (1, .inl (.inl x1)), (2, .inl (.inl x2)), (3, .inl (.inl x3)), (4, .inl (.inl x4)), (5, .inl (.inl x5)), (6, .inl (.inl x6))], [.inl (.inl x2), .inl (.inl (ysu x3 1)), .inl (.inl x6), .inl (.inl x5), .inr (.inl 4, 17)], σ)) rfl ?_
      cases hr2 : f_X7_numberOf N σ x5 x6 (ysu x3 1) x2 with
      | none => rw [hr2] at h; dsimp only at h; cases h
      | some r4 =>
        rw [hr2] at h
        dsimp only at h
        refine yG_c (C1 := (75, [(0, .inr (.inl 7, 0)), (1, .inl (.inl x1)), (2, .inl (.inl x2)), (3, .inl (.inl x3)), (4, .inl (.inl x4)), (5, .inl (.inl x5)), (6, .inl (.inl x6))], [.inl (.inl r4.1), .inr (.inl 4, 17)], r4.2)) rfl (e_X7_numberOf hr2) rfl ?_
        cases hr3 : f_X4_broughtBy N r4.2 17 r4.1 with
        | none => rw [hr3] at h; dsimp only at h; cases h
        | some r5 =>
          rw [hr3] at h
          dsimp only at h
          refine yG_c (C1 := (78, [(0, .inr (.inl 7, 0)), (1, .inl (.inl x1)), (2, .inl (.inl x2)), (3, .inl (.inl x3)), (4, .inl (.inl x4)), (5, .inl (.inl x5)), (6, .inl (.inl x6))], [.inl (.inl r5.1)], r5.2)) rfl (e_X4_broughtBy hr3) rfl ?_
          refine yG_n (n := 1) (C' := (79, [(0, .inr (.inl 7, 0)), (1, .inl (.inl x1)), (2, .inl (.inl x2)), (3, .inl (.inl x3)), (4, .inl (.inl x4)), (5, .inl (.inl x5)), (6, .inl (.inl x6))], [.inl (.inl x1), .inl (.inl r5.1)], r5.2)) rfl ?_
          cases hr4 : f_X7_bit N r5.2 r5.1 x1 with
          | none => rw [hr4] at h; dsimp only at h; cases h
          | some r6 =>
            rw [hr4] at h
            dsimp only at h
            refine yG_c (C1 := (82, [(0, .inr (.inl 7, 0)), (1, .inl (.inl x1)), (2, .inl (.inl x2)), (3, .inl (.inl x3)), (4, .inl (.inl x4)), (5, .inl (.inl x5)), (6, .inl (.inl x6))], [.inl (.inl r6.1)], r6.2)) rfl (e_X7_bit hr4) rfl ?_
            refine yG_n (n := 1) (C' := (83, [(0, .inr (.inl 7, 0)), (1, .inl (.inl x1)), (2, .inl (.inl x2)), (3, .inl (.inl x3)), (4, .inl (.inl x4)), (5, .inl (.inl x5)), (6, .inl (.inl x6))], [.inl (.inl 1), .inl (.inl r6.1)], r6.2)) rfl ?_
            cases hg5 : ycP .ne r6.1 1 with
            | true =>
              rw [hg5] at h
              dsimp only [cond] at h
              refine yG_t (C' := (96, [(0, .inr (.inl 7, 0)), (1, .inl (.inl x1)), (2, .inl (.inl x2)), (3, .inl (.inl x3)), (4, .inl (.inl x4)), (5, .inl (.inl x5)), (6, .inl (.inl x6))], [], r6.2)) rfl hg5 ?_
              exact t_X7_who_b96 k39 hk39 (f_X7_who_b54 N k39 n) ih r6.2 x1 x2 x3 x4 x5 x6 res h
            | false =>
              rw [hg5] at h
              dsimp only [cond] at h
              refine yG_f (C' := (86, [(0, .inr (.inl 7, 0)), (1, .inl (.inl x1)), (2, .inl (.inl x2)), (3, .inl (.inl x3)), (4, .inl (.inl x4)), (5, .inl (.inl x5)), (6, .inl (.inl x6))], [], r6.2)) rfl hg5 ?_
              refine yG_n (n := 3) (C' := (91, [(0, .inr (.inl 7, 0)), (1, .inl (.inl x1)), (2, .inl (.inl x2)), (3, .inl (.inl x3)), (4, .inl (.inl x4)), (5, .inl (.inl x5)), (6, .inl (.inl x6))], [.inl (.inl 1), .inl (.inl x5), .inl (.inl x4)], r6.2)) rfl ?_
              cases hr6 : f_X7_withBit N r6.2 x4 x5 1 with
              | none => rw [hr6] at h; dsimp only at h; cases h
              | some r7 =>
                rw [hr6] at h
                dsimp only at h
                refine yG_c (C1 := (94, [(0, .inr (.inl 7, 0)), (1, .inl (.inl x1)), (2, .inl (.inl x2)), (3, .inl (.inl x3)), (4, .inl (.inl x4)), (5, .inl (.inl x5)), (6, .inl (.inl x6))], [.inl (.inl r7.1)], r7.2)) rfl (e_X7_withBit hr6) rfl ?_
                refine yG_n (n := 1) (C' := (96, [(4, .inl (.inl r7.1)), (0, .inr (.inl 7, 0)), (1, .inl (.inl x1)), (2, .inl (.inl x2)), (3, .inl (.inl x3)), (5, .inl (.inl x5)), (6, .inl (.inl x6))], [], r7.2)) rfl ?_
                exact yG_w [1, 2, 3, 4, 0, 5, 6] rfl (t_X7_who_b96 k39 hk39 (f_X7_who_b54 N k39 n) ih r7.2 x1 x2 x3 r7.1 x5 x6 res h)
set_option maxRecDepth 100000 in
set_option maxHeartbeats 4000000 in
theorem t_X7_who_b39 {N : Nat} {X : zXT} {sh : List yH} {l : Launch} {rm : Room} : ∀ (n : Nat) (σ : yS) (x1 : Int) (x2 : Int) (x3 : Int) (x4 : Int) (x5 : Int) (res : Int × yS), f_X7_who_b39 N n σ x1 x2 x3 x4 x5 = some res → G_X7_who N X sh l rm (39, [(0, .inr (.inl 7, 0)), (1, .inl (.inl x1)), (2, .inl (.inl x2)), (3, .inl (.inl x3)), (4, .inl (.inl x4)), (5, .inl (.inl x5))], [], σ) (some (.inl (.inl res.1)), res.2) := by
  intro n
  induction n with
  | zero => intro σ x1 x2 x3 x4 x5 res h; exact (yno h).elim
  | succ n ih =>
    intro σ x1 x2 x3 x4 x5 res h
    rw [q_X7_who_b39] at h
    refine yG_n (n := 4) (C' := (48, [(0, .inr (.inl 7, 0)), (1, .inl (.inl x1)), (2, .inl (.inl x2)), (3, .inl (.inl x3)), (4, .inl (.inl x4)), (5, .inl (.inl x5))], [.inl (.inl (σ.1 17 0)), .inl (.inl x5)], σ)) rfl ?_
    cases hg7 : ycP .ge x5 (σ.1 17 0) with
    | true =>
      rw [hg7] at h
      dsimp only [cond] at h
      refine yG_t (C' := (108, [(0, .inr (.inl 7, 0)), (1, .inl (.inl x1)), (2, .inl (.inl x2)), (3, .inl (.inl x3)), (4, .inl (.inl x4)), (5, .inl (.inl x5))], [], σ)) rfl hg7 ?_
      refine yG_n (n := 1) (C' := (110, [(0, .inr (.inl 7, 0)), (1, .inl (.inl x1)), (2, .inl (.inl x2)), (3, .inl (.inl x3)), (4, .inl (.inl x4)), (5, .inl (.inl x5))], [.inl (.inl x4)], σ)) rfl ?_
      have h := Option.some.inj h
      subst h
      dsimp only
      exact yG_r rfl rfl
    | false =>
      rw [hg7] at h
      dsimp only [cond] at h
      refine yG_f (C' := (51, [(0, .inr (.inl 7, 0)), (1, .inl (.inl x1)), (2, .inl (.inl x2)), (3, .inl (.inl x3)), (4, .inl (.inl x4)), (5, .inl (.inl x5))], [], σ)) rfl hg7 ?_
      refine yG_n (n := 2) (C' := (54, [(6, .inl (.inl 0)), (0, .inr (.inl 7, 0)), (1, .inl (.inl x1)), (2, .inl (.inl x2)), (3, .inl (.inl x3)), (4, .inl (.inl x4)), (5, .inl (.inl x5))], [], σ)) rfl ?_
      exact yG_w [1, 2, 3, 4, 5, 6, 0] rfl (t_X7_who_b54 (f_X7_who_b39 N n) ih N σ x1 x2 x3 x4 x5 0 res h)
set_option maxRecDepth 100000 in
set_option maxHeartbeats 4000000 in
theorem t_X7_who {N : Nat} {X : zXT} {sh : List yH} {l : Launch} {rm : Room} (σ : yS) (x1 : Int) (x2 : Int) (x3 : Int) (res : Int × yS) (h : f_X7_who N σ x1 x2 x3 = some res) : G_X7_who N X sh l rm (0, [(0, .inr (.inl 7, 0)), (1, .inl (.inl x1)), (2, .inl (.inl x2)), (3, .inl (.inl x3))], [], σ) (some (.inl (.inl res.1)), res.2) := by
  unfold f_X7_who at h
  refine yG_n (n := 3) (C' := (5, [(0, .inr (.inl 7, 0)), (1, .inl (.inl x1)), (2, .inl (.inl x2)), (3, .inl (.inl x3))], [.inl (.inl x1), .inr (.inl 4, 17)], σ)) rfl ?_
  cases hr8 : f_X4_isHouse N σ 17 x1 with
  | none => rw [hr8] at h; dsimp only at h; cases h
  | some r1 =>
    rw [hr8] at h
    dsimp only at h
    refine yG_c (C1 := (8, [(0, .inr (.inl 7, 0)), (1, .inl (.inl x1)), (2, .inl (.inl x2)), (3, .inl (.inl x3))], [.inl (.inl r1.1)], r1.2)) rfl (e_X4_isHouse hr8) rfl ?_
    cases hg9 : ycP .eq r1.1 0 with
    | true =>
      rw [hg9] at h
      dsimp only [cond] at h
      refine yG_t (C' := (31, [(0, .inr (.inl 7, 0)), (1, .inl (.inl x1)), (2, .inl (.inl x2)), (3, .inl (.inl x3))], [], r1.2)) rfl hg9 ?_
      exact yG_w [] rfl (t_X7_who_b31 r1.2 res h)
    | false =>
      rw [hg9] at h
      dsimp only [cond] at h
      refine yG_f (C' := (11, [(0, .inr (.inl 7, 0)), (1, .inl (.inl x1)), (2, .inl (.inl x2)), (3, .inl (.inl x3))], [], r1.2)) rfl hg9 ?_
      refine yG_n (n := 3) (C' := (16, [(0, .inr (.inl 7, 0)), (1, .inl (.inl x1)), (2, .inl (.inl x2)), (3, .inl (.inl x3))], [.inl (.inl x2), .inr (.inl 4, 17)], r1.2)) rfl ?_
      cases hr10 : f_X4_isDeed N r1.2 17 x2 with
      | none => rw [hr10] at h; dsimp only at h; cases h
      | some r2 =>
        rw [hr10] at h
        dsimp only at h
        refine yG_c (C1 := (19, [(0, .inr (.inl 7, 0)), (1, .inl (.inl x1)), (2, .inl (.inl x2)), (3, .inl (.inl x3))], [.inl (.inl r2.1)], r2.2)) rfl (e_X4_isDeed hr10) rfl ?_
        cases hg11 : ycP .eq r2.1 0 with
        | true =>
          rw [hg11] at h
          dsimp only [cond] at h
          refine yG_t (C' := (31, [(0, .inr (.inl 7, 0)), (1, .inl (.inl x1)), (2, .inl (.inl x2)), (3, .inl (.inl x3))], [], r2.2)) rfl hg11 ?_
          exact yG_w [] rfl (t_X7_who_b31 r2.2 res h)
        | false =>
          rw [hg11] at h
          dsimp only [cond] at h
          refine yG_f (C' := (22, [(0, .inr (.inl 7, 0)), (1, .inl (.inl x1)), (2, .inl (.inl x2)), (3, .inl (.inl x3))], [], r2.2)) rfl hg11 ?_
          refine yG_n (n := 3) (C' := (25, [(0, .inr (.inl 7, 0)), (1, .inl (.inl x1)), (2, .inl (.inl x2)), (3, .inl (.inl x3))], [.inl (.inl 4), .inl (.inl 1), .inl (.inl x3)], r2.2)) rfl ?_
          cases hr12 : f_X7_within N r2.2 x3 1 4 with
          | none => rw [hr12] at h; dsimp only at h; cases h
          | some r3 =>
            rw [hr12] at h
            dsimp only at h
            refine yG_c (C1 := (28, [(0, .inr (.inl 7, 0)), (1, .inl (.inl x1)), (2, .inl (.inl x2)), (3, .inl (.inl x3))], [.inl (.inl r3.1)], r3.2)) rfl (e_X7_within hr12) rfl ?_
            cases hg13 : ycP .ne r3.1 0 with
            | true =>
              rw [hg13] at h
              dsimp only [cond] at h
              refine yG_t (C' := (33, [(0, .inr (.inl 7, 0)), (1, .inl (.inl x1)), (2, .inl (.inl x2)), (3, .inl (.inl x3))], [], r3.2)) rfl hg13 ?_
              refine yG_n (n := 4) (C' := (39, [(5, .inl (.inl 0)), (4, .inl (.inl 0)), (0, .inr (.inl 7, 0)), (1, .inl (.inl x1)), (2, .inl (.inl x2)), (3, .inl (.inl x3))], [], r3.2)) rfl ?_
              exact yG_w [2, 3, 4, 5, 1, 0] rfl (t_X7_who_b39 N r3.2 x1 x2 x3 0 0 res h)
            | false =>
              rw [hg13] at h
              dsimp only [cond] at h
              refine yG_f (C' := (31, [(0, .inr (.inl 7, 0)), (1, .inl (.inl x1)), (2, .inl (.inl x2)), (3, .inl (.inl x3))], [], r3.2)) rfl hg13 ?_
              exact yG_w [] rfl (t_X7_who_b31 r3.2 res h)
set_option maxRecDepth 100000 in
set_option maxHeartbeats 4000000 in
theorem m_X7_who {N : Nat} {X : zXT} (hX : zXok X) (hN : zXn X) (l : Launch) {sh : List yH} : yMet X vwCl yct sh l yX7_who wsX7_who { frames := 4, cells := 0, slots := 0, locals := 137 } (F_X7_who N) :=
  ymeth (tb := tb_X7_who N) (pr := pr_X7_who) (rt := 1) (own := RX7) hX (by decide +kernel) rfl rfl ⟨Nat.le_of_ble_eq_true rfl, Nat.le_of_ble_eq_true rfl⟩
    (zfl_all (List.forall_mem_cons.mpr ⟨zfl_X7 (fun w h => List.mem_cons_of_mem _ (List.mem_append_left _ (List.mem_append_right _ h))) (List.mem_of_getElem? (i := 1) rfl) (by decide) (by decide), List.forall_mem_cons.mpr ⟨zfl_X4 (fun w h => List.mem_cons_of_mem _ (List.mem_append_right _ h)) (List.mem_of_getElem? (i := 2) rfl) (by decide) (by decide), fun _ h => absurd h List.not_mem_nil⟩⟩))
    (zco_all (fun _ h => absurd h List.not_mem_nil)) (zlc_all (fun _ h => absurd h List.not_mem_nil))
    (List.forall_mem_cons.mpr ⟨ycal_V hX (m_X4_isHouse hX hN l) rfl (fun s args hts => cwV 1 hts gX7_who_X4_isHouse rfl rfl rfl (by decide +kernel) ⟨Nat.le_of_ble_eq_true rfl, Nat.le_of_ble_eq_true rfl⟩), List.forall_mem_cons.mpr ⟨ycal_V hX (m_X4_isDeed hX hN l) rfl (fun s args hts => cwV 1 hts gX7_who_X4_isDeed rfl rfl rfl (by decide +kernel) ⟨Nat.le_of_ble_eq_true rfl, Nat.le_of_ble_eq_true rfl⟩), List.forall_mem_cons.mpr ⟨ycal_V hX (m_X4_broughtBy hX hN l) rfl (fun s args hts => cwV 1 hts gX7_who_X4_broughtBy rfl rfl rfl (by decide +kernel) ⟨Nat.le_of_ble_eq_true rfl, Nat.le_of_ble_eq_true rfl⟩), fun _ h => absurd h List.not_mem_nil⟩⟩⟩)
    (List.forall_mem_cons.mpr ⟨ycal_S hX (m_X7_within hX hN l) (fun s args hts => va_cwS 3 hts gX7_who_X7_within rfl rfl rfl (by decide +kernel) ⟨Nat.le_of_ble_eq_true rfl, Nat.le_of_ble_eq_true rfl⟩), List.forall_mem_cons.mpr ⟨ycal_S hX (m_X7_bit hX hN l) (fun s args hts => va_cwS 2 hts gX7_who_X7_bit rfl rfl rfl (by decide +kernel) ⟨Nat.le_of_ble_eq_true rfl, Nat.le_of_ble_eq_true rfl⟩), List.forall_mem_cons.mpr ⟨ycal_S hX (m_X7_withBit hX hN l) (fun s args hts => va_cwS 3 hts gX7_who_X7_withBit rfl rfl rfl (by decide +kernel) ⟨Nat.le_of_ble_eq_true rfl, Nat.le_of_ble_eq_true rfl⟩), List.forall_mem_cons.mpr ⟨ycal_S hX (m_X7_numberOf hX hN l) (fun s args hts => va_cwS 4 hts gX7_who_X7_numberOf rfl rfl rfl (by decide +kernel) ⟨Nat.le_of_ble_eq_true rfl, Nat.le_of_ble_eq_true rfl⟩), fun _ h => absurd h List.not_mem_nil⟩⟩⟩⟩)
    (zmm_all (fun _ h => absurd h List.not_mem_nil)) (fun _ h => absurd h List.not_mem_nil) (zpr_all hp_X7_who) (fun as σ res h => by
      unfold F_X7_who at h
      split at h
      · rename_i x1 x2 x3
        cases hr : f_X7_who N σ x1 x2 x3 with
        | none => rw [hr] at h; cases h
        | some r =>
          rw [hr] at h
          cases h
          exact ⟨Nat.le_of_ble_eq_true rfl, t_X7_who σ x1 x2 x3 r hr⟩
      · cases h)
noncomputable def pr_X7_wish : List (Nat × Instr × Nat) := [(0, .aload_n 0, 1), (1, .getfield 10, 3), (4, .iload_n 1, 1), (5, .invokevirtual 118, 3), (8, .ifCond .eq 14, 3), (11, .aload_n 0, 1), (12, .getfield 10, 3), (15, .iload_n 2, 1), (16, .invokevirtual 150, 3), (19, .ifCond .ne 5, 3), (22, .iconst (-1), 1), (23, .ireturn, 1), (24, .aload_n 0, 1), (25, .getfield 10, 3), (28, .getfield 99, 3), (31, .iload_n 1, 1), (32, .iload_n 2, 1), (33, .invokevirtual 187, 3), (36, .ifCond .eq 16, 3), (39, .aload_n 0, 1), (40, .getfield 10, 3), (43, .getfield 99, 3), (46, .getfield 103, 3), (49, .goto 5, 3), (52, .bipush (-3), 2), (54, .ireturn, 1)]
set_option maxRecDepth 100000 in
theorem hp_X7_wish : pr_X7_wish.all (fun x => decide (decode cX7_wish x.1 = .ok x.2)) = true := by decide +kernel
noncomputable def f_X7_wish_b22 (N : Nat) (σ : yS) : Option (Int × yS) :=
  some ((-1), σ)
noncomputable def f_X7_wish_b54 (N : Nat) (σ : yS) (s0 : Int) : Option (Int × yS) :=
  some (s0, σ)
noncomputable def f_X7_wish (N : Nat) (σ : yS) (x1 : Int) (x2 : Int) : Option (Int × yS) :=
  match f_X4_isHouse N σ 17 x1 with
  | none => none
  | some r1 => bif ycP .eq r1.1 0 then
      f_X7_wish_b22 N r1.2
    else
      match f_X4_isDeed N r1.2 17 x2 with
      | none => none
      | some r2 => bif ycP .ne r2.1 0 then
          match f_X6_append N r2.2 35 x1 x2 with
          | none => none
          | some r3 => bif ycP .eq r3.1 0 then
              f_X7_wish_b54 N r3.2 ((-3))
            else
              f_X7_wish_b54 N r3.2 (r3.2.1 35 0)
        else
          f_X7_wish_b22 N r2.2
noncomputable def F_X7_wish (N : Nat) : yF := fun as σ => match as with
  | [.inr (.inl 7, 0), .inl (.inl x1), .inl (.inl x2)] => (f_X7_wish N σ x1 x2).map (fun r => (some (.inl (.inl r.1)), r.2))
  | _ => none
theorem e_X7_wish {N : Nat} {σ : yS} {x1 : Int} {x2 : Int} {r : Int × yS} (h : f_X7_wish N σ x1 x2 = some r) : F_X7_wish N [.inr (.inl 7, 0), .inl (.inl x1), .inl (.inl x2)] σ = some (some (.inl (.inl r.1)), r.2) := by
  show (f_X7_wish N σ x1 x2).map (fun r => ((some (.inl (.inl r.1)), r.2) : yR)) = _
  rw [h]
  rfl
noncomputable def tb_X7_wish (N : Nat) : yTb := ([(10, 7, 0, 3), (99, 4, 13, 3), (103, 6, 0, 0)], [], [], [(118, 2, 4, F_X4_isHouse N), (150, 2, 4, F_X4_isDeed N), (187, 3, 6, F_X6_append N)], [], [], [])
abbrev G_X7_wish (N : Nat) (X : zXT) (sh : List yH) (l : Launch) (rm : Room) : yC → yR → Prop := yGoes X vwCl yct sh l rm cX7_wish 3 wsX7_wish RX7 (tb_X7_wish N) pr_X7_wish 1
set_option maxRecDepth 100000 in
set_option maxHeartbeats 4000000 in
theorem t_X7_wish_b22 {N : Nat} {X : zXT} {sh : List yH} {l : Launch} {rm : Room} (σ : yS) (res : Int × yS) (h : f_X7_wish_b22 N σ = some res) : G_X7_wish N X sh l rm (22, [], [], σ) (some (.inl (.inl res.1)), res.2) := by
  unfold f_X7_wish_b22 at h
  refine yG_n (n := 1) (C' := (23, [], [.inl (.inl ((-1)))], σ)) rfl ?_
  have h := Option.some.inj h
  subst h
  dsimp only
  exact yG_r rfl rfl
set_option maxRecDepth 100000 in
set_option maxHeartbeats 4000000 in
theorem t_X7_wish_b54 {N : Nat} {X : zXT} {sh : List yH} {l : Launch} {rm : Room} (σ : yS) (s0 : Int) (res : Int × yS) (h : f_X7_wish_b54 N σ s0 = some res) : G_X7_wish N X sh l rm (54, [], [.inl (.inl s0)], σ) (some (.inl (.inl res.1)), res.2) := by
  unfold f_X7_wish_b54 at h
  have h := Option.some.inj h
  subst h
  dsimp only
  exact yG_r rfl rfl
set_option maxRecDepth 100000 in
set_option maxHeartbeats 4000000 in
theorem t_X7_wish {N : Nat} {X : zXT} {sh : List yH} {l : Launch} {rm : Room} (σ : yS) (x1 : Int) (x2 : Int) (res : Int × yS) (h : f_X7_wish N σ x1 x2 = some res) : G_X7_wish N X sh l rm (0, [(0, .inr (.inl 7, 0)), (1, .inl (.inl x1)), (2, .inl (.inl x2))], [], σ) (some (.inl (.inl res.1)), res.2) := by
  unfold f_X7_wish at h
  refine yG_n (n := 3) (C' := (5, [(0, .inr (.inl 7, 0)), (1, .inl (.inl x1)), (2, .inl (.inl x2))], [.inl (.inl x1), .inr (.inl 4, 17)], σ)) rfl ?_
  cases hr1 : f_X4_isHouse N σ 17 x1 with
  | none => rw [hr1] at h; dsimp only at h; cases h
  | some r1 =>
    rw [hr1] at h
    dsimp only at h
    refine yG_c (C1 := (8, [(0, .inr (.inl 7, 0)), (1, .inl (.inl x1)), (2, .inl (.inl x2))], [.inl (.inl r1.1)], r1.2)) rfl (e_X4_isHouse hr1) rfl ?_
    cases hg2 : ycP .eq r1.1 0 with
    | true =>
      rw [hg2] at h
      dsimp only [cond] at h
      refine yG_t (C' := (22, [(0, .inr (.inl 7, 0)), (1, .inl (.inl x1)), (2, .inl (.inl x2))], [], r1.2)) rfl hg2 ?_
      exact yG_w [] rfl (t_X7_wish_b22 r1.2 res h)
    | false =>
      rw [hg2] at h
      dsimp only [cond] at h
      refine yG_f (C' := (11, [(0, .inr (.inl 7, 0)), (1, .inl (.inl x1)), (2, .inl (.inl x2))], [], r1.2)) rfl hg2 ?_
      refine yG_n (n := 3) (C' := (16, [(0, .inr (.inl 7, 0)), (1, .inl (.inl x1)), (2, .inl (.inl x2))], [.inl (.inl x2), .inr (.inl 4, 17)], r1.2)) rfl ?_
      cases hr3 : f_X4_isDeed N r1.2 17 x2 with
      | none => rw [hr3] at h; dsimp only at h; cases h
      | some r2 =>
        rw [hr3] at h
        dsimp only at h
        refine yG_c (C1 := (19, [(0, .inr (.inl 7, 0)), (1, .inl (.inl x1)), (2, .inl (.inl x2))], [.inl (.inl r2.1)], r2.2)) rfl (e_X4_isDeed hr3) rfl ?_
        cases hg4 : ycP .ne r2.1 0 with
        | true =>
          rw [hg4] at h
          dsimp only [cond] at h
          refine yG_t (C' := (24, [(0, .inr (.inl 7, 0)), (1, .inl (.inl x1)), (2, .inl (.inl x2))], [], r2.2)) rfl hg4 ?_
          refine yG_n (n := 5) (C' := (33, [(0, .inr (.inl 7, 0)), (1, .inl (.inl x1)), (2, .inl (.inl x2))], [.inl (.inl x2), .inl (.inl x1), .inr (.inl 6, 35)], r2.2)) rfl ?_
          cases hr5 : f_X6_append N r2.2 35 x1 x2 with
          | none => rw [hr5] at h; dsimp only at h; cases h
          | some r3 =>
            rw [hr5] at h
            dsimp only at h
            refine yG_c (C1 := (36, [(0, .inr (.inl 7, 0)), (1, .inl (.inl x1)), (2, .inl (.inl x2))], [.inl (.inl r3.1)], r3.2)) rfl (e_X6_append hr5) rfl ?_
            cases hg6 : ycP .eq r3.1 0 with
            | true =>
              rw [hg6] at h
              dsimp only [cond] at h
              refine yG_t (C' := (52, [(0, .inr (.inl 7, 0)), (1, .inl (.inl x1)), (2, .inl (.inl x2))], [], r3.2)) rfl hg6 ?_
              refine yG_n (n := 1) (C' := (54, [(0, .inr (.inl 7, 0)), (1, .inl (.inl x1)), (2, .inl (.inl x2))], [.inl (.inl ((-3)))], r3.2)) rfl ?_
              exact yG_w [] rfl (t_X7_wish_b54 r3.2 ((-3)) res h)
            | false =>
              rw [hg6] at h
              dsimp only [cond] at h
              refine yG_f (C' := (39, [(0, .inr (.inl 7, 0)), (1, .inl (.inl x1)), (2, .inl (.inl x2))], [], r3.2)) rfl hg6 ?_
              refine yG_n (n := 5) (C' := (54, [(0, .inr (.inl 7, 0)), (1, .inl (.inl x1)), (2, .inl (.inl x2))], [.inl (.inl (r3.2.1 35 0))], r3.2)) rfl ?_
              exact yG_w [] rfl (t_X7_wish_b54 r3.2 (r3.2.1 35 0) res h)
        | false =>
          rw [hg4] at h
          dsimp only [cond] at h
          refine yG_f (C' := (22, [(0, .inr (.inl 7, 0)), (1, .inl (.inl x1)), (2, .inl (.inl x2))], [], r2.2)) rfl hg4 ?_
          exact yG_w [] rfl (t_X7_wish_b22 r2.2 res h)
set_option maxRecDepth 100000 in
set_option maxHeartbeats 4000000 in
theorem m_X7_wish {N : Nat} {X : zXT} (hX : zXok X) (hN : zXn X) (l : Launch) {sh : List yH} : yMet X vwCl yct sh l yX7_wish wsX7_wish { frames := 3, cells := 0, slots := 0, locals := 107 } (F_X7_wish N) :=
  ymeth (tb := tb_X7_wish N) (pr := pr_X7_wish) (rt := 1) (own := RX7) hX (by decide +kernel) rfl rfl ⟨Nat.le_of_ble_eq_true rfl, Nat.le_of_ble_eq_true rfl⟩
    (zfl_all (List.forall_mem_cons.mpr ⟨zfl_X7 (fun w h => List.mem_cons_of_mem _ (List.mem_append_left _ (List.mem_append_left _ (List.mem_append_right _ h)))) (List.mem_of_getElem? (i := 1) rfl) (by decide) (by decide), List.forall_mem_cons.mpr ⟨zfl_X4 (fun w h => List.mem_cons_of_mem _ (List.mem_append_left _ (List.mem_append_right _ h))) (List.mem_of_getElem? (i := 2) rfl) (by decide) (by decide), List.forall_mem_cons.mpr ⟨zfl_X6 (fun w h => List.mem_cons_of_mem _ (List.mem_append_right _ h)) (List.mem_of_getElem? (i := 3) rfl) (by decide) (by decide), fun _ h => absurd h List.not_mem_nil⟩⟩⟩))
    (zco_all (fun _ h => absurd h List.not_mem_nil)) (zlc_all (fun _ h => absurd h List.not_mem_nil))
    (List.forall_mem_cons.mpr ⟨ycal_V hX (m_X4_isHouse hX hN l) rfl (fun s args hts => cwV 1 hts gX7_wish_X4_isHouse rfl rfl rfl (by decide +kernel) ⟨Nat.le_of_ble_eq_true rfl, Nat.le_of_ble_eq_true rfl⟩), List.forall_mem_cons.mpr ⟨ycal_V hX (m_X4_isDeed hX hN l) rfl (fun s args hts => cwV 1 hts gX7_wish_X4_isDeed rfl rfl rfl (by decide +kernel) ⟨Nat.le_of_ble_eq_true rfl, Nat.le_of_ble_eq_true rfl⟩), List.forall_mem_cons.mpr ⟨ycal_V hX (m_X6_append hX hN l) rfl (fun s args hts => cwV 2 hts gX7_wish_X6_append rfl rfl rfl (by decide +kernel) ⟨Nat.le_of_ble_eq_true rfl, Nat.le_of_ble_eq_true rfl⟩), fun _ h => absurd h List.not_mem_nil⟩⟩⟩)
    (fun _ h => absurd h List.not_mem_nil)
    (zmm_all (fun _ h => absurd h List.not_mem_nil)) (fun _ h => absurd h List.not_mem_nil) (zpr_all hp_X7_wish) (fun as σ res h => by
      unfold F_X7_wish at h
      split at h
      · rename_i x1 x2
        cases hr : f_X7_wish N σ x1 x2 with
        | none => rw [hr] at h; cases h
        | some r =>
          rw [hr] at h
          cases h
          exact ⟨Nat.le_of_ble_eq_true rfl, t_X7_wish σ x1 x2 r hr⟩
      · cases h)
end
section
noncomputable def pr_X7_drift : List (Nat × Instr × Nat) := [(0, .iload_n 2, 1), (1, .iconst 1, 1), (2, .bipush 60, 2), (4, .invokestatic 49, 3), (7, .ifCond .eq 12, 3), (10, .iload_n 3, 1), (11, .iconst 0, 1), (12, .iconst 1, 1), (13, .invokestatic 49, 3), (16, .ifCond .ne 5, 3), (19, .iconst (-1), 1), (20, .ireturn, 1), (21, .aload_n 0, 1), (22, .getfield 16, 3), (25, .aload_n 0, 1), (26, .getfield 10, 3), (29, .invokevirtual 73, 3), (32, .iload_n 1, 1), (33, .istore 4, 2), (35, .iconst 0, 1), (36, .istore 5, 2), (38, .iconst 0, 1), (39, .istore 6, 2), (41, .iload 6, 2), (43, .iload_n 2, 1), (44, .if_icmp .ge 62, 3), (47, .iload 4, 2), (49, .ldc 249, 2), (51, .imul, 1), (52, .sipush 12345, 3), (55, .iadd, 1), (56, .istore 4, 2), (58, .aload_n 0, 1), (59, .getfield 16, 3), (62, .iload 4, 2), (64, .bipush 16, 2), (66, .iushr, 1), (67, .sipush 32767, 3), (70, .iand, 1), (71, .iconst 1, 1), (72, .aload_n 0, 1), (73, .getfield 16, 3), (76, .getfield 82, 3), (79, .invokestatic 250, 3), (82, .invokestatic 255, 3), (85, .invokevirtual 258, 3), (88, .iload 5, 2), (90, .aload_n 0, 1), (91, .getfield 16, 3), (94, .invokevirtual 203, 3), (97, .iadd, 1), (98, .istore 5, 2), (100, .iinc 6 1, 3), (103, .goto (-62), 3), (106, .iload_n 3, 1), (107, .ifCond .ne 8, 3), (110, .iload 5, 2), (112, .goto 18, 3), (115, .aload_n 0, 1), (116, .getfield 16, 3), (119, .getfield 115, 3), (122, .aload_n 0, 1), (123, .getfield 10, 3), (126, .getfield 115, 3), (129, .isub, 1), (130, .ireturn, 1)]
set_option maxRecDepth 100000 in
theorem hp_X7_drift : pr_X7_drift.all (fun x => decide (decode cX7_drift x.1 = .ok x.2)) = true := by decide +kernel
noncomputable def f_X7_drift_b19 (N : Nat) (σ : yS) : Option (Int × yS) :=
  some ((-1), σ)
noncomputable def f_X7_drift_b130 (N : Nat) (σ : yS) (s0 : Int) : Option (Int × yS) :=
  some (s0, σ)
noncomputable def f_X7_drift_b58 (N : Nat) (k41 : yS → Int → Int → Int → Int → Int → Option (Int × yS)) (σ : yS) (x2 : Int) (x3 : Int) (x4 : Int) (x5 : Int) (x6 : Int) : Option (Int × yS) :=
  match f_J9_floorMod_7cf53 N σ (yan (yus x4 16) 32767) (ymx 1 (σ.1 38 0)) with
  | none => none
  | some r4 => match f_X4_vowByHabit N r4.2 38 r4.1 with
    | none => none
    | some r5 => match f_X4_passDay N r5.2 38 with
      | none => none
      | some r6 => k41 r6.2 x2 x3 x4 (yad x5 r6.1) (yad x6 1)
noncomputable def f_X7_drift_b41 (N : Nat) : Nat → yS → Int → Int → Int → Int → Int → Option (Int × yS) := yfix (fun _ _ _ _ _ _ => none) (fun ih σ x2 x3 x4 x5 x6 =>
    bif ycP .ge x6 x2 then
      bif ycP .ne x3 0 then
        f_X7_drift_b130 N σ (ysu (σ.1 38 17) (σ.1 17 17))
      else
        f_X7_drift_b130 N σ x5
    else
      f_X7_drift_b58 N ih σ x2 x3 (yad (ymu x4 1103515245) 12345) x5 x6)
theorem q_X7_drift_b41 (N : Nat) (n : Nat) (σ : yS) (x2 : Int) (x3 : Int) (x4 : Int) (x5 : Int) (x6 : Int) : f_X7_drift_b41 N (n + 1) σ x2 x3 x4 x5 x6 =
    (bif ycP .ge x6 x2 then
      bif ycP .ne x3 0 then
        f_X7_drift_b130 N σ (ysu (σ.1 38 17) (σ.1 17 17))
      else
        f_X7_drift_b130 N σ x5
    else
      f_X7_drift_b58 N (f_X7_drift_b41 N n) σ x2 x3 (yad (ymu x4 1103515245) 12345) x5 x6) := rfl
noncomputable def f_X7_drift (N : Nat) (σ : yS) (x1 : Int) (x2 : Int) (x3 : Int) : Option (Int × yS) :=
  match f_X7_within N σ x2 1 60 with
  | none => none
  | some r1 => bif ycP .eq r1.1 0 then
      f_X7_drift_b19 N r1.2
    else
      match f_X7_within N r1.2 x3 0 1 with
      | none => none
      | some r2 => bif ycP .ne r2.1 0 then
          match f_X4_copyFrom N r2.2 38 17 with
          | none => none
          | some r3 => f_X7_drift_b41 N N r3.2 x2 x3 x1 0 0
        else
          f_X7_drift_b19 N r2.2
noncomputable def F_X7_drift (N : Nat) : yF := fun as σ => match as with
  | [.inr (.inl 7, 0), .inl (.inl x1), .inl (.inl x2), .inl (.inl x3)] => (f_X7_drift N σ x1 x2 x3).map (fun r => (some (.inl (.inl r.1)), r.2))
  | _ => none
theorem e_X7_drift {N : Nat} {σ : yS} {x1 : Int} {x2 : Int} {x3 : Int} {r : Int × yS} (h : f_X7_drift N σ x1 x2 x3 = some r) : F_X7_drift N [.inr (.inl 7, 0), .inl (.inl x1), .inl (.inl x2), .inl (.inl x3)] σ = some (some (.inl (.inl r.1)), r.2) := by
  show (f_X7_drift N σ x1 x2 x3).map (fun r => ((some (.inl (.inl r.1)), r.2) : yR)) = _
  rw [h]
  rfl
noncomputable def tb_X7_drift (N : Nat) : yTb := ([(10, 7, 0, 3), (16, 7, 1, 3), (82, 4, 0, 0), (115, 4, 17, 0)], [(249, 1103515245)], [], [(73, 2, 4, F_X4_copyFrom N), (203, 1, 4, F_X4_passDay N), (258, 2, 4, F_X4_vowByHabit N)], [(49, 3, F_X7_within N), (255, 2, F_J9_floorMod_7cf53 N)], [(250, 0)], [])
abbrev G_X7_drift (N : Nat) (X : zXT) (sh : List yH) (l : Launch) (rm : Room) : yC → yR → Prop := yGoes X vwCl yct sh l rm cX7_drift 7 wsX7_drift RX7 (tb_X7_drift N) pr_X7_drift 1
set_option maxRecDepth 100000 in
set_option maxHeartbeats 4000000 in
theorem t_X7_drift_b19 {N : Nat} {X : zXT} {sh : List yH} {l : Launch} {rm : Room} (σ : yS) (res : Int × yS) (h : f_X7_drift_b19 N σ = some res) : G_X7_drift N X sh l rm (19, [], [], σ) (some (.inl (.inl res.1)), res.2) := by
  unfold f_X7_drift_b19 at h
  refine yG_n (n := 1) (C' := (20, [], [.inl (.inl ((-1)))], σ)) rfl ?_
  have h := Option.some.inj h
  subst h
  dsimp only
  exact yG_r rfl rfl
set_option maxRecDepth 100000 in
set_option maxHeartbeats 4000000 in
theorem t_X7_drift_b130 {N : Nat} {X : zXT} {sh : List yH} {l : Launch} {rm : Room} (σ : yS) (s0 : Int) (res : Int × yS) (h : f_X7_drift_b130 N σ s0 = some res) : G_X7_drift N X sh l rm (130, [], [.inl (.inl s0)], σ) (some (.inl (.inl res.1)), res.2) := by
  unfold f_X7_drift_b130 at h
  have h := Option.some.inj h
  subst h
  dsimp only
  exact yG_r rfl rfl
set_option maxRecDepth 100000 in
set_option maxHeartbeats 4000000 in
theorem t_X7_drift_b58 {N : Nat} {X : zXT} {sh : List yH} {l : Launch} {rm : Room} (k41 : yS → Int → Int → Int → Int → Int → Option (Int × yS)) (hk41 : ∀ (σ : yS) (x2 : Int) (x3 : Int) (x4 : Int) (x5 : Int) (x6 : Int) (res : Int × yS), k41 σ x2 x3 x4 x5 x6 = some res → G_X7_drift N X sh l rm (41, [(0, .inr (.inl 7, 0)), (2, .inl (.inl x2)), (3, .inl (.inl x3)), (4, .inl (.inl x4)), (5, .inl (.inl x5)), (6, .inl (.inl x6))], [], σ) (some (.inl (.inl res.1)), res.2)) (σ : yS) (x2 : Int) (x3 : Int) (x4 : Int) (x5 : Int) (x6 : Int) (res : Int × yS) (h : f_X7_drift_b58 N k41 σ x2 x3 x4 x5 x6 = some res) : G_X7_drift N X sh l rm (58, [(0, .inr (.inl 7, 0)), (2, .inl (.inl x2)), (3, .inl (.inl x3)), (4, .inl (.inl x4)), (5, .inl (.inl x5)), (6, .inl (.inl x6))], [], σ) (some (.inl (.inl res.1)), res.2) := by
  unfold f_X7_drift_b58 at h
  refine yG_n (n := 7) (C' := (71, [(0, .inr (.inl 7, 0)), (2, .inl (.inl x2)), (3, .inl (.inl x3)), (4, .inl (.inl x4)), (5, .inl (.inl x5)), (6, .inl (.inl x6))], [.inl (.inl (yan (yus x4 16) 32767)), .inr (.inl 4, 38)], σ)) rfl ?_
  refine yG_n (n := 5) (C' := (82, [(0, .inr (.inl 7, 0)), (2, .inl (.inl x2)), (3, .inl (.inl x3)), (4, .inl (.inl x4)), (5, .inl (.inl x5)), (6, .inl (.inl x6))], [.inl (.inl (ymx 1 (σ.1 38 0))), .inl (.inl (yan (yus x4 16) 32767)), .inr (.inl 4, 38)], σ)) rfl ?_
  cases hr1 : f_J9_floorMod_7cf53 N σ (yan (yus x4 16) 32767) (ymx 1 (σ.1 38 0)) with
  | none => rw [hr1] at h; dsimp only at h; cases h
  | some r4 =>
    rw [hr1] at h
    dsimp only at h
    refine yG_c (C1 := (85, [(0, .inr (.inl 7, 0)), (2, .inl (.inl x2)), (3, .inl (.inl x3)), (4, .inl (.inl x4)), (5, .inl (.inl x5)), (6, .inl (.inl x6))], [.inl (.inl r4.1), .inr (.inl 4, 38)], r4.2)) rfl (e_J9_floorMod_7cf53 hr1) rfl ?_
    cases hr2 : f_X4_vowByHabit N r4.2 38 r4.1 with
    | none => rw [hr2] at h; dsimp only at h; cases h
    | some r5 =>
      rw [hr2] at h
      dsimp only at h
      refine yG_c (C1 := (88, [(0, .inr (.inl 7, 0)), (2, .inl (.inl x2)), (3, .inl (.inl x3)), (4, .inl (.inl x4)), (5, .inl (.inl x5)), (6, .inl (.inl x6))], [], r5.2)) rfl (e_X4_vowByHabit hr2) rfl ?_
      refine yG_n (n := 3) (C' := (94, [(0, .inr (.inl 7, 0)), (2, .inl (.inl x2)), (3, .inl (.inl x3)), (4, .inl (.inl x4)), (5, .inl (.inl x5)), (6, .inl (.inl x6))], [.inr (.inl 4, 38), .inl (.inl x5)], r5.2)) rfl ?_
      cases hr3 : f_X4_passDay N r5.2 38 with
      | none => rw [hr3] at h; dsimp only at h; cases h
      | some r6 =>
        rw [hr3] at h
        dsimp only at h
        refine yG_c (C1 := (97, [(0, .inr (.inl 7, 0)), (2, .inl (.inl x2)), (3, .inl (.inl x3)), (4, .inl (.inl x4)), (5, .inl (.inl x5)), (6, .inl (.inl x6))], [.inl (.inl r6.1), .inl (.inl x5)], r6.2)) rfl (e_X4_passDay hr3) rfl ?_
        refine yG_n (n := 1) (C' := (98, [(0, .inr (.inl 7, 0)), (2, .inl (.inl x2)), (3, .inl (.inl x3)), (4, .inl (.inl x4)), (5, .inl (.inl x5)), (6, .inl (.inl x6))], [.inl (.inl (yad x5 r6.1))], r6.2)) rfl ?_
        refine yG_n (n := 3) (C' := (41, [(6, .inl (.inl (yad x6 1))), (5, .inl (.inl (yad x5 r6.1))), (0, .inr (.inl 7, 0)), (2, .inl (.inl x2)), (3, .inl (.inl x3)), (4, .inl (.inl x4))], [], r6.2)) rfl ?_
        exact yG_w [2, 3, 4, 5, 1, 0] rfl (hk41 r6.2 x2 x3 x4 (yad x5 r6.1) (yad x6 1) res h)
set_option maxRecDepth 100000 in
set_option maxHeartbeats 4000000 in
theorem t_X7_drift_b41 {N : Nat} {X : zXT} {sh : List yH} {l : Launch} {rm : Room} : ∀ (n : Nat) (σ : yS) (x2 : Int) (x3 : Int) (x4 : Int) (x5 : Int) (x6 : Int) (res : Int × yS), f_X7_drift_b41 N n σ x2 x3 x4 x5 x6 = some res → G_X7_drift N X sh l rm (41, [(0, .inr (.inl 7, 0)), (2, .inl (.inl x2)), (3, .inl (.inl x3)), (4, .inl (.inl x4)), (5, .inl (.inl x5)), (6, .inl (.inl x6))], [], σ) (some (.inl (.inl res.1)), res.2) := by
  intro n
  induction n with
  | zero => intro σ x2 x3 x4 x5 x6 res h; exact (yno h).elim
  | succ n ih =>
    intro σ x2 x3 x4 x5 x6 res h
    rw [q_X7_drift_b41] at h
    refine yG_n (n := 2) (C' := (44, [(0, .inr (.inl 7, 0)), (2, .inl (.inl x2)), (3, .inl (.inl x3)), (4, .inl (.inl x4)), (5, .inl (.inl x5)), (6, .inl (.inl x6))], [.inl (.inl x2), .inl (.inl x6)], σ)) rfl ?_
    cases hg4 : ycP .ge x6 x2 with
    | true =>
      rw [hg4] at h
      dsimp only [cond] at h
      refine yG_t (C' := (106, [(0, .inr (.inl 7, 0)), (2, .inl (.inl x2)), (3, .inl (.inl x3)), (4, .inl (.inl x4)), (5, .inl (.inl x5)), (6, .inl (.inl x6))], [], σ)) rfl hg4 ?_
      refine yG_n (n := 1) (C' := (107, [(0, .inr (.inl 7, 0)), (2, .inl (.inl x2)), (3, .inl (.inl x3)), (4, .inl (.inl x4)), (5, .inl (.inl x5)), (6, .inl (.inl x6))], [.inl (.inl x3)], σ)) rfl ?_
      cases hg5 : ycP .ne x3 0 with
      | true =>
        rw [hg5] at h
        dsimp only [cond] at h
        refine yG_t (C' := (115, [(0, .inr (.inl 7, 0)), (2, .inl (.inl x2)), (3, .inl (.inl x3)), (4, .inl (.inl x4)), (5, .inl (.inl x5)), (6, .inl (.inl x6))], [], σ)) rfl hg5 ?_
        refine yG_n (n := 7) (C' := (130, [(0, .inr (.inl 7, 0)), (2, .inl (.inl x2)), (3, .inl (.inl x3)), (4, .inl (.inl x4)), (5, .inl (.inl x5)), (6, .inl (.inl x6))], [.inl (.inl (ysu (σ.1 38 17) (σ.1 17 17)))], σ)) rfl ?_
        exact yG_w [] rfl (t_X7_drift_b130 σ (ysu (σ.1 38 17) (σ.1 17 17)) res h)
      | false =>
        rw [hg5] at h
        dsimp only [cond] at h
        refine yG_f (C' := (110, [(0, .inr (.inl 7, 0)), (2, .inl (.inl x2)), (3, .inl (.inl x3)), (4, .inl (.inl x4)), (5, .inl (.inl x5)), (6, .inl (.inl x6))], [], σ)) rfl hg5 ?_
        refine yG_n (n := 2) (C' := (130, [(0, .inr (.inl 7, 0)), (2, .inl (.inl x2)), (3, .inl (.inl x3)), (4, .inl (.inl x4)), (5, .inl (.inl x5)), (6, .inl (.inl x6))], [.inl (.inl x5)], σ)) rfl ?_
        exact yG_w [] rfl (t_X7_drift_b130 σ x5 res h)
    | false =>
      rw [hg4] at h
      dsimp only [cond] at h
      refine yG_f (C' := (47, [(0, .inr (.inl 7, 0)), (2, .inl (.inl x2)), (3, .inl (.inl x3)), (4, .inl (.inl x4)), (5, .inl (.inl x5)), (6, .inl (.inl x6))], [], σ)) rfl hg4 ?_
      refine yG_n (n := 3) (C' := (52, [(0, .inr (.inl 7, 0)), (2, .inl (.inl x2)), (3, .inl (.inl x3)), (4, .inl (.inl x4)), (5, .inl (.inl x5)), (6, .inl (.inl x6))], [.inl (.inl (ymu x4 1103515245))], σ)) rfl ?_
      refine yG_n (n := 2) (C' := (56, [(0, .inr (.inl 7, 0)), (2, .inl (.inl x2)), (3, .inl (.inl x3)), (4, .inl (.inl x4)), (5, .inl (.inl x5)), (6, .inl (.inl x6))], [.inl (.inl (yad (ymu x4 1103515245) 12345))], σ)) rfl ?_
      refine yG_n (n := 1) (C' := (58, [(4, .inl (.inl (yad (ymu x4 1103515245) 12345))), (0, .inr (.inl 7, 0)), (2, .inl (.inl x2)), (3, .inl (.inl x3)), (5, .inl (.inl x5)), (6, .inl (.inl x6))], [], σ)) rfl ?_
      exact yG_w [1, 2, 3, 0, 4, 5] rfl (t_X7_drift_b58 (f_X7_drift_b41 N n) ih σ x2 x3 (yad (ymu x4 1103515245) 12345) x5 x6 res h)
set_option maxRecDepth 100000 in
set_option maxHeartbeats 4000000 in
theorem t_X7_drift {N : Nat} {X : zXT} {sh : List yH} {l : Launch} {rm : Room} (σ : yS) (x1 : Int) (x2 : Int) (x3 : Int) (res : Int × yS) (h : f_X7_drift N σ x1 x2 x3 = some res) : G_X7_drift N X sh l rm (0, [(0, .inr (.inl 7, 0)), (1, .inl (.inl x1)), (2, .inl (.inl x2)), (3, .inl (.inl x3))], [], σ) (some (.inl (.inl res.1)), res.2) := by
  unfold f_X7_drift at h
  refine yG_n (n := 3) (C' := (4, [(0, .inr (.inl 7, 0)), (1, .inl (.inl x1)), (2, .inl (.inl x2)), (3, .inl (.inl x3))], [.inl (.inl 60), .inl (.inl 1), .inl (.inl x2)], σ)) rfl ?_
  cases hr6 : f_X7_within N σ x2 1 60 with
  | none => rw [hr6] at h; dsimp only at h; cases h
  | some r1 =>
    rw [hr6] at h
    dsimp only at h
    refine yG_c (C1 := (7, [(0, .inr (.inl 7, 0)), (1, .inl (.inl x1)), (2, .inl (.inl x2)), (3, .inl (.inl x3))], [.inl (.inl r1.1)], r1.2)) rfl (e_X7_within hr6) rfl ?_
    cases hg7 : ycP .eq r1.1 0 with
    | true =>
      rw [hg7] at h
      dsimp only [cond] at h
      refine yG_t (C' := (19, [(0, .inr (.inl 7, 0)), (1, .inl (.inl x1)), (2, .inl (.inl x2)), (3, .inl (.inl x3))], [], r1.2)) rfl hg7 ?_
      exact yG_w [] rfl (t_X7_drift_b19 r1.2 res h)
    | false =>
      rw [hg7] at h
      dsimp only [cond] at h
      refine yG_f (C' := (10, [(0, .inr (.inl 7, 0)), (1, .inl (.inl x1)), (2, .inl (.inl x2)), (3, .inl (.inl x3))], [], r1.2)) rfl hg7 ?_
      refine yG_n (n := 3) (C' := (13, [(0, .inr (.inl 7, 0)), (1, .inl (.inl x1)), (2, .inl (.inl x2)), (3, .inl (.inl x3))], [.inl (.inl 1), .inl (.inl 0), .inl (.inl x3)], r1.2)) rfl ?_
      cases hr8 : f_X7_within N r1.2 x3 0 1 with
      | none => rw [hr8] at h; dsimp only at h; cases h
      | some r2 =>
        rw [hr8] at h
        dsimp only at h
        refine yG_c (C1 := (16, [(0, .inr (.inl 7, 0)), (1, .inl (.inl x1)), (2, .inl (.inl x2)), (3, .inl (.inl x3))], [.inl (.inl r2.1)], r2.2)) rfl (e_X7_within hr8) rfl ?_
        cases hg9 : ycP .ne r2.1 0 with
        | true =>
          rw [hg9] at h
          dsimp only [cond] at h
          refine yG_t (C' := (21, [(0, .inr (.inl 7, 0)), (1, .inl (.inl x1)), (2, .inl (.inl x2)), (3, .inl (.inl x3))], [], r2.2)) rfl hg9 ?_
          refine yG_n (n := 4) (C' := (29, [(0, .inr (.inl 7, 0)), (1, .inl (.inl x1)), (2, .inl (.inl x2)), (3, .inl (.inl x3))], [.inr (.inl 4, 17), .inr (.inl 4, 38)], r2.2)) rfl ?_
          cases hr10 : f_X4_copyFrom N r2.2 38 17 with
          | none => rw [hr10] at h; dsimp only at h; cases h
          | some r3 =>
            rw [hr10] at h
            dsimp only at h
            refine yG_c (C1 := (32, [(0, .inr (.inl 7, 0)), (1, .inl (.inl x1)), (2, .inl (.inl x2)), (3, .inl (.inl x3))], [], r3.2)) rfl (e_X4_copyFrom hr10) rfl ?_
            refine yG_n (n := 6) (C' := (41, [(6, .inl (.inl 0)), (5, .inl (.inl 0)), (4, .inl (.inl x1)), (0, .inr (.inl 7, 0)), (1, .inl (.inl x1)), (2, .inl (.inl x2)), (3, .inl (.inl x3))], [], r3.2)) rfl ?_
            exact yG_w [3, 5, 6, 2, 1, 0] rfl (t_X7_drift_b41 N r3.2 x2 x3 x1 0 0 res h)
        | false =>
          rw [hg9] at h
          dsimp only [cond] at h
          refine yG_f (C' := (19, [(0, .inr (.inl 7, 0)), (1, .inl (.inl x1)), (2, .inl (.inl x2)), (3, .inl (.inl x3))], [], r2.2)) rfl hg9 ?_
          exact yG_w [] rfl (t_X7_drift_b19 r2.2 res h)
set_option maxRecDepth 100000 in
set_option maxHeartbeats 4000000 in
theorem m_X7_drift {N : Nat} {X : zXT} (hX : zXok X) (hN : zXn X) (l : Launch) {sh : List yH} : yMet X vwCl yct sh l yX7_drift wsX7_drift { frames := 5, cells := 0, slots := 0, locals := 158 } (F_X7_drift N) :=
  ymeth (tb := tb_X7_drift N) (pr := pr_X7_drift) (rt := 1) (own := RX7) hX (by decide +kernel) rfl rfl ⟨Nat.le_of_ble_eq_true rfl, Nat.le_of_ble_eq_true rfl⟩
    (zfl_all (List.forall_mem_cons.mpr ⟨zfl_X7 (fun w h => List.mem_cons_of_mem _ (List.mem_append_left _ (List.mem_append_left _ (List.mem_append_left _ (List.mem_append_right _ h))))) (List.mem_of_getElem? (i := 2) rfl) (by decide) (by decide), List.forall_mem_cons.mpr ⟨zfl_X7 (fun w h => List.mem_cons_of_mem _ (List.mem_append_left _ (List.mem_append_left _ (List.mem_append_left _ (List.mem_append_right _ h))))) (List.mem_of_getElem? (i := 1) rfl) (by decide) (by decide), List.forall_mem_cons.mpr ⟨zfl_X4 (fun w h => List.mem_cons_of_mem _ (List.mem_append_left _ (List.mem_append_left _ (List.mem_append_right _ h)))) (List.mem_of_getElem? (i := 4) rfl) (by decide) (by decide), List.forall_mem_cons.mpr ⟨zfl_X4 (fun w h => List.mem_cons_of_mem _ (List.mem_append_left _ (List.mem_append_left _ (List.mem_append_right _ h)))) (List.mem_of_getElem? (i := 9) rfl) (by decide) (by decide), fun _ h => absurd h List.not_mem_nil⟩⟩⟩⟩))
    (zco_all (List.forall_mem_cons.mpr ⟨(List.mem_of_getElem? (i := 3) rfl), fun _ h => absurd h List.not_mem_nil⟩)) (zlc_all (fun _ h => absurd h List.not_mem_nil))
    (List.forall_mem_cons.mpr ⟨ycal_V hX (m_X4_copyFrom hX hN l) rfl (fun s args hts => cwV 1 hts gX7_drift_X4_copyFrom rfl rfl rfl (by decide +kernel) ⟨Nat.le_of_ble_eq_true rfl, Nat.le_of_ble_eq_true rfl⟩), List.forall_mem_cons.mpr ⟨ycal_V hX (m_X4_passDay hX hN l) rfl (fun s args hts => cwV 0 hts gX7_drift_X4_passDay rfl rfl rfl (by decide +kernel) ⟨Nat.le_of_ble_eq_true rfl, Nat.le_of_ble_eq_true rfl⟩), List.forall_mem_cons.mpr ⟨ycal_V hX (m_X4_vowByHabit hX hN l) rfl (fun s args hts => cwV 1 hts gX7_drift_X4_vowByHabit rfl rfl rfl (by decide +kernel) ⟨Nat.le_of_ble_eq_true rfl, Nat.le_of_ble_eq_true rfl⟩), fun _ h => absurd h List.not_mem_nil⟩⟩⟩)
    (List.forall_mem_cons.mpr ⟨ycal_S hX (m_X7_within hX hN l) (fun s args hts => va_cwS 3 hts gX7_drift_X7_within rfl rfl rfl (by decide +kernel) ⟨Nat.le_of_ble_eq_true rfl, Nat.le_of_ble_eq_true rfl⟩), List.forall_mem_cons.mpr ⟨ycal_S hX (m_J9_floorMod_7cf53 hX hN l) (fun s args hts => va_cwS 2 hts gX7_drift_J9_floorMod_7cf53 rfl rfl rfl (by decide +kernel) ⟨Nat.le_of_ble_eq_true rfl, Nat.le_of_ble_eq_true rfl⟩), fun _ h => absurd h List.not_mem_nil⟩⟩)
    (zmm_all (List.forall_mem_cons.mpr ⟨⟨List.mem_of_getElem? (i := 5) rfl, List.mem_of_getElem? (i := 6) rfl, List.mem_of_getElem? (i := 7) rfl, List.mem_of_getElem? (i := 8) rfl⟩, fun _ h => absurd h List.not_mem_nil⟩)) (fun _ h => absurd h List.not_mem_nil) (zpr_all hp_X7_drift) (fun as σ res h => by
      unfold F_X7_drift at h
      split at h
      · rename_i x1 x2 x3
        cases hr : f_X7_drift N σ x1 x2 x3 with
        | none => rw [hr] at h; cases h
        | some r =>
          rw [hr] at h
          cases h
          exact ⟨Nat.le_of_ble_eq_true rfl, t_X7_drift σ x1 x2 x3 r hr⟩
      · cases h)
end
