section
noncomputable def pr_X8_read : List (Nat × Instr × Nat) := [(0, .iload_n 1, 1), (1, .iload_n 2, 1), (2, .invokestatic 323, 3), (5, .ifCond .eq 16, 3), (8, .iload 4, 2), (10, .i2l, 1), (11, .lconst 0, 1), (12, .ldc2_w 220, 3), (15, .invokestatic 90, 3), (18, .ifCond .ne 5, 3), (21, .iconst (-1), 1), (22, .ireturn, 1), (23, .aload_n 0, 1), (24, .getfield 7, 3), (27, .bipush 77, 2), (29, .iaload, 1), (30, .istore 5, 2), (32, .iconst 0, 1), (33, .istore 6, 2), (35, .iconst 0, 1), (36, .istore 7, 2), (38, .iconst 0, 1), (39, .istore 8, 2), (41, .iload 8, 2), (43, .iload 4, 2), (45, .if_icmp .ge 181, 3), (48, .iload 6, 2), (50, .ifCond .ne 176, 3), (53, .iconst 0, 1), (54, .istore 9, 2), (56, .iload 9, 2), (58, .iconst 4, 1), (59, .if_icmp .ge 84, 3), (62, .iload 6, 2), (64, .ifCond .ne 79, 3), (67, .iload_n 3, 1), (68, .i2l, 1), (69, .iconst 4, 1), (70, .iload 8, 2), (72, .imul, 1), (73, .i2l, 1), (74, .ladd, 1), (75, .iload 9, 2), (77, .i2l, 1), (78, .ladd, 1), (79, .lstore 10, 2), (81, .aload_n 0, 1), (82, .getfield 44, 3), (85, .iload_n 1, 1), (86, .iaload, 1), (87, .bipush (-4), 2), (89, .if_icmp .ne 7, 3), (92, .iconst 1, 1), (93, .goto 42, 3), (96, .aload_n 0, 1), (97, .getfield 44, 3), (100, .iload_n 1, 1), (101, .iaload, 1), (102, .iload_n 2, 1), (103, .if_icmp .eq 7, 3), (106, .iconst 3, 1), (107, .goto 28, 3), (110, .lload 10, 2), (112, .lconst 0, 1), (113, .lcmp, 1), (114, .ifCond .lt 16, 3), (117, .lload 10, 2), (119, .aload_n 0, 1), (120, .getfield 47, 3), (123, .iload_n 1, 1), (124, .iaload, 1), (125, .i2l, 1), (126, .lcmp, 1), (127, .ifCond .lt 7, 3), (130, .iconst 2, 1), (131, .goto 4, 3), (134, .iconst 0, 1), (135, .istore 6, 2), (137, .iinc 9 1, 3), (140, .goto (-84), 3), (143, .iload 6, 2), (145, .ifCond .ne 75, 3), (148, .bipush 40, 2), (150, .iload_n 1, 1), (151, .imul, 1), (152, .iload_n 3, 1), (153, .iadd, 1), (154, .iconst 4, 1), (155, .iload 8, 2), (157, .imul, 1), (158, .iadd, 1), (159, .istore 9, 2), (161, .aload_n 0, 1), (162, .aload_n 0, 1), (163, .getfield 50, 3), (166, .iload 9, 2), (168, .iaload, 1), (169, .aload_n 0, 1), (170, .getfield 50, 3), (173, .iload 9, 2), (175, .iconst 1, 1), (176, .iadd, 1), (177, .iaload, 1), (178, .aload_n 0, 1), (179, .getfield 50, 3), (182, .iload 9, 2), (184, .iconst 2, 1), (185, .iadd, 1), (186, .iaload, 1), (187, .aload_n 0, 1), (188, .getfield 50, 3), (191, .iload 9, 2), (193, .iconst 3, 1), (194, .iadd, 1), (195, .iaload, 1), (196, .invokevirtual 326, 3), (199, .ifCond .ge 18, 3), (202, .aload_n 0, 1), (203, .getfield 7, 3), (206, .bipush 77, 2), (208, .iload 5, 2), (210, .iastore, 1), (211, .bipush (-20), 2), (213, .iload 8, 2), (215, .isub, 1), (216, .ireturn, 1), (217, .iinc 7 1, 3), (220, .iinc 8 1, 3), (223, .goto (-182), 3), (226, .aload_n 0, 1), (227, .iload 6, 2), (229, .putfield 330, 3), (232, .iload 7, 2), (234, .ireturn, 1)]
set_option maxRecDepth 100000 in
theorem hp_X8_read : pr_X8_read.all (fun x => decide (decode cX8_read x.1 = .ok x.2)) = true := by decide +kernel
noncomputable def f_X8_read_b21 (N : Nat) (σ : yS) : Option (Int × yS) :=
  some ((-1), σ)
noncomputable def f_X8_read_b226 (N : Nat) (σ : yS) (x6 : Int) (x7 : Int) : Option (Int × yS) :=
  some (x7, yw σ 0 32 x6)
noncomputable def f_X8_read_b220 (N : Nat) (k41 : yS → Int → Int → Int → Int → Int → Int → Int → Int → Option (Int × yS)) (σ : yS) (x1 : Int) (x2 : Int) (x3 : Int) (x4 : Int) (x5 : Int) (x6 : Int) (x7 : Int) (x8 : Int) : Option (Int × yS) :=
  k41 σ x1 x2 x3 x4 x5 x6 x7 (yad x8 1)
noncomputable def f_X8_read_b143 (N : Nat) (k41 : yS → Int → Int → Int → Int → Int → Int → Int → Int → Option (Int × yS)) (σ : yS) (x1 : Int) (x2 : Int) (x3 : Int) (x4 : Int) (x5 : Int) (x6 : Int) (x7 : Int) (x8 : Int) : Option (Int × yS) :=
  bif ycP .ne x6 0 then
    f_X8_read_b220 N k41 σ x1 x2 x3 x4 x5 x6 x7 x8
  else
    bif yin (yad (yad (ymu 40 x1) x3) (ymu 4 x8)) 160 then
      bif yin (yad (yad (yad (ymu 40 x1) x3) (ymu 4 x8)) 1) 160 then
        bif yin (yad (yad (yad (ymu 40 x1) x3) (ymu 4 x8)) 2) 160 then
          bif yin (yad (yad (yad (ymu 40 x1) x3) (ymu 4 x8)) 3) 160 then
            match f_X8_vows N σ (σ.1 14 (yad (yad (ymu 40 x1) x3) (ymu 4 x8)).toNat) (σ.1 14 (yad (yad (yad (ymu 40 x1) x3) (ymu 4 x8)) 1).toNat) (σ.1 14 (yad (yad (yad (ymu 40 x1) x3) (ymu 4 x8)) 2).toNat) (σ.1 14 (yad (yad (yad (ymu 40 x1) x3) (ymu 4 x8)) 3).toNat) with
            | none => none
            | some r3 => bif ycP .ge r3.1 0 then
                f_X8_read_b220 N k41 r3.2 x1 x2 x3 x4 x5 x6 (yad x7 1) x8
              else
                some (ysu ((-20)) x8, yw r3.2 1 77 x5)
          else none
        else none
      else none
    else none
noncomputable def f_X8_read_b135 (N : Nat) (k41 : yS → Int → Int → Int → Int → Int → Int → Int → Int → Option (Int × yS)) (k56 : yS → Int → Int → Int → Int → Int → Int → Int → Int → Int → Option (Int × yS)) (σ : yS) (x1 : Int) (x2 : Int) (x3 : Int) (x4 : Int) (x5 : Int) (x7 : Int) (x8 : Int) (x9 : Int) (s0 : Int) : Option (Int × yS) :=
  k56 σ x1 x2 x3 x4 x5 s0 x7 x8 (yad x9 1)
noncomputable def f_X8_read_b130 (N : Nat) (k41 : yS → Int → Int → Int → Int → Int → Int → Int → Int → Option (Int × yS)) (k56 : yS → Int → Int → Int → Int → Int → Int → Int → Int → Int → Option (Int × yS)) (σ : yS) (x1 : Int) (x2 : Int) (x3 : Int) (x4 : Int) (x5 : Int) (x7 : Int) (x8 : Int) (x9 : Int) : Option (Int × yS) :=
  f_X8_read_b135 N k41 k56 σ x1 x2 x3 x4 x5 x7 x8 x9 2
noncomputable def f_X8_read_b56 (N : Nat) (k41 : yS → Int → Int → Int → Int → Int → Int → Int → Int → Option (Int × yS)) : Nat → yS → Int → Int → Int → Int → Int → Int → Int → Int → Int → Option (Int × yS) := yfix (fun _ _ _ _ _ _ _ _ _ _ => none) (fun ih σ x1 x2 x3 x4 x5 x6 x7 x8 x9 =>
    bif ycP .ge x9 4 then
      f_X8_read_b143 N k41 σ x1 x2 x3 x4 x5 x6 x7 x8
    else
      bif ycP .ne x6 0 then
        f_X8_read_b143 N k41 σ x1 x2 x3 x4 x5 x6 x7 x8
      else
        bif yin x1 4 then
          bif ycP .ne (σ.1 12 x1.toNat) ((-4)) then
            bif ycP .eq (σ.1 12 x1.toNat) x2 then
              bif ycP .lt (yadL (yadL x3 (ymu 4 x8)) x9) 0 then
                f_X8_read_b130 N k41 ih σ x1 x2 x3 x4 x5 x7 x8 x9
              else
                bif ycP .lt (yadL (yadL x3 (ymu 4 x8)) x9) (σ.1 13 x1.toNat) then
                  f_X8_read_b135 N k41 ih σ x1 x2 x3 x4 x5 x7 x8 x9 0
                else
                  f_X8_read_b130 N k41 ih σ x1 x2 x3 x4 x5 x7 x8 x9
            else
              f_X8_read_b135 N k41 ih σ x1 x2 x3 x4 x5 x7 x8 x9 3
          else
            f_X8_read_b135 N k41 ih σ x1 x2 x3 x4 x5 x7 x8 x9 1
        else none)
theorem q_X8_read_b56 (N : Nat) (k41 : yS → Int → Int → Int → Int → Int → Int → Int → Int → Option (Int × yS)) (n : Nat) (σ : yS) (x1 : Int) (x2 : Int) (x3 : Int) (x4 : Int) (x5 : Int) (x6 : Int) (x7 : Int) (x8 : Int) (x9 : Int) : f_X8_read_b56 N k41 (n + 1) σ x1 x2 x3 x4 x5 x6 x7 x8 x9 =
    (bif ycP .ge x9 4 then
      f_X8_read_b143 N k41 σ x1 x2 x3 x4 x5 x6 x7 x8
    else
      bif ycP .ne x6 0 then
        f_X8_read_b143 N k41 σ x1 x2 x3 x4 x5 x6 x7 x8
      else
        bif yin x1 4 then
          bif ycP .ne (σ.1 12 x1.toNat) ((-4)) then
            bif ycP .eq (σ.1 12 x1.toNat) x2 then
              bif ycP .lt (yadL (yadL x3 (ymu 4 x8)) x9) 0 then
                f_X8_read_b130 N k41 (f_X8_read_b56 N k41 n) σ x1 x2 x3 x4 x5 x7 x8 x9
              else
                bif ycP .lt (yadL (yadL x3 (ymu 4 x8)) x9) (σ.1 13 x1.toNat) then
                  f_X8_read_b135 N k41 (f_X8_read_b56 N k41 n) σ x1 x2 x3 x4 x5 x7 x8 x9 0
                else
                  f_X8_read_b130 N k41 (f_X8_read_b56 N k41 n) σ x1 x2 x3 x4 x5 x7 x8 x9
            else
              f_X8_read_b135 N k41 (f_X8_read_b56 N k41 n) σ x1 x2 x3 x4 x5 x7 x8 x9 3
          else
            f_X8_read_b135 N k41 (f_X8_read_b56 N k41 n) σ x1 x2 x3 x4 x5 x7 x8 x9 1
        else none) := rfl
noncomputable def f_X8_read_b41 (N : Nat) : Nat → yS → Int → Int → Int → Int → Int → Int → Int → Int → Option (Int × yS) := yfix (fun _ _ _ _ _ _ _ _ _ => none) (fun ih σ x1 x2 x3 x4 x5 x6 x7 x8 =>
    bif ycP .ge x8 x4 then
      f_X8_read_b226 N σ x6 x7
    else
      bif ycP .ne x6 0 then
        f_X8_read_b226 N σ x6 x7
      else
        f_X8_read_b56 N ih N σ x1 x2 x3 x4 x5 x6 x7 x8 0)
theorem q_X8_read_b41 (N : Nat) (n : Nat) (σ : yS) (x1 : Int) (x2 : Int) (x3 : Int) (x4 : Int) (x5 : Int) (x6 : Int) (x7 : Int) (x8 : Int) : f_X8_read_b41 N (n + 1) σ x1 x2 x3 x4 x5 x6 x7 x8 =
    (bif ycP .ge x8 x4 then
      f_X8_read_b226 N σ x6 x7
    else
      bif ycP .ne x6 0 then
        f_X8_read_b226 N σ x6 x7
      else
        f_X8_read_b56 N (f_X8_read_b41 N n) N σ x1 x2 x3 x4 x5 x6 x7 x8 0) := rfl
noncomputable def f_X8_read (N : Nat) (σ : yS) (x1 : Int) (x2 : Int) (x3 : Int) (x4 : Int) : Option (Int × yS) :=
  match f_X8_isSheet N σ x1 x2 with
  | none => none
  | some r1 => bif ycP .eq r1.1 0 then
      f_X8_read_b21 N r1.2
    else
      match f_X8_in N r1.2 x4 0 10 with
      | none => none
      | some r2 => bif ycP .ne r2.1 0 then
          f_X8_read_b41 N N r2.2 x1 x2 x3 x4 (r2.2.1 1 77) 0 0 0
        else
          f_X8_read_b21 N r2.2
noncomputable def F_X8_read (N : Nat) : yF := fun as σ => match as with
  | [.inr (.inl 8, 0), .inl (.inl x1), .inl (.inl x2), .inl (.inl x3), .inl (.inl x4)] => (f_X8_read N σ x1 x2 x3 x4).map (fun r => (some (.inl (.inl r.1)), r.2))
  | _ => none
theorem e_X8_read {N : Nat} {σ : yS} {x1 : Int} {x2 : Int} {x3 : Int} {x4 : Int} {r : Int × yS} (h : f_X8_read N σ x1 x2 x3 x4 = some r) : F_X8_read N [.inr (.inl 8, 0), .inl (.inl x1), .inl (.inl x2), .inl (.inl x3), .inl (.inl x4)] σ = some (some (.inl (.inl r.1)), r.2) := by
  show (f_X8_read N σ x1 x2 x3 x4).map (fun r => ((some (.inl (.inl r.1)), r.2) : yR)) = _
  rw [h]
  rfl
noncomputable def tb_X8_read (N : Nat) : yTb := ([(7, 8, 0, 3), (44, 8, 29, 3), (47, 8, 30, 3), (50, 8, 31, 3), (330, 8, 32, 0)], [], [(220, 10)], [(326, 5, 8, F_X8_vows N)], [(90, 3, F_X8_in N), (323, 2, F_X8_isSheet N)], [], [])
abbrev G_X8_read (N : Nat) (X : zXT) (sh : List yH) (l : Launch) (rm : Room) : yC → yR → Prop := yGoes X vwCl yct sh l rm cX8_read 12 wsX8_read RX8 (tb_X8_read N) pr_X8_read 1
set_option maxRecDepth 100000 in
set_option maxHeartbeats 4000000 in
theorem t_X8_read_b21 {N : Nat} {X : zXT} {sh : List yH} {l : Launch} {rm : Room} (σ : yS) (res : Int × yS) (h : f_X8_read_b21 N σ = some res) : G_X8_read N X sh l rm (21, [], [], σ) (some (.inl (.inl res.1)), res.2) := by
  unfold f_X8_read_b21 at h
  refine yG_n (n := 1) (C' := (22, [], [.inl (.inl ((-1)))], σ)) rfl ?_
  have h := Option.some.inj h
  subst h
  dsimp only
  exact yG_r rfl rfl
set_option maxRecDepth 100000 in
set_option maxHeartbeats 4000000 in
theorem t_X8_read_b226 {N : Nat} {X : zXT} {sh : List yH} {l : Launch} {rm : Room} (σ : yS) (x6 : Int) (x7 : Int) (res : Int × yS) (h : f_X8_read_b226 N σ x6 x7 = some res) : G_X8_read N X sh l rm (226, [(0, .inr (.inl 8, 0)), (6, .inl (.inl x6)), (7, .inl (.inl x7))], [], σ) (some (.inl (.inl res.1)), res.2) := by
  unfold f_X8_read_b226 at h
  refine yG_n (n := 4) (C' := (234, [(0, .inr (.inl 8, 0)), (6, .inl (.inl x6)), (7, .inl (.inl x7))], [.inl (.inl x7)], yw σ 0 32 x6)) rfl ?_
  have h := Option.some.inj h
  subst h
  dsimp only
  exact yG_r rfl rfl
set_option maxRecDepth 100000 in
set_option maxHeartbeats 4000000 in
theorem t_X8_read_b220 {N : Nat} {X : zXT} {sh : List yH} {l : Launch} {rm : Room} (k41 : yS → Int → Int → Int → Int → Int → Int → Int → Int → Option (Int × yS)) (hk41 : ∀ (σ : yS) (x1 : Int) (x2 : Int) (x3 : Int) (x4 : Int) (x5 : Int) (x6 : Int) (x7 : Int) (x8 : Int) (res : Int × yS), k41 σ x1 x2 x3 x4 x5 x6 x7 x8 = some res → G_X8_read N X sh l rm (41, [(0, .inr (.inl 8, 0)), (1, .inl (.inl x1)), (2, .inl (.inl x2)), (3, .inl (.inl x3)), (4, .inl (.inl x4)), (5, .inl (.inl x5)), (6, .inl (.inl x6)), (7, .inl (.inl x7)), (8, .inl (.inl x8))], [], σ) (some (.inl (.inl res.1)), res.2)) (σ : yS) (x1 : Int) (x2 : Int) (x3 : Int) (x4 : Int) (x5 : Int) (x6 : Int) (x7 : Int) (x8 : Int) (res : Int × yS) (h : f_X8_read_b220 N k41 σ x1 x2 x3 x4 x5 x6 x7 x8 = some res) : G_X8_read N X sh l rm (220, [(0, .inr (.inl 8, 0)), (1, .inl (.inl x1)), (2, .inl (.inl x2)), (3, .inl (.inl x3)), (4, .inl (.inl x4)), (5, .inl (.inl x5)), (6, .inl (.inl x6)), (7, .inl (.inl x7)), (8, .inl (.inl x8))], [], σ) (some (.inl (.inl res.1)), res.2) := by
  unfold f_X8_read_b220 at h
  refine yG_n (n := 2) (C' := (41, [(8, .inl (.inl (yad x8 1))), (0, .inr (.inl 8, 0)), (1, .inl (.inl x1)), (2, .inl (.inl x2)), (3, .inl (.inl x3)), (4, .inl (.inl x4)), (5, .inl (.inl x5)), (6, .inl (.inl x6)), (7, .inl (.inl x7))], [], σ)) rfl ?_
  exact yG_w [1, 2, 3, 4, 5, 6, 7, 8, 0] rfl (hk41 σ x1 x2 x3 x4 x5 x6 x7 (yad x8 1) res h)
set_option maxRecDepth 100000 in
set_option maxHeartbeats 4000000 in
theorem t_X8_read_b143 {N : Nat} {X : zXT} {sh : List yH} {l : Launch} {rm : Room} (k41 : yS → Int → Int → Int → Int → Int → Int → Int → Int → Option (Int × yS)) (hk41 : ∀ (σ : yS) (x1 : Int) (x2 : Int) (x3 : Int) (x4 : Int) (x5 : Int) (x6 : Int) (x7 : Int) (x8 : Int) (res : Int × yS), k41 σ x1 x2 x3 x4 x5 x6 x7 x8 = some res → G_X8_read N X sh l rm (41, [(0, .inr (.inl 8, 0)), (1, .inl (.inl x1)), (2, .inl (.inl x2)), (3, .inl (.inl x3)), (4, .inl (.inl x4)), (5, .inl (.inl x5)), (6, .inl (.inl x6)), (7, .inl (.inl x7)), (8, .inl (.inl x8))], [], σ) (some (.inl (.inl res.1)), res.2)) (σ : yS) (x1 : Int) (x2 : Int) (x3 : Int) (x4 : Int) (x5 : Int) (x6 : Int) (x7 : Int) (x8 : Int) (res : Int × yS) (h : f_X8_read_b143 N k41 σ x1 x2 x3 x4 x5 x6 x7 x8 = some res) : G_X8_read N X sh l rm (143, [(0, .inr (.inl 8, 0)), (1, .inl (.inl x1)), (2, .inl (.inl x2)), (3, .inl (.inl x3)), (4, .inl (.inl x4)), (5, .inl (.inl x5)), (6, .inl (.inl x6)), (7, .inl (.inl x7)), (8, .inl (.inl x8))], [], σ) (some (.inl (.inl res.1)), res.2) := by
  unfold f_X8_read_b143 at h
  refine yG_n (n := 1) (C' := (145, [(0, .inr (.inl 8, 0)), (1, .inl (.inl x1)), (2, .inl (.inl x2)), (3, .inl (.inl x3)), (4, .inl (.inl x4)), (5, .inl (.inl x5)), (6, .inl (.inl x6)), (7, .inl (.inl x7)), (8, .inl (.inl x8))], [.inl (.inl x6)], σ)) rfl ?_
  cases hg1 : ycP .ne x6 0 with
  | true =>
    rw [hg1] at h
    dsimp only [cond] at h
    refine yG_t (C' := (220, [(0, .inr (.inl 8, 0)), (1, .inl (.inl x1)), (2, .inl (.inl x2)), (3, .inl (.inl x3)), (4, .inl (.inl x4)), (5, .inl (.inl x5)), (6, .inl (.inl x6)), (7, .inl (.inl x7)), (8, .inl (.inl x8))], [], σ)) rfl hg1 ?_
    exact t_X8_read_b220 k41 hk41 σ x1 x2 x3 x4 x5 x6 x7 x8 res h
  | false =>
    rw [hg1] at h
    dsimp only [cond] at h
    refine yG_f (C' := (148, [(0, .inr (.inl 8, 0)), (1, .inl (.inl x1)), (2, .inl (.inl x2)), (3, .inl (.inl x3)), (4, .inl (.inl x4)), (5, .inl (.inl x5)), (6, .inl (.inl x6)), (7, .inl (.inl x7)), (8, .inl (.inl x8))], [], σ)) rfl hg1 ?_
    refine yG_n (n := 14) (C' := (168, [(9, .inl (.inl (yad (yad (ymu 40 x1) x3) (ymu 4 x8)))), (0, .inr (.inl 8, 0)), (1, .inl (.inl x1)), (2, .inl (.inl x2)), (3, .inl (.inl x3)), (4, .inl (.inl x4)), (5, .inl (.inl x5)), (6, .inl (.inl x6)), (7, .inl (.inl x7)), (8, .inl (.inl x8))], [.inl (.inl (yad (yad (ymu 40 x1) x3) (ymu 4 x8))), .inr (.inr (0, 160), 14), .inr (.inl 8, 0)], σ)) rfl ?_
    cases hg2 : yin (yad (yad (ymu 40 x1) x3) (ymu 4 x8)) 160 with
    | false => rw [hg2] at h; dsimp only [cond] at h; cases h
    | true =>
      rw [hg2] at h
      dsimp only [cond] at h
      refine yG_t (C' := (169, [(9, .inl (.inl (yad (yad (ymu 40 x1) x3) (ymu 4 x8)))), (0, .inr (.inl 8, 0)), (1, .inl (.inl x1)), (2, .inl (.inl x2)), (3, .inl (.inl x3)), (4, .inl (.inl x4)), (5, .inl (.inl x5)), (6, .inl (.inl x6)), (7, .inl (.inl x7)), (8, .inl (.inl x8))], [.inl (.inl (σ.1 14 (yad (yad (ymu 40 x1) x3) (ymu 4 x8)).toNat)), .inr (.inl 8, 0)], σ)) rfl hg2 ?_
      refine yG_n (n := 5) (C' := (177, [(9, .inl (.inl (yad (yad (ymu 40 x1) x3) (ymu 4 x8)))), (0, .inr (.inl 8, 0)), (1, .inl (.inl x1)), (2, .inl (.inl x2)), (3, .inl (.inl x3)), (4, .inl (.inl x4)), (5, .inl (.inl x5)), (6, .inl (.inl x6)), (7, .inl (.inl x7)), (8, .inl (.inl x8))], [.inl (.inl (yad (yad (yad (ymu 40 x1) x3) (ymu 4 x8)) 1)), .inr (.inr (0, 160), 14), .inl (.inl (σ.1 14 (yad (yad (ymu 40 x1) x3) (ymu 4 x8)).toNat)), .inr (.inl 8, 0)], σ)) rfl ?_
      cases hg3 : yin (yad (yad (yad (ymu 40 x1) x3) (ymu 4 x8)) 1) 160 with
      | false => rw [hg3] at h; dsimp only [cond] at h; cases h
      | true =>
        rw [hg3] at h
        dsimp only [cond] at h
        refine yG_t (C' := (178, [(9, .inl (.inl (yad (yad (ymu 40 x1) x3) (ymu 4 x8)))), (0, .inr (.inl 8, 0)), (1, .inl (.inl x1)), (2, .inl (.inl x2)), (3, .inl (.inl x3)), (4, .inl (.inl x4)), (5, .inl (.inl x5)), (6, .inl (.inl x6)), (7, .inl (.inl x7)), (8, .inl (.inl x8))], [.inl (.inl (σ.1 14 (yad (yad (yad (ymu 40 x1) x3) (ymu 4 x8)) 1).toNat)), .inl (.inl (σ.1 14 (yad (yad (ymu 40 x1) x3) (ymu 4 x8)).toNat)), .inr (.inl 8, 0)], σ)) rfl hg3 ?_
        refine yG_n (n := 5) (C' := (186, [(9, .inl (.inl (yad (yad (ymu 40 x1) x3) (ymu 4 x8)))), (0, .inr (.inl 8, 0)), (1, .inl (.inl x1)), (2, .inl (.inl x2)), (3, .inl (.inl x3)), (4, .inl (.inl x4)), (5, .inl (.inl x5)), (6, .inl (.inl x6)), (7, .inl (.inl x7)), (8, .inl (.inl x8))], [.inl (.inl (yad (yad (yad (ymu 40 x1) x3) (ymu 4 x8)) 2)), .inr (.inr (0, 160), 14), .inl (.inl (σ.1 14 (yad (yad (yad (ymu 40 x1) x3) (ymu 4 x8)) 1).toNat)), .inl (.inl (σ.1 14 (yad (yad (ymu 40 x1) x3) (ymu 4 x8)).toNat)), .inr (.inl 8, 0)], σ)) rfl ?_
        cases hg4 : yin (yad (yad (yad (ymu 40 x1) x3) (ymu 4 x8)) 2) 160 with
        | false => rw [hg4] at h; dsimp only [cond] at h; cases h
        | true =>
          rw [hg4] at h
          dsimp only [cond] at h
          refine yG_t (C' := (187, [(9, .inl (.inl (yad (yad (ymu 40 x1) x3) (ymu 4 x8)))), (0, .inr (.inl 8, 0)), (1, .inl (.inl x1)), (2, .inl (.inl x2)), (3, .inl (.inl x3)), (4, .inl (.inl x4)), (5, .inl (.inl x5)), (6, .inl (.inl x6)), (7, .inl (.inl x7)), (8, .inl (.inl x8))], [.inl (.inl (σ.1 14 (yad (yad (yad (ymu 40 x1) x3) (ymu 4 x8)) 2).toNat)), .inl (.inl (σ.1 14 (yad (yad (yad (ymu 40 x1) x3) (ymu 4 x8)) 1).toNat)), .inl (.inl (σ.1 14 (yad (yad (ymu 40 x1) x3) (ymu 4 x8)).toNat)), .inr (.inl 8, 0)], σ)) rfl hg4 ?_
          refine yG_n (n := 5) (C' := (195, [(9, .inl (.inl (yad (yad (ymu 40 x1) x3) (ymu 4 x8)))), (0, .inr (.inl 8, 0)), (1, .inl (.inl x1)), (2, .inl (.inl x2)), (3, .inl (.inl x3)), (4, .inl (.inl x4)), (5, .inl (.inl x5)), (6, .inl (.inl x6)), (7, .inl (.inl x7)), (8, .inl (.inl x8))], [.inl (.inl (yad (yad (yad (ymu 40 x1) x3) (ymu 4 x8)) 3)), .inr (.inr (0, 160), 14), .inl (.inl (σ.1 14 (yad (yad (yad (ymu 40 x1) x3) (ymu 4 x8)) 2).toNat)), .inl (.inl (σ.1 14 (yad (yad (yad (ymu 40 x1) x3) (ymu 4 x8)) 1).toNat)), .inl (.inl (σ.1 14 (yad (yad (ymu 40 x1) x3) (ymu 4 x8)).toNat)), .inr (.inl 8, 0)], σ)) rfl ?_
          cases hg5 : yin (yad (yad (yad (ymu 40 x1) x3) (ymu 4 x8)) 3) 160 with
          | false => rw [hg5] at h; dsimp only [cond] at h; cases h
          | true =>
            rw [hg5] at h
            dsimp only [cond] at h
            refine yG_t (C' := (196, [(9, .inl (.inl (yad (yad (ymu 40 x1) x3) (ymu 4 x8)))), (0, .inr (.inl 8, 0)), (1, .inl (.inl x1)), (2, .inl (.inl x2)), (3, .inl (.inl x3)), (4, .inl (.inl x4)), (5, .inl (.inl x5)), (6, .inl (.inl x6)), (7, .inl (.inl x7)), (8, .inl (.inl x8))], [.inl (.inl (σ.1 14 (yad (yad (yad (ymu 40 x1) x3) (ymu 4 x8)) 3).toNat)), .inl (.inl (σ.1 14 (yad (yad (yad (ymu 40 x1) x3) (ymu 4 x8)) 2).toNat)), .inl (.inl (σ.1 14 (yad (yad (yad (ymu 40 x1) x3) (ymu 4 x8)) 1).toNat)), .inl (.inl (σ.1 14 (yad (yad (ymu 40 x1) x3) (ymu 4 x8)).toNat)), .inr (.inl 8, 0)], σ)) rfl hg5 ?_
            cases hr6 : f_X8_vows N σ (σ.1 14 (yad (yad (ymu 40 x1) x3) (ymu 4 x8)).toNat) (σ.1 14 (yad (yad (yad (ymu 40 x1) x3) (ymu 4 x8)) 1).toNat) (σ.1 14 (yad (yad (yad (ymu 40 x1) x3) (ymu 4 x8)) 2).toNat) (σ.1 14 (yad (yad (yad (ymu 40 x1) x3) (ymu 4 x8)) 3).toNat) with
            | none => rw [hr6] at h; dsimp only at h; cases h
            | some r3 =>
              rw [hr6] at h
              dsimp only at h
              refine yG_c (C1 := (199, [(9, .inl (.inl (yad (yad (ymu 40 x1) x3) (ymu 4 x8)))), (0, .inr (.inl 8, 0)), (1, .inl (.inl x1)), (2, .inl (.inl x2)), (3, .inl (.inl x3)), (4, .inl (.inl x4)), (5, .inl (.inl x5)), (6, .inl (.inl x6)), (7, .inl (.inl x7)), (8, .inl (.inl x8))], [.inl (.inl r3.1)], r3.2)) rfl (e_X8_vows hr6) rfl ?_
              cases hg7 : ycP .ge r3.1 0 with
              | true =>
                rw [hg7] at h
                dsimp only [cond] at h
                refine yG_t (C' := (217, [(9, .inl (.inl (yad (yad (ymu 40 x1) x3) (ymu 4 x8)))), (0, .inr (.inl 8, 0)), (1, .inl (.inl x1)), (2, .inl (.inl x2)), (3, .inl (.inl x3)), (4, .inl (.inl x4)), (5, .inl (.inl x5)), (6, .inl (.inl x6)), (7, .inl (.inl x7)), (8, .inl (.inl x8))], [], r3.2)) rfl hg7 ?_
                refine yG_n (n := 1) (C' := (220, [(7, .inl (.inl (yad x7 1))), (9, .inl (.inl (yad (yad (ymu 40 x1) x3) (ymu 4 x8)))), (0, .inr (.inl 8, 0)), (1, .inl (.inl x1)), (2, .inl (.inl x2)), (3, .inl (.inl x3)), (4, .inl (.inl x4)), (5, .inl (.inl x5)), (6, .inl (.inl x6)), (8, .inl (.inl x8))], [], r3.2)) rfl ?_
                exact yG_w [2, 3, 4, 5, 6, 7, 8, 0, 9] rfl (t_X8_read_b220 k41 hk41 r3.2 x1 x2 x3 x4 x5 x6 (yad x7 1) x8 res h)
              | false =>
                rw [hg7] at h
                dsimp only [cond] at h
                refine yG_f (C' := (202, [(9, .inl (.inl (yad (yad (ymu 40 x1) x3) (ymu 4 x8)))), (0, .inr (.inl 8, 0)), (1, .inl (.inl x1)), (2, .inl (.inl x2)), (3, .inl (.inl x3)), (4, .inl (.inl x4)), (5, .inl (.inl x5)), (6, .inl (.inl x6)), (7, .inl (.inl x7)), (8, .inl (.inl x8))], [], r3.2)) rfl hg7 ?_
                refine yG_n (n := 8) (C' := (216, [(9, .inl (.inl (yad (yad (ymu 40 x1) x3) (ymu 4 x8)))), (0, .inr (.inl 8, 0)), (1, .inl (.inl x1)), (2, .inl (.inl x2)), (3, .inl (.inl x3)), (4, .inl (.inl x4)), (5, .inl (.inl x5)), (6, .inl (.inl x6)), (7, .inl (.inl x7)), (8, .inl (.inl x8))], [.inl (.inl (ysu ((-20)) x8))], yw r3.2 1 77 x5)) rfl ?_
                have h := Option.some.inj h
                subst h
                dsimp only
                exact yG_r rfl rfl
set_option maxRecDepth 100000 in
set_option maxHeartbeats 4000000 in
theorem t_X8_read_b135 {N : Nat} {X : zXT} {sh : List yH} {l : Launch} {rm : Room} (k41 : yS → Int → Int → Int → Int → Int → Int → Int → Int → Option (Int × yS)) (hk41 : ∀ (σ : yS) (x1 : Int) (x2 : Int) (x3 : Int) (x4 : Int) (x5 : Int) (x6 : Int) (x7 : Int) (x8 : Int) (res : Int × yS), k41 σ x1 x2 x3 x4 x5 x6 x7 x8 = some res → G_X8_read N X sh l rm (41, [(0, .inr (.inl 8, 0)), (1, .inl (.inl x1)), (2, .inl (.inl x2)), (3, .inl (.inl x3)), (4, .inl (.inl x4)), (5, .inl (.inl x5)), (6, .inl (.inl x6)), (7, .inl (.inl x7)), (8, .inl (.inl x8))], [], σ) (some (.inl (.inl res.1)), res.2)) (k56 : yS → Int → Int → Int → Int → Int → Int → Int → Int → Int → Option (Int × yS)) (hk56 : ∀ (σ : yS) (x1 : Int) (x2 : Int) (x3 : Int) (x4 : Int) (x5 : Int) (x6 : Int) (x7 : Int) (x8 : Int) (x9 : Int) (res : Int × yS), k56 σ x1 x2 x3 x4 x5 x6 x7 x8 x9 = some res → G_X8_read N X sh l rm (56, [(0, .inr (.inl 8, 0)), (1, .inl (.inl x1)), (2, .inl (.inl x2)), (3, .inl (.inl x3)), (4, .inl (.inl x4)), (5, .inl (.inl x5)), (6, .inl (.inl x6)), (7, .inl (.inl x7)), (8, .inl (.inl x8)), (9, .inl (.inl x9))], [], σ) (some (.inl (.inl res.1)), res.2)) (σ : yS) (x1 : Int) (x2 : Int) (x3 : Int) (x4 : Int) (x5 : Int) (x7 : Int) (x8 : Int) (x9 : Int) (s0 : Int) (res : Int × yS) (h : f_X8_read_b135 N k41 k56 σ x1 x2 x3 x4 x5 x7 x8 x9 s0 = some res) : G_X8_read N X sh l rm (135, [(0, .inr (.inl 8, 0)), (1, .inl (.inl x1)), (2, .inl (.inl x2)), (3, .inl (.inl x3)), (4, .inl (.inl x4)), (5, .inl (.inl x5)), (7, .inl (.inl x7)), (8, .inl (.inl x8)), (9, .inl (.inl x9))], [.inl (.inl s0)], σ) (some (.inl (.inl res.1)), res.2) := by
  unfold f_X8_read_b135 at h
  refine yG_n (n := 3) (C' := (56, [(9, .inl (.inl (yad x9 1))), (6, .inl (.inl s0)), (0, .inr (.inl 8, 0)), (1, .inl (.inl x1)), (2, .inl (.inl x2)), (3, .inl (.inl x3)), (4, .inl (.inl x4)), (5, .inl (.inl x5)), (7, .inl (.inl x7)), (8, .inl (.inl x8))], [], σ)) rfl ?_
  exact yG_w [2, 3, 4, 5, 6, 7, 1, 8, 9, 0] rfl (hk56 σ x1 x2 x3 x4 x5 s0 x7 x8 (yad x9 1) res h)
set_option maxRecDepth 100000 in
set_option maxHeartbeats 4000000 in
theorem t_X8_read_b130 {N : Nat} {X : zXT} {sh : List yH} {l : Launch} {rm : Room} (k41 : yS → Int → Int → Int → Int → Int → Int → Int → Int → Option (Int × yS)) (hk41 : ∀ (σ : yS) (x1 : Int) (x2 : Int) (x3 : Int) (x4 : Int) (x5 : Int) (x6 : Int) (x7 : Int) (x8 : Int) (res : Int × yS), k41 σ x1 x2 x3 x4 x5 x6 x7 x8 = some res → G_X8_read N X sh l rm (41, [(0, .inr (.inl 8, 0)), (1, .inl (.inl x1)), (2, .inl (.inl x2)), (3, .inl (.inl x3)), (4, .inl (.inl x4)), (5, .inl (.inl x5)), (6, .inl (.inl x6)), (7, .inl (.inl x7)), (8, .inl (.inl x8))], [], σ) (some (.inl (.inl res.1)), res.2)) (k56 : yS → Int → Int → Int → Int → Int → Int → Int → Int → Int → Option (Int × yS)) (hk56 : ∀ (σ : yS) (x1 : Int) (x2 : Int) (x3 : Int) (x4 : Int) (x5 : Int) (x6 : Int) (x7 : Int) (x8 : Int) (x9 : Int) (res : Int × yS), k56 σ x1 x2 x3 x4 x5 x6 x7 x8 x9 = some res → G_X8_read N X sh l rm (56, [(0, .inr (.inl 8, 0)), (1, .inl (.inl x1)), (2, .inl (.inl x2)), (3, .inl (.inl x3)), (4, .inl (.inl x4)), (5, .inl (.inl x5)), (6, .inl (.inl x6)), (7, .inl (.inl x7)), (8, .inl (.inl x8)), (9, .inl (.inl x9))], [], σ) (some (.inl (.inl res.1)), res.2)) (σ : yS) (x1 : Int) (x2 : Int) (x3 : Int) (x4 : Int) (x5 : Int) (x7 : Int) (x8 : Int) (x9 : Int) (res : Int × yS) (h : f_X8_read_b130 N k41 k56 σ x1 x2 x3 x4 x5 x7 x8 x9 = some res) : G_X8_read N X sh l rm (130, [(0, .inr (.inl 8, 0)), (1, .inl (.inl x1)), (2, .inl (.inl x2)), (3, .inl (.inl x3)), (4, .inl (.inl x4)), (5, .inl (.inl x5)), (7, .inl (.inl x7)), (8, .inl (.inl x8)), (9, .inl (.inl x9))], [], σ) (some (.inl (.inl res.1)), res.2) := by
  unfold f_X8_read_b130 at h
  refine yG_n (n := 2) (C' := (135, [(0, .inr (.inl 8, 0)), (1, .inl (.inl x1)), (2, .inl (.inl x2)), (3, .inl (.inl x3)), (4, .inl (.inl x4)), (5, .inl (.inl x5)), (7, .inl (.inl x7)), (8, .inl (.inl x8)), (9, .inl (.inl x9))], [.inl (.inl 2)], σ)) rfl ?_
  exact t_X8_read_b135 k41 hk41 k56 hk56 σ x1 x2 x3 x4 x5 x7 x8 x9 2 res h
set_option maxRecDepth 100000 in
set_option maxHeartbeats 4000000 in
theorem t_X8_read_b56 {N : Nat} {X : zXT} {sh : List yH} {l : Launch} {rm : Room} (k41 : yS → Int → Int → Int → Int → Int → Int → Int → Int → Option (Int × yS)) (hk41 : ∀ (σ : yS) (x1 : Int) (x2 : Int) (x3 : Int) (x4 : Int) (x5 : Int) (x6 : Int) (x7 : Int) (x8 : Int) (res : Int × yS), k41 σ x1 x2 x3 x4 x5 x6 x7 x8 = some res → G_X8_read N X sh l rm (41, [(0, .inr (.inl 8, 0)), (1, .inl (.inl x1)), (2, .inl (.inl x2)), (3, .inl (.inl x3)), (4, .inl (.inl x4)), (5, .inl (.inl x5)), (6, .inl (.inl x6)), (7, .inl (.inl x7)), (8, .inl (.inl x8))], [], σ) (some (.inl (.inl res.1)), res.2)) : ∀ (n : Nat) (σ : yS) (x1 : Int) (x2 : Int) (x3 : Int) (x4 : Int) (x5 : Int) (x6 : Int) (x7 : Int) (x8 : Int) (x9 : Int) (res : Int × yS), f_X8_read_b56 N k41 n σ x1 x2 x3 x4 x5 x6 x7 x8 x9 = some res → G_X8_read N X sh l rm (56, [(0, .inr (.inl 8, 0)), (1, .inl (.inl x1)), (2, .inl (.inl x2)), (3, .inl (.inl x3)), (4, .inl (.inl x4)), (5, .inl (.inl x5)), (6, .inl (.inl x6)), (7, .inl (.inl x7)), (8, .inl (.inl x8)), (9, .inl (.inl x9))], [], σ) (some (.inl (.inl res.1)), res.2) := by
  intro n
  induction n with
  | zero => intro σ x1 x2 x3 x4 x5 x6 x7 x8 x9 res h; exact (yno h).elim
  | succ n ih =>
    intro σ x1 x2 x3 x4 x5 x6 x7 x8 x9 res h
    rw [q_X8_read_b56] at h
    refine yG_n (n := 2) (C' := (59, [(0, .inr (.inl 8, 0)), (1, .inl (.inl x1)), (2, .inl (.inl x2)), (3, .inl (.inl x3)), (4, .inl (.inl x4)), (5, .inl (.inl x5)), (6, .inl (.inl x6)), (7, .inl (.inl x7)), (8, .inl (.inl x8)), (9, .inl (.inl x9))], [.inl (.inl 4), .inl (.inl x9)], σ)) rfl ?_
    cases hg8 : ycP .ge x9 4 with
    | true =>
      rw [hg8] at h
      dsimp only [cond] at h
      refine yG_t (C' := (143, [(0, .inr (.inl 8, 0)), (1, .inl (.inl x1)), (2, .inl (.inl x2)), (3, .inl (.inl x3)), (4, .inl (.inl x4)), (5, .inl (.inl x5)), (6, .inl (.inl x6)), (7, .inl (.inl x7)), (8, .inl (.inl x8)), (9, .inl (.inl x9))], [], σ)) rfl hg8 ?_
      exact yG_w [0, 1, 2, 3, 4, 5, 6, 7, 8] rfl (t_X8_read_b143 k41 hk41 σ x1 x2 x3 x4 x5 x6 x7 x8 res h)
    | false =>
      rw [hg8] at h
      dsimp only [cond] at h
      refine yG_f (C' := (62, [(0, .inr (.inl 8, 0)), (1, .inl (.inl x1)), (2, .inl (.inl x2)), (3, .inl (.inl x3)), (4, .inl (.inl x4)), (5, .inl (.inl x5)), (6, .inl (.inl x6)), (7, .inl (.inl x7)), (8, .inl (.inl x8)), (9, .inl (.inl x9))], [], σ)) rfl hg8 ?_
      refine yG_n (n := 1) (C' := (64, [(0, .inr (.inl 8, 0)), (1, .inl (.inl x1)), (2, .inl (.inl x2)), (3, .inl (.inl x3)), (4, .inl (.inl x4)), (5, .inl (.inl x5)), (6, .inl (.inl x6)), (7, .inl (.inl x7)), (8, .inl (.inl x8)), (9, .inl (.inl x9))], [.inl (.inl x6)], σ)) rfl ?_
      cases hg9 : ycP .ne x6 0 with
      | true =>
        rw [hg9] at h
        dsimp only [cond] at h
        refine yG_t (C' := (143, [(0, .inr (.inl 8, 0)), (1, .inl (.inl x1)), (2, .inl (.inl x2)), (3, .inl (.inl x3)), (4, .inl (.inl x4)), (5, .inl (.inl x5)), (6, .inl (.inl x6)), (7, .inl (.inl x7)), (8, .inl (.inl x8)), (9, .inl (.inl x9))], [], σ)) rfl hg9 ?_
        exact yG_w [0, 1, 2, 3, 4, 5, 6, 7, 8] rfl (t_X8_read_b143 k41 hk41 σ x1 x2 x3 x4 x5 x6 x7 x8 res h)
      | false =>
        rw [hg9] at h
        dsimp only [cond] at h
        refine yG_f (C' := (67, [(0, .inr (.inl 8, 0)), (1, .inl (.inl x1)), (2, .inl (.inl x2)), (3, .inl (.inl x3)), (4, .inl (.inl x4)), (5, .inl (.inl x5)), (6, .inl (.inl x6)), (7, .inl (.inl x7)), (8, .inl (.inl x8)), (9, .inl (.inl x9))], [], σ)) rfl hg9 ?_
        refine yG_n (n := 14) (C' := (86, [(10, .inl (.inr (yadL (yadL x3 (ymu 4 x8)) x9))), (0, .inr (.inl 8, 0)), (1, .inl (.inl x1)), (2, .inl (.inl x2)), (3, .inl (.inl x3)), (4, .inl (.inl x4)), (5, .inl (.inl x5)), (6, .inl (.inl x6)), (7, .inl (.inl x7)), (8, .inl (.inl x8)), (9, .inl (.inl x9))], [.inl (.inl x1), .inr (.inr (0, 4), 12)], σ)) rfl ?_
        cases hg10 : yin x1 4 with
        | false => rw [hg10] at h; dsimp only [cond] at h; cases h
        | true =>
          rw [hg10] at h
          dsimp only [cond] at h
          refine yG_t (C' := (87, [(10, .inl (.inr (yadL (yadL x3 (ymu 4 x8)) x9))), (0, .inr (.inl 8, 0)), (1, .inl (.inl x1)), (2, .inl (.inl x2)), (3, .inl (.inl x3)), (4, .inl (.inl x4)), (5, .inl (.inl x5)), (6, .inl (.inl x6)), (7, .inl (.inl x7)), (8, .inl (.inl x8)), (9, .inl (.inl x9))], [.inl (.inl (σ.1 12 x1.toNat))], σ)) rfl hg10 ?_
          refine yG_n (n := 1) (C' := (89, [(10, .inl (.inr (yadL (yadL x3 (ymu 4 x8)) x9))), (0, .inr (.inl 8, 0)), (1, .inl (.inl x1)), (2, .inl (.inl x2)), (3, .inl (.inl x3)), (4, .inl (.inl x4)), (5, .inl (.inl x5)), (6, .inl (.inl x6)), (7, .inl (.inl x7)), (8, .inl (.inl x8)), (9, .inl (.inl x9))], [.inl (.inl ((-4))), .inl (.inl (σ.1 12 x1.toNat))], σ)) rfl ?_
          cases hg11 : ycP .ne (σ.1 12 x1.toNat) ((-4)) with
          | true =>
            rw [hg11] at h
            dsimp only [cond] at h
            refine yG_t (C' := (96, [(10, .inl (.inr (yadL (yadL x3 (ymu 4 x8)) x9))), (0, .inr (.inl 8, 0)), (1, .inl (.inl x1)), (2, .inl (.inl x2)), (3, .inl (.inl x3)), (4, .inl (.inl x4)), (5, .inl (.inl x5)), (6, .inl (.inl x6)), (7, .inl (.inl x7)), (8, .inl (.inl x8)), (9, .inl (.inl x9))], [], σ)) rfl hg11 ?_
            refine yG_n (n := 3) (C' := (101, [(10, .inl (.inr (yadL (yadL x3 (ymu 4 x8)) x9))), (0, .inr (.inl 8, 0)), (1, .inl (.inl x1)), (2, .inl (.inl x2)), (3, .inl (.inl x3)), (4, .inl (.inl x4)), (5, .inl (.inl x5)), (6, .inl (.inl x6)), (7, .inl (.inl x7)), (8, .inl (.inl x8)), (9, .inl (.inl x9))], [.inl (.inl x1), .inr (.inr (0, 4), 12)], σ)) rfl ?_
            refine yG_t (C' := (102, [(10, .inl (.inr (yadL (yadL x3 (ymu 4 x8)) x9))), (0, .inr (.inl 8, 0)), (1, .inl (.inl x1)), (2, .inl (.inl x2)), (3, .inl (.inl x3)), (4, .inl (.inl x4)), (5, .inl (.inl x5)), (6, .inl (.inl x6)), (7, .inl (.inl x7)), (8, .inl (.inl x8)), (9, .inl (.inl x9))], [.inl (.inl (σ.1 12 x1.toNat))], σ)) rfl hg10 ?_
            refine yG_n (n := 1) (C' := (103, [(10, .inl (.inr (yadL (yadL x3 (ymu 4 x8)) x9))), (0, .inr (.inl 8, 0)), (1, .inl (.inl x1)), (2, .inl (.inl x2)), (3, .inl (.inl x3)), (4, .inl (.inl x4)), (5, .inl (.inl x5)), (6, .inl (.inl x6)), (7, .inl (.inl x7)), (8, .inl (.inl x8)), (9, .inl (.inl x9))], [.inl (.inl x2), .inl (.inl (σ.1 12 x1.toNat))], σ)) rfl ?_
            cases hg12 : ycP .eq (σ.1 12 x1.toNat) x2 with
            | true =>
              rw [hg12] at h
              dsimp only [cond] at h
              refine yG_t (C' := (110, [(10, .inl (.inr (yadL (yadL x3 (ymu 4 x8)) x9))), (0, .inr (.inl 8, 0)), (1, .inl (.inl x1)), (2, .inl (.inl x2)), (3, .inl (.inl x3)), (4, .inl (.inl x4)), (5, .inl (.inl x5)), (6, .inl (.inl x6)), (7, .inl (.inl x7)), (8, .inl (.inl x8)), (9, .inl (.inl x9))], [], σ)) rfl hg12 ?_
              refine yG_n (n := 2) (C' := (113, [(10, .inl (.inr (yadL (yadL x3 (ymu 4 x8)) x9))), (0, .inr (.inl 8, 0)), (1, .inl (.inl x1)), (2, .inl (.inl x2)), (3, .inl (.inl x3)), (4, .inl (.inl x4)), (5, .inl (.inl x5)), (6, .inl (.inl x6)), (7, .inl (.inl x7)), (8, .inl (.inl x8)), (9, .inl (.inl x9))], [.inl (.inr 0), .inl (.inr (yadL (yadL x3 (ymu 4 x8)) x9))], σ)) rfl ?_
              cases hg13 : ycP .lt (yadL (yadL x3 (ymu 4 x8)) x9) 0 with
              | true =>
                rw [hg13] at h
                dsimp only [cond] at h
                refine yG_t (C' := (130, [(10, .inl (.inr (yadL (yadL x3 (ymu 4 x8)) x9))), (0, .inr (.inl 8, 0)), (1, .inl (.inl x1)), (2, .inl (.inl x2)), (3, .inl (.inl x3)), (4, .inl (.inl x4)), (5, .inl (.inl x5)), (6, .inl (.inl x6)), (7, .inl (.inl x7)), (8, .inl (.inl x8)), (9, .inl (.inl x9))], [], σ)) rfl hg13 ?_
                exact yG_w [1, 2, 3, 4, 5, 6, 8, 9, 10] rfl (t_X8_read_b130 k41 hk41 (f_X8_read_b56 N k41 n) ih σ x1 x2 x3 x4 x5 x7 x8 x9 res h)
              | false =>
                rw [hg13] at h
                dsimp only [cond] at h
                refine yG_f (C' := (117, [(10, .inl (.inr (yadL (yadL x3 (ymu 4 x8)) x9))), (0, .inr (.inl 8, 0)), (1, .inl (.inl x1)), (2, .inl (.inl x2)), (3, .inl (.inl x3)), (4, .inl (.inl x4)), (5, .inl (.inl x5)), (6, .inl (.inl x6)), (7, .inl (.inl x7)), (8, .inl (.inl x8)), (9, .inl (.inl x9))], [], σ)) rfl hg13 ?_
                refine yG_n (n := 4) (C' := (124, [(10, .inl (.inr (yadL (yadL x3 (ymu 4 x8)) x9))), (0, .inr (.inl 8, 0)), (1, .inl (.inl x1)), (2, .inl (.inl x2)), (3, .inl (.inl x3)), (4, .inl (.inl x4)), (5, .inl (.inl x5)), (6, .inl (.inl x6)), (7, .inl (.inl x7)), (8, .inl (.inl x8)), (9, .inl (.inl x9))], [.inl (.inl x1), .inr (.inr (0, 4), 13), .inl (.inr (yadL (yadL x3 (ymu 4 x8)) x9))], σ)) rfl ?_
                refine yG_t (C' := (125, [(10, .inl (.inr (yadL (yadL x3 (ymu 4 x8)) x9))), (0, .inr (.inl 8, 0)), (1, .inl (.inl x1)), (2, .inl (.inl x2)), (3, .inl (.inl x3)), (4, .inl (.inl x4)), (5, .inl (.inl x5)), (6, .inl (.inl x6)), (7, .inl (.inl x7)), (8, .inl (.inl x8)), (9, .inl (.inl x9))], [.inl (.inl (σ.1 13 x1.toNat)), .inl (.inr (yadL (yadL x3 (ymu 4 x8)) x9))], σ)) rfl hg10 ?_
                refine yG_n (n := 1) (C' := (126, [(10, .inl (.inr (yadL (yadL x3 (ymu 4 x8)) x9))), (0, .inr (.inl 8, 0)), (1, .inl (.inl x1)), (2, .inl (.inl x2)), (3, .inl (.inl x3)), (4, .inl (.inl x4)), (5, .inl (.inl x5)), (6, .inl (.inl x6)), (7, .inl (.inl x7)), (8, .inl (.inl x8)), (9, .inl (.inl x9))], [.inl (.inr (σ.1 13 x1.toNat)), .inl (.inr (yadL (yadL x3 (ymu 4 x8)) x9))], σ)) rfl ?_
                cases hg14 : ycP .lt (yadL (yadL x3 (ymu 4 x8)) x9) (σ.1 13 x1.toNat) with
                | true =>
                  rw [hg14] at h
                  dsimp only [cond] at h
                  refine yG_t (C' := (134, [(10, .inl (.inr (yadL (yadL x3 (ymu 4 x8)) x9))), (0, .inr (.inl 8, 0)), (1, .inl (.inl x1)), (2, .inl (.inl x2)), (3, .inl (.inl x3)), (4, .inl (.inl x4)), (5, .inl (.inl x5)), (6, .inl (.inl x6)), (7, .inl (.inl x7)), (8, .inl (.inl x8)), (9, .inl (.inl x9))], [], σ)) rfl hg14 ?_
                  refine yG_n (n := 1) (C' := (135, [(10, .inl (.inr (yadL (yadL x3 (ymu 4 x8)) x9))), (0, .inr (.inl 8, 0)), (1, .inl (.inl x1)), (2, .inl (.inl x2)), (3, .inl (.inl x3)), (4, .inl (.inl x4)), (5, .inl (.inl x5)), (6, .inl (.inl x6)), (7, .inl (.inl x7)), (8, .inl (.inl x8)), (9, .inl (.inl x9))], [.inl (.inl 0)], σ)) rfl ?_
                  exact yG_w [1, 2, 3, 4, 5, 6, 8, 9, 10] rfl (t_X8_read_b135 k41 hk41 (f_X8_read_b56 N k41 n) ih σ x1 x2 x3 x4 x5 x7 x8 x9 0 res h)
                | false =>
                  rw [hg14] at h
                  dsimp only [cond] at h
                  refine yG_f (C' := (130, [(10, .inl (.inr (yadL (yadL x3 (ymu 4 x8)) x9))), (0, .inr (.inl 8, 0)), (1, .inl (.inl x1)), (2, .inl (.inl x2)), (3, .inl (.inl x3)), (4, .inl (.inl x4)), (5, .inl (.inl x5)), (6, .inl (.inl x6)), (7, .inl (.inl x7)), (8, .inl (.inl x8)), (9, .inl (.inl x9))], [], σ)) rfl hg14 ?_
                  exact yG_w [1, 2, 3, 4, 5, 6, 8, 9, 10] rfl (t_X8_read_b130 k41 hk41 (f_X8_read_b56 N k41 n) ih σ x1 x2 x3 x4 x5 x7 x8 x9 res h)
            | false =>
              rw [hg12] at h
              dsimp only [cond] at h
              refine yG_f (C' := (106, [(10, .inl (.inr (yadL (yadL x3 (ymu 4 x8)) x9))), (0, .inr (.inl 8, 0)), (1, .inl (.inl x1)), (2, .inl (.inl x2)), (3, .inl (.inl x3)), (4, .inl (.inl x4)), (5, .inl (.inl x5)), (6, .inl (.inl x6)), (7, .inl (.inl x7)), (8, .inl (.inl x8)), (9, .inl (.inl x9))], [], σ)) rfl hg12 ?_
              refine yG_n (n := 2) (C' := (135, [(10, .inl (.inr (yadL (yadL x3 (ymu 4 x8)) x9))), (0, .inr (.inl 8, 0)), (1, .inl (.inl x1)), (2, .inl (.inl x2)), (3, .inl (.inl x3)), (4, .inl (.inl x4)), (5, .inl (.inl x5)), (6, .inl (.inl x6)), (7, .inl (.inl x7)), (8, .inl (.inl x8)), (9, .inl (.inl x9))], [.inl (.inl 3)], σ)) rfl ?_
              exact yG_w [1, 2, 3, 4, 5, 6, 8, 9, 10] rfl (t_X8_read_b135 k41 hk41 (f_X8_read_b56 N k41 n) ih σ x1 x2 x3 x4 x5 x7 x8 x9 3 res h)
          | false =>
            rw [hg11] at h
            dsimp only [cond] at h
            refine yG_f (C' := (92, [(10, .inl (.inr (yadL (yadL x3 (ymu 4 x8)) x9))), (0, .inr (.inl 8, 0)), (1, .inl (.inl x1)), (2, .inl (.inl x2)), (3, .inl (.inl x3)), (4, .inl (.inl x4)), (5, .inl (.inl x5)), (6, .inl (.inl x6)), (7, .inl (.inl x7)), (8, .inl (.inl x8)), (9, .inl (.inl x9))], [], σ)) rfl hg11 ?_
            refine yG_n (n := 2) (C' := (135, [(10, .inl (.inr (yadL (yadL x3 (ymu 4 x8)) x9))), (0, .inr (.inl 8, 0)), (1, .inl (.inl x1)), (2, .inl (.inl x2)), (3, .inl (.inl x3)), (4, .inl (.inl x4)), (5, .inl (.inl x5)), (6, .inl (.inl x6)), (7, .inl (.inl x7)), (8, .inl (.inl x8)), (9, .inl (.inl x9))], [.inl (.inl 1)], σ)) rfl ?_
            exact yG_w [1, 2, 3, 4, 5, 6, 8, 9, 10] rfl (t_X8_read_b135 k41 hk41 (f_X8_read_b56 N k41 n) ih σ x1 x2 x3 x4 x5 x7 x8 x9 1 res h)
set_option maxRecDepth 100000 in
set_option maxHeartbeats 4000000 in
theorem t_X8_read_b41 {N : Nat} {X : zXT} {sh : List yH} {l : Launch} {rm : Room} : ∀ (n : Nat) (σ : yS) (x1 : Int) (x2 : Int) (x3 : Int) (x4 : Int) (x5 : Int) (x6 : Int) (x7 : Int) (x8 : Int) (res : Int × yS), f_X8_read_b41 N n σ x1 x2 x3 x4 x5 x6 x7 x8 = some res → G_X8_read N X sh l rm (41, [(0, .inr (.inl 8, 0)), (1, .inl (.inl x1)), (2, .inl (.inl x2)), (3, .inl (.inl x3)), (4, .inl (.inl x4)), (5, .inl (.inl x5)), (6, .inl (.inl x6)), (7, .inl (.inl x7)), (8, .inl (.inl x8))], [], σ) (some (.inl (.inl res.1)), res.2) := by
  intro n
  induction n with
  | zero => intro σ x1 x2 x3 x4 x5 x6 x7 x8 res h; exact (yno h).elim
  | succ n ih =>
    intro σ x1 x2 x3 x4 x5 x6 x7 x8 res h
    rw [q_X8_read_b41] at h
    refine yG_n (n := 2) (C' := (45, [(0, .inr (.inl 8, 0)), (1, .inl (.inl x1)), (2, .inl (.inl x2)), (3, .inl (.inl x3)), (4, .inl (.inl x4)), (5, .inl (.inl x5)), (6, .inl (.inl x6)), (7, .inl (.inl x7)), (8, .inl (.inl x8))], [.inl (.inl x4), .inl (.inl x8)], σ)) rfl ?_
    cases hg15 : ycP .ge x8 x4 with
    | true =>
      rw [hg15] at h
      dsimp only [cond] at h
      refine yG_t (C' := (226, [(0, .inr (.inl 8, 0)), (1, .inl (.inl x1)), (2, .inl (.inl x2)), (3, .inl (.inl x3)), (4, .inl (.inl x4)), (5, .inl (.inl x5)), (6, .inl (.inl x6)), (7, .inl (.inl x7)), (8, .inl (.inl x8))], [], σ)) rfl hg15 ?_
      exact yG_w [0, 6, 7] rfl (t_X8_read_b226 σ x6 x7 res h)
    | false =>
      rw [hg15] at h
      dsimp only [cond] at h
      refine yG_f (C' := (48, [(0, .inr (.inl 8, 0)), (1, .inl (.inl x1)), (2, .inl (.inl x2)), (3, .inl (.inl x3)), (4, .inl (.inl x4)), (5, .inl (.inl x5)), (6, .inl (.inl x6)), (7, .inl (.inl x7)), (8, .inl (.inl x8))], [], σ)) rfl hg15 ?_
      refine yG_n (n := 1) (C' := (50, [(0, .inr (.inl 8, 0)), (1, .inl (.inl x1)), (2, .inl (.inl x2)), (3, .inl (.inl x3)), (4, .inl (.inl x4)), (5, .inl (.inl x5)), (6, .inl (.inl x6)), (7, .inl (.inl x7)), (8, .inl (.inl x8))], [.inl (.inl x6)], σ)) rfl ?_
      cases hg16 : ycP .ne x6 0 with
      | true =>
        rw [hg16] at h
        dsimp only [cond] at h
        refine yG_t (C' := (226, [(0, .inr (.inl 8, 0)), (1, .inl (.inl x1)), (2, .inl (.inl x2)), (3, .inl (.inl x3)), (4, .inl (.inl x4)), (5, .inl (.inl x5)), (6, .inl (.inl x6)), (7, .inl (.inl x7)), (8, .inl (.inl x8))], [], σ)) rfl hg16 ?_
        exact yG_w [0, 6, 7] rfl (t_X8_read_b226 σ x6 x7 res h)
      | false =>
        rw [hg16] at h
        dsimp only [cond] at h
        refine yG_f (C' := (53, [(0, .inr (.inl 8, 0)), (1, .inl (.inl x1)), (2, .inl (.inl x2)), (3, .inl (.inl x3)), (4, .inl (.inl x4)), (5, .inl (.inl x5)), (6, .inl (.inl x6)), (7, .inl (.inl x7)), (8, .inl (.inl x8))], [], σ)) rfl hg16 ?_
        refine yG_n (n := 2) (C' := (56, [(9, .inl (.inl 0)), (0, .inr (.inl 8, 0)), (1, .inl (.inl x1)), (2, .inl (.inl x2)), (3, .inl (.inl x3)), (4, .inl (.inl x4)), (5, .inl (.inl x5)), (6, .inl (.inl x6)), (7, .inl (.inl x7)), (8, .inl (.inl x8))], [], σ)) rfl ?_
        exact yG_w [1, 2, 3, 4, 5, 6, 7, 8, 9, 0] rfl (t_X8_read_b56 (f_X8_read_b41 N n) ih N σ x1 x2 x3 x4 x5 x6 x7 x8 0 res h)
set_option maxRecDepth 100000 in
set_option maxHeartbeats 4000000 in
theorem t_X8_read {N : Nat} {X : zXT} {sh : List yH} {l : Launch} {rm : Room} (σ : yS) (x1 : Int) (x2 : Int) (x3 : Int) (x4 : Int) (res : Int × yS) (h : f_X8_read N σ x1 x2 x3 x4 = some res) : G_X8_read N X sh l rm (0, [(0, .inr (.inl 8, 0)), (1, .inl (.inl x1)), (2, .inl (.inl x2)), (3, .inl (.inl x3)), (4, .inl (.inl x4))], [], σ) (some (.inl (.inl res.1)), res.2) := by
  unfold f_X8_read at h
  refine yG_n (n := 2) (C' := (2, [(0, .inr (.inl 8, 0)), (1, .inl (.inl x1)), (2, .inl (.inl x2)), (3, .inl (.inl x3)), (4, .inl (.inl x4))], [.inl (.inl x2), .inl (.inl x1)], σ)) rfl ?_
  cases hr17 : f_X8_isSheet N σ x1 x2 with
  | none => rw [hr17] at h; dsimp only at h; cases h
  | some r1 =>
    rw [hr17] at h
    dsimp only at h
    refine yG_c (C1 := (5, [(0, .inr (.inl 8, 0)), (1, .inl (.inl x1)), (2, .inl (.inl x2)), (3, .inl (.inl x3)), (4, .inl (.inl x4))], [.inl (.inl r1.1)], r1.2)) rfl (e_X8_isSheet hr17) rfl ?_
    cases hg18 : ycP .eq r1.1 0 with
    | true =>
      rw [hg18] at h
      dsimp only [cond] at h
      refine yG_t (C' := (21, [(0, .inr (.inl 8, 0)), (1, .inl (.inl x1)), (2, .inl (.inl x2)), (3, .inl (.inl x3)), (4, .inl (.inl x4))], [], r1.2)) rfl hg18 ?_
      exact yG_w [] rfl (t_X8_read_b21 r1.2 res h)
    | false =>
      rw [hg18] at h
      dsimp only [cond] at h
      refine yG_f (C' := (8, [(0, .inr (.inl 8, 0)), (1, .inl (.inl x1)), (2, .inl (.inl x2)), (3, .inl (.inl x3)), (4, .inl (.inl x4))], [], r1.2)) rfl hg18 ?_
      refine yG_n (n := 4) (C' := (15, [(0, .inr (.inl 8, 0)), (1, .inl (.inl x1)), (2, .inl (.inl x2)), (3, .inl (.inl x3)), (4, .inl (.inl x4))], [.inl (.inr 10), .inl (.inr 0), .inl (.inr x4)], r1.2)) rfl ?_
      cases hr19 : f_X8_in N r1.2 x4 0 10 with
      | none => rw [hr19] at h; dsimp only at h; cases h
      | some r2 =>
        rw [hr19] at h
        dsimp only at h
        refine yG_c (C1 := (18, [(0, .inr (.inl 8, 0)), (1, .inl (.inl x1)), (2, .inl (.inl x2)), (3, .inl (.inl x3)), (4, .inl (.inl x4))], [.inl (.inl r2.1)], r2.2)) rfl (e_X8_in hr19) rfl ?_
        cases hg20 : ycP .ne r2.1 0 with
        | true =>
          rw [hg20] at h
          dsimp only [cond] at h
          refine yG_t (C' := (23, [(0, .inr (.inl 8, 0)), (1, .inl (.inl x1)), (2, .inl (.inl x2)), (3, .inl (.inl x3)), (4, .inl (.inl x4))], [], r2.2)) rfl hg20 ?_
          refine yG_n (n := 11) (C' := (41, [(8, .inl (.inl 0)), (7, .inl (.inl 0)), (6, .inl (.inl 0)), (5, .inl (.inl (r2.2.1 1 77))), (0, .inr (.inl 8, 0)), (1, .inl (.inl x1)), (2, .inl (.inl x2)), (3, .inl (.inl x3)), (4, .inl (.inl x4))], [], r2.2)) rfl ?_
          exact yG_w [4, 5, 6, 7, 8, 3, 2, 1, 0] rfl (t_X8_read_b41 N r2.2 x1 x2 x3 x4 (r2.2.1 1 77) 0 0 0 res h)
        | false =>
          rw [hg20] at h
          dsimp only [cond] at h
          refine yG_f (C' := (21, [(0, .inr (.inl 8, 0)), (1, .inl (.inl x1)), (2, .inl (.inl x2)), (3, .inl (.inl x3)), (4, .inl (.inl x4))], [], r2.2)) rfl hg20 ?_
          exact yG_w [] rfl (t_X8_read_b21 r2.2 res h)
set_option maxRecDepth 100000 in
set_option maxHeartbeats 4000000 in
theorem m_X8_read {N : Nat} {X : zXT} (hX : zXok X) (hN : zXn X) (l : Launch) {sh : List yH} : yMet X vwCl yct sh l yX8_read wsX8_read { frames := 4, cells := 0, slots := 0, locals := 135 } (F_X8_read N) :=
  ymeth (tb := tb_X8_read N) (pr := pr_X8_read) (rt := 1) (own := RX8) hX (by decide +kernel) rfl rfl ⟨Nat.le_of_ble_eq_true rfl, Nat.le_of_ble_eq_true rfl⟩
    (zfl_all (List.forall_mem_cons.mpr ⟨zfl_X8 (fun w h => List.mem_cons_of_mem _ (List.mem_append_right _ h)) (List.mem_of_getElem? (i := 2) rfl) (by decide) (by decide), List.forall_mem_cons.mpr ⟨zfl_X8 (fun w h => List.mem_cons_of_mem _ (List.mem_append_right _ h)) (List.mem_of_getElem? (i := 3) rfl) (by decide) (by decide), List.forall_mem_cons.mpr ⟨zfl_X8 (fun w h => List.mem_cons_of_mem _ (List.mem_append_right _ h)) (List.mem_of_getElem? (i := 4) rfl) (by decide) (by decide), List.forall_mem_cons.mpr ⟨zfl_X8 (fun w h => List.mem_cons_of_mem _ (List.mem_append_right _ h)) (List.mem_of_getElem? (i := 5) rfl) (by decide) (by decide), List.forall_mem_cons.mpr ⟨zfl_X8 (fun w h => List.mem_cons_of_mem _ (List.mem_append_right _ h)) (List.mem_of_getElem? (i := 6) rfl) (by decide) (by decide), fun _ h => absurd h List.not_mem_nil⟩⟩⟩⟩⟩))
    (zco_all (fun _ h => absurd h List.not_mem_nil)) (zlc_all (List.forall_mem_cons.mpr ⟨(List.mem_of_getElem? (i := 1) rfl), fun _ h => absurd h List.not_mem_nil⟩))
    (List.forall_mem_cons.mpr ⟨ycal_V hX (m_X8_vows hX hN l) rfl (fun s args hts => cwV 4 hts gX8_read_X8_vows rfl rfl rfl (by decide +kernel) ⟨Nat.le_of_ble_eq_true rfl, Nat.le_of_ble_eq_true rfl⟩), fun _ h => absurd h List.not_mem_nil⟩)
    (List.forall_mem_cons.mpr ⟨ycal_S hX (m_X8_in hX hN l) (fun s args hts => va_cwS 3 hts gX8_read_X8_in rfl rfl rfl (by decide +kernel) ⟨Nat.le_of_ble_eq_true rfl, Nat.le_of_ble_eq_true rfl⟩), List.forall_mem_cons.mpr ⟨ycal_S hX (m_X8_isSheet hX hN l) (fun s args hts => va_cwS 2 hts gX8_read_X8_isSheet rfl rfl rfl (by decide +kernel) ⟨Nat.le_of_ble_eq_true rfl, Nat.le_of_ble_eq_true rfl⟩), fun _ h => absurd h List.not_mem_nil⟩⟩)
    (zmm_all (fun _ h => absurd h List.not_mem_nil)) (fun _ h => absurd h List.not_mem_nil) (zpr_all hp_X8_read) (fun as σ res h => by
      unfold F_X8_read at h
      split at h
      · rename_i x1 x2 x3 x4
        cases hr : f_X8_read N σ x1 x2 x3 x4 with
        | none => rw [hr] at h; cases h
        | some r =>
          rw [hr] at h
          cases h
          exact ⟨Nat.le_of_ble_eq_true rfl, t_X8_read σ x1 x2 x3 x4 r hr⟩
      · cases h)
noncomputable def pr_X8_readADeed : List (Nat × Instr × Nat) := [(0, .aload_n 0, 1), (1, .invokevirtual 153, 3), (4, .istore_n 1, 1), (5, .aload_n 0, 1), (6, .invokevirtual 147, 3), (9, .iload_n 1, 1), (10, .ireturn, 1)]
set_option maxRecDepth 100000 in
theorem hp_X8_readADeed : pr_X8_readADeed.all (fun x => decide (decode cX8_readADeed x.1 = .ok x.2)) = true := by decide +kernel
noncomputable def f_X8_readADeed (N : Nat) (σ : yS) : Option (Int × yS) :=
  match f_X8_lookedDeed N σ with
  | none => none
  | some r1 => match f_X8_next N r1.2 with
    | none => none
    | some r2 => some (r1.1, r2.2)
noncomputable def F_X8_readADeed (N : Nat) : yF := fun as σ => match as with
  | [.inr (.inl 8, 0)] => (f_X8_readADeed N σ).map (fun r => (some (.inl (.inl r.1)), r.2))
  | _ => none
theorem e_X8_readADeed {N : Nat} {σ : yS} {r : Int × yS} (h : f_X8_readADeed N σ = some r) : F_X8_readADeed N [.inr (.inl 8, 0)] σ = some (some (.inl (.inl r.1)), r.2) := by
  show (f_X8_readADeed N σ).map (fun r => ((some (.inl (.inl r.1)), r.2) : yR)) = _
  rw [h]
  rfl
noncomputable def tb_X8_readADeed (N : Nat) : yTb := ([], [], [], [(147, 1, 8, F_X8_next N), (153, 1, 8, F_X8_lookedDeed N)], [], [], [])
abbrev G_X8_readADeed (N : Nat) (X : zXT) (sh : List yH) (l : Launch) (rm : Room) : yC → yR → Prop := yGoes X vwCl yct sh l rm cX8_readADeed 2 wsX8_readADeed RX8 (tb_X8_readADeed N) pr_X8_readADeed 1
set_option maxRecDepth 100000 in
set_option maxHeartbeats 4000000 in
theorem t_X8_readADeed {N : Nat} {X : zXT} {sh : List yH} {l : Launch} {rm : Room} (σ : yS) (res : Int × yS) (h : f_X8_readADeed N σ = some res) : G_X8_readADeed N X sh l rm (0, [(0, .inr (.inl 8, 0))], [], σ) (some (.inl (.inl res.1)), res.2) := by
  unfold f_X8_readADeed at h
  refine yG_n (n := 1) (C' := (1, [(0, .inr (.inl 8, 0))], [.inr (.inl 8, 0)], σ)) rfl ?_
  cases hr1 : f_X8_lookedDeed N σ with
  | none => rw [hr1] at h; dsimp only at h; cases h
  | some r1 =>
    rw [hr1] at h
    dsimp only at h
    refine yG_c (C1 := (4, [(0, .inr (.inl 8, 0))], [.inl (.inl r1.1)], r1.2)) rfl (e_X8_lookedDeed hr1) rfl ?_
    refine yG_n (n := 2) (C' := (6, [(1, .inl (.inl r1.1)), (0, .inr (.inl 8, 0))], [.inr (.inl 8, 0)], r1.2)) rfl ?_
    cases hr2 : f_X8_next N r1.2 with
    | none => rw [hr2] at h; dsimp only at h; cases h
    | some r2 =>
      rw [hr2] at h
      dsimp only at h
      refine yG_c (C1 := (9, [(1, .inl (.inl r1.1)), (0, .inr (.inl 8, 0))], [], r2.2)) rfl (e_X8_next hr2) rfl ?_
      refine yG_n (n := 1) (C' := (10, [(1, .inl (.inl r1.1)), (0, .inr (.inl 8, 0))], [.inl (.inl r1.1)], r2.2)) rfl ?_
      have h := Option.some.inj h
      subst h
      dsimp only
      exact yG_r rfl rfl
set_option maxRecDepth 100000 in
set_option maxHeartbeats 4000000 in
theorem m_X8_readADeed {N : Nat} {X : zXT} (hX : zXok X) (hN : zXn X) (l : Launch) {sh : List yH} : yMet X vwCl yct sh l yX8_readADeed wsX8_readADeed { frames := 4, cells := 0, slots := 0, locals := 132 } (F_X8_readADeed N) :=
  ymeth (tb := tb_X8_readADeed N) (pr := pr_X8_readADeed) (rt := 1) (own := RX8) hX (by decide +kernel) rfl rfl ⟨Nat.le_of_ble_eq_true rfl, Nat.le_of_ble_eq_true rfl⟩
    (zfl_all (fun _ h => absurd h List.not_mem_nil))
    (zco_all (fun _ h => absurd h List.not_mem_nil)) (zlc_all (fun _ h => absurd h List.not_mem_nil))
    (List.forall_mem_cons.mpr ⟨ycal_V hX (m_X8_next hX hN l) rfl (fun s args hts => cwV 0 hts gX8_readADeed_X8_next rfl rfl rfl (by decide +kernel) ⟨Nat.le_of_ble_eq_true rfl, Nat.le_of_ble_eq_true rfl⟩), List.forall_mem_cons.mpr ⟨ycal_V hX (m_X8_lookedDeed hX hN l) rfl (fun s args hts => cwV 0 hts gX8_readADeed_X8_lookedDeed rfl rfl rfl (by decide +kernel) ⟨Nat.le_of_ble_eq_true rfl, Nat.le_of_ble_eq_true rfl⟩), fun _ h => absurd h List.not_mem_nil⟩⟩)
    (fun _ h => absurd h List.not_mem_nil)
    (zmm_all (fun _ h => absurd h List.not_mem_nil)) (fun _ h => absurd h List.not_mem_nil) (zpr_all hp_X8_readADeed) (fun as σ res h => by
      unfold F_X8_readADeed at h
      split at h
      · cases hr : f_X8_readADeed N σ with
        | none => rw [hr] at h; cases h
        | some r =>
          rw [hr] at h
          cases h
          exact ⟨Nat.le_of_ble_eq_true rfl, t_X8_readADeed σ r hr⟩
      · cases h)
noncomputable def pr_X8_readAHouse : List (Nat × Instr × Nat) := [(0, .aload_n 0, 1), (1, .invokevirtual 150, 3), (4, .istore_n 1, 1), (5, .aload_n 0, 1), (6, .invokevirtual 147, 3), (9, .iload_n 1, 1), (10, .ireturn, 1)]
set_option maxRecDepth 100000 in
theorem hp_X8_readAHouse : pr_X8_readAHouse.all (fun x => decide (decode cX8_readAHouse x.1 = .ok x.2)) = true := by decide +kernel
noncomputable def f_X8_readAHouse (N : Nat) (σ : yS) : Option (Int × yS) :=
  match f_X8_lookedHouse N σ with
  | none => none
  | some r1 => match f_X8_next N r1.2 with
    | none => none
    | some r2 => some (r1.1, r2.2)
noncomputable def F_X8_readAHouse (N : Nat) : yF := fun as σ => match as with
  | [.inr (.inl 8, 0)] => (f_X8_readAHouse N σ).map (fun r => (some (.inl (.inl r.1)), r.2))
  | _ => none
theorem e_X8_readAHouse {N : Nat} {σ : yS} {r : Int × yS} (h : f_X8_readAHouse N σ = some r) : F_X8_readAHouse N [.inr (.inl 8, 0)] σ = some (some (.inl (.inl r.1)), r.2) := by
  show (f_X8_readAHouse N σ).map (fun r => ((some (.inl (.inl r.1)), r.2) : yR)) = _
  rw [h]
  rfl
noncomputable def tb_X8_readAHouse (N : Nat) : yTb := ([], [], [], [(147, 1, 8, F_X8_next N), (150, 1, 8, F_X8_lookedHouse N)], [], [], [])
abbrev G_X8_readAHouse (N : Nat) (X : zXT) (sh : List yH) (l : Launch) (rm : Room) : yC → yR → Prop := yGoes X vwCl yct sh l rm cX8_readAHouse 2 wsX8_readAHouse RX8 (tb_X8_readAHouse N) pr_X8_readAHouse 1
set_option maxRecDepth 100000 in
set_option maxHeartbeats 4000000 in
theorem t_X8_readAHouse {N : Nat} {X : zXT} {sh : List yH} {l : Launch} {rm : Room} (σ : yS) (res : Int × yS) (h : f_X8_readAHouse N σ = some res) : G_X8_readAHouse N X sh l rm (0, [(0, .inr (.inl 8, 0))], [], σ) (some (.inl (.inl res.1)), res.2) := by
  unfold f_X8_readAHouse at h
  refine yG_n (n := 1) (C' := (1, [(0, .inr (.inl 8, 0))], [.inr (.inl 8, 0)], σ)) rfl ?_
  cases hr1 : f_X8_lookedHouse N σ with
  | none => rw [hr1] at h; dsimp only at h; cases h
  | some r1 =>
    rw [hr1] at h
    dsimp only at h
    refine yG_c (C1 := (4, [(0, .inr (.inl 8, 0))], [.inl (.inl r1.1)], r1.2)) rfl (e_X8_lookedHouse hr1) rfl ?_
    refine yG_n (n := 2) (C' := (6, [(1, .inl (.inl r1.1)), (0, .inr (.inl 8, 0))], [.inr (.inl 8, 0)], r1.2)) rfl ?_
    cases hr2 : f_X8_next N r1.2 with
    | none => rw [hr2] at h; dsimp only at h; cases h
    | some r2 =>
      rw [hr2] at h
      dsimp only at h
      refine yG_c (C1 := (9, [(1, .inl (.inl r1.1)), (0, .inr (.inl 8, 0))], [], r2.2)) rfl (e_X8_next hr2) rfl ?_
      refine yG_n (n := 1) (C' := (10, [(1, .inl (.inl r1.1)), (0, .inr (.inl 8, 0))], [.inl (.inl r1.1)], r2.2)) rfl ?_
      have h := Option.some.inj h
      subst h
      dsimp only
      exact yG_r rfl rfl
set_option maxRecDepth 100000 in
set_option maxHeartbeats 4000000 in
theorem m_X8_readAHouse {N : Nat} {X : zXT} (hX : zXok X) (hN : zXn X) (l : Launch) {sh : List yH} : yMet X vwCl yct sh l yX8_readAHouse wsX8_readAHouse { frames := 4, cells := 0, slots := 0, locals := 132 } (F_X8_readAHouse N) :=
  ymeth (tb := tb_X8_readAHouse N) (pr := pr_X8_readAHouse) (rt := 1) (own := RX8) hX (by decide +kernel) rfl rfl ⟨Nat.le_of_ble_eq_true rfl, Nat.le_of_ble_eq_true rfl⟩
    (zfl_all (fun _ h => absurd h List.not_mem_nil))
    (zco_all (fun _ h => absurd h List.not_mem_nil)) (zlc_all (fun _ h => absurd h List.not_mem_nil))
    (List.forall_mem_cons.mpr ⟨ycal_V hX (m_X8_next hX hN l) rfl (fun s args hts => cwV 0 hts gX8_readAHouse_X8_next rfl rfl rfl (by decide +kernel) ⟨Nat.le_of_ble_eq_true rfl, Nat.le_of_ble_eq_true rfl⟩), List.forall_mem_cons.mpr ⟨ycal_V hX (m_X8_lookedHouse hX hN l) rfl (fun s args hts => cwV 0 hts gX8_readAHouse_X8_lookedHouse rfl rfl rfl (by decide +kernel) ⟨Nat.le_of_ble_eq_true rfl, Nat.le_of_ble_eq_true rfl⟩), fun _ h => absurd h List.not_mem_nil⟩⟩)
    (fun _ h => absurd h List.not_mem_nil)
    (zmm_all (fun _ h => absurd h List.not_mem_nil)) (fun _ h => absurd h List.not_mem_nil) (zpr_all hp_X8_readAHouse) (fun as σ res h => by
      unfold F_X8_readAHouse at h
      split at h
      · cases hr : f_X8_readAHouse N σ with
        | none => rw [hr] at h; cases h
        | some r =>
          rw [hr] at h
          cases h
          exact ⟨Nat.le_of_ble_eq_true rfl, t_X8_readAHouse σ r hr⟩
      · cases h)
noncomputable def pr_X8_readCan : List (Nat × Instr × Nat) := [(0, .aload_n 0, 1), (1, .getfield 97, 3), (4, .ifCond .ne 71, 3), (7, .aload_n 0, 1), (8, .getfield 125, 3), (11, .iconst 2, 1), (12, .if_icmp .ne 63, 3), (15, .aload_n 0, 1), (16, .invokevirtual 153, 3), (19, .istore_n 2, 1), (20, .aload_n 0, 1), (21, .getfield 97, 3), (24, .ifCond .ne 44, 3), (27, .aload_n 0, 1), (28, .aload_n 0, 1), (29, .getfield 23, 3), (32, .bipush 7, 2), (34, .iload_n 1, 1), (35, .iadd, 1), (36, .iaload, 1), (37, .iload_n 2, 1), (38, .ishr, 1), (39, .iconst 1, 1), (40, .iand, 1), (41, .ifCond .ne 7, 3), (44, .iconst 1, 1), (45, .goto 4, 3), (48, .iconst 0, 1), (49, .iconst 4, 1), (50, .invokevirtual 139, 3), (53, .aload_n 0, 1), (54, .getfield 23, 3), (57, .bipush 7, 2), (59, .iload_n 1, 1), (60, .iadd, 1), (61, .dup2, 1), (62, .iaload, 1), (63, .iconst 1, 1), (64, .iload_n 2, 1), (65, .ishl, 1), (66, .ior, 1), (67, .iastore, 1), (68, .aload_n 0, 1), (69, .invokevirtual 147, 3), (72, .goto (-72), 3), (75, .return_, 1)]
set_option maxRecDepth 100000 in
theorem hp_X8_readCan : pr_X8_readCan.all (fun x => decide (decode cX8_readCan x.1 = .ok x.2)) = true := by decide +kernel
noncomputable def f_X8_readCan_b75 (N : Nat) (σ : yS) : Option (Int × yS) :=
  some (0, σ)
noncomputable def f_X8_readCan_b68 (N : Nat) (k0 : yS → Int → Option (Int × yS)) (σ : yS) (x1 : Int) : Option (Int × yS) :=
  match f_X8_next N σ with
  | none => none
  | some r2 => k0 r2.2 x1
noncomputable def f_X8_readCan_b49 (N : Nat) (k0 : yS → Int → Option (Int × yS)) (σ : yS) (x1 : Int) (x2 : Int) (s0 : Int) : Option (Int × yS) :=
  match f_X8_needs N σ s0 4 with
  | none => none
  | some r3 => bif yin (yad 7 x1) 131 then
      f_X8_readCan_b68 N k0 (yw r3.2 5 (yad 7 x1).toNat (yor (r3.2.1 5 (yad 7 x1).toNat) (ysl 1 x2))) x1
    else none
noncomputable def f_X8_readCan_b0 (N : Nat) : Nat → yS → Int → Option (Int × yS) := yfix (fun _ _ => none) (fun ih σ x1 =>
    bif ycP .ne (σ.1 0 22) 0 then
      f_X8_readCan_b75 N σ
    else
      bif ycP .ne (σ.1 0 20) 2 then
        f_X8_readCan_b75 N σ
      else
        match f_X8_lookedDeed N σ with
        | none => none
        | some r1 => bif ycP .ne (r1.2.1 0 22) 0 then
            f_X8_readCan_b68 N ih r1.2 x1
          else
            bif yin (yad 7 x1) 131 then
              bif ycP .ne (yan (ysr (r1.2.1 5 (yad 7 x1).toNat) r1.1) 1) 0 then
                f_X8_readCan_b49 N ih r1.2 x1 r1.1 0
              else
                f_X8_readCan_b49 N ih r1.2 x1 r1.1 1
            else none)
theorem q_X8_readCan_b0 (N : Nat) (n : Nat) (σ : yS) (x1 : Int) : f_X8_readCan_b0 N (n + 1) σ x1 =
    (bif ycP .ne (σ.1 0 22) 0 then
      f_X8_readCan_b75 N σ
    else
      bif ycP .ne (σ.1 0 20) 2 then
        f_X8_readCan_b75 N σ
      else
        match f_X8_lookedDeed N σ with
        | none => none
        | some r1 => bif ycP .ne (r1.2.1 0 22) 0 then
            f_X8_readCan_b68 N (f_X8_readCan_b0 N n) r1.2 x1
          else
            bif yin (yad 7 x1) 131 then
              bif ycP .ne (yan (ysr (r1.2.1 5 (yad 7 x1).toNat) r1.1) 1) 0 then
                f_X8_readCan_b49 N (f_X8_readCan_b0 N n) r1.2 x1 r1.1 0
              else
                f_X8_readCan_b49 N (f_X8_readCan_b0 N n) r1.2 x1 r1.1 1
            else none) := rfl
noncomputable def f_X8_readCan (N : Nat) (σ : yS) (x1 : Int) : Option (Int × yS) :=
  f_X8_readCan_b0 N N σ x1
noncomputable def F_X8_readCan (N : Nat) : yF := fun as σ => match as with
  | [.inr (.inl 8, 0), .inl (.inl x1)] => (f_X8_readCan N σ x1).map (fun r => (none, r.2))
  | _ => none
theorem e_X8_readCan {N : Nat} {σ : yS} {x1 : Int} {r : Int × yS} (h : f_X8_readCan N σ x1 = some r) : F_X8_readCan N [.inr (.inl 8, 0), .inl (.inl x1)] σ = some (none, r.2) := by
  show (f_X8_readCan N σ x1).map (fun r => ((none, r.2) : yR)) = _
  rw [h]
  rfl
noncomputable def tb_X8_readCan (N : Nat) : yTb := ([(23, 8, 7, 3), (97, 8, 22, 0), (125, 8, 20, 0)], [], [], [(139, 3, 8, F_X8_needs N), (147, 1, 8, F_X8_next N), (153, 1, 8, F_X8_lookedDeed N)], [], [], [])
abbrev G_X8_readCan (N : Nat) (X : zXT) (sh : List yH) (l : Launch) (rm : Room) : yC → yR → Prop := yGoes X vwCl yct sh l rm cX8_readCan 3 wsX8_readCan RX8 (tb_X8_readCan N) pr_X8_readCan 0
set_option maxRecDepth 100000 in
set_option maxHeartbeats 4000000 in
theorem t_X8_readCan_b75 {N : Nat} {X : zXT} {sh : List yH} {l : Launch} {rm : Room} (σ : yS) (res : Int × yS) (h : f_X8_readCan_b75 N σ = some res) : G_X8_readCan N X sh l rm (75, [], [], σ) (none, res.2) := by
  unfold f_X8_readCan_b75 at h
  have h := Option.some.inj h
  subst h
  dsimp only
  exact yG_r rfl rfl
set_option maxRecDepth 100000 in
set_option maxHeartbeats 4000000 in
theorem t_X8_readCan_b68 {N : Nat} {X : zXT} {sh : List yH} {l : Launch} {rm : Room} (k0 : yS → Int → Option (Int × yS)) (hk0 : ∀ (σ : yS) (x1 : Int) (res : Int × yS), k0 σ x1 = some res → G_X8_readCan N X sh l rm (0, [(0, .inr (.inl 8, 0)), (1, .inl (.inl x1))], [], σ) (none, res.2)) (σ : yS) (x1 : Int) (res : Int × yS) (h : f_X8_readCan_b68 N k0 σ x1 = some res) : G_X8_readCan N X sh l rm (68, [(0, .inr (.inl 8, 0)), (1, .inl (.inl x1))], [], σ) (none, res.2) := by
  unfold f_X8_readCan_b68 at h
  refine yG_n (n := 1) (C' := (69, [(0, .inr (.inl 8, 0)), (1, .inl (.inl x1))], [.inr (.inl 8, 0)], σ)) rfl ?_
  cases hr1 : f_X8_next N σ with
  | none => rw [hr1] at h; dsimp only at h; cases h
  | some r2 =>
    rw [hr1] at h
    dsimp only at h
    refine yG_c (C1 := (72, [(0, .inr (.inl 8, 0)), (1, .inl (.inl x1))], [], r2.2)) rfl (e_X8_next hr1) rfl ?_
    refine yG_n (n := 1) (C' := (0, [(0, .inr (.inl 8, 0)), (1, .inl (.inl x1))], [], r2.2)) rfl ?_
    exact hk0 r2.2 x1 res h
set_option maxRecDepth 100000 in
set_option maxHeartbeats 4000000 in
theorem t_X8_readCan_b49 {N : Nat} {X : zXT} {sh : List yH} {l : Launch} {rm : Room} (k0 : yS → Int → Option (Int × yS)) (hk0 : ∀ (σ : yS) (x1 : Int) (res : Int × yS), k0 σ x1 = some res → G_X8_readCan N X sh l rm (0, [(0, .inr (.inl 8, 0)), (1, .inl (.inl x1))], [], σ) (none, res.2)) (σ : yS) (x1 : Int) (x2 : Int) (s0 : Int) (res : Int × yS) (h : f_X8_readCan_b49 N k0 σ x1 x2 s0 = some res) : G_X8_readCan N X sh l rm (49, [(0, .inr (.inl 8, 0)), (1, .inl (.inl x1)), (2, .inl (.inl x2))], [.inl (.inl s0), .inr (.inl 8, 0)], σ) (none, res.2) := by
  unfold f_X8_readCan_b49 at h
  refine yG_n (n := 1) (C' := (50, [(0, .inr (.inl 8, 0)), (1, .inl (.inl x1)), (2, .inl (.inl x2))], [.inl (.inl 4), .inl (.inl s0), .inr (.inl 8, 0)], σ)) rfl ?_
  cases hr2 : f_X8_needs N σ s0 4 with
  | none => rw [hr2] at h; dsimp only at h; cases h
  | some r3 =>
    rw [hr2] at h
    dsimp only at h
    refine yG_c (C1 := (53, [(0, .inr (.inl 8, 0)), (1, .inl (.inl x1)), (2, .inl (.inl x2))], [], r3.2)) rfl (e_X8_needs hr2) rfl ?_
    refine yG_n (n := 6) (C' := (62, [(0, .inr (.inl 8, 0)), (1, .inl (.inl x1)), (2, .inl (.inl x2))], [.inl (.inl (yad 7 x1)), .inr (.inr (0, 131), 5), .inl (.inl (yad 7 x1)), .inr (.inr (0, 131), 5)], r3.2)) rfl ?_
    cases hg3 : yin (yad 7 x1) 131 with
    | false => rw [hg3] at h; dsimp only [cond] at h; cases h
    | true =>
      rw [hg3] at h
      dsimp only [cond] at h
      refine yG_t (C' := (63, [(0, .inr (.inl 8, 0)), (1, .inl (.inl x1)), (2, .inl (.inl x2))], [.inl (.inl (r3.2.1 5 (yad 7 x1).toNat)), .inl (.inl (yad 7 x1)), .inr (.inr (0, 131), 5)], r3.2)) rfl hg3 ?_
      refine yG_n (n := 4) (C' := (67, [(0, .inr (.inl 8, 0)), (1, .inl (.inl x1)), (2, .inl (.inl x2))], [.inl (.inl (yor (r3.2.1 5 (yad 7 x1).toNat) (ysl 1 x2))), .inl (.inl (yad 7 x1)), .inr (.inr (0, 131), 5)], r3.2)) rfl ?_
      refine yG_t (C' := (68, [(0, .inr (.inl 8, 0)), (1, .inl (.inl x1)), (2, .inl (.inl x2))], [], yw r3.2 5 (yad 7 x1).toNat (yor (r3.2.1 5 (yad 7 x1).toNat) (ysl 1 x2)))) rfl hg3 ?_
      exact yG_w [0, 1] rfl (t_X8_readCan_b68 k0 hk0 (yw r3.2 5 (yad 7 x1).toNat (yor (r3.2.1 5 (yad 7 x1).toNat) (ysl 1 x2))) x1 res h)
set_option maxRecDepth 100000 in
set_option maxHeartbeats 4000000 in
theorem t_X8_readCan_b0 {N : Nat} {X : zXT} {sh : List yH} {l : Launch} {rm : Room} : ∀ (n : Nat) (σ : yS) (x1 : Int) (res : Int × yS), f_X8_readCan_b0 N n σ x1 = some res → G_X8_readCan N X sh l rm (0, [(0, .inr (.inl 8, 0)), (1, .inl (.inl x1))], [], σ) (none, res.2) := by
  intro n
  induction n with
  | zero => intro σ x1 res h; exact (yno h).elim
  | succ n ih =>
    intro σ x1 res h
    rw [q_X8_readCan_b0] at h
    refine yG_n (n := 2) (C' := (4, [(0, .inr (.inl 8, 0)), (1, .inl (.inl x1))], [.inl (.inl (σ.1 0 22))], σ)) rfl ?_
    cases hg4 : ycP .ne (σ.1 0 22) 0 with
    | true =>
      rw [hg4] at h
      dsimp only [cond] at h
      refine yG_t (C' := (75, [(0, .inr (.inl 8, 0)), (1, .inl (.inl x1))], [], σ)) rfl hg4 ?_
      exact yG_w [] rfl (t_X8_readCan_b75 σ res h)
    | false =>
      rw [hg4] at h
      dsimp only [cond] at h
      refine yG_f (C' := (7, [(0, .inr (.inl 8, 0)), (1, .inl (.inl x1))], [], σ)) rfl hg4 ?_
      refine yG_n (n := 3) (C' := (12, [(0, .inr (.inl 8, 0)), (1, .inl (.inl x1))], [.inl (.inl 2), .inl (.inl (σ.1 0 20))], σ)) rfl ?_
      cases hg5 : ycP .ne (σ.1 0 20) 2 with
      | true =>
        rw [hg5] at h
        dsimp only [cond] at h
        refine yG_t (C' := (75, [(0, .inr (.inl 8, 0)), (1, .inl (.inl x1))], [], σ)) rfl hg5 ?_
        exact yG_w [] rfl (t_X8_readCan_b75 σ res h)
      | false =>
        rw [hg5] at h
        dsimp only [cond] at h
        refine yG_f (C' := (15, [(0, .inr (.inl 8, 0)), (1, .inl (.inl x1))], [], σ)) rfl hg5 ?_
        refine yG_n (n := 1) (C' := (16, [(0, .inr (.inl 8, 0)), (1, .inl (.inl x1))], [.inr (.inl 8, 0)], σ)) rfl ?_
        cases hr6 : f_X8_lookedDeed N σ with
        | none => rw [hr6] at h; dsimp only at h; cases h
        | some r1 =>
          rw [hr6] at h
          dsimp only at h
          refine yG_c (C1 := (19, [(0, .inr (.inl 8, 0)), (1, .inl (.inl x1))], [.inl (.inl r1.1)], r1.2)) rfl (e_X8_lookedDeed hr6) rfl ?_
          refine yG_n (n := 3) (C' := (24, [(2, .inl (.inl r1.1)), (0, .inr (.inl 8, 0)), (1, .inl (.inl x1))], [.inl (.inl (r1.2.1 0 22))], r1.2)) rfl ?_
          cases hg7 : ycP .ne (r1.2.1 0 22) 0 with
          | true =>
            rw [hg7] at h
            dsimp only [cond] at h
            refine yG_t (C' := (68, [(2, .inl (.inl r1.1)), (0, .inr (.inl 8, 0)), (1, .inl (.inl x1))], [], r1.2)) rfl hg7 ?_
            exact yG_w [1, 2] rfl (t_X8_readCan_b68 (f_X8_readCan_b0 N n) ih r1.2 x1 res h)
          | false =>
            rw [hg7] at h
            dsimp only [cond] at h
            refine yG_f (C' := (27, [(2, .inl (.inl r1.1)), (0, .inr (.inl 8, 0)), (1, .inl (.inl x1))], [], r1.2)) rfl hg7 ?_
            refine yG_n (n := 6) (C' := (36, [(2, .inl (.inl r1.1)), (0, .inr (.inl 8, 0)), (1, .inl (.inl x1))], [.inl (.inl (yad 7 x1)), .inr (.inr (0, 131), 5), .inr (.inl 8, 0)], r1.2)) rfl ?_
            cases hg8 : yin (yad 7 x1) 131 with
            | false => rw [hg8] at h; dsimp only [cond] at h; cases h
            | true =>
              rw [hg8] at h
              dsimp only [cond] at h
              refine yG_t (C' := (37, [(2, .inl (.inl r1.1)), (0, .inr (.inl 8, 0)), (1, .inl (.inl x1))], [.inl (.inl (r1.2.1 5 (yad 7 x1).toNat)), .inr (.inl 8, 0)], r1.2)) rfl hg8 ?_
              refine yG_n (n := 4) (C' := (41, [(2, .inl (.inl r1.1)), (0, .inr (.inl 8, 0)), (1, .inl (.inl x1))], [.inl (.inl (yan (ysr (r1.2.1 5 (yad 7 x1).toNat) r1.1) 1)), .inr (.inl 8, 0)], r1.2)) rfl ?_
              cases hg9 : ycP .ne (yan (ysr (r1.2.1 5 (yad 7 x1).toNat) r1.1) 1) 0 with
              | true =>
                rw [hg9] at h
                dsimp only [cond] at h
                refine yG_t (C' := (48, [(2, .inl (.inl r1.1)), (0, .inr (.inl 8, 0)), (1, .inl (.inl x1))], [.inr (.inl 8, 0)], r1.2)) rfl hg9 ?_
                refine yG_n (n := 1) (C' := (49, [(2, .inl (.inl r1.1)), (0, .inr (.inl 8, 0)), (1, .inl (.inl x1))], [.inl (.inl 0), .inr (.inl 8, 0)], r1.2)) rfl ?_
                exact yG_w [1, 2, 0] rfl (t_X8_readCan_b49 (f_X8_readCan_b0 N n) ih r1.2 x1 r1.1 0 res h)
              | false =>
                rw [hg9] at h
                dsimp only [cond] at h
                refine yG_f (C' := (44, [(2, .inl (.inl r1.1)), (0, .inr (.inl 8, 0)), (1, .inl (.inl x1))], [.inr (.inl 8, 0)], r1.2)) rfl hg9 ?_
                refine yG_n (n := 2) (C' := (49, [(2, .inl (.inl r1.1)), (0, .inr (.inl 8, 0)), (1, .inl (.inl x1))], [.inl (.inl 1), .inr (.inl 8, 0)], r1.2)) rfl ?_
                exact yG_w [1, 2, 0] rfl (t_X8_readCan_b49 (f_X8_readCan_b0 N n) ih r1.2 x1 r1.1 1 res h)
set_option maxRecDepth 100000 in
set_option maxHeartbeats 4000000 in
theorem t_X8_readCan {N : Nat} {X : zXT} {sh : List yH} {l : Launch} {rm : Room} (σ : yS) (x1 : Int) (res : Int × yS) (h : f_X8_readCan N σ x1 = some res) : G_X8_readCan N X sh l rm (0, [(0, .inr (.inl 8, 0)), (1, .inl (.inl x1))], [], σ) (none, res.2) := by
  unfold f_X8_readCan at h
  exact t_X8_readCan_b0 N σ x1 res h
set_option maxRecDepth 100000 in
set_option maxHeartbeats 4000000 in
theorem m_X8_readCan {N : Nat} {X : zXT} (hX : zXok X) (hN : zXn X) (l : Launch) {sh : List yH} : yMet X vwCl yct sh l yX8_readCan wsX8_readCan { frames := 4, cells := 0, slots := 0, locals := 132 } (F_X8_readCan N) :=
  ymeth (tb := tb_X8_readCan N) (pr := pr_X8_readCan) (rt := 0) (own := RX8) hX (by decide +kernel) rfl rfl ⟨Nat.le_of_ble_eq_true rfl, Nat.le_of_ble_eq_true rfl⟩
    (zfl_all (List.forall_mem_cons.mpr ⟨zfl_X8 (fun w h => List.mem_cons_of_mem _ (List.mem_append_right _ h)) (List.mem_of_getElem? (i := 3) rfl) (by decide) (by decide), List.forall_mem_cons.mpr ⟨zfl_X8 (fun w h => List.mem_cons_of_mem _ (List.mem_append_right _ h)) (List.mem_of_getElem? (i := 1) rfl) (by decide) (by decide), List.forall_mem_cons.mpr ⟨zfl_X8 (fun w h => List.mem_cons_of_mem _ (List.mem_append_right _ h)) (List.mem_of_getElem? (i := 2) rfl) (by decide) (by decide), fun _ h => absurd h List.not_mem_nil⟩⟩⟩))
    (zco_all (fun _ h => absurd h List.not_mem_nil)) (zlc_all (fun _ h => absurd h List.not_mem_nil))
    (List.forall_mem_cons.mpr ⟨ycal_V hX (m_X8_needs hX hN l) rfl (fun s args hts => cwV 2 hts gX8_readCan_X8_needs rfl rfl rfl (by decide +kernel) ⟨Nat.le_of_ble_eq_true rfl, Nat.le_of_ble_eq_true rfl⟩), List.forall_mem_cons.mpr ⟨ycal_V hX (m_X8_next hX hN l) rfl (fun s args hts => cwV 0 hts gX8_readCan_X8_next rfl rfl rfl (by decide +kernel) ⟨Nat.le_of_ble_eq_true rfl, Nat.le_of_ble_eq_true rfl⟩), List.forall_mem_cons.mpr ⟨ycal_V hX (m_X8_lookedDeed hX hN l) rfl (fun s args hts => cwV 0 hts gX8_readCan_X8_lookedDeed rfl rfl rfl (by decide +kernel) ⟨Nat.le_of_ble_eq_true rfl, Nat.le_of_ble_eq_true rfl⟩), fun _ h => absurd h List.not_mem_nil⟩⟩⟩)
    (fun _ h => absurd h List.not_mem_nil)
    (zmm_all (fun _ h => absurd h List.not_mem_nil)) (fun _ h => absurd h List.not_mem_nil) (zpr_all hp_X8_readCan) (fun as σ res h => by
      unfold F_X8_readCan at h
      split at h
      · rename_i x1
        cases hr : f_X8_readCan N σ x1 with
        | none => rw [hr] at h; cases h
        | some r =>
          rw [hr] at h
          cases h
          exact ⟨Nat.le_of_ble_eq_true rfl, t_X8_readCan σ x1 r hr⟩
      · cases h)
noncomputable def pr_X8_readDeep : List (Nat × Instr × Nat) := [(0, .aload_n 0, 1), (1, .iconst 0, 1), (2, .bipush 9, 2), (4, .invokevirtual 143, 3), (7, .istore_n 1, 1), (8, .aload_n 0, 1), (9, .getfield 97, 3), (12, .ifCond .ne 24, 3), (15, .aload_n 0, 1), (16, .iload_n 1, 1), (17, .iconst 3, 1), (18, .if_icmp .le 9, 3), (21, .iload_n 1, 1), (22, .bipush 9, 2), (24, .if_icmp .ne 7, 3), (27, .iconst 1, 1), (28, .goto 4, 3), (31, .iconst 0, 1), (32, .iconst 3, 1), (33, .invokevirtual 139, 3), (36, .aload_n 0, 1), (37, .invokevirtual 147, 3), (40, .iload_n 1, 1), (41, .ireturn, 1)]
set_option maxRecDepth 100000 in
theorem hp_X8_readDeep : pr_X8_readDeep.all (fun x => decide (decode cX8_readDeep x.1 = .ok x.2)) = true := by decide +kernel
noncomputable def f_X8_readDeep_b36 (N : Nat) (σ : yS) (x1 : Int) : Option (Int × yS) :=
  match f_X8_next N σ with
  | none => none
  | some r2 => some (x1, r2.2)
noncomputable def f_X8_readDeep_b32 (N : Nat) (σ : yS) (x1 : Int) (s0 : Int) : Option (Int × yS) :=
  match f_X8_needs N σ s0 3 with
  | none => none
  | some r3 => f_X8_readDeep_b36 N r3.2 x1
noncomputable def f_X8_readDeep_b27 (N : Nat) (σ : yS) (x1 : Int) : Option (Int × yS) :=
  f_X8_readDeep_b32 N σ x1 1
noncomputable def f_X8_readDeep (N : Nat) (σ : yS) : Option (Int × yS) :=
  match f_X8_looked N σ 0 9 with
  | none => none
  | some r1 => bif ycP .ne (r1.2.1 0 22) 0 then
      f_X8_readDeep_b36 N r1.2 r1.1
    else
      bif ycP .le r1.1 3 then
        f_X8_readDeep_b27 N r1.2 r1.1
      else
        bif ycP .ne r1.1 9 then
          f_X8_readDeep_b32 N r1.2 r1.1 0
        else
          f_X8_readDeep_b27 N r1.2 r1.1
noncomputable def F_X8_readDeep (N : Nat) : yF := fun as σ => match as with
  | [.inr (.inl 8, 0)] => (f_X8_readDeep N σ).map (fun r => (some (.inl (.inl r.1)), r.2))
  | _ => none
theorem e_X8_readDeep {N : Nat} {σ : yS} {r : Int × yS} (h : f_X8_readDeep N σ = some r) : F_X8_readDeep N [.inr (.inl 8, 0)] σ = some (some (.inl (.inl r.1)), r.2) := by
  show (f_X8_readDeep N σ).map (fun r => ((some (.inl (.inl r.1)), r.2) : yR)) = _
  rw [h]
  rfl
noncomputable def tb_X8_readDeep (N : Nat) : yTb := ([(97, 8, 22, 0)], [], [], [(139, 3, 8, F_X8_needs N), (143, 3, 8, F_X8_looked N), (147, 1, 8, F_X8_next N)], [], [], [])
abbrev G_X8_readDeep (N : Nat) (X : zXT) (sh : List yH) (l : Launch) (rm : Room) : yC → yR → Prop := yGoes X vwCl yct sh l rm cX8_readDeep 2 wsX8_readDeep RX8 (tb_X8_readDeep N) pr_X8_readDeep 1
set_option maxRecDepth 100000 in
set_option maxHeartbeats 4000000 in
theorem t_X8_readDeep_b36 {N : Nat} {X : zXT} {sh : List yH} {l : Launch} {rm : Room} (σ : yS) (x1 : Int) (res : Int × yS) (h : f_X8_readDeep_b36 N σ x1 = some res) : G_X8_readDeep N X sh l rm (36, [(0, .inr (.inl 8, 0)), (1, .inl (.inl x1))], [], σ) (some (.inl (.inl res.1)), res.2) := by
  unfold f_X8_readDeep_b36 at h
  refine yG_n (n := 1) (C' := (37, [(0, .inr (.inl 8, 0)), (1, .inl (.inl x1))], [.inr (.inl 8, 0)], σ)) rfl ?_
  cases hr1 : f_X8_next N σ with
  | none => rw [hr1] at h; dsimp only at h; cases h
  | some r2 =>
    rw [hr1] at h
    dsimp only at h
    refine yG_c (C1 := (40, [(0, .inr (.inl 8, 0)), (1, .inl (.inl x1))], [], r2.2)) rfl (e_X8_next hr1) rfl ?_
    refine yG_n (n := 1) (C' := (41, [(0, .inr (.inl 8, 0)), (1, .inl (.inl x1))], [.inl (.inl x1)], r2.2)) rfl ?_
    have h := Option.some.inj h
    subst h
    dsimp only
    exact yG_r rfl rfl
set_option maxRecDepth 100000 in
set_option maxHeartbeats 4000000 in
theorem t_X8_readDeep_b32 {N : Nat} {X : zXT} {sh : List yH} {l : Launch} {rm : Room} (σ : yS) (x1 : Int) (s0 : Int) (res : Int × yS) (h : f_X8_readDeep_b32 N σ x1 s0 = some res) : G_X8_readDeep N X sh l rm (32, [(0, .inr (.inl 8, 0)), (1, .inl (.inl x1))], [.inl (.inl s0), .inr (.inl 8, 0)], σ) (some (.inl (.inl res.1)), res.2) := by
  unfold f_X8_readDeep_b32 at h
  refine yG_n (n := 1) (C' := (33, [(0, .inr (.inl 8, 0)), (1, .inl (.inl x1))], [.inl (.inl 3), .inl (.inl s0), .inr (.inl 8, 0)], σ)) rfl ?_
  cases hr2 : f_X8_needs N σ s0 3 with
  | none => rw [hr2] at h; dsimp only at h; cases h
  | some r3 =>
    rw [hr2] at h
    dsimp only at h
    refine yG_c (C1 := (36, [(0, .inr (.inl 8, 0)), (1, .inl (.inl x1))], [], r3.2)) rfl (e_X8_needs hr2) rfl ?_
    exact t_X8_readDeep_b36 r3.2 x1 res h
set_option maxRecDepth 100000 in
set_option maxHeartbeats 4000000 in
theorem t_X8_readDeep_b27 {N : Nat} {X : zXT} {sh : List yH} {l : Launch} {rm : Room} (σ : yS) (x1 : Int) (res : Int × yS) (h : f_X8_readDeep_b27 N σ x1 = some res) : G_X8_readDeep N X sh l rm (27, [(0, .inr (.inl 8, 0)), (1, .inl (.inl x1))], [.inr (.inl 8, 0)], σ) (some (.inl (.inl res.1)), res.2) := by
  unfold f_X8_readDeep_b27 at h
  refine yG_n (n := 2) (C' := (32, [(0, .inr (.inl 8, 0)), (1, .inl (.inl x1))], [.inl (.inl 1), .inr (.inl 8, 0)], σ)) rfl ?_
  exact t_X8_readDeep_b32 σ x1 1 res h
set_option maxRecDepth 100000 in
set_option maxHeartbeats 4000000 in
theorem t_X8_readDeep {N : Nat} {X : zXT} {sh : List yH} {l : Launch} {rm : Room} (σ : yS) (res : Int × yS) (h : f_X8_readDeep N σ = some res) : G_X8_readDeep N X sh l rm (0, [(0, .inr (.inl 8, 0))], [], σ) (some (.inl (.inl res.1)), res.2) := by
  unfold f_X8_readDeep at h
  refine yG_n (n := 3) (C' := (4, [(0, .inr (.inl 8, 0))], [.inl (.inl 9), .inl (.inl 0), .inr (.inl 8, 0)], σ)) rfl ?_
  cases hr3 : f_X8_looked N σ 0 9 with
  | none => rw [hr3] at h; dsimp only at h; cases h
  | some r1 =>
    rw [hr3] at h
    dsimp only at h
    refine yG_c (C1 := (7, [(0, .inr (.inl 8, 0))], [.inl (.inl r1.1)], r1.2)) rfl (e_X8_looked hr3) rfl ?_
    refine yG_n (n := 3) (C' := (12, [(1, .inl (.inl r1.1)), (0, .inr (.inl 8, 0))], [.inl (.inl (r1.2.1 0 22))], r1.2)) rfl ?_
    cases hg4 : ycP .ne (r1.2.1 0 22) 0 with
    | true =>
      rw [hg4] at h
      dsimp only [cond] at h
      refine yG_t (C' := (36, [(1, .inl (.inl r1.1)), (0, .inr (.inl 8, 0))], [], r1.2)) rfl hg4 ?_
      exact yG_w [1, 0] rfl (t_X8_readDeep_b36 r1.2 r1.1 res h)
    | false =>
      rw [hg4] at h
      dsimp only [cond] at h
      refine yG_f (C' := (15, [(1, .inl (.inl r1.1)), (0, .inr (.inl 8, 0))], [], r1.2)) rfl hg4 ?_
      refine yG_n (n := 3) (C' := (18, [(1, .inl (.inl r1.1)), (0, .inr (.inl 8, 0))], [.inl (.inl 3), .inl (.inl r1.1), .inr (.inl 8, 0)], r1.2)) rfl ?_
      cases hg5 : ycP .le r1.1 3 with
      | true =>
        rw [hg5] at h
        dsimp only [cond] at h
        refine yG_t (C' := (27, [(1, .inl (.inl r1.1)), (0, .inr (.inl 8, 0))], [.inr (.inl 8, 0)], r1.2)) rfl hg5 ?_
        exact yG_w [1, 0] rfl (t_X8_readDeep_b27 r1.2 r1.1 res h)
      | false =>
        rw [hg5] at h
        dsimp only [cond] at h
        refine yG_f (C' := (21, [(1, .inl (.inl r1.1)), (0, .inr (.inl 8, 0))], [.inr (.inl 8, 0)], r1.2)) rfl hg5 ?_
        refine yG_n (n := 2) (C' := (24, [(1, .inl (.inl r1.1)), (0, .inr (.inl 8, 0))], [.inl (.inl 9), .inl (.inl r1.1), .inr (.inl 8, 0)], r1.2)) rfl ?_
        cases hg6 : ycP .ne r1.1 9 with
        | true =>
          rw [hg6] at h
          dsimp only [cond] at h
          refine yG_t (C' := (31, [(1, .inl (.inl r1.1)), (0, .inr (.inl 8, 0))], [.inr (.inl 8, 0)], r1.2)) rfl hg6 ?_
          refine yG_n (n := 1) (C' := (32, [(1, .inl (.inl r1.1)), (0, .inr (.inl 8, 0))], [.inl (.inl 0), .inr (.inl 8, 0)], r1.2)) rfl ?_
          exact yG_w [1, 0] rfl (t_X8_readDeep_b32 r1.2 r1.1 0 res h)
        | false =>
          rw [hg6] at h
          dsimp only [cond] at h
          refine yG_f (C' := (27, [(1, .inl (.inl r1.1)), (0, .inr (.inl 8, 0))], [.inr (.inl 8, 0)], r1.2)) rfl hg6 ?_
          exact yG_w [1, 0] rfl (t_X8_readDeep_b27 r1.2 r1.1 res h)
set_option maxRecDepth 100000 in
set_option maxHeartbeats 4000000 in
theorem m_X8_readDeep {N : Nat} {X : zXT} (hX : zXok X) (hN : zXn X) (l : Launch) {sh : List yH} : yMet X vwCl yct sh l yX8_readDeep wsX8_readDeep { frames := 3, cells := 0, slots := 0, locals := 111 } (F_X8_readDeep N) :=
  ymeth (tb := tb_X8_readDeep N) (pr := pr_X8_readDeep) (rt := 1) (own := RX8) hX (by decide +kernel) rfl rfl ⟨Nat.le_of_ble_eq_true rfl, Nat.le_of_ble_eq_true rfl⟩
    (zfl_all (List.forall_mem_cons.mpr ⟨zfl_X8 (fun w h => List.mem_cons_of_mem _ (List.mem_append_right _ h)) (List.mem_of_getElem? (i := 1) rfl) (by decide) (by decide), fun _ h => absurd h List.not_mem_nil⟩))
    (zco_all (fun _ h => absurd h List.not_mem_nil)) (zlc_all (fun _ h => absurd h List.not_mem_nil))
    (List.forall_mem_cons.mpr ⟨ycal_V hX (m_X8_needs hX hN l) rfl (fun s args hts => cwV 2 hts gX8_readDeep_X8_needs rfl rfl rfl (by decide +kernel) ⟨Nat.le_of_ble_eq_true rfl, Nat.le_of_ble_eq_true rfl⟩), List.forall_mem_cons.mpr ⟨ycal_V hX (m_X8_looked hX hN l) rfl (fun s args hts => cwV 2 hts gX8_readDeep_X8_looked rfl rfl rfl (by decide +kernel) ⟨Nat.le_of_ble_eq_true rfl, Nat.le_of_ble_eq_true rfl⟩), List.forall_mem_cons.mpr ⟨ycal_V hX (m_X8_next hX hN l) rfl (fun s args hts => cwV 0 hts gX8_readDeep_X8_next rfl rfl rfl (by decide +kernel) ⟨Nat.le_of_ble_eq_true rfl, Nat.le_of_ble_eq_true rfl⟩), fun _ h => absurd h List.not_mem_nil⟩⟩⟩)
    (fun _ h => absurd h List.not_mem_nil)
    (zmm_all (fun _ h => absurd h List.not_mem_nil)) (fun _ h => absurd h List.not_mem_nil) (zpr_all hp_X8_readDeep) (fun as σ res h => by
      unfold F_X8_readDeep at h
      split at h
      · cases hr : f_X8_readDeep N σ with
        | none => rw [hr] at h; cases h
        | some r =>
          rw [hr] at h
          cases h
          exact ⟨Nat.le_of_ble_eq_true rfl, t_X8_readDeep σ r hr⟩
      · cases h)
noncomputable def pr_X8_readFresh : List (Nat × Instr × Nat) := [(0, .aload_n 0, 1), (1, .invokevirtual 150, 3), (4, .istore_n 2, 1), (5, .aload_n 0, 1), (6, .getfield 97, 3), (9, .ifCond .ne 38, 3), (12, .aload_n 0, 1), (13, .aload_n 0, 1), (14, .getfield 29, 3), (17, .iload_n 1, 1), (18, .iaload, 1), (19, .iload_n 2, 1), (20, .ishr, 1), (21, .iconst 1, 1), (22, .iand, 1), (23, .ifCond .ne 7, 3), (26, .iconst 1, 1), (27, .goto 4, 3), (30, .iconst 0, 1), (31, .iconst 4, 1), (32, .invokevirtual 139, 3), (35, .aload_n 0, 1), (36, .getfield 29, 3), (39, .iload_n 1, 1), (40, .dup2, 1), (41, .iaload, 1), (42, .iconst 1, 1), (43, .iload_n 2, 1), (44, .ishl, 1), (45, .ior, 1), (46, .iastore, 1), (47, .aload_n 0, 1), (48, .invokevirtual 147, 3), (51, .iload_n 2, 1), (52, .ireturn, 1)]
set_option maxRecDepth 100000 in
theorem hp_X8_readFresh : pr_X8_readFresh.all (fun x => decide (decode cX8_readFresh x.1 = .ok x.2)) = true := by decide +kernel
noncomputable def f_X8_readFresh_b47 (N : Nat) (σ : yS) (x2 : Int) : Option (Int × yS) :=
  match f_X8_next N σ with
  | none => none
  | some r2 => some (x2, r2.2)
noncomputable def f_X8_readFresh_b31 (N : Nat) (σ : yS) (x1 : Int) (x2 : Int) (s0 : Int) : Option (Int × yS) :=
  match f_X8_needs N σ s0 4 with
  | none => none
  | some r3 => bif yin x1 3 then
      f_X8_readFresh_b47 N (yw r3.2 7 x1.toNat (yor (r3.2.1 7 x1.toNat) (ysl 1 x2))) x2
    else none
noncomputable def f_X8_readFresh (N : Nat) (σ : yS) (x1 : Int) : Option (Int × yS) :=
  match f_X8_lookedHouse N σ with
  | none => none
  | some r1 => bif ycP .ne (r1.2.1 0 22) 0 then
      f_X8_readFresh_b47 N r1.2 r1.1
    else
      bif yin x1 3 then
        bif ycP .ne (yan (ysr (r1.2.1 7 x1.toNat) r1.1) 1) 0 then
          f_X8_readFresh_b31 N r1.2 x1 r1.1 0
        else
          f_X8_readFresh_b31 N r1.2 x1 r1.1 1
      else none
noncomputable def F_X8_readFresh (N : Nat) : yF := fun as σ => match as with
  | [.inr (.inl 8, 0), .inl (.inl x1)] => (f_X8_readFresh N σ x1).map (fun r => (some (.inl (.inl r.1)), r.2))
  | _ => none
theorem e_X8_readFresh {N : Nat} {σ : yS} {x1 : Int} {r : Int × yS} (h : f_X8_readFresh N σ x1 = some r) : F_X8_readFresh N [.inr (.inl 8, 0), .inl (.inl x1)] σ = some (some (.inl (.inl r.1)), r.2) := by
  show (f_X8_readFresh N σ x1).map (fun r => ((some (.inl (.inl r.1)), r.2) : yR)) = _
  rw [h]
  rfl
noncomputable def tb_X8_readFresh (N : Nat) : yTb := ([(29, 8, 13, 3), (97, 8, 22, 0)], [], [], [(139, 3, 8, F_X8_needs N), (147, 1, 8, F_X8_next N), (150, 1, 8, F_X8_lookedHouse N)], [], [], [])
abbrev G_X8_readFresh (N : Nat) (X : zXT) (sh : List yH) (l : Launch) (rm : Room) : yC → yR → Prop := yGoes X vwCl yct sh l rm cX8_readFresh 3 wsX8_readFresh RX8 (tb_X8_readFresh N) pr_X8_readFresh 1
set_option maxRecDepth 100000 in
set_option maxHeartbeats 4000000 in
theorem t_X8_readFresh_b47 {N : Nat} {X : zXT} {sh : List yH} {l : Launch} {rm : Room} (σ : yS) (x2 : Int) (res : Int × yS) (h : f_X8_readFresh_b47 N σ x2 = some res) : G_X8_readFresh N X sh l rm (47, [(0, .inr (.inl 8, 0)), (2, .inl (.inl x2))], [], σ) (some (.inl (.inl res.1)), res.2) := by
  unfold f_X8_readFresh_b47 at h
  refine yG_n (n := 1) (C' := (48, [(0, .inr (.inl 8, 0)), (2, .inl (.inl x2))], [.inr (.inl 8, 0)], σ)) rfl ?_
  cases hr1 : f_X8_next N σ with
  | none => rw [hr1] at h; dsimp only at h; cases h
  | some r2 =>
    rw [hr1] at h
    dsimp only at h
    refine yG_c (C1 := (51, [(0, .inr (.inl 8, 0)), (2, .inl (.inl x2))], [], r2.2)) rfl (e_X8_next hr1) rfl ?_
    refine yG_n (n := 1) (C' := (52, [(0, .inr (.inl 8, 0)), (2, .inl (.inl x2))], [.inl (.inl x2)], r2.2)) rfl ?_
    have h := Option.some.inj h
    subst h
    dsimp only
    exact yG_r rfl rfl
set_option maxRecDepth 100000 in
set_option maxHeartbeats 4000000 in
theorem t_X8_readFresh_b31 {N : Nat} {X : zXT} {sh : List yH} {l : Launch} {rm : Room} (σ : yS) (x1 : Int) (x2 : Int) (s0 : Int) (res : Int × yS) (h : f_X8_readFresh_b31 N σ x1 x2 s0 = some res) : G_X8_readFresh N X sh l rm (31, [(0, .inr (.inl 8, 0)), (1, .inl (.inl x1)), (2, .inl (.inl x2))], [.inl (.inl s0), .inr (.inl 8, 0)], σ) (some (.inl (.inl res.1)), res.2) := by
  unfold f_X8_readFresh_b31 at h
  refine yG_n (n := 1) (C' := (32, [(0, .inr (.inl 8, 0)), (1, .inl (.inl x1)), (2, .inl (.inl x2))], [.inl (.inl 4), .inl (.inl s0), .inr (.inl 8, 0)], σ)) rfl ?_
  cases hr2 : f_X8_needs N σ s0 4 with
  | none => rw [hr2] at h; dsimp only at h; cases h
  | some r3 =>
    rw [hr2] at h
    dsimp only at h
    refine yG_c (C1 := (35, [(0, .inr (.inl 8, 0)), (1, .inl (.inl x1)), (2, .inl (.inl x2))], [], r3.2)) rfl (e_X8_needs hr2) rfl ?_
    refine yG_n (n := 4) (C' := (41, [(0, .inr (.inl 8, 0)), (1, .inl (.inl x1)), (2, .inl (.inl x2))], [.inl (.inl x1), .inr (.inr (0, 3), 7), .inl (.inl x1), .inr (.inr (0, 3), 7)], r3.2)) rfl ?_
    cases hg3 : yin x1 3 with
    | false => rw [hg3] at h; dsimp only [cond] at h; cases h
    | true =>
      rw [hg3] at h
      dsimp only [cond] at h
      refine yG_t (C' := (42, [(0, .inr (.inl 8, 0)), (1, .inl (.inl x1)), (2, .inl (.inl x2))], [.inl (.inl (r3.2.1 7 x1.toNat)), .inl (.inl x1), .inr (.inr (0, 3), 7)], r3.2)) rfl hg3 ?_
      refine yG_n (n := 4) (C' := (46, [(0, .inr (.inl 8, 0)), (1, .inl (.inl x1)), (2, .inl (.inl x2))], [.inl (.inl (yor (r3.2.1 7 x1.toNat) (ysl 1 x2))), .inl (.inl x1), .inr (.inr (0, 3), 7)], r3.2)) rfl ?_
      refine yG_t (C' := (47, [(0, .inr (.inl 8, 0)), (1, .inl (.inl x1)), (2, .inl (.inl x2))], [], yw r3.2 7 x1.toNat (yor (r3.2.1 7 x1.toNat) (ysl 1 x2)))) rfl hg3 ?_
      exact yG_w [0, 2] rfl (t_X8_readFresh_b47 (yw r3.2 7 x1.toNat (yor (r3.2.1 7 x1.toNat) (ysl 1 x2))) x2 res h)
set_option maxRecDepth 100000 in
set_option maxHeartbeats 4000000 in
theorem t_X8_readFresh {N : Nat} {X : zXT} {sh : List yH} {l : Launch} {rm : Room} (σ : yS) (x1 : Int) (res : Int × yS) (h : f_X8_readFresh N σ x1 = some res) : G_X8_readFresh N X sh l rm (0, [(0, .inr (.inl 8, 0)), (1, .inl (.inl x1))], [], σ) (some (.inl (.inl res.1)), res.2) := by
  unfold f_X8_readFresh at h
  refine yG_n (n := 1) (C' := (1, [(0, .inr (.inl 8, 0)), (1, .inl (.inl x1))], [.inr (.inl 8, 0)], σ)) rfl ?_
  cases hr4 : f_X8_lookedHouse N σ with
  | none => rw [hr4] at h; dsimp only at h; cases h
  | some r1 =>
    rw [hr4] at h
    dsimp only at h
    refine yG_c (C1 := (4, [(0, .inr (.inl 8, 0)), (1, .inl (.inl x1))], [.inl (.inl r1.1)], r1.2)) rfl (e_X8_lookedHouse hr4) rfl ?_
    refine yG_n (n := 3) (C' := (9, [(2, .inl (.inl r1.1)), (0, .inr (.inl 8, 0)), (1, .inl (.inl x1))], [.inl (.inl (r1.2.1 0 22))], r1.2)) rfl ?_
    cases hg5 : ycP .ne (r1.2.1 0 22) 0 with
    | true =>
      rw [hg5] at h
      dsimp only [cond] at h
      refine yG_t (C' := (47, [(2, .inl (.inl r1.1)), (0, .inr (.inl 8, 0)), (1, .inl (.inl x1))], [], r1.2)) rfl hg5 ?_
      exact yG_w [1, 0] rfl (t_X8_readFresh_b47 r1.2 r1.1 res h)
    | false =>
      rw [hg5] at h
      dsimp only [cond] at h
      refine yG_f (C' := (12, [(2, .inl (.inl r1.1)), (0, .inr (.inl 8, 0)), (1, .inl (.inl x1))], [], r1.2)) rfl hg5 ?_
      refine yG_n (n := 4) (C' := (18, [(2, .inl (.inl r1.1)), (0, .inr (.inl 8, 0)), (1, .inl (.inl x1))], [.inl (.inl x1), .inr (.inr (0, 3), 7), .inr (.inl 8, 0)], r1.2)) rfl ?_
      cases hg6 : yin x1 3 with
      | false => rw [hg6] at h; dsimp only [cond] at h; cases h
      | true =>
        rw [hg6] at h
        dsimp only [cond] at h
        refine yG_t (C' := (19, [(2, .inl (.inl r1.1)), (0, .inr (.inl 8, 0)), (1, .inl (.inl x1))], [.inl (.inl (r1.2.1 7 x1.toNat)), .inr (.inl 8, 0)], r1.2)) rfl hg6 ?_
        refine yG_n (n := 4) (C' := (23, [(2, .inl (.inl r1.1)), (0, .inr (.inl 8, 0)), (1, .inl (.inl x1))], [.inl (.inl (yan (ysr (r1.2.1 7 x1.toNat) r1.1) 1)), .inr (.inl 8, 0)], r1.2)) rfl ?_
        cases hg7 : ycP .ne (yan (ysr (r1.2.1 7 x1.toNat) r1.1) 1) 0 with
        | true =>
          rw [hg7] at h
          dsimp only [cond] at h
          refine yG_t (C' := (30, [(2, .inl (.inl r1.1)), (0, .inr (.inl 8, 0)), (1, .inl (.inl x1))], [.inr (.inl 8, 0)], r1.2)) rfl hg7 ?_
          refine yG_n (n := 1) (C' := (31, [(2, .inl (.inl r1.1)), (0, .inr (.inl 8, 0)), (1, .inl (.inl x1))], [.inl (.inl 0), .inr (.inl 8, 0)], r1.2)) rfl ?_
          exact yG_w [1, 2, 0] rfl (t_X8_readFresh_b31 r1.2 x1 r1.1 0 res h)
        | false =>
          rw [hg7] at h
          dsimp only [cond] at h
          refine yG_f (C' := (26, [(2, .inl (.inl r1.1)), (0, .inr (.inl 8, 0)), (1, .inl (.inl x1))], [.inr (.inl 8, 0)], r1.2)) rfl hg7 ?_
          refine yG_n (n := 2) (C' := (31, [(2, .inl (.inl r1.1)), (0, .inr (.inl 8, 0)), (1, .inl (.inl x1))], [.inl (.inl 1), .inr (.inl 8, 0)], r1.2)) rfl ?_
          exact yG_w [1, 2, 0] rfl (t_X8_readFresh_b31 r1.2 x1 r1.1 1 res h)
set_option maxRecDepth 100000 in
set_option maxHeartbeats 4000000 in
theorem m_X8_readFresh {N : Nat} {X : zXT} (hX : zXok X) (hN : zXn X) (l : Launch) {sh : List yH} : yMet X vwCl yct sh l yX8_readFresh wsX8_readFresh { frames := 4, cells := 0, slots := 0, locals := 132 } (F_X8_readFresh N) :=
  ymeth (tb := tb_X8_readFresh N) (pr := pr_X8_readFresh) (rt := 1) (own := RX8) hX (by decide +kernel) rfl rfl ⟨Nat.le_of_ble_eq_true rfl, Nat.le_of_ble_eq_true rfl⟩
    (zfl_all (List.forall_mem_cons.mpr ⟨zfl_X8 (fun w h => List.mem_cons_of_mem _ (List.mem_append_right _ h)) (List.mem_of_getElem? (i := 2) rfl) (by decide) (by decide), List.forall_mem_cons.mpr ⟨zfl_X8 (fun w h => List.mem_cons_of_mem _ (List.mem_append_right _ h)) (List.mem_of_getElem? (i := 1) rfl) (by decide) (by decide), fun _ h => absurd h List.not_mem_nil⟩⟩))
    (zco_all (fun _ h => absurd h List.not_mem_nil)) (zlc_all (fun _ h => absurd h List.not_mem_nil))
    (List.forall_mem_cons.mpr ⟨ycal_V hX (m_X8_needs hX hN l) rfl (fun s args hts => cwV 2 hts gX8_readFresh_X8_needs rfl rfl rfl (by decide +kernel) ⟨Nat.le_of_ble_eq_true rfl, Nat.le_of_ble_eq_true rfl⟩), List.forall_mem_cons.mpr ⟨ycal_V hX (m_X8_next hX hN l) rfl (fun s args hts => cwV 0 hts gX8_readFresh_X8_next rfl rfl rfl (by decide +kernel) ⟨Nat.le_of_ble_eq_true rfl, Nat.le_of_ble_eq_true rfl⟩), List.forall_mem_cons.mpr ⟨ycal_V hX (m_X8_lookedHouse hX hN l) rfl (fun s args hts => cwV 0 hts gX8_readFresh_X8_lookedHouse rfl rfl rfl (by decide +kernel) ⟨Nat.le_of_ble_eq_true rfl, Nat.le_of_ble_eq_true rfl⟩), fun _ h => absurd h List.not_mem_nil⟩⟩⟩)
    (fun _ h => absurd h List.not_mem_nil)
    (zmm_all (fun _ h => absurd h List.not_mem_nil)) (fun _ h => absurd h List.not_mem_nil) (zpr_all hp_X8_readFresh) (fun as σ res h => by
      unfold F_X8_readFresh at h
      split at h
      · rename_i x1
        cases hr : f_X8_readFresh N σ x1 with
        | none => rw [hr] at h; cases h
        | some r =>
          rw [hr] at h
          cases h
          exact ⟨Nat.le_of_ble_eq_true rfl, t_X8_readFresh σ x1 r hr⟩
      · cases h)
end
section
noncomputable def pr_X8_readKind : List (Nat × Instr × Nat) := [(0, .aload_n 0, 1), (1, .getfield 97, 3), (4, .ifCond .ne 18, 3), (7, .aload_n 0, 1), (8, .getfield 125, 3), (11, .iconst 1, 1), (12, .if_icmp .ne 10, 3), (15, .aload_n 0, 1), (16, .invokevirtual 156, 3), (19, .goto 5, 3), (22, .bipush (-4), 2), (24, .istore_n 1, 1), (25, .aload_n 0, 1), (26, .iload_n 1, 1), (27, .bipush (-4), 2), (29, .if_icmp .eq 7, 3), (32, .iconst 1, 1), (33, .goto 4, 3), (36, .iconst 0, 1), (37, .iconst 2, 1), (38, .invokevirtual 139, 3), (41, .aload_n 0, 1), (42, .invokevirtual 147, 3), (45, .iload_n 1, 1), (46, .ireturn, 1)]
set_option maxRecDepth 100000 in
theorem hp_X8_readKind : pr_X8_readKind.all (fun x => decide (decode cX8_readKind x.1 = .ok x.2)) = true := by decide +kernel
noncomputable def f_X8_readKind_b37 (N : Nat) (σ : yS) (x1 : Int) (s0 : Int) : Option (Int × yS) :=
  match f_X8_needs N σ s0 2 with
  | none => none
  | some r1 => match f_X8_next N r1.2 with
    | none => none
    | some r2 => some (x1, r2.2)
noncomputable def f_X8_readKind_b24 (N : Nat) (σ : yS) (s0 : Int) : Option (Int × yS) :=
  bif ycP .eq s0 ((-4)) then
    f_X8_readKind_b37 N σ s0 0
  else
    f_X8_readKind_b37 N σ s0 1
noncomputable def f_X8_readKind_b22 (N : Nat) (σ : yS) : Option (Int × yS) :=
  f_X8_readKind_b24 N σ ((-4))
noncomputable def f_X8_readKind (N : Nat) (σ : yS) : Option (Int × yS) :=
  bif ycP .ne (σ.1 0 22) 0 then
    f_X8_readKind_b22 N σ
  else
    bif ycP .ne (σ.1 0 20) 1 then
      f_X8_readKind_b22 N σ
    else
      match f_X8_kindNow N σ with
      | none => none
      | some r3 => f_X8_readKind_b24 N r3.2 r3.1
noncomputable def F_X8_readKind (N : Nat) : yF := fun as σ => match as with
  | [.inr (.inl 8, 0)] => (f_X8_readKind N σ).map (fun r => (some (.inl (.inl r.1)), r.2))
  | _ => none
theorem e_X8_readKind {N : Nat} {σ : yS} {r : Int × yS} (h : f_X8_readKind N σ = some r) : F_X8_readKind N [.inr (.inl 8, 0)] σ = some (some (.inl (.inl r.1)), r.2) := by
  show (f_X8_readKind N σ).map (fun r => ((some (.inl (.inl r.1)), r.2) : yR)) = _
  rw [h]
  rfl
noncomputable def tb_X8_readKind (N : Nat) : yTb := ([(97, 8, 22, 0), (125, 8, 20, 0)], [], [], [(139, 3, 8, F_X8_needs N), (147, 1, 8, F_X8_next N), (156, 1, 8, F_X8_kindNow N)], [], [], [])
abbrev G_X8_readKind (N : Nat) (X : zXT) (sh : List yH) (l : Launch) (rm : Room) : yC → yR → Prop := yGoes X vwCl yct sh l rm cX8_readKind 2 wsX8_readKind RX8 (tb_X8_readKind N) pr_X8_readKind 1
set_option maxRecDepth 100000 in
set_option maxHeartbeats 4000000 in
theorem t_X8_readKind_b37 {N : Nat} {X : zXT} {sh : List yH} {l : Launch} {rm : Room} (σ : yS) (x1 : Int) (s0 : Int) (res : Int × yS) (h : f_X8_readKind_b37 N σ x1 s0 = some res) : G_X8_readKind N X sh l rm (37, [(0, .inr (.inl 8, 0)), (1, .inl (.inl x1))], [.inl (.inl s0), .inr (.inl 8, 0)], σ) (some (.inl (.inl res.1)), res.2) := by
  unfold f_X8_readKind_b37 at h
  refine yG_n (n := 1) (C' := (38, [(0, .inr (.inl 8, 0)), (1, .inl (.inl x1))], [.inl (.inl 2), .inl (.inl s0), .inr (.inl 8, 0)], σ)) rfl ?_
  cases hr1 : f_X8_needs N σ s0 2 with
  | none => rw [hr1] at h; dsimp only at h; cases h
  | some r1 =>
    rw [hr1] at h
    dsimp only at h
    refine yG_c (C1 := (41, [(0, .inr (.inl 8, 0)), (1, .inl (.inl x1))], [], r1.2)) rfl (e_X8_needs hr1) rfl ?_
    refine yG_n (n := 1) (C' := (42, [(0, .inr (.inl 8, 0)), (1, .inl (.inl x1))], [.inr (.inl 8, 0)], r1.2)) rfl ?_
    cases hr2 : f_X8_next N r1.2 with
    | none => rw [hr2] at h; dsimp only at h; cases h
    | some r2 =>
      rw [hr2] at h
      dsimp only at h
      refine yG_c (C1 := (45, [(0, .inr (.inl 8, 0)), (1, .inl (.inl x1))], [], r2.2)) rfl (e_X8_next hr2) rfl ?_
      refine yG_n (n := 1) (C' := (46, [(0, .inr (.inl 8, 0)), (1, .inl (.inl x1))], [.inl (.inl x1)], r2.2)) rfl ?_
      have h := Option.some.inj h
      subst h
      dsimp only
      exact yG_r rfl rfl
set_option maxRecDepth 100000 in
set_option maxHeartbeats 4000000 in
theorem t_X8_readKind_b24 {N : Nat} {X : zXT} {sh : List yH} {l : Launch} {rm : Room} (σ : yS) (s0 : Int) (res : Int × yS) (h : f_X8_readKind_b24 N σ s0 = some res) : G_X8_readKind N X sh l rm (24, [(0, .inr (.inl 8, 0))], [.inl (.inl s0)], σ) (some (.inl (.inl res.1)), res.2) := by
  unfold f_X8_readKind_b24 at h
  refine yG_n (n := 4) (C' := (29, [(1, .inl (.inl s0)), (0, .inr (.inl 8, 0))], [.inl (.inl ((-4))), .inl (.inl s0), .inr (.inl 8, 0)], σ)) rfl ?_
  cases hg3 : ycP .eq s0 ((-4)) with
  | true =>
    rw [hg3] at h
    dsimp only [cond] at h
    refine yG_t (C' := (36, [(1, .inl (.inl s0)), (0, .inr (.inl 8, 0))], [.inr (.inl 8, 0)], σ)) rfl hg3 ?_
    refine yG_n (n := 1) (C' := (37, [(1, .inl (.inl s0)), (0, .inr (.inl 8, 0))], [.inl (.inl 0), .inr (.inl 8, 0)], σ)) rfl ?_
    exact yG_w [1, 0] rfl (t_X8_readKind_b37 σ s0 0 res h)
  | false =>
    rw [hg3] at h
    dsimp only [cond] at h
    refine yG_f (C' := (32, [(1, .inl (.inl s0)), (0, .inr (.inl 8, 0))], [.inr (.inl 8, 0)], σ)) rfl hg3 ?_
    refine yG_n (n := 2) (C' := (37, [(1, .inl (.inl s0)), (0, .inr (.inl 8, 0))], [.inl (.inl 1), .inr (.inl 8, 0)], σ)) rfl ?_
    exact yG_w [1, 0] rfl (t_X8_readKind_b37 σ s0 1 res h)
set_option maxRecDepth 100000 in
set_option maxHeartbeats 4000000 in
theorem t_X8_readKind_b22 {N : Nat} {X : zXT} {sh : List yH} {l : Launch} {rm : Room} (σ : yS) (res : Int × yS) (h : f_X8_readKind_b22 N σ = some res) : G_X8_readKind N X sh l rm (22, [(0, .inr (.inl 8, 0))], [], σ) (some (.inl (.inl res.1)), res.2) := by
  unfold f_X8_readKind_b22 at h
  refine yG_n (n := 1) (C' := (24, [(0, .inr (.inl 8, 0))], [.inl (.inl ((-4)))], σ)) rfl ?_
  exact t_X8_readKind_b24 σ ((-4)) res h
set_option maxRecDepth 100000 in
set_option maxHeartbeats 4000000 in
theorem t_X8_readKind {N : Nat} {X : zXT} {sh : List yH} {l : Launch} {rm : Room} (σ : yS) (res : Int × yS) (h : f_X8_readKind N σ = some res) : G_X8_readKind N X sh l rm (0, [(0, .inr (.inl 8, 0))], [], σ) (some (.inl (.inl res.1)), res.2) := by
  unfold f_X8_readKind at h
  refine yG_n (n := 2) (C' := (4, [(0, .inr (.inl 8, 0))], [.inl (.inl (σ.1 0 22))], σ)) rfl ?_
  cases hg4 : ycP .ne (σ.1 0 22) 0 with
  | true =>
    rw [hg4] at h
    dsimp only [cond] at h
    refine yG_t (C' := (22, [(0, .inr (.inl 8, 0))], [], σ)) rfl hg4 ?_
    exact t_X8_readKind_b22 σ res h
  | false =>
    rw [hg4] at h
    dsimp only [cond] at h
    refine yG_f (C' := (7, [(0, .inr (.inl 8, 0))], [], σ)) rfl hg4 ?_
    refine yG_n (n := 3) (C' := (12, [(0, .inr (.inl 8, 0))], [.inl (.inl 1), .inl (.inl (σ.1 0 20))], σ)) rfl ?_
    cases hg5 : ycP .ne (σ.1 0 20) 1 with
    | true =>
      rw [hg5] at h
      dsimp only [cond] at h
      refine yG_t (C' := (22, [(0, .inr (.inl 8, 0))], [], σ)) rfl hg5 ?_
      exact t_X8_readKind_b22 σ res h
    | false =>
      rw [hg5] at h
      dsimp only [cond] at h
      refine yG_f (C' := (15, [(0, .inr (.inl 8, 0))], [], σ)) rfl hg5 ?_
      refine yG_n (n := 1) (C' := (16, [(0, .inr (.inl 8, 0))], [.inr (.inl 8, 0)], σ)) rfl ?_
      cases hr6 : f_X8_kindNow N σ with
      | none => rw [hr6] at h; dsimp only at h; cases h
      | some r3 =>
        rw [hr6] at h
        dsimp only at h
        refine yG_c (C1 := (19, [(0, .inr (.inl 8, 0))], [.inl (.inl r3.1)], r3.2)) rfl (e_X8_kindNow hr6) rfl ?_
        refine yG_n (n := 1) (C' := (24, [(0, .inr (.inl 8, 0))], [.inl (.inl r3.1)], r3.2)) rfl ?_
        exact t_X8_readKind_b24 r3.2 r3.1 res h
set_option maxRecDepth 100000 in
set_option maxHeartbeats 4000000 in
theorem m_X8_readKind {N : Nat} {X : zXT} (hX : zXok X) (hN : zXn X) (l : Launch) {sh : List yH} : yMet X vwCl yct sh l yX8_readKind wsX8_readKind { frames := 4, cells := 0, slots := 0, locals := 129 } (F_X8_readKind N) :=
  ymeth (tb := tb_X8_readKind N) (pr := pr_X8_readKind) (rt := 1) (own := RX8) hX (by decide +kernel) rfl rfl ⟨Nat.le_of_ble_eq_true rfl, Nat.le_of_ble_eq_true rfl⟩
    (zfl_all (List.forall_mem_cons.mpr ⟨zfl_X8 (fun w h => List.mem_cons_of_mem _ (List.mem_append_right _ h)) (List.mem_of_getElem? (i := 1) rfl) (by decide) (by decide), List.forall_mem_cons.mpr ⟨zfl_X8 (fun w h => List.mem_cons_of_mem _ (List.mem_append_right _ h)) (List.mem_of_getElem? (i := 2) rfl) (by decide) (by decide), fun _ h => absurd h List.not_mem_nil⟩⟩))
    (zco_all (fun _ h => absurd h List.not_mem_nil)) (zlc_all (fun _ h => absurd h List.not_mem_nil))
    (List.forall_mem_cons.mpr ⟨ycal_V hX (m_X8_needs hX hN l) rfl (fun s args hts => cwV 2 hts gX8_readKind_X8_needs rfl rfl rfl (by decide +kernel) ⟨Nat.le_of_ble_eq_true rfl, Nat.le_of_ble_eq_true rfl⟩), List.forall_mem_cons.mpr ⟨ycal_V hX (m_X8_next hX hN l) rfl (fun s args hts => cwV 0 hts gX8_readKind_X8_next rfl rfl rfl (by decide +kernel) ⟨Nat.le_of_ble_eq_true rfl, Nat.le_of_ble_eq_true rfl⟩), List.forall_mem_cons.mpr ⟨ycal_V hX (m_X8_kindNow hX hN l) rfl (fun s args hts => cwV 0 hts gX8_readKind_X8_kindNow rfl rfl rfl (by decide +kernel) ⟨Nat.le_of_ble_eq_true rfl, Nat.le_of_ble_eq_true rfl⟩), fun _ h => absurd h List.not_mem_nil⟩⟩⟩)
    (fun _ h => absurd h List.not_mem_nil)
    (zmm_all (fun _ h => absurd h List.not_mem_nil)) (fun _ h => absurd h List.not_mem_nil) (zpr_all hp_X8_readKind) (fun as σ res h => by
      unfold F_X8_readKind at h
      split at h
      · cases hr : f_X8_readKind N σ with
        | none => rw [hr] at h; cases h
        | some r =>
          rw [hr] at h
          cases h
          exact ⟨Nat.le_of_ble_eq_true rfl, t_X8_readKind σ r hr⟩
      · cases h)
noncomputable def pr_X8_readNumber : List (Nat × Instr × Nat) := [(0, .aload_n 0, 1), (1, .iload_n 1, 1), (2, .iload_n 2, 1), (3, .invokevirtual 143, 3), (6, .istore_n 3, 1), (7, .aload_n 0, 1), (8, .invokevirtual 147, 3), (11, .iload_n 3, 1), (12, .ireturn, 1)]
set_option maxRecDepth 100000 in
theorem hp_X8_readNumber : pr_X8_readNumber.all (fun x => decide (decode cX8_readNumber x.1 = .ok x.2)) = true := by decide +kernel
noncomputable def f_X8_readNumber (N : Nat) (σ : yS) (x1 : Int) (x2 : Int) : Option (Int × yS) :=
  match f_X8_looked N σ x1 x2 with
  | none => none
  | some r1 => match f_X8_next N r1.2 with
    | none => none
    | some r2 => some (r1.1, r2.2)
noncomputable def F_X8_readNumber (N : Nat) : yF := fun as σ => match as with
  | [.inr (.inl 8, 0), .inl (.inl x1), .inl (.inl x2)] => (f_X8_readNumber N σ x1 x2).map (fun r => (some (.inl (.inl r.1)), r.2))
  | _ => none
theorem e_X8_readNumber {N : Nat} {σ : yS} {x1 : Int} {x2 : Int} {r : Int × yS} (h : f_X8_readNumber N σ x1 x2 = some r) : F_X8_readNumber N [.inr (.inl 8, 0), .inl (.inl x1), .inl (.inl x2)] σ = some (some (.inl (.inl r.1)), r.2) := by
  show (f_X8_readNumber N σ x1 x2).map (fun r => ((some (.inl (.inl r.1)), r.2) : yR)) = _
  rw [h]
  rfl
noncomputable def tb_X8_readNumber (N : Nat) : yTb := ([], [], [], [(143, 3, 8, F_X8_looked N), (147, 1, 8, F_X8_next N)], [], [], [])
abbrev G_X8_readNumber (N : Nat) (X : zXT) (sh : List yH) (l : Launch) (rm : Room) : yC → yR → Prop := yGoes X vwCl yct sh l rm cX8_readNumber 4 wsX8_readNumber RX8 (tb_X8_readNumber N) pr_X8_readNumber 1
set_option maxRecDepth 100000 in
set_option maxHeartbeats 4000000 in
theorem t_X8_readNumber {N : Nat} {X : zXT} {sh : List yH} {l : Launch} {rm : Room} (σ : yS) (x1 : Int) (x2 : Int) (res : Int × yS) (h : f_X8_readNumber N σ x1 x2 = some res) : G_X8_readNumber N X sh l rm (0, [(0, .inr (.inl 8, 0)), (1, .inl (.inl x1)), (2, .inl (.inl x2))], [], σ) (some (.inl (.inl res.1)), res.2) := by
  unfold f_X8_readNumber at h
  refine yG_n (n := 3) (C' := (3, [(0, .inr (.inl 8, 0)), (1, .inl (.inl x1)), (2, .inl (.inl x2))], [.inl (.inl x2), .inl (.inl x1), .inr (.inl 8, 0)], σ)) rfl ?_
  cases hr1 : f_X8_looked N σ x1 x2 with
  | none => rw [hr1] at h; dsimp only at h; cases h
  | some r1 =>
    rw [hr1] at h
    dsimp only at h
    refine yG_c (C1 := (6, [(0, .inr (.inl 8, 0)), (1, .inl (.inl x1)), (2, .inl (.inl x2))], [.inl (.inl r1.1)], r1.2)) rfl (e_X8_looked hr1) rfl ?_
    refine yG_n (n := 2) (C' := (8, [(3, .inl (.inl r1.1)), (0, .inr (.inl 8, 0)), (1, .inl (.inl x1)), (2, .inl (.inl x2))], [.inr (.inl 8, 0)], r1.2)) rfl ?_
    cases hr2 : f_X8_next N r1.2 with
    | none => rw [hr2] at h; dsimp only at h; cases h
    | some r2 =>
      rw [hr2] at h
      dsimp only at h
      refine yG_c (C1 := (11, [(3, .inl (.inl r1.1)), (0, .inr (.inl 8, 0)), (1, .inl (.inl x1)), (2, .inl (.inl x2))], [], r2.2)) rfl (e_X8_next hr2) rfl ?_
      refine yG_n (n := 1) (C' := (12, [(3, .inl (.inl r1.1)), (0, .inr (.inl 8, 0)), (1, .inl (.inl x1)), (2, .inl (.inl x2))], [.inl (.inl r1.1)], r2.2)) rfl ?_
      have h := Option.some.inj h
      subst h
      dsimp only
      exact yG_r rfl rfl
set_option maxRecDepth 100000 in
set_option maxHeartbeats 4000000 in
theorem m_X8_readNumber {N : Nat} {X : zXT} (hX : zXok X) (hN : zXn X) (l : Launch) {sh : List yH} : yMet X vwCl yct sh l yX8_readNumber wsX8_readNumber { frames := 3, cells := 0, slots := 0, locals := 111 } (F_X8_readNumber N) :=
  ymeth (tb := tb_X8_readNumber N) (pr := pr_X8_readNumber) (rt := 1) (own := RX8) hX (by decide +kernel) rfl rfl ⟨Nat.le_of_ble_eq_true rfl, Nat.le_of_ble_eq_true rfl⟩
    (zfl_all (fun _ h => absurd h List.not_mem_nil))
    (zco_all (fun _ h => absurd h List.not_mem_nil)) (zlc_all (fun _ h => absurd h List.not_mem_nil))
    (List.forall_mem_cons.mpr ⟨ycal_V hX (m_X8_looked hX hN l) rfl (fun s args hts => cwV 2 hts gX8_readNumber_X8_looked rfl rfl rfl (by decide +kernel) ⟨Nat.le_of_ble_eq_true rfl, Nat.le_of_ble_eq_true rfl⟩), List.forall_mem_cons.mpr ⟨ycal_V hX (m_X8_next hX hN l) rfl (fun s args hts => cwV 0 hts gX8_readNumber_X8_next rfl rfl rfl (by decide +kernel) ⟨Nat.le_of_ble_eq_true rfl, Nat.le_of_ble_eq_true rfl⟩), fun _ h => absurd h List.not_mem_nil⟩⟩)
    (fun _ h => absurd h List.not_mem_nil)
    (zmm_all (fun _ h => absurd h List.not_mem_nil)) (fun _ h => absurd h List.not_mem_nil) (zpr_all hp_X8_readNumber) (fun as σ res h => by
      unfold F_X8_readNumber at h
      split at h
      · rename_i x1 x2
        cases hr : f_X8_readNumber N σ x1 x2 with
        | none => rw [hr] at h; cases h
        | some r =>
          rw [hr] at h
          cases h
          exact ⟨Nat.le_of_ble_eq_true rfl, t_X8_readNumber σ x1 x2 r hr⟩
      · cases h)
noncomputable def pr_X8_readOfHouse : List (Nat × Instr × Nat) := [(0, .aload_n 0, 1), (1, .iload_n 1, 1), (2, .invokevirtual 159, 3), (5, .istore_n 2, 1), (6, .aload_n 0, 1), (7, .getfield 97, 3), (10, .ifCond .le 4, 3), (13, .return_, 1), (14, .iload_n 1, 1), (15, .iconst 1, 1), (16, .if_icmp .ne 16, 3), (19, .aload_n 0, 1), (20, .getfield 23, 3), (23, .bipush 14, 2), (25, .iload_n 2, 1), (26, .iadd, 1), (27, .iconst 1, 1), (28, .iastore, 1), (29, .goto 72, 3), (32, .iload_n 1, 1), (33, .ifCond .ne 26, 3), (36, .aload_n 0, 1), (37, .getfield 23, 3), (40, .iconst 0, 1), (41, .iload_n 2, 1), (42, .iadd, 1), (43, .aload_n 0, 1), (44, .iconst 0, 1), (45, .bipush 99, 2), (47, .invokevirtual 162, 3), (50, .iastore, 1), (51, .aload_n 0, 1), (52, .iload_n 2, 1), (53, .invokevirtual 165, 3), (56, .goto 45, 3), (59, .aload_n 0, 1), (60, .getfield 23, 3), (63, .bipush 21, 2), (65, .iload_n 2, 1), (66, .iadd, 1), (67, .aload_n 0, 1), (68, .invokevirtual 169, 3), (71, .iastore, 1), (72, .aload_n 0, 1), (73, .getfield 23, 3), (76, .bipush 28, 2), (78, .iload_n 2, 1), (79, .iadd, 1), (80, .aload_n 0, 1), (81, .invokevirtual 172, 3), (84, .iastore, 1), (85, .aload_n 0, 1), (86, .getfield 23, 3), (89, .bipush 35, 2), (91, .iload_n 2, 1), (92, .iadd, 1), (93, .aload_n 0, 1), (94, .iconst 0, 1), (95, .bipush 10, 2), (97, .invokevirtual 162, 3), (100, .iastore, 1), (101, .return_, 1)]
set_option maxRecDepth 100000 in
theorem hp_X8_readOfHouse : pr_X8_readOfHouse.all (fun x => decide (decode cX8_readOfHouse x.1 = .ok x.2)) = true := by decide +kernel
noncomputable def f_X8_readOfHouse_b101 (N : Nat) (σ : yS) : Option (Int × yS) :=
  some (0, σ)
noncomputable def f_X8_readOfHouse (N : Nat) (σ : yS) (x1 : Int) : Option (Int × yS) :=
  match f_X8_readFresh N σ x1 with
  | none => none
  | some r1 => bif ycP .le (r1.2.1 0 22) 0 then
      bif ycP .ne x1 1 then
        bif ycP .ne x1 0 then
          match f_X8_readKind N r1.2 with
          | none => none
          | some r2 => bif yin (yad 21 r1.1) 131 then
              match f_X8_readADeed N (yw r2.2 5 (yad 21 r1.1).toNat r2.1) with
              | none => none
              | some r3 => bif yin (yad 28 r1.1) 131 then
                  match f_X8_readNumber N (yw r3.2 5 (yad 28 r1.1).toNat r3.1) 0 10 with
                  | none => none
                  | some r4 => bif yin (yad 35 r1.1) 131 then
                      f_X8_readOfHouse_b101 N (yw r4.2 5 (yad 35 r1.1).toNat r4.1)
                    else none
                else none
            else none
        else
          match f_X8_readNumber N r1.2 0 99 with
          | none => none
          | some r5 => bif yin (yad 0 r1.1) 131 then
              match f_X8_readCan N (yw r5.2 5 (yad 0 r1.1).toNat r5.1) r1.1 with
              | none => none
              | some r6 => f_X8_readOfHouse_b101 N r6.2
            else none
      else
        bif yin (yad 14 r1.1) 131 then
          f_X8_readOfHouse_b101 N (yw r1.2 5 (yad 14 r1.1).toNat 1)
        else none
    else
      some (0, r1.2)
noncomputable def F_X8_readOfHouse (N : Nat) : yF := fun as σ => match as with
  | [.inr (.inl 8, 0), .inl (.inl x1)] => (f_X8_readOfHouse N σ x1).map (fun r => (none, r.2))
  | _ => none
theorem e_X8_readOfHouse {N : Nat} {σ : yS} {x1 : Int} {r : Int × yS} (h : f_X8_readOfHouse N σ x1 = some r) : F_X8_readOfHouse N [.inr (.inl 8, 0), .inl (.inl x1)] σ = some (none, r.2) := by
  show (f_X8_readOfHouse N σ x1).map (fun r => ((none, r.2) : yR)) = _
  rw [h]
  rfl
noncomputable def tb_X8_readOfHouse (N : Nat) : yTb := ([(23, 8, 7, 3), (97, 8, 22, 0)], [], [], [(159, 2, 8, F_X8_readFresh N), (162, 3, 8, F_X8_readNumber N), (165, 2, 8, F_X8_readCan N), (169, 1, 8, F_X8_readKind N), (172, 1, 8, F_X8_readADeed N)], [], [], [])
abbrev G_X8_readOfHouse (N : Nat) (X : zXT) (sh : List yH) (l : Launch) (rm : Room) : yC → yR → Prop := yGoes X vwCl yct sh l rm cX8_readOfHouse 3 wsX8_readOfHouse RX8 (tb_X8_readOfHouse N) pr_X8_readOfHouse 0
set_option maxRecDepth 100000 in
set_option maxHeartbeats 4000000 in
theorem t_X8_readOfHouse_b101 {N : Nat} {X : zXT} {sh : List yH} {l : Launch} {rm : Room} (σ : yS) (res : Int × yS) (h : f_X8_readOfHouse_b101 N σ = some res) : G_X8_readOfHouse N X sh l rm (101, [], [], σ) (none, res.2) := by
  unfold f_X8_readOfHouse_b101 at h
  have h := Option.some.inj h
  subst h
  dsimp only
  exact yG_r rfl rfl
set_option maxRecDepth 100000 in
set_option maxHeartbeats 4000000 in
theorem t_X8_readOfHouse {N : Nat} {X : zXT} {sh : List yH} {l : Launch} {rm : Room} (σ : yS) (x1 : Int) (res : Int × yS) (h : f_X8_readOfHouse N σ x1 = some res) : G_X8_readOfHouse N X sh l rm (0, [(0, .inr (.inl 8, 0)), (1, .inl (.inl x1))], [], σ) (none, res.2) := by
  unfold f_X8_readOfHouse at h
  refine yG_n (n := 2) (C' := (2, [(0, .inr (.inl 8, 0)), (1, .inl (.inl x1))], [.inl (.inl x1), .inr (.inl 8, 0)], σ)) rfl ?_
  cases hr1 : f_X8_readFresh N σ x1 with
  | none => rw [hr1] at h; dsimp only at h; cases h
  | some r1 =>
    rw [hr1] at h
    dsimp only at h
    refine yG_c (C1 := (5, [(0, .inr (.inl 8, 0)), (1, .inl (.inl x1))], [.inl (.inl r1.1)], r1.2)) rfl (e_X8_readFresh hr1) rfl ?_
    refine yG_n (n := 3) (C' := (10, [(2, .inl (.inl r1.1)), (0, .inr (.inl 8, 0)), (1, .inl (.inl x1))], [.inl (.inl (r1.2.1 0 22))], r1.2)) rfl ?_
    cases hg2 : ycP .le (r1.2.1 0 22) 0 with
    | true =>
      rw [hg2] at h
      dsimp only [cond] at h
      refine yG_t (C' := (14, [(2, .inl (.inl r1.1)), (0, .inr (.inl 8, 0)), (1, .inl (.inl x1))], [], r1.2)) rfl hg2 ?_
      refine yG_n (n := 2) (C' := (16, [(2, .inl (.inl r1.1)), (0, .inr (.inl 8, 0)), (1, .inl (.inl x1))], [.inl (.inl 1), .inl (.inl x1)], r1.2)) rfl ?_
      cases hg3 : ycP .ne x1 1 with
      | true =>
        rw [hg3] at h
        dsimp only [cond] at h
        refine yG_t (C' := (32, [(2, .inl (.inl r1.1)), (0, .inr (.inl 8, 0)), (1, .inl (.inl x1))], [], r1.2)) rfl hg3 ?_
        refine yG_n (n := 1) (C' := (33, [(2, .inl (.inl r1.1)), (0, .inr (.inl 8, 0)), (1, .inl (.inl x1))], [.inl (.inl x1)], r1.2)) rfl ?_
        cases hg4 : ycP .ne x1 0 with
        | true =>
          rw [hg4] at h
          dsimp only [cond] at h
          refine yG_t (C' := (59, [(2, .inl (.inl r1.1)), (0, .inr (.inl 8, 0)), (1, .inl (.inl x1))], [], r1.2)) rfl hg4 ?_
          refine yG_n (n := 6) (C' := (68, [(2, .inl (.inl r1.1)), (0, .inr (.inl 8, 0)), (1, .inl (.inl x1))], [.inr (.inl 8, 0), .inl (.inl (yad 21 r1.1)), .inr (.inr (0, 131), 5)], r1.2)) rfl ?_
          cases hr5 : f_X8_readKind N r1.2 with
          | none => rw [hr5] at h; dsimp only at h; cases h
          | some r2 =>
            rw [hr5] at h
            dsimp only at h
            refine yG_c (C1 := (71, [(2, .inl (.inl r1.1)), (0, .inr (.inl 8, 0)), (1, .inl (.inl x1))], [.inl (.inl r2.1), .inl (.inl (yad 21 r1.1)), .inr (.inr (0, 131), 5)], r2.2)) rfl (e_X8_readKind hr5) rfl ?_
            cases hg6 : yin (yad 21 r1.1) 131 with
            | false => rw [hg6] at h; dsimp only [cond] at h; cases h
            | true =>
              rw [hg6] at h
              dsimp only [cond] at h
              refine yG_t (C' := (72, [(2, .inl (.inl r1.1)), (0, .inr (.inl 8, 0)), (1, .inl (.inl x1))], [], yw r2.2 5 (yad 21 r1.1).toNat r2.1)) rfl hg6 ?_
              refine yG_n (n := 6) (C' := (81, [(2, .inl (.inl r1.1)), (0, .inr (.inl 8, 0)), (1, .inl (.inl x1))], [.inr (.inl 8, 0), .inl (.inl (yad 28 r1.1)), .inr (.inr (0, 131), 5)], yw r2.2 5 (yad 21 r1.1).toNat r2.1)) rfl ?_
              cases hr7 : f_X8_readADeed N (yw r2.2 5 (yad 21 r1.1).toNat r2.1) with
              | none => rw [hr7] at h; dsimp only at h; cases h
              | some r3 =>
                rw [hr7] at h
                dsimp only at h
                refine yG_c (C1 := (84, [(2, .inl (.inl r1.1)), (0, .inr (.inl 8, 0)), (1, .inl (.inl x1))], [.inl (.inl r3.1), .inl (.inl (yad 28 r1.1)), .inr (.inr (0, 131), 5)], r3.2)) rfl (e_X8_readADeed hr7) rfl ?_
                cases hg8 : yin (yad 28 r1.1) 131 with
                | false => rw [hg8] at h; dsimp only [cond] at h; cases h
                | true =>
                  rw [hg8] at h
                  dsimp only [cond] at h
                  refine yG_t (C' := (85, [(2, .inl (.inl r1.1)), (0, .inr (.inl 8, 0)), (1, .inl (.inl x1))], [], yw r3.2 5 (yad 28 r1.1).toNat r3.1)) rfl hg8 ?_
                  refine yG_n (n := 8) (C' := (97, [(2, .inl (.inl r1.1)), (0, .inr (.inl 8, 0)), (1, .inl (.inl x1))], [.inl (.inl 10), .inl (.inl 0), .inr (.inl 8, 0), .inl (.inl (yad 35 r1.1)), .inr (.inr (0, 131), 5)], yw r3.2 5 (yad 28 r1.1).toNat r3.1)) rfl ?_
                  cases hr9 : f_X8_readNumber N (yw r3.2 5 (yad 28 r1.1).toNat r3.1) 0 10 with
                  | none => rw [hr9] at h; dsimp only at h; cases h
                  | some r4 =>
                    rw [hr9] at h
                    dsimp only at h
                    refine yG_c (C1 := (100, [(2, .inl (.inl r1.1)), (0, .inr (.inl 8, 0)), (1, .inl (.inl x1))], [.inl (.inl r4.1), .inl (.inl (yad 35 r1.1)), .inr (.inr (0, 131), 5)], r4.2)) rfl (e_X8_readNumber hr9) rfl ?_
                    cases hg10 : yin (yad 35 r1.1) 131 with
                    | false => rw [hg10] at h; dsimp only [cond] at h; cases h
                    | true =>
                      rw [hg10] at h
                      dsimp only [cond] at h
                      refine yG_t (C' := (101, [(2, .inl (.inl r1.1)), (0, .inr (.inl 8, 0)), (1, .inl (.inl x1))], [], yw r4.2 5 (yad 35 r1.1).toNat r4.1)) rfl hg10 ?_
                      exact yG_w [] rfl (t_X8_readOfHouse_b101 (yw r4.2 5 (yad 35 r1.1).toNat r4.1) res h)
        | false =>
          rw [hg4] at h
          dsimp only [cond] at h
          refine yG_f (C' := (36, [(2, .inl (.inl r1.1)), (0, .inr (.inl 8, 0)), (1, .inl (.inl x1))], [], r1.2)) rfl hg4 ?_
          refine yG_n (n := 8) (C' := (47, [(2, .inl (.inl r1.1)), (0, .inr (.inl 8, 0)), (1, .inl (.inl x1))], [.inl (.inl 99), .inl (.inl 0), .inr (.inl 8, 0), .inl (.inl (yad 0 r1.1)), .inr (.inr (0, 131), 5)], r1.2)) rfl ?_
          cases hr11 : f_X8_readNumber N r1.2 0 99 with
          | none => rw [hr11] at h; dsimp only at h; cases h
          | some r5 =>
            rw [hr11] at h
            dsimp only at h
            refine yG_c (C1 := (50, [(2, .inl (.inl r1.1)), (0, .inr (.inl 8, 0)), (1, .inl (.inl x1))], [.inl (.inl r5.1), .inl (.inl (yad 0 r1.1)), .inr (.inr (0, 131), 5)], r5.2)) rfl (e_X8_readNumber hr11) rfl ?_
            cases hg12 : yin (yad 0 r1.1) 131 with
            | false => rw [hg12] at h; dsimp only [cond] at h; cases h
            | true =>
              rw [hg12] at h
              dsimp only [cond] at h
              refine yG_t (C' := (51, [(2, .inl (.inl r1.1)), (0, .inr (.inl 8, 0)), (1, .inl (.inl x1))], [], yw r5.2 5 (yad 0 r1.1).toNat r5.1)) rfl hg12 ?_
              refine yG_n (n := 2) (C' := (53, [(2, .inl (.inl r1.1)), (0, .inr (.inl 8, 0)), (1, .inl (.inl x1))], [.inl (.inl r1.1), .inr (.inl 8, 0)], yw r5.2 5 (yad 0 r1.1).toNat r5.1)) rfl ?_
              cases hr13 : f_X8_readCan N (yw r5.2 5 (yad 0 r1.1).toNat r5.1) r1.1 with
              | none => rw [hr13] at h; dsimp only at h; cases h
              | some r6 =>
                rw [hr13] at h
                dsimp only at h
                refine yG_c (C1 := (56, [(2, .inl (.inl r1.1)), (0, .inr (.inl 8, 0)), (1, .inl (.inl x1))], [], r6.2)) rfl (e_X8_readCan hr13) rfl ?_
                refine yG_n (n := 1) (C' := (101, [(2, .inl (.inl r1.1)), (0, .inr (.inl 8, 0)), (1, .inl (.inl x1))], [], r6.2)) rfl ?_
                exact yG_w [] rfl (t_X8_readOfHouse_b101 r6.2 res h)
      | false =>
        rw [hg3] at h
        dsimp only [cond] at h
        refine yG_f (C' := (19, [(2, .inl (.inl r1.1)), (0, .inr (.inl 8, 0)), (1, .inl (.inl x1))], [], r1.2)) rfl hg3 ?_
        refine yG_n (n := 6) (C' := (28, [(2, .inl (.inl r1.1)), (0, .inr (.inl 8, 0)), (1, .inl (.inl x1))], [.inl (.inl 1), .inl (.inl (yad 14 r1.1)), .inr (.inr (0, 131), 5)], r1.2)) rfl ?_
        cases hg14 : yin (yad 14 r1.1) 131 with
        | false => rw [hg14] at h; dsimp only [cond] at h; cases h
        | true =>
          rw [hg14] at h
          dsimp only [cond] at h
          refine yG_t (C' := (29, [(2, .inl (.inl r1.1)), (0, .inr (.inl 8, 0)), (1, .inl (.inl x1))], [], yw r1.2 5 (yad 14 r1.1).toNat 1)) rfl hg14 ?_
          refine yG_n (n := 1) (C' := (101, [(2, .inl (.inl r1.1)), (0, .inr (.inl 8, 0)), (1, .inl (.inl x1))], [], yw r1.2 5 (yad 14 r1.1).toNat 1)) rfl ?_
          exact yG_w [] rfl (t_X8_readOfHouse_b101 (yw r1.2 5 (yad 14 r1.1).toNat 1) res h)
    | false =>
      rw [hg2] at h
      dsimp only [cond] at h
      refine yG_f (C' := (13, [(2, .inl (.inl r1.1)), (0, .inr (.inl 8, 0)), (1, .inl (.inl x1))], [], r1.2)) rfl hg2 ?_
      have h := Option.some.inj h
      subst h
      dsimp only
      exact yG_r rfl rfl
set_option maxRecDepth 100000 in
set_option maxHeartbeats 4000000 in
theorem m_X8_readOfHouse {N : Nat} {X : zXT} (hX : zXok X) (hN : zXn X) (l : Launch) {sh : List yH} : yMet X vwCl yct sh l yX8_readOfHouse wsX8_readOfHouse { frames := 5, cells := 0, slots := 0, locals := 154 } (F_X8_readOfHouse N) :=
  ymeth (tb := tb_X8_readOfHouse N) (pr := pr_X8_readOfHouse) (rt := 0) (own := RX8) hX (by decide +kernel) rfl rfl ⟨Nat.le_of_ble_eq_true rfl, Nat.le_of_ble_eq_true rfl⟩
    (zfl_all (List.forall_mem_cons.mpr ⟨zfl_X8 (fun w h => List.mem_cons_of_mem _ (List.mem_append_right _ h)) (List.mem_of_getElem? (i := 2) rfl) (by decide) (by decide), List.forall_mem_cons.mpr ⟨zfl_X8 (fun w h => List.mem_cons_of_mem _ (List.mem_append_right _ h)) (List.mem_of_getElem? (i := 1) rfl) (by decide) (by decide), fun _ h => absurd h List.not_mem_nil⟩⟩))
    (zco_all (fun _ h => absurd h List.not_mem_nil)) (zlc_all (fun _ h => absurd h List.not_mem_nil))
    (List.forall_mem_cons.mpr ⟨ycal_V hX (m_X8_readFresh hX hN l) rfl (fun s args hts => cwV 1 hts gX8_readOfHouse_X8_readFresh rfl rfl rfl (by decide +kernel) ⟨Nat.le_of_ble_eq_true rfl, Nat.le_of_ble_eq_true rfl⟩), List.forall_mem_cons.mpr ⟨ycal_V hX (m_X8_readNumber hX hN l) rfl (fun s args hts => cwV 2 hts gX8_readOfHouse_X8_readNumber rfl rfl rfl (by decide +kernel) ⟨Nat.le_of_ble_eq_true rfl, Nat.le_of_ble_eq_true rfl⟩), List.forall_mem_cons.mpr ⟨ycal_V hX (m_X8_readCan hX hN l) rfl (fun s args hts => cwV 1 hts gX8_readOfHouse_X8_readCan rfl rfl rfl (by decide +kernel) ⟨Nat.le_of_ble_eq_true rfl, Nat.le_of_ble_eq_true rfl⟩), List.forall_mem_cons.mpr ⟨ycal_V hX (m_X8_readKind hX hN l) rfl (fun s args hts => cwV 0 hts gX8_readOfHouse_X8_readKind rfl rfl rfl (by decide +kernel) ⟨Nat.le_of_ble_eq_true rfl, Nat.le_of_ble_eq_true rfl⟩), List.forall_mem_cons.mpr ⟨ycal_V hX (m_X8_readADeed hX hN l) rfl (fun s args hts => cwV 0 hts gX8_readOfHouse_X8_readADeed rfl rfl rfl (by decide +kernel) ⟨Nat.le_of_ble_eq_true rfl, Nat.le_of_ble_eq_true rfl⟩), fun _ h => absurd h List.not_mem_nil⟩⟩⟩⟩⟩)
    (fun _ h => absurd h List.not_mem_nil)
    (zmm_all (fun _ h => absurd h List.not_mem_nil)) (fun _ h => absurd h List.not_mem_nil) (zpr_all hp_X8_readOfHouse) (fun as σ res h => by
      unfold F_X8_readOfHouse at h
      split at h
      · rename_i x1
        cases hr : f_X8_readOfHouse N σ x1 with
        | none => rw [hr] at h; cases h
        | some r =>
          rw [hr] at h
          cases h
          exact ⟨Nat.le_of_ble_eq_true rfl, t_X8_readOfHouse σ x1 r hr⟩
      · cases h)
noncomputable def pr_X8_readLineOf : List (Nat × Instr × Nat) := [(0, .iload_n 1, 1), (1, .tableswitch 214 3 7 #[35, 35, 63, 92, 165], 35), (36, .aload_n 0, 1), (37, .aload_n 0, 1), (38, .iconst 2, 1), (39, .bipush 7, 2), (41, .invokevirtual 162, 3), (44, .putfield 59, 3), (47, .aload_n 0, 1), (48, .iload_n 1, 1), (49, .iconst 4, 1), (50, .if_icmp .ne 7, 3), (53, .iconst 1, 1), (54, .goto 4, 3), (57, .iconst 0, 1), (58, .putfield 63, 3), (61, .goto 159, 3), (64, .aload_n 0, 1), (65, .getfield 26, 3), (68, .aload_n 0, 1), (69, .getfield 70, 3), (72, .aload_n 0, 1), (73, .iconst 0, 1), (74, .bipush 9, 2), (76, .invokevirtual 162, 3), (79, .iastore, 1), (80, .aload_n 0, 1), (81, .dup, 1), (82, .getfield 70, 3), (85, .iconst 1, 1), (86, .iadd, 1), (87, .putfield 70, 3), (90, .goto 130, 3), (93, .bipush 78, 2), (95, .iconst 4, 1), (96, .aload_n 0, 1), (97, .getfield 23, 3), (100, .bipush 77, 2), (102, .iaload, 1), (103, .imul, 1), (104, .iadd, 1), (105, .istore_n 2, 1), (106, .aload_n 0, 1), (107, .getfield 23, 3), (110, .iload_n 2, 1), (111, .aload_n 0, 1), (112, .invokevirtual 175, 3), (115, .iastore, 1), (116, .aload_n 0, 1), (117, .getfield 23, 3), (120, .iload_n 2, 1), (121, .iconst 1, 1), (122, .iadd, 1), (123, .aload_n 0, 1), (124, .invokevirtual 169, 3), (127, .iastore, 1), (128, .aload_n 0, 1), (129, .getfield 23, 3), (132, .iload_n 2, 1), (133, .iconst 2, 1), (134, .iadd, 1), (135, .aload_n 0, 1), (136, .invokevirtual 178, 3), (139, .iastore, 1), (140, .aload_n 0, 1), (141, .getfield 23, 3), (144, .iload_n 2, 1), (145, .iconst 3, 1), (146, .iadd, 1), (147, .aload_n 0, 1), (148, .invokevirtual 172, 3), (151, .iastore, 1), (152, .aload_n 0, 1), (153, .getfield 23, 3), (156, .bipush 77, 2), (158, .dup2, 1), (159, .iaload, 1), (160, .iconst 1, 1), (161, .iadd, 1), (162, .iastore, 1), (163, .goto 57, 3), (166, .bipush 119, 2), (168, .iconst 2, 1), (169, .aload_n 0, 1), (170, .getfield 23, 3), (173, .bipush 118, 2), (175, .iaload, 1), (176, .imul, 1), (177, .iadd, 1), (178, .istore_n 2, 1), (179, .aload_n 0, 1), (180, .getfield 23, 3), (183, .iload_n 2, 1), (184, .aload_n 0, 1), (185, .invokevirtual 175, 3), (188, .iastore, 1), (189, .aload_n 0, 1), (190, .getfield 23, 3), (193, .iload_n 2, 1), (194, .iconst 1, 1), (195, .iadd, 1), (196, .aload_n 0, 1), (197, .invokevirtual 172, 3), (200, .iastore, 1), (201, .aload_n 0, 1), (202, .getfield 23, 3), (205, .bipush 118, 2), (207, .dup2, 1), (208, .iaload, 1), (209, .iconst 1, 1), (210, .iadd, 1), (211, .iastore, 1), (212, .goto 8, 3), (215, .aload_n 0, 1), (216, .iload_n 1, 1), (217, .invokevirtual 181, 3), (220, .return_, 1)]
set_option maxRecDepth 100000 in
theorem hp_X8_readLineOf : pr_X8_readLineOf.all (fun x => decide (decode cX8_readLineOf x.1 = .ok x.2)) = true := by decide +kernel
noncomputable def f_X8_readLineOf_b220 (N : Nat) (σ : yS) : Option (Int × yS) :=
  some (0, σ)
noncomputable def f_X8_readLineOf_b58 (N : Nat) (σ : yS) (s0 : Int) : Option (Int × yS) :=
  bif yb1 s0 then
    f_X8_readLineOf_b220 N (yw σ 0 9 s0)
  else none
noncomputable def f_X8_readLineOf_b82 (N : Nat) (σ : yS) : Option (Int × yS) :=
  f_X8_readLineOf_b220 N (yw σ 0 11 (yad (σ.1 0 11) 1))
noncomputable def f_X8_readLineOf_b159 (N : Nat) (σ : yS) (s0 : Int) (s2 : Int) : Option (Int × yS) :=
  bif yin s0 131 then
    bif yin s2 131 then
      f_X8_readLineOf_b220 N (yw σ 5 s2.toNat (yad (σ.1 5 s0.toNat) 1))
    else none
  else none
noncomputable def f_X8_readLineOf_b208 (N : Nat) (σ : yS) (s0 : Int) (s2 : Int) : Option (Int × yS) :=
  bif yin s0 131 then
    bif yin s2 131 then
      f_X8_readLineOf_b220 N (yw σ 5 s2.toNat (yad (σ.1 5 s0.toNat) 1))
    else none
  else none
noncomputable def f_X8_readLineOf (N : Nat) (σ : yS) (x1 : Int) : Option (Int × yS) :=
  bif zle x1 3 && zle 3 x1 then
    match f_X8_readNumber N σ 2 7 with
    | none => none
    | some r1 => bif ycP .ne x1 4 then
        f_X8_readLineOf_b58 N (yw r1.2 0 8 r1.1) 0
      else
        f_X8_readLineOf_b58 N (yw r1.2 0 8 r1.1) 1
  else
    bif zle x1 4 && zle 4 x1 then
    match f_X8_readNumber N σ 2 7 with
    | none => none
    | some r2 => bif ycP .ne x1 4 then
        f_X8_readLineOf_b58 N (yw r2.2 0 8 r2.1) 0
      else
        f_X8_readLineOf_b58 N (yw r2.2 0 8 r2.1) 1
  else
    bif zle x1 5 && zle 5 x1 then
    match f_X8_readNumber N σ 0 9 with
    | none => none
    | some r3 => bif yin (σ.1 0 11) 5 then
        f_X8_readLineOf_b82 N (yw r3.2 6 (σ.1 0 11).toNat r3.1)
      else none
  else
    bif zle x1 6 && zle 6 x1 then
    match f_X8_readAHouse N σ with
    | none => none
    | some r4 => bif yin (yad 78 (ymu 4 (σ.1 5 77))) 131 then
        match f_X8_readKind N (yw r4.2 5 (yad 78 (ymu 4 (σ.1 5 77))).toNat r4.1) with
        | none => none
        | some r5 => bif yin (yad (yad 78 (ymu 4 (σ.1 5 77))) 1) 131 then
            match f_X8_readDeep N (yw r5.2 5 (yad (yad 78 (ymu 4 (σ.1 5 77))) 1).toNat r5.1) with
            | none => none
            | some r6 => bif yin (yad (yad 78 (ymu 4 (σ.1 5 77))) 2) 131 then
                match f_X8_readADeed N (yw r6.2 5 (yad (yad 78 (ymu 4 (σ.1 5 77))) 2).toNat r6.1) with
                | none => none
                | some r7 => bif yin (yad (yad 78 (ymu 4 (σ.1 5 77))) 3) 131 then
                    f_X8_readLineOf_b159 N (yw r7.2 5 (yad (yad 78 (ymu 4 (σ.1 5 77))) 3).toNat r7.1) 77 77
                  else none
              else none
          else none
      else none
  else
    bif zle x1 7 && zle 7 x1 then
    match f_X8_readAHouse N σ with
    | none => none
    | some r8 => bif yin (yad 119 (ymu 2 (σ.1 5 118))) 131 then
        match f_X8_readADeed N (yw r8.2 5 (yad 119 (ymu 2 (σ.1 5 118))).toNat r8.1) with
        | none => none
        | some r9 => bif yin (yad (yad 119 (ymu 2 (σ.1 5 118))) 1) 131 then
            f_X8_readLineOf_b208 N (yw r9.2 5 (yad (yad 119 (ymu 2 (σ.1 5 118))) 1).toNat r9.1) 118 118
          else none
      else none
  else
    match f_X8_readOfHouse N σ x1 with
    | none => none
    | some r10 => f_X8_readLineOf_b220 N r10.2
noncomputable def F_X8_readLineOf (N : Nat) : yF := fun as σ => match as with
  | [.inr (.inl 8, 0), .inl (.inl x1)] => (f_X8_readLineOf N σ x1).map (fun r => (none, r.2))
  | _ => none
theorem e_X8_readLineOf {N : Nat} {σ : yS} {x1 : Int} {r : Int × yS} (h : f_X8_readLineOf N σ x1 = some r) : F_X8_readLineOf N [.inr (.inl 8, 0), .inl (.inl x1)] σ = some (none, r.2) := by
  show (f_X8_readLineOf N σ x1).map (fun r => ((none, r.2) : yR)) = _
  rw [h]
  rfl
noncomputable def tb_X8_readLineOf (N : Nat) : yTb := ([(23, 8, 7, 3), (26, 8, 12, 3), (59, 8, 8, 0), (63, 8, 9, 1), (70, 8, 11, 0)], [], [], [(162, 3, 8, F_X8_readNumber N), (169, 1, 8, F_X8_readKind N), (172, 1, 8, F_X8_readADeed N), (175, 1, 8, F_X8_readAHouse N), (178, 1, 8, F_X8_readDeep N), (181, 2, 8, F_X8_readOfHouse N)], [], [], [])
abbrev G_X8_readLineOf (N : Nat) (X : zXT) (sh : List yH) (l : Launch) (rm : Room) : yC → yR → Prop := yGoes X vwCl yct sh l rm cX8_readLineOf 3 wsX8_readLineOf RX8 (tb_X8_readLineOf N) pr_X8_readLineOf 0
set_option maxRecDepth 100000 in
set_option maxHeartbeats 4000000 in
theorem t_X8_readLineOf_b220 {N : Nat} {X : zXT} {sh : List yH} {l : Launch} {rm : Room} (σ : yS) (res : Int × yS) (h : f_X8_readLineOf_b220 N σ = some res) : G_X8_readLineOf N X sh l rm (220, [], [], σ) (none, res.2) := by
  unfold f_X8_readLineOf_b220 at h
  have h := Option.some.inj h
  subst h
  dsimp only
  exact yG_r rfl rfl
set_option maxRecDepth 100000 in
set_option maxHeartbeats 4000000 in
theorem t_X8_readLineOf_b58 {N : Nat} {X : zXT} {sh : List yH} {l : Launch} {rm : Room} (σ : yS) (s0 : Int) (res : Int × yS) (h : f_X8_readLineOf_b58 N σ s0 = some res) : G_X8_readLineOf N X sh l rm (58, [], [.inl (.inl s0), .inr (.inl 8, 0)], σ) (none, res.2) := by
  unfold f_X8_readLineOf_b58 at h
  cases hg1 : yb1 s0 with
  | false => rw [hg1] at h; dsimp only [cond] at h; cases h
  | true =>
    rw [hg1] at h
    dsimp only [cond] at h
    refine yG_t (C' := (61, [], [], yw σ 0 9 s0)) rfl hg1 ?_
    refine yG_n (n := 1) (C' := (220, [], [], yw σ 0 9 s0)) rfl ?_
    exact t_X8_readLineOf_b220 (yw σ 0 9 s0) res h
set_option maxRecDepth 100000 in
set_option maxHeartbeats 4000000 in
theorem t_X8_readLineOf_b82 {N : Nat} {X : zXT} {sh : List yH} {l : Launch} {rm : Room} (σ : yS) (res : Int × yS) (h : f_X8_readLineOf_b82 N σ = some res) : G_X8_readLineOf N X sh l rm (82, [], [.inr (.inl 8, 0), .inr (.inl 8, 0)], σ) (none, res.2) := by
  unfold f_X8_readLineOf_b82 at h
  refine yG_n (n := 5) (C' := (220, [], [], yw σ 0 11 (yad (σ.1 0 11) 1))) rfl ?_
  exact t_X8_readLineOf_b220 (yw σ 0 11 (yad (σ.1 0 11) 1)) res h
set_option maxRecDepth 100000 in
set_option maxHeartbeats 4000000 in
theorem t_X8_readLineOf_b159 {N : Nat} {X : zXT} {sh : List yH} {l : Launch} {rm : Room} (σ : yS) (s0 : Int) (s2 : Int) (res : Int × yS) (h : f_X8_readLineOf_b159 N σ s0 s2 = some res) : G_X8_readLineOf N X sh l rm (159, [], [.inl (.inl s0), .inr (.inr (0, 131), 5), .inl (.inl s2), .inr (.inr (0, 131), 5)], σ) (none, res.2) := by
  unfold f_X8_readLineOf_b159 at h
  cases hg2 : yin s0 131 with
  | false => rw [hg2] at h; dsimp only [cond] at h; cases h
  | true =>
    rw [hg2] at h
    dsimp only [cond] at h
    refine yG_t (C' := (160, [], [.inl (.inl (σ.1 5 s0.toNat)), .inl (.inl s2), .inr (.inr (0, 131), 5)], σ)) rfl hg2 ?_
    refine yG_n (n := 2) (C' := (162, [], [.inl (.inl (yad (σ.1 5 s0.toNat) 1)), .inl (.inl s2), .inr (.inr (0, 131), 5)], σ)) rfl ?_
    cases hg3 : yin s2 131 with
    | false => rw [hg3] at h; dsimp only [cond] at h; cases h
    | true =>
      rw [hg3] at h
      dsimp only [cond] at h
      refine yG_t (C' := (163, [], [], yw σ 5 s2.toNat (yad (σ.1 5 s0.toNat) 1))) rfl hg3 ?_
      refine yG_n (n := 1) (C' := (220, [], [], yw σ 5 s2.toNat (yad (σ.1 5 s0.toNat) 1))) rfl ?_
      exact t_X8_readLineOf_b220 (yw σ 5 s2.toNat (yad (σ.1 5 s0.toNat) 1)) res h
set_option maxRecDepth 100000 in
set_option maxHeartbeats 4000000 in
theorem t_X8_readLineOf_b208 {N : Nat} {X : zXT} {sh : List yH} {l : Launch} {rm : Room} (σ : yS) (s0 : Int) (s2 : Int) (res : Int × yS) (h : f_X8_readLineOf_b208 N σ s0 s2 = some res) : G_X8_readLineOf N X sh l rm (208, [], [.inl (.inl s0), .inr (.inr (0, 131), 5), .inl (.inl s2), .inr (.inr (0, 131), 5)], σ) (none, res.2) := by
  unfold f_X8_readLineOf_b208 at h
  cases hg4 : yin s0 131 with
  | false => rw [hg4] at h; dsimp only [cond] at h; cases h
  | true =>
    rw [hg4] at h
    dsimp only [cond] at h
    refine yG_t (C' := (209, [], [.inl (.inl (σ.1 5 s0.toNat)), .inl (.inl s2), .inr (.inr (0, 131), 5)], σ)) rfl hg4 ?_
    refine yG_n (n := 2) (C' := (211, [], [.inl (.inl (yad (σ.1 5 s0.toNat) 1)), .inl (.inl s2), .inr (.inr (0, 131), 5)], σ)) rfl ?_
    cases hg5 : yin s2 131 with
    | false => rw [hg5] at h; dsimp only [cond] at h; cases h
    | true =>
      rw [hg5] at h
      dsimp only [cond] at h
      refine yG_t (C' := (212, [], [], yw σ 5 s2.toNat (yad (σ.1 5 s0.toNat) 1))) rfl hg5 ?_
      refine yG_n (n := 1) (C' := (220, [], [], yw σ 5 s2.toNat (yad (σ.1 5 s0.toNat) 1))) rfl ?_
      exact t_X8_readLineOf_b220 (yw σ 5 s2.toNat (yad (σ.1 5 s0.toNat) 1)) res h
set_option maxRecDepth 100000 in
set_option maxHeartbeats 4000000 in
theorem t_X8_readLineOf {N : Nat} {X : zXT} {sh : List yH} {l : Launch} {rm : Room} (σ : yS) (x1 : Int) (res : Int × yS) (h : f_X8_readLineOf N σ x1 = some res) : G_X8_readLineOf N X sh l rm (0, [(0, .inr (.inl 8, 0)), (1, .inl (.inl x1))], [], σ) (none, res.2) := by
  unfold f_X8_readLineOf at h
  refine yG_n (n := 1) (C' := (1, [(0, .inr (.inl 8, 0)), (1, .inl (.inl x1))], [.inl (.inl x1)], σ)) rfl ?_
  refine yG_n (n := 1) (C' := ((bif zle x1 3 && zle 3 x1 then 36 else (bif zle x1 4 && zle 4 x1 then 36 else (bif zle x1 5 && zle 5 x1 then 64 else (bif zle x1 6 && zle 6 x1 then 93 else (bif zle x1 7 && zle 7 x1 then 166 else 215))))), [(0, .inr (.inl 8, 0)), (1, .inl (.inl x1))], [], σ)) rfl ?_
  cases hg6 : (zle x1 3 && zle 3 x1) with
  | true =>
    rw [hg6] at h
    dsimp only [cond] at h
    show G_X8_readLineOf N X sh l rm (36, [(0, .inr (.inl 8, 0)), (1, .inl (.inl x1))], [], σ) ((none, res.2))
    refine yG_n (n := 4) (C' := (41, [(0, .inr (.inl 8, 0)), (1, .inl (.inl x1))], [.inl (.inl 7), .inl (.inl 2), .inr (.inl 8, 0), .inr (.inl 8, 0)], σ)) rfl ?_
    cases hr7 : f_X8_readNumber N σ 2 7 with
    | none => rw [hr7] at h; dsimp only at h; cases h
    | some r1 =>
      rw [hr7] at h
      dsimp only at h
      refine yG_c (C1 := (44, [(0, .inr (.inl 8, 0)), (1, .inl (.inl x1))], [.inl (.inl r1.1), .inr (.inl 8, 0)], r1.2)) rfl (e_X8_readNumber hr7) rfl ?_
      refine yG_n (n := 4) (C' := (50, [(0, .inr (.inl 8, 0)), (1, .inl (.inl x1))], [.inl (.inl 4), .inl (.inl x1), .inr (.inl 8, 0)], yw r1.2 0 8 r1.1)) rfl ?_
      cases hg8 : ycP .ne x1 4 with
      | true =>
        rw [hg8] at h
        dsimp only [cond] at h
        refine yG_t (C' := (57, [(0, .inr (.inl 8, 0)), (1, .inl (.inl x1))], [.inr (.inl 8, 0)], yw r1.2 0 8 r1.1)) rfl hg8 ?_
        refine yG_n (n := 1) (C' := (58, [(0, .inr (.inl 8, 0)), (1, .inl (.inl x1))], [.inl (.inl 0), .inr (.inl 8, 0)], yw r1.2 0 8 r1.1)) rfl ?_
        exact yG_w [] rfl (t_X8_readLineOf_b58 (yw r1.2 0 8 r1.1) 0 res h)
      | false =>
        rw [hg8] at h
        dsimp only [cond] at h
        refine yG_f (C' := (53, [(0, .inr (.inl 8, 0)), (1, .inl (.inl x1))], [.inr (.inl 8, 0)], yw r1.2 0 8 r1.1)) rfl hg8 ?_
        refine yG_n (n := 2) (C' := (58, [(0, .inr (.inl 8, 0)), (1, .inl (.inl x1))], [.inl (.inl 1), .inr (.inl 8, 0)], yw r1.2 0 8 r1.1)) rfl ?_
        exact yG_w [] rfl (t_X8_readLineOf_b58 (yw r1.2 0 8 r1.1) 1 res h)
  | false =>
    rw [hg6] at h
    dsimp only [cond] at h
    show G_X8_readLineOf N X sh l rm ((bif zle x1 4 && zle 4 x1 then 36 else (bif zle x1 5 && zle 5 x1 then 64 else (bif zle x1 6 && zle 6 x1 then 93 else (bif zle x1 7 && zle 7 x1 then 166 else 215)))), [(0, .inr (.inl 8, 0)), (1, .inl (.inl x1))], [], σ) (none, res.2)
    cases hg9 : (zle x1 4 && zle 4 x1) with
    | true =>
      rw [hg9] at h
      dsimp only [cond] at h
      show G_X8_readLineOf N X sh l rm (36, [(0, .inr (.inl 8, 0)), (1, .inl (.inl x1))], [], σ) ((none, res.2))
      refine yG_n (n := 4) (C' := (41, [(0, .inr (.inl 8, 0)), (1, .inl (.inl x1))], [.inl (.inl 7), .inl (.inl 2), .inr (.inl 8, 0), .inr (.inl 8, 0)], σ)) rfl ?_
      cases hr10 : f_X8_readNumber N σ 2 7 with
      | none => rw [hr10] at h; dsimp only at h; cases h
      | some r2 =>
        rw [hr10] at h
        dsimp only at h
        refine yG_c (C1 := (44, [(0, .inr (.inl 8, 0)), (1, .inl (.inl x1))], [.inl (.inl r2.1), .inr (.inl 8, 0)], r2.2)) rfl (e_X8_readNumber hr10) rfl ?_
        refine yG_n (n := 4) (C' := (50, [(0, .inr (.inl 8, 0)), (1, .inl (.inl x1))], [.inl (.inl 4), .inl (.inl x1), .inr (.inl 8, 0)], yw r2.2 0 8 r2.1)) rfl ?_
        cases hg11 : ycP .ne x1 4 with
        | true =>
          rw [hg11] at h
          dsimp only [cond] at h
          refine yG_t (C' := (57, [(0, .inr (.inl 8, 0)), (1, .inl (.inl x1))], [.inr (.inl 8, 0)], yw r2.2 0 8 r2.1)) rfl hg11 ?_
          refine yG_n (n := 1) (C' := (58, [(0, .inr (.inl 8, 0)), (1, .inl (.inl x1))], [.inl (.inl 0), .inr (.inl 8, 0)], yw r2.2 0 8 r2.1)) rfl ?_
          exact yG_w [] rfl (t_X8_readLineOf_b58 (yw r2.2 0 8 r2.1) 0 res h)
        | false =>
          rw [hg11] at h
          dsimp only [cond] at h
          refine yG_f (C' := (53, [(0, .inr (.inl 8, 0)), (1, .inl (.inl x1))], [.inr (.inl 8, 0)], yw r2.2 0 8 r2.1)) rfl hg11 ?_
          refine yG_n (n := 2) (C' := (58, [(0, .inr (.inl 8, 0)), (1, .inl (.inl x1))], [.inl (.inl 1), .inr (.inl 8, 0)], yw r2.2 0 8 r2.1)) rfl ?_
          exact yG_w [] rfl (t_X8_readLineOf_b58 (yw r2.2 0 8 r2.1) 1 res h)
    | false =>
      rw [hg9] at h
      dsimp only [cond] at h
      show G_X8_readLineOf N X sh l rm ((bif zle x1 5 && zle 5 x1 then 64 else (bif zle x1 6 && zle 6 x1 then 93 else (bif zle x1 7 && zle 7 x1 then 166 else 215))), [(0, .inr (.inl 8, 0)), (1, .inl (.inl x1))], [], σ) (none, res.2)
      cases hg12 : (zle x1 5 && zle 5 x1) with
      | true =>
        rw [hg12] at h
        dsimp only [cond] at h
        show G_X8_readLineOf N X sh l rm (64, [(0, .inr (.inl 8, 0)), (1, .inl (.inl x1))], [], σ) ((none, res.2))
        refine yG_n (n := 7) (C' := (76, [(0, .inr (.inl 8, 0)), (1, .inl (.inl x1))], [.inl (.inl 9), .inl (.inl 0), .inr (.inl 8, 0), .inl (.inl (σ.1 0 11)), .inr (.inr (0, 5), 6)], σ)) rfl ?_
        cases hr13 : f_X8_readNumber N σ 0 9 with
        | none => rw [hr13] at h; dsimp only at h; cases h
        | some r3 =>
          rw [hr13] at h
          dsimp only at h
          refine yG_c (C1 := (79, [(0, .inr (.inl 8, 0)), (1, .inl (.inl x1))], [.inl (.inl r3.1), .inl (.inl (σ.1 0 11)), .inr (.inr (0, 5), 6)], r3.2)) rfl (e_X8_readNumber hr13) rfl ?_
          cases hg14 : yin (σ.1 0 11) 5 with
          | false => rw [hg14] at h; dsimp only [cond] at h; cases h
          | true =>
            rw [hg14] at h
            dsimp only [cond] at h
            refine yG_t (C' := (80, [(0, .inr (.inl 8, 0)), (1, .inl (.inl x1))], [], yw r3.2 6 (σ.1 0 11).toNat r3.1)) rfl hg14 ?_
            refine yG_n (n := 2) (C' := (82, [(0, .inr (.inl 8, 0)), (1, .inl (.inl x1))], [.inr (.inl 8, 0), .inr (.inl 8, 0)], yw r3.2 6 (σ.1 0 11).toNat r3.1)) rfl ?_
            exact yG_w [] rfl (t_X8_readLineOf_b82 (yw r3.2 6 (σ.1 0 11).toNat r3.1) res h)
      | false =>
        rw [hg12] at h
        dsimp only [cond] at h
        show G_X8_readLineOf N X sh l rm ((bif zle x1 6 && zle 6 x1 then 93 else (bif zle x1 7 && zle 7 x1 then 166 else 215)), [(0, .inr (.inl 8, 0)), (1, .inl (.inl x1))], [], σ) (none, res.2)
        cases hg15 : (zle x1 6 && zle 6 x1) with
        | true =>
          rw [hg15] at h
          dsimp only [cond] at h
          show G_X8_readLineOf N X sh l rm (93, [(0, .inr (.inl 8, 0)), (1, .inl (.inl x1))], [], σ) ((none, res.2))
          refine yG_n (n := 13) (C' := (112, [(2, .inl (.inl (yad 78 (ymu 4 (σ.1 5 77))))), (0, .inr (.inl 8, 0)), (1, .inl (.inl x1))], [.inr (.inl 8, 0), .inl (.inl (yad 78 (ymu 4 (σ.1 5 77)))), .inr (.inr (0, 131), 5)], σ)) rfl ?_
          cases hr16 : f_X8_readAHouse N σ with
          | none => rw [hr16] at h; dsimp only at h; cases h
          | some r4 =>
            rw [hr16] at h
            dsimp only at h
            refine yG_c (C1 := (115, [(2, .inl (.inl (yad 78 (ymu 4 (σ.1 5 77))))), (0, .inr (.inl 8, 0)), (1, .inl (.inl x1))], [.inl (.inl r4.1), .inl (.inl (yad 78 (ymu 4 (σ.1 5 77)))), .inr (.inr (0, 131), 5)], r4.2)) rfl (e_X8_readAHouse hr16) rfl ?_
            cases hg17 : yin (yad 78 (ymu 4 (σ.1 5 77))) 131 with
            | false => rw [hg17] at h; dsimp only [cond] at h; cases h
            | true =>
              rw [hg17] at h
              dsimp only [cond] at h
              refine yG_t (C' := (116, [(2, .inl (.inl (yad 78 (ymu 4 (σ.1 5 77))))), (0, .inr (.inl 8, 0)), (1, .inl (.inl x1))], [], yw r4.2 5 (yad 78 (ymu 4 (σ.1 5 77))).toNat r4.1)) rfl hg17 ?_
              refine yG_n (n := 6) (C' := (124, [(2, .inl (.inl (yad 78 (ymu 4 (σ.1 5 77))))), (0, .inr (.inl 8, 0)), (1, .inl (.inl x1))], [.inr (.inl 8, 0), .inl (.inl (yad (yad 78 (ymu 4 (σ.1 5 77))) 1)), .inr (.inr (0, 131), 5)], yw r4.2 5 (yad 78 (ymu 4 (σ.1 5 77))).toNat r4.1)) rfl ?_
              cases hr18 : f_X8_readKind N (yw r4.2 5 (yad 78 (ymu 4 (σ.1 5 77))).toNat r4.1) with
              | none => rw [hr18] at h; dsimp only at h; cases h
              | some r5 =>
                rw [hr18] at h
                dsimp only at h
                refine yG_c (C1 := (127, [(2, .inl (.inl (yad 78 (ymu 4 (σ.1 5 77))))), (0, .inr (.inl 8, 0)), (1, .inl (.inl x1))], [.inl (.inl r5.1), .inl (.inl (yad (yad 78 (ymu 4 (σ.1 5 77))) 1)), .inr (.inr (0, 131), 5)], r5.2)) rfl (e_X8_readKind hr18) rfl ?_
                cases hg19 : yin (yad (yad 78 (ymu 4 (σ.1 5 77))) 1) 131 with
                | false => rw [hg19] at h; dsimp only [cond] at h; cases h
                | true =>
                  rw [hg19] at h
                  dsimp only [cond] at h
                  refine yG_t (C' := (128, [(2, .inl (.inl (yad 78 (ymu 4 (σ.1 5 77))))), (0, .inr (.inl 8, 0)), (1, .inl (.inl x1))], [], yw r5.2 5 (yad (yad 78 (ymu 4 (σ.1 5 77))) 1).toNat r5.1)) rfl hg19 ?_
                  refine yG_n (n := 6) (C' := (136, [(2, .inl (.inl (yad 78 (ymu 4 (σ.1 5 77))))), (0, .inr (.inl 8, 0)), (1, .inl (.inl x1))], [.inr (.inl 8, 0), .inl (.inl (yad (yad 78 (ymu 4 (σ.1 5 77))) 2)), .inr (.inr (0, 131), 5)], yw r5.2 5 (yad (yad 78 (ymu 4 (σ.1 5 77))) 1).toNat r5.1)) rfl ?_
                  cases hr20 : f_X8_readDeep N (yw r5.2 5 (yad (yad 78 (ymu 4 (σ.1 5 77))) 1).toNat r5.1) with
                  | none => rw [hr20] at h; dsimp only at h; cases h
                  | some r6 =>
                    rw [hr20] at h
                    dsimp only at h
                    refine yG_c (C1 := (139, [(2, .inl (.inl (yad 78 (ymu 4 (σ.1 5 77))))), (0, .inr (.inl 8, 0)), (1, .inl (.inl x1))], [.inl (.inl r6.1), .inl (.inl (yad (yad 78 (ymu 4 (σ.1 5 77))) 2)), .inr (.inr (0, 131), 5)], r6.2)) rfl (e_X8_readDeep hr20) rfl ?_
                    cases hg21 : yin (yad (yad 78 (ymu 4 (σ.1 5 77))) 2) 131 with
                    | false => rw [hg21] at h; dsimp only [cond] at h; cases h
                    | true =>
                      rw [hg21] at h
                      dsimp only [cond] at h
                      refine yG_t (C' := (140, [(2, .inl (.inl (yad 78 (ymu 4 (σ.1 5 77))))), (0, .inr (.inl 8, 0)), (1, .inl (.inl x1))], [], yw r6.2 5 (yad (yad 78 (ymu 4 (σ.1 5 77))) 2).toNat r6.1)) rfl hg21 ?_
                      refine yG_n (n := 6) (C' := (148, [(2, .inl (.inl (yad 78 (ymu 4 (σ.1 5 77))))), (0, .inr (.inl 8, 0)), (1, .inl (.inl x1))], [.inr (.inl 8, 0), .inl (.inl (yad (yad 78 (ymu 4 (σ.1 5 77))) 3)), .inr (.inr (0, 131), 5)], yw r6.2 5 (yad (yad 78 (ymu 4 (σ.1 5 77))) 2).toNat r6.1)) rfl ?_
                      cases hr22 : f_X8_readADeed N (yw r6.2 5 (yad (yad 78 (ymu 4 (σ.1 5 77))) 2).toNat r6.1) with
                      | none => rw [hr22] at h; dsimp only at h; cases h
                      | some r7 =>
                        rw [hr22] at h
                        dsimp only at h
                        refine yG_c (C1 := (151, [(2, .inl (.inl (yad 78 (ymu 4 (σ.1 5 77))))), (0, .inr (.inl 8, 0)), (1, .inl (.inl x1))], [.inl (.inl r7.1), .inl (.inl (yad (yad 78 (ymu 4 (σ.1 5 77))) 3)), .inr (.inr (0, 131), 5)], r7.2)) rfl (e_X8_readADeed hr22) rfl ?_
                        cases hg23 : yin (yad (yad 78 (ymu 4 (σ.1 5 77))) 3) 131 with
                        | false => rw [hg23] at h; dsimp only [cond] at h; cases h
                        | true =>
                          rw [hg23] at h
                          dsimp only [cond] at h
                          refine yG_t (C' := (152, [(2, .inl (.inl (yad 78 (ymu 4 (σ.1 5 77))))), (0, .inr (.inl 8, 0)), (1, .inl (.inl x1))], [], yw r7.2 5 (yad (yad 78 (ymu 4 (σ.1 5 77))) 3).toNat r7.1)) rfl hg23 ?_
                          refine yG_n (n := 4) (C' := (159, [(2, .inl (.inl (yad 78 (ymu 4 (σ.1 5 77))))), (0, .inr (.inl 8, 0)), (1, .inl (.inl x1))], [.inl (.inl 77), .inr (.inr (0, 131), 5), .inl (.inl 77), .inr (.inr (0, 131), 5)], yw r7.2 5 (yad (yad 78 (ymu 4 (σ.1 5 77))) 3).toNat r7.1)) rfl ?_
                          exact yG_w [] rfl (t_X8_readLineOf_b159 (yw r7.2 5 (yad (yad 78 (ymu 4 (σ.1 5 77))) 3).toNat r7.1) 77 77 res h)
        | false =>
          rw [hg15] at h
          dsimp only [cond] at h
          show G_X8_readLineOf N X sh l rm ((bif zle x1 7 && zle 7 x1 then 166 else 215), [(0, .inr (.inl 8, 0)), (1, .inl (.inl x1))], [], σ) (none, res.2)
          cases hg24 : (zle x1 7 && zle 7 x1) with
          | true =>
            rw [hg24] at h
            dsimp only [cond] at h
            show G_X8_readLineOf N X sh l rm (166, [(0, .inr (.inl 8, 0)), (1, .inl (.inl x1))], [], σ) ((none, res.2))
            refine yG_n (n := 13) (C' := (185, [(2, .inl (.inl (yad 119 (ymu 2 (σ.1 5 118))))), (0, .inr (.inl 8, 0)), (1, .inl (.inl x1))], [.inr (.inl 8, 0), .inl (.inl (yad 119 (ymu 2 (σ.1 5 118)))), .inr (.inr (0, 131), 5)], σ)) rfl ?_
            cases hr25 : f_X8_readAHouse N σ with
            | none => rw [hr25] at h; dsimp only at h; cases h
            | some r8 =>
              rw [hr25] at h
              dsimp only at h
              refine yG_c (C1 := (188, [(2, .inl (.inl (yad 119 (ymu 2 (σ.1 5 118))))), (0, .inr (.inl 8, 0)), (1, .inl (.inl x1))], [.inl (.inl r8.1), .inl (.inl (yad 119 (ymu 2 (σ.1 5 118)))), .inr (.inr (0, 131), 5)], r8.2)) rfl (e_X8_readAHouse hr25) rfl ?_
              cases hg26 : yin (yad 119 (ymu 2 (σ.1 5 118))) 131 with
              | false => rw [hg26] at h; dsimp only [cond] at h; cases h
              | true =>
                rw [hg26] at h
                dsimp only [cond] at h
                refine yG_t (C' := (189, [(2, .inl (.inl (yad 119 (ymu 2 (σ.1 5 118))))), (0, .inr (.inl 8, 0)), (1, .inl (.inl x1))], [], yw r8.2 5 (yad 119 (ymu 2 (σ.1 5 118))).toNat r8.1)) rfl hg26 ?_
                refine yG_n (n := 6) (C' := (197, [(2, .inl (.inl (yad 119 (ymu 2 (σ.1 5 118))))), (0, .inr (.inl 8, 0)), (1, .inl (.inl x1))], [.inr (.inl 8, 0), .inl (.inl (yad (yad 119 (ymu 2 (σ.1 5 118))) 1)), .inr (.inr (0, 131), 5)], yw r8.2 5 (yad 119 (ymu 2 (σ.1 5 118))).toNat r8.1)) rfl ?_
                cases hr27 : f_X8_readADeed N (yw r8.2 5 (yad 119 (ymu 2 (σ.1 5 118))).toNat r8.1) with
                | none => rw [hr27] at h; dsimp only at h; cases h
                | some r9 =>
                  rw [hr27] at h
                  dsimp only at h
                  refine yG_c (C1 := (200, [(2, .inl (.inl (yad 119 (ymu 2 (σ.1 5 118))))), (0, .inr (.inl 8, 0)), (1, .inl (.inl x1))], [.inl (.inl r9.1), .inl (.inl (yad (yad 119 (ymu 2 (σ.1 5 118))) 1)), .inr (.inr (0, 131), 5)], r9.2)) rfl (e_X8_readADeed hr27) rfl ?_
                  cases hg28 : yin (yad (yad 119 (ymu 2 (σ.1 5 118))) 1) 131 with
                  | false => rw [hg28] at h; dsimp only [cond] at h; cases h
                  | true =>
                    rw [hg28] at h
                    dsimp only [cond] at h
                    refine yG_t (C' := (201, [(2, .inl (.inl (yad 119 (ymu 2 (σ.1 5 118))))), (0, .inr (.inl 8, 0)), (1, .inl (.inl x1))], [], yw r9.2 5 (yad (yad 119 (ymu 2 (σ.1 5 118))) 1).toNat r9.1)) rfl hg28 ?_
                    refine yG_n (n := 4) (C' := (208, [(2, .inl (.inl (yad 119 (ymu 2 (σ.1 5 118))))), (0, .inr (.inl 8, 0)), (1, .inl (.inl x1))], [.inl (.inl 118), .inr (.inr (0, 131), 5), .inl (.inl 118), .inr (.inr (0, 131), 5)], yw r9.2 5 (yad (yad 119 (ymu 2 (σ.1 5 118))) 1).toNat r9.1)) rfl ?_
                    exact yG_w [] rfl (t_X8_readLineOf_b208 (yw r9.2 5 (yad (yad 119 (ymu 2 (σ.1 5 118))) 1).toNat r9.1) 118 118 res h)
          | false =>
            rw [hg24] at h
            dsimp only [cond] at h
            show G_X8_readLineOf N X sh l rm (215, [(0, .inr (.inl 8, 0)), (1, .inl (.inl x1))], [], σ) (none, res.2)
            refine yG_n (n := 2) (C' := (217, [(0, .inr (.inl 8, 0)), (1, .inl (.inl x1))], [.inl (.inl x1), .inr (.inl 8, 0)], σ)) rfl ?_
            cases hr29 : f_X8_readOfHouse N σ x1 with
            | none => rw [hr29] at h; dsimp only at h; cases h
            | some r10 =>
              rw [hr29] at h
              dsimp only at h
              refine yG_c (C1 := (220, [(0, .inr (.inl 8, 0)), (1, .inl (.inl x1))], [], r10.2)) rfl (e_X8_readOfHouse hr29) rfl ?_
              exact yG_w [] rfl (t_X8_readLineOf_b220 r10.2 res h)
set_option maxRecDepth 100000 in
set_option maxHeartbeats 4000000 in
theorem m_X8_readLineOf {N : Nat} {X : zXT} (hX : zXok X) (hN : zXn X) (l : Launch) {sh : List yH} : yMet X vwCl yct sh l yX8_readLineOf wsX8_readLineOf { frames := 6, cells := 0, slots := 0, locals := 176 } (F_X8_readLineOf N) :=
  ymeth (tb := tb_X8_readLineOf N) (pr := pr_X8_readLineOf) (rt := 0) (own := RX8) hX (by decide +kernel) rfl rfl ⟨Nat.le_of_ble_eq_true rfl, Nat.le_of_ble_eq_true rfl⟩
    (zfl_all (List.forall_mem_cons.mpr ⟨zfl_X8 (fun w h => List.mem_cons_of_mem _ (List.mem_append_right _ h)) (List.mem_of_getElem? (i := 5) rfl) (by decide) (by decide), List.forall_mem_cons.mpr ⟨zfl_X8 (fun w h => List.mem_cons_of_mem _ (List.mem_append_right _ h)) (List.mem_of_getElem? (i := 3) rfl) (by decide) (by decide), List.forall_mem_cons.mpr ⟨zfl_X8 (fun w h => List.mem_cons_of_mem _ (List.mem_append_right _ h)) (List.mem_of_getElem? (i := 1) rfl) (by decide) (by decide), List.forall_mem_cons.mpr ⟨zfl_X8 (fun w h => List.mem_cons_of_mem _ (List.mem_append_right _ h)) (List.mem_of_getElem? (i := 2) rfl) (by decide) (by decide), List.forall_mem_cons.mpr ⟨zfl_X8 (fun w h => List.mem_cons_of_mem _ (List.mem_append_right _ h)) (List.mem_of_getElem? (i := 4) rfl) (by decide) (by decide), fun _ h => absurd h List.not_mem_nil⟩⟩⟩⟩⟩))
    (zco_all (fun _ h => absurd h List.not_mem_nil)) (zlc_all (fun _ h => absurd h List.not_mem_nil))
    (List.forall_mem_cons.mpr ⟨ycal_V hX (m_X8_readNumber hX hN l) rfl (fun s args hts => cwV 2 hts gX8_readLineOf_X8_readNumber rfl rfl rfl (by decide +kernel) ⟨Nat.le_of_ble_eq_true rfl, Nat.le_of_ble_eq_true rfl⟩), List.forall_mem_cons.mpr ⟨ycal_V hX (m_X8_readKind hX hN l) rfl (fun s args hts => cwV 0 hts gX8_readLineOf_X8_readKind rfl rfl rfl (by decide +kernel) ⟨Nat.le_of_ble_eq_true rfl, Nat.le_of_ble_eq_true rfl⟩), List.forall_mem_cons.mpr ⟨ycal_V hX (m_X8_readADeed hX hN l) rfl (fun s args hts => cwV 0 hts gX8_readLineOf_X8_readADeed rfl rfl rfl (by decide +kernel) ⟨Nat.le_of_ble_eq_true rfl, Nat.le_of_ble_eq_true rfl⟩), List.forall_mem_cons.mpr ⟨ycal_V hX (m_X8_readAHouse hX hN l) rfl (fun s args hts => cwV 0 hts gX8_readLineOf_X8_readAHouse rfl rfl rfl (by decide +kernel) ⟨Nat.le_of_ble_eq_true rfl, Nat.le_of_ble_eq_true rfl⟩), List.forall_mem_cons.mpr ⟨ycal_V hX (m_X8_readDeep hX hN l) rfl (fun s args hts => cwV 0 hts gX8_readLineOf_X8_readDeep rfl rfl rfl (by decide +kernel) ⟨Nat.le_of_ble_eq_true rfl, Nat.le_of_ble_eq_true rfl⟩), List.forall_mem_cons.mpr ⟨ycal_V hX (m_X8_readOfHouse hX hN l) rfl (fun s args hts => cwV 1 hts gX8_readLineOf_X8_readOfHouse rfl rfl rfl (by decide +kernel) ⟨Nat.le_of_ble_eq_true rfl, Nat.le_of_ble_eq_true rfl⟩), fun _ h => absurd h List.not_mem_nil⟩⟩⟩⟩⟩⟩)
    (fun _ h => absurd h List.not_mem_nil)
    (zmm_all (fun _ h => absurd h List.not_mem_nil)) (fun _ h => absurd h List.not_mem_nil) (zpr_all hp_X8_readLineOf) (fun as σ res h => by
      unfold F_X8_readLineOf at h
      split at h
      · rename_i x1
        cases hr : f_X8_readLineOf N σ x1 with
        | none => rw [hr] at h; cases h
        | some r =>
          rw [hr] at h
          cases h
          exact ⟨Nat.le_of_ble_eq_true rfl, t_X8_readLineOf σ x1 r hr⟩
      · cases h)
noncomputable def pr_X8_readLine : List (Nat × Instr × Nat) := [(0, .aload_n 0, 1), (1, .getfield 125, 3), (4, .iconst 1, 1), (5, .if_icmp .ne 10, 3), (8, .aload_n 0, 1), (9, .invokevirtual 184, 3), (12, .goto 5, 3), (15, .bipush (-4), 2), (17, .istore_n 1, 1), (18, .iload_n 1, 1), (19, .iconst 5, 1), (20, .if_icmp .ne 11, 3), (23, .aload_n 0, 1), (24, .getfield 70, 3), (27, .iconst 5, 1), (28, .if_icmp .eq 38, 3), (31, .iload_n 1, 1), (32, .bipush 6, 2), (34, .if_icmp .ne 15, 3), (37, .aload_n 0, 1), (38, .getfield 23, 3), (41, .bipush 77, 2), (43, .iaload, 1), (44, .bipush 10, 2), (46, .if_icmp .eq 20, 3), (49, .iload_n 1, 1), (50, .bipush 7, 2), (52, .if_icmp .ne 18, 3), (55, .aload_n 0, 1), (56, .getfield 23, 3), (59, .bipush 118, 2), (61, .iaload, 1), (62, .iconst 4, 1), (63, .if_icmp .ne 7, 3), (66, .iconst 1, 1), (67, .goto 4, 3), (70, .iconst 0, 1), (71, .istore_n 2, 1), (72, .iload_n 1, 1), (73, .iconst 3, 1), (74, .if_icmp .eq 8, 3), (77, .iload_n 1, 1), (78, .iconst 4, 1), (79, .if_icmp .ne 7, 3), (82, .iconst 1, 1), (83, .goto 4, 3), (86, .iconst 0, 1), (87, .istore_n 3, 1), (88, .aload_n 0, 1), (89, .iload_n 1, 1), (90, .bipush (-4), 2), (92, .if_icmp .eq 7, 3), (95, .iconst 1, 1), (96, .goto 4, 3), (99, .iconst 0, 1), (100, .iconst 2, 1), (101, .invokevirtual 139, 3), (104, .aload_n 0, 1), (105, .iload_n 2, 1), (106, .ifCond .ne 7, 3), (109, .iconst 1, 1), (110, .goto 4, 3), (113, .iconst 0, 1), (114, .iconst 5, 1), (115, .invokevirtual 139, 3), (118, .aload_n 0, 1), (119, .iload_n 3, 1), (120, .ifCond .eq 10, 3), (123, .aload_n 0, 1), (124, .getfield 67, 3), (127, .ifCond .ne 7, 3), (130, .iconst 1, 1), (131, .goto 4, 3), (134, .iconst 0, 1), (135, .iconst 4, 1), (136, .invokevirtual 139, 3), (139, .aload_n 0, 1), (140, .aload_n 0, 1), (141, .getfield 67, 3), (144, .ifCond .ne 7, 3), (147, .iload_n 3, 1), (148, .ifCond .eq 7, 3), (151, .iconst 1, 1), (152, .goto 4, 3), (155, .iconst 0, 1), (156, .putfield 67, 3), (159, .aload_n 0, 1), (160, .invokevirtual 147, 3), (163, .aload_n 0, 1), (164, .getfield 97, 3), (167, .ifCond .le 4, 3), (170, .return_, 1), (171, .aload_n 0, 1), (172, .iload_n 1, 1), (173, .invokevirtual 187, 3), (176, .aload_n 0, 1), (177, .getfield 97, 3), (180, .ifCond .ne 21, 3), (183, .aload_n 0, 1), (184, .aload_n 0, 1), (185, .getfield 125, 3), (188, .iconst 3, 1), (189, .if_icmp .ne 7, 3), (192, .iconst 1, 1), (193, .goto 4, 3), (196, .iconst 0, 1), (197, .iconst 2, 1), (198, .invokevirtual 139, 3), (201, .aload_n 0, 1), (202, .invokevirtual 147, 3), (205, .return_, 1)]
set_option maxRecDepth 100000 in
theorem hp_X8_readLine : pr_X8_readLine.all (fun x => decide (decode cX8_readLine x.1 = .ok x.2)) = true := by decide +kernel
noncomputable def f_X8_readLine_b201 (N : Nat) (σ : yS) : Option (Int × yS) :=
  match f_X8_next N σ with
  | none => none
  | some r6 => some (0, r6.2)
noncomputable def f_X8_readLine_b197 (N : Nat) (σ : yS) (s0 : Int) : Option (Int × yS) :=
  match f_X8_needs N σ s0 2 with
  | none => none
  | some r7 => f_X8_readLine_b201 N r7.2
noncomputable def f_X8_readLine_b156 (N : Nat) (σ : yS) (x1 : Int) (s0 : Int) : Option (Int × yS) :=
  bif yb1 s0 then
    match f_X8_next N (yw σ 0 10 s0) with
    | none => none
    | some r4 => bif ycP .le (r4.2.1 0 22) 0 then
        match f_X8_readLineOf N r4.2 x1 with
        | none => none
        | some r5 => bif ycP .ne (r5.2.1 0 22) 0 then
            f_X8_readLine_b201 N r5.2
          else
            bif ycP .ne (r5.2.1 0 20) 3 then
              f_X8_readLine_b197 N r5.2 0
            else
              f_X8_readLine_b197 N r5.2 1
      else
        some (0, r4.2)
  else none
noncomputable def f_X8_readLine_b151 (N : Nat) (σ : yS) (x1 : Int) : Option (Int × yS) :=
  f_X8_readLine_b156 N σ x1 1
noncomputable def f_X8_readLine_b135 (N : Nat) (σ : yS) (x1 : Int) (x3 : Int) (s0 : Int) : Option (Int × yS) :=
  match f_X8_needs N σ s0 4 with
  | none => none
  | some r3 => bif ycP .ne (r3.2.1 0 10) 0 then
      f_X8_readLine_b151 N r3.2 x1
    else
      bif ycP .eq x3 0 then
        f_X8_readLine_b156 N r3.2 x1 0
      else
        f_X8_readLine_b151 N r3.2 x1
noncomputable def f_X8_readLine_b130 (N : Nat) (σ : yS) (x1 : Int) (x3 : Int) : Option (Int × yS) :=
  f_X8_readLine_b135 N σ x1 x3 1
noncomputable def f_X8_readLine_b114 (N : Nat) (σ : yS) (x1 : Int) (x3 : Int) (s0 : Int) : Option (Int × yS) :=
  match f_X8_needs N σ s0 5 with
  | none => none
  | some r2 => bif ycP .eq x3 0 then
      f_X8_readLine_b130 N r2.2 x1 x3
    else
      bif ycP .ne (r2.2.1 0 10) 0 then
        f_X8_readLine_b135 N r2.2 x1 x3 0
      else
        f_X8_readLine_b130 N r2.2 x1 x3
noncomputable def f_X8_readLine_b100 (N : Nat) (σ : yS) (x1 : Int) (x2 : Int) (x3 : Int) (s0 : Int) : Option (Int × yS) :=
  match f_X8_needs N σ s0 2 with
  | none => none
  | some r1 => bif ycP .ne x2 0 then
      f_X8_readLine_b114 N r1.2 x1 x3 0
    else
      f_X8_readLine_b114 N r1.2 x1 x3 1
noncomputable def f_X8_readLine_b87 (N : Nat) (σ : yS) (x1 : Int) (x2 : Int) (s0 : Int) : Option (Int × yS) :=
  bif ycP .eq x1 ((-4)) then
    f_X8_readLine_b100 N σ x1 x2 s0 0
  else
    f_X8_readLine_b100 N σ x1 x2 s0 1
noncomputable def f_X8_readLine_b82 (N : Nat) (σ : yS) (x1 : Int) (x2 : Int) : Option (Int × yS) :=
  f_X8_readLine_b87 N σ x1 x2 1
noncomputable def f_X8_readLine_b71 (N : Nat) (σ : yS) (x1 : Int) (s0 : Int) : Option (Int × yS) :=
  bif ycP .eq x1 3 then
    f_X8_readLine_b82 N σ x1 s0
  else
    bif ycP .ne x1 4 then
      f_X8_readLine_b87 N σ x1 s0 0
    else
      f_X8_readLine_b82 N σ x1 s0
noncomputable def f_X8_readLine_b70 (N : Nat) (σ : yS) (x1 : Int) : Option (Int × yS) :=
  f_X8_readLine_b71 N σ x1 0
noncomputable def f_X8_readLine_b66 (N : Nat) (σ : yS) (x1 : Int) : Option (Int × yS) :=
  f_X8_readLine_b71 N σ x1 1
noncomputable def f_X8_readLine_b49 (N : Nat) (σ : yS) (x1 : Int) : Option (Int × yS) :=
  bif ycP .ne x1 7 then
    f_X8_readLine_b70 N σ x1
  else
    bif ycP .ne (σ.1 5 118) 4 then
      f_X8_readLine_b70 N σ x1
    else
      f_X8_readLine_b66 N σ x1
noncomputable def f_X8_readLine_b31 (N : Nat) (σ : yS) (x1 : Int) : Option (Int × yS) :=
  bif ycP .ne x1 6 then
    f_X8_readLine_b49 N σ x1
  else
    bif ycP .eq (σ.1 5 77) 10 then
      f_X8_readLine_b66 N σ x1
    else
      f_X8_readLine_b49 N σ x1
noncomputable def f_X8_readLine_b17 (N : Nat) (σ : yS) (s0 : Int) : Option (Int × yS) :=
  bif ycP .ne s0 5 then
    f_X8_readLine_b31 N σ s0
  else
    bif ycP .eq (σ.1 0 11) 5 then
      f_X8_readLine_b66 N σ s0
    else
      f_X8_readLine_b31 N σ s0
noncomputable def f_X8_readLine (N : Nat) (σ : yS) : Option (Int × yS) :=
  bif ycP .ne (σ.1 0 20) 1 then
    f_X8_readLine_b17 N σ ((-4))
  else
    match f_X8_lineNow N σ with
    | none => none
    | some r8 => f_X8_readLine_b17 N r8.2 r8.1
noncomputable def F_X8_readLine (N : Nat) : yF := fun as σ => match as with
  | [.inr (.inl 8, 0)] => (f_X8_readLine N σ).map (fun r => (none, r.2))
  | _ => none
theorem e_X8_readLine {N : Nat} {σ : yS} {r : Int × yS} (h : f_X8_readLine N σ = some r) : F_X8_readLine N [.inr (.inl 8, 0)] σ = some (none, r.2) := by
  show (f_X8_readLine N σ).map (fun r => ((none, r.2) : yR)) = _
  rw [h]
  rfl
noncomputable def tb_X8_readLine (N : Nat) : yTb := ([(23, 8, 7, 3), (67, 8, 10, 1), (70, 8, 11, 0), (97, 8, 22, 0), (125, 8, 20, 0)], [], [], [(139, 3, 8, F_X8_needs N), (147, 1, 8, F_X8_next N), (184, 1, 8, F_X8_lineNow N), (187, 2, 8, F_X8_readLineOf N)], [], [], [])
abbrev G_X8_readLine (N : Nat) (X : zXT) (sh : List yH) (l : Launch) (rm : Room) : yC → yR → Prop := yGoes X vwCl yct sh l rm cX8_readLine 4 wsX8_readLine RX8 (tb_X8_readLine N) pr_X8_readLine 0
set_option maxRecDepth 100000 in
set_option maxHeartbeats 4000000 in
theorem t_X8_readLine_b201 {N : Nat} {X : zXT} {sh : List yH} {l : Launch} {rm : Room} (σ : yS) (res : Int × yS) (h : f_X8_readLine_b201 N σ = some res) : G_X8_readLine N X sh l rm (201, [(0, .inr (.inl 8, 0))], [], σ) (none, res.2) := by
  unfold f_X8_readLine_b201 at h
  refine yG_n (n := 1) (C' := (202, [(0, .inr (.inl 8, 0))], [.inr (.inl 8, 0)], σ)) rfl ?_
  cases hr1 : f_X8_next N σ with
  | none => rw [hr1] at h; dsimp only at h; cases h
  | some r6 =>
    rw [hr1] at h
    dsimp only at h
    refine yG_c (C1 := (205, [(0, .inr (.inl 8, 0))], [], r6.2)) rfl (e_X8_next hr1) rfl ?_
    have h := Option.some.inj h
    subst h
    dsimp only
    exact yG_r rfl rfl
set_option maxRecDepth 100000 in
set_option maxHeartbeats 4000000 in
theorem t_X8_readLine_b197 {N : Nat} {X : zXT} {sh : List yH} {l : Launch} {rm : Room} (σ : yS) (s0 : Int) (res : Int × yS) (h : f_X8_readLine_b197 N σ s0 = some res) : G_X8_readLine N X sh l rm (197, [(0, .inr (.inl 8, 0))], [.inl (.inl s0), .inr (.inl 8, 0)], σ) (none, res.2) := by
  unfold f_X8_readLine_b197 at h
  refine yG_n (n := 1) (C' := (198, [(0, .inr (.inl 8, 0))], [.inl (.inl 2), .inl (.inl s0), .inr (.inl 8, 0)], σ)) rfl ?_
  cases hr2 : f_X8_needs N σ s0 2 with
  | none => rw [hr2] at h; dsimp only at h; cases h
  | some r7 =>
    rw [hr2] at h
    dsimp only at h
    refine yG_c (C1 := (201, [(0, .inr (.inl 8, 0))], [], r7.2)) rfl (e_X8_needs hr2) rfl ?_
    exact t_X8_readLine_b201 r7.2 res h
set_option maxRecDepth 100000 in
set_option maxHeartbeats 4000000 in
theorem t_X8_readLine_b156 {N : Nat} {X : zXT} {sh : List yH} {l : Launch} {rm : Room} (σ : yS) (x1 : Int) (s0 : Int) (res : Int × yS) (h : f_X8_readLine_b156 N σ x1 s0 = some res) : G_X8_readLine N X sh l rm (156, [(0, .inr (.inl 8, 0)), (1, .inl (.inl x1))], [.inl (.inl s0), .inr (.inl 8, 0)], σ) (none, res.2) := by
  unfold f_X8_readLine_b156 at h
  cases hg3 : yb1 s0 with
  | false => rw [hg3] at h; dsimp only [cond] at h; cases h
  | true =>
    rw [hg3] at h
    dsimp only [cond] at h
    refine yG_t (C' := (159, [(0, .inr (.inl 8, 0)), (1, .inl (.inl x1))], [], yw σ 0 10 s0)) rfl hg3 ?_
    refine yG_n (n := 1) (C' := (160, [(0, .inr (.inl 8, 0)), (1, .inl (.inl x1))], [.inr (.inl 8, 0)], yw σ 0 10 s0)) rfl ?_
    cases hr4 : f_X8_next N (yw σ 0 10 s0) with
    | none => rw [hr4] at h; dsimp only at h; cases h
    | some r4 =>
      rw [hr4] at h
      dsimp only at h
      refine yG_c (C1 := (163, [(0, .inr (.inl 8, 0)), (1, .inl (.inl x1))], [], r4.2)) rfl (e_X8_next hr4) rfl ?_
      refine yG_n (n := 2) (C' := (167, [(0, .inr (.inl 8, 0)), (1, .inl (.inl x1))], [.inl (.inl (r4.2.1 0 22))], r4.2)) rfl ?_
      cases hg5 : ycP .le (r4.2.1 0 22) 0 with
      | true =>
        rw [hg5] at h
        dsimp only [cond] at h
        refine yG_t (C' := (171, [(0, .inr (.inl 8, 0)), (1, .inl (.inl x1))], [], r4.2)) rfl hg5 ?_
        refine yG_n (n := 2) (C' := (173, [(0, .inr (.inl 8, 0)), (1, .inl (.inl x1))], [.inl (.inl x1), .inr (.inl 8, 0)], r4.2)) rfl ?_
        cases hr6 : f_X8_readLineOf N r4.2 x1 with
        | none => rw [hr6] at h; dsimp only at h; cases h
        | some r5 =>
          rw [hr6] at h
          dsimp only at h
          refine yG_c (C1 := (176, [(0, .inr (.inl 8, 0)), (1, .inl (.inl x1))], [], r5.2)) rfl (e_X8_readLineOf hr6) rfl ?_
          refine yG_n (n := 2) (C' := (180, [(0, .inr (.inl 8, 0)), (1, .inl (.inl x1))], [.inl (.inl (r5.2.1 0 22))], r5.2)) rfl ?_
          cases hg7 : ycP .ne (r5.2.1 0 22) 0 with
          | true =>
            rw [hg7] at h
            dsimp only [cond] at h
            refine yG_t (C' := (201, [(0, .inr (.inl 8, 0)), (1, .inl (.inl x1))], [], r5.2)) rfl hg7 ?_
            exact yG_w [0] rfl (t_X8_readLine_b201 r5.2 res h)
          | false =>
            rw [hg7] at h
            dsimp only [cond] at h
            refine yG_f (C' := (183, [(0, .inr (.inl 8, 0)), (1, .inl (.inl x1))], [], r5.2)) rfl hg7 ?_
            refine yG_n (n := 4) (C' := (189, [(0, .inr (.inl 8, 0)), (1, .inl (.inl x1))], [.inl (.inl 3), .inl (.inl (r5.2.1 0 20)), .inr (.inl 8, 0)], r5.2)) rfl ?_
            cases hg8 : ycP .ne (r5.2.1 0 20) 3 with
            | true =>
              rw [hg8] at h
              dsimp only [cond] at h
              refine yG_t (C' := (196, [(0, .inr (.inl 8, 0)), (1, .inl (.inl x1))], [.inr (.inl 8, 0)], r5.2)) rfl hg8 ?_
              refine yG_n (n := 1) (C' := (197, [(0, .inr (.inl 8, 0)), (1, .inl (.inl x1))], [.inl (.inl 0), .inr (.inl 8, 0)], r5.2)) rfl ?_
              exact yG_w [0] rfl (t_X8_readLine_b197 r5.2 0 res h)
            | false =>
              rw [hg8] at h
              dsimp only [cond] at h
              refine yG_f (C' := (192, [(0, .inr (.inl 8, 0)), (1, .inl (.inl x1))], [.inr (.inl 8, 0)], r5.2)) rfl hg8 ?_
              refine yG_n (n := 2) (C' := (197, [(0, .inr (.inl 8, 0)), (1, .inl (.inl x1))], [.inl (.inl 1), .inr (.inl 8, 0)], r5.2)) rfl ?_
              exact yG_w [0] rfl (t_X8_readLine_b197 r5.2 1 res h)
      | false =>
        rw [hg5] at h
        dsimp only [cond] at h
        refine yG_f (C' := (170, [(0, .inr (.inl 8, 0)), (1, .inl (.inl x1))], [], r4.2)) rfl hg5 ?_
        have h := Option.some.inj h
        subst h
        dsimp only
        exact yG_r rfl rfl
set_option maxRecDepth 100000 in
set_option maxHeartbeats 4000000 in
theorem t_X8_readLine_b151 {N : Nat} {X : zXT} {sh : List yH} {l : Launch} {rm : Room} (σ : yS) (x1 : Int) (res : Int × yS) (h : f_X8_readLine_b151 N σ x1 = some res) : G_X8_readLine N X sh l rm (151, [(0, .inr (.inl 8, 0)), (1, .inl (.inl x1))], [.inr (.inl 8, 0)], σ) (none, res.2) := by
  unfold f_X8_readLine_b151 at h
  refine yG_n (n := 2) (C' := (156, [(0, .inr (.inl 8, 0)), (1, .inl (.inl x1))], [.inl (.inl 1), .inr (.inl 8, 0)], σ)) rfl ?_
  exact t_X8_readLine_b156 σ x1 1 res h
set_option maxRecDepth 100000 in
set_option maxHeartbeats 4000000 in
theorem t_X8_readLine_b135 {N : Nat} {X : zXT} {sh : List yH} {l : Launch} {rm : Room} (σ : yS) (x1 : Int) (x3 : Int) (s0 : Int) (res : Int × yS) (h : f_X8_readLine_b135 N σ x1 x3 s0 = some res) : G_X8_readLine N X sh l rm (135, [(0, .inr (.inl 8, 0)), (1, .inl (.inl x1)), (3, .inl (.inl x3))], [.inl (.inl s0), .inr (.inl 8, 0)], σ) (none, res.2) := by
  unfold f_X8_readLine_b135 at h
  refine yG_n (n := 1) (C' := (136, [(0, .inr (.inl 8, 0)), (1, .inl (.inl x1)), (3, .inl (.inl x3))], [.inl (.inl 4), .inl (.inl s0), .inr (.inl 8, 0)], σ)) rfl ?_
  cases hr9 : f_X8_needs N σ s0 4 with
  | none => rw [hr9] at h; dsimp only at h; cases h
  | some r3 =>
    rw [hr9] at h
    dsimp only at h
    refine yG_c (C1 := (139, [(0, .inr (.inl 8, 0)), (1, .inl (.inl x1)), (3, .inl (.inl x3))], [], r3.2)) rfl (e_X8_needs hr9) rfl ?_
    refine yG_n (n := 3) (C' := (144, [(0, .inr (.inl 8, 0)), (1, .inl (.inl x1)), (3, .inl (.inl x3))], [.inl (.inl (r3.2.1 0 10)), .inr (.inl 8, 0)], r3.2)) rfl ?_
    cases hg10 : ycP .ne (r3.2.1 0 10) 0 with
    | true =>
      rw [hg10] at h
      dsimp only [cond] at h
      refine yG_t (C' := (151, [(0, .inr (.inl 8, 0)), (1, .inl (.inl x1)), (3, .inl (.inl x3))], [.inr (.inl 8, 0)], r3.2)) rfl hg10 ?_
      exact yG_w [0, 1] rfl (t_X8_readLine_b151 r3.2 x1 res h)
    | false =>
      rw [hg10] at h
      dsimp only [cond] at h
      refine yG_f (C' := (147, [(0, .inr (.inl 8, 0)), (1, .inl (.inl x1)), (3, .inl (.inl x3))], [.inr (.inl 8, 0)], r3.2)) rfl hg10 ?_
      refine yG_n (n := 1) (C' := (148, [(0, .inr (.inl 8, 0)), (1, .inl (.inl x1)), (3, .inl (.inl x3))], [.inl (.inl x3), .inr (.inl 8, 0)], r3.2)) rfl ?_
      cases hg11 : ycP .eq x3 0 with
      | true =>
        rw [hg11] at h
        dsimp only [cond] at h
        refine yG_t (C' := (155, [(0, .inr (.inl 8, 0)), (1, .inl (.inl x1)), (3, .inl (.inl x3))], [.inr (.inl 8, 0)], r3.2)) rfl hg11 ?_
        refine yG_n (n := 1) (C' := (156, [(0, .inr (.inl 8, 0)), (1, .inl (.inl x1)), (3, .inl (.inl x3))], [.inl (.inl 0), .inr (.inl 8, 0)], r3.2)) rfl ?_
        exact yG_w [0, 1] rfl (t_X8_readLine_b156 r3.2 x1 0 res h)
      | false =>
        rw [hg11] at h
        dsimp only [cond] at h
        refine yG_f (C' := (151, [(0, .inr (.inl 8, 0)), (1, .inl (.inl x1)), (3, .inl (.inl x3))], [.inr (.inl 8, 0)], r3.2)) rfl hg11 ?_
        exact yG_w [0, 1] rfl (t_X8_readLine_b151 r3.2 x1 res h)
set_option maxRecDepth 100000 in
set_option maxHeartbeats 4000000 in
theorem t_X8_readLine_b130 {N : Nat} {X : zXT} {sh : List yH} {l : Launch} {rm : Room} (σ : yS) (x1 : Int) (x3 : Int) (res : Int × yS) (h : f_X8_readLine_b130 N σ x1 x3 = some res) : G_X8_readLine N X sh l rm (130, [(0, .inr (.inl 8, 0)), (1, .inl (.inl x1)), (3, .inl (.inl x3))], [.inr (.inl 8, 0)], σ) (none, res.2) := by
  unfold f_X8_readLine_b130 at h
  refine yG_n (n := 2) (C' := (135, [(0, .inr (.inl 8, 0)), (1, .inl (.inl x1)), (3, .inl (.inl x3))], [.inl (.inl 1), .inr (.inl 8, 0)], σ)) rfl ?_
  exact t_X8_readLine_b135 σ x1 x3 1 res h
set_option maxRecDepth 100000 in
set_option maxHeartbeats 4000000 in
theorem t_X8_readLine_b114 {N : Nat} {X : zXT} {sh : List yH} {l : Launch} {rm : Room} (σ : yS) (x1 : Int) (x3 : Int) (s0 : Int) (res : Int × yS) (h : f_X8_readLine_b114 N σ x1 x3 s0 = some res) : G_X8_readLine N X sh l rm (114, [(0, .inr (.inl 8, 0)), (1, .inl (.inl x1)), (3, .inl (.inl x3))], [.inl (.inl s0), .inr (.inl 8, 0)], σ) (none, res.2) := by
  unfold f_X8_readLine_b114 at h
  refine yG_n (n := 1) (C' := (115, [(0, .inr (.inl 8, 0)), (1, .inl (.inl x1)), (3, .inl (.inl x3))], [.inl (.inl 5), .inl (.inl s0), .inr (.inl 8, 0)], σ)) rfl ?_
  cases hr12 : f_X8_needs N σ s0 5 with
  | none => rw [hr12] at h; dsimp only at h; cases h
  | some r2 =>
    rw [hr12] at h
    dsimp only at h
    refine yG_c (C1 := (118, [(0, .inr (.inl 8, 0)), (1, .inl (.inl x1)), (3, .inl (.inl x3))], [], r2.2)) rfl (e_X8_needs hr12) rfl ?_
    refine yG_n (n := 2) (C' := (120, [(0, .inr (.inl 8, 0)), (1, .inl (.inl x1)), (3, .inl (.inl x3))], [.inl (.inl x3), .inr (.inl 8, 0)], r2.2)) rfl ?_
    cases hg13 : ycP .eq x3 0 with
    | true =>
      rw [hg13] at h
      dsimp only [cond] at h
      refine yG_t (C' := (130, [(0, .inr (.inl 8, 0)), (1, .inl (.inl x1)), (3, .inl (.inl x3))], [.inr (.inl 8, 0)], r2.2)) rfl hg13 ?_
      exact t_X8_readLine_b130 r2.2 x1 x3 res h
    | false =>
      rw [hg13] at h
      dsimp only [cond] at h
      refine yG_f (C' := (123, [(0, .inr (.inl 8, 0)), (1, .inl (.inl x1)), (3, .inl (.inl x3))], [.inr (.inl 8, 0)], r2.2)) rfl hg13 ?_
      refine yG_n (n := 2) (C' := (127, [(0, .inr (.inl 8, 0)), (1, .inl (.inl x1)), (3, .inl (.inl x3))], [.inl (.inl (r2.2.1 0 10)), .inr (.inl 8, 0)], r2.2)) rfl ?_
      cases hg14 : ycP .ne (r2.2.1 0 10) 0 with
      | true =>
        rw [hg14] at h
        dsimp only [cond] at h
        refine yG_t (C' := (134, [(0, .inr (.inl 8, 0)), (1, .inl (.inl x1)), (3, .inl (.inl x3))], [.inr (.inl 8, 0)], r2.2)) rfl hg14 ?_
        refine yG_n (n := 1) (C' := (135, [(0, .inr (.inl 8, 0)), (1, .inl (.inl x1)), (3, .inl (.inl x3))], [.inl (.inl 0), .inr (.inl 8, 0)], r2.2)) rfl ?_
        exact t_X8_readLine_b135 r2.2 x1 x3 0 res h
      | false =>
        rw [hg14] at h
        dsimp only [cond] at h
        refine yG_f (C' := (130, [(0, .inr (.inl 8, 0)), (1, .inl (.inl x1)), (3, .inl (.inl x3))], [.inr (.inl 8, 0)], r2.2)) rfl hg14 ?_
        exact t_X8_readLine_b130 r2.2 x1 x3 res h
set_option maxRecDepth 100000 in
set_option maxHeartbeats 4000000 in
theorem t_X8_readLine_b100 {N : Nat} {X : zXT} {sh : List yH} {l : Launch} {rm : Room} (σ : yS) (x1 : Int) (x2 : Int) (x3 : Int) (s0 : Int) (res : Int × yS) (h : f_X8_readLine_b100 N σ x1 x2 x3 s0 = some res) : G_X8_readLine N X sh l rm (100, [(0, .inr (.inl 8, 0)), (1, .inl (.inl x1)), (2, .inl (.inl x2)), (3, .inl (.inl x3))], [.inl (.inl s0), .inr (.inl 8, 0)], σ) (none, res.2) := by
  unfold f_X8_readLine_b100 at h
  refine yG_n (n := 1) (C' := (101, [(0, .inr (.inl 8, 0)), (1, .inl (.inl x1)), (2, .inl (.inl x2)), (3, .inl (.inl x3))], [.inl (.inl 2), .inl (.inl s0), .inr (.inl 8, 0)], σ)) rfl ?_
  cases hr15 : f_X8_needs N σ s0 2 with
  | none => rw [hr15] at h; dsimp only at h; cases h
  | some r1 =>
    rw [hr15] at h
    dsimp only at h
    refine yG_c (C1 := (104, [(0, .inr (.inl 8, 0)), (1, .inl (.inl x1)), (2, .inl (.inl x2)), (3, .inl (.inl x3))], [], r1.2)) rfl (e_X8_needs hr15) rfl ?_
    refine yG_n (n := 2) (C' := (106, [(0, .inr (.inl 8, 0)), (1, .inl (.inl x1)), (2, .inl (.inl x2)), (3, .inl (.inl x3))], [.inl (.inl x2), .inr (.inl 8, 0)], r1.2)) rfl ?_
    cases hg16 : ycP .ne x2 0 with
    | true =>
      rw [hg16] at h
      dsimp only [cond] at h
      refine yG_t (C' := (113, [(0, .inr (.inl 8, 0)), (1, .inl (.inl x1)), (2, .inl (.inl x2)), (3, .inl (.inl x3))], [.inr (.inl 8, 0)], r1.2)) rfl hg16 ?_
      refine yG_n (n := 1) (C' := (114, [(0, .inr (.inl 8, 0)), (1, .inl (.inl x1)), (2, .inl (.inl x2)), (3, .inl (.inl x3))], [.inl (.inl 0), .inr (.inl 8, 0)], r1.2)) rfl ?_
      exact yG_w [0, 1, 3] rfl (t_X8_readLine_b114 r1.2 x1 x3 0 res h)
    | false =>
      rw [hg16] at h
      dsimp only [cond] at h
      refine yG_f (C' := (109, [(0, .inr (.inl 8, 0)), (1, .inl (.inl x1)), (2, .inl (.inl x2)), (3, .inl (.inl x3))], [.inr (.inl 8, 0)], r1.2)) rfl hg16 ?_
      refine yG_n (n := 2) (C' := (114, [(0, .inr (.inl 8, 0)), (1, .inl (.inl x1)), (2, .inl (.inl x2)), (3, .inl (.inl x3))], [.inl (.inl 1), .inr (.inl 8, 0)], r1.2)) rfl ?_
      exact yG_w [0, 1, 3] rfl (t_X8_readLine_b114 r1.2 x1 x3 1 res h)
set_option maxRecDepth 100000 in
set_option maxHeartbeats 4000000 in
theorem t_X8_readLine_b87 {N : Nat} {X : zXT} {sh : List yH} {l : Launch} {rm : Room} (σ : yS) (x1 : Int) (x2 : Int) (s0 : Int) (res : Int × yS) (h : f_X8_readLine_b87 N σ x1 x2 s0 = some res) : G_X8_readLine N X sh l rm (87, [(0, .inr (.inl 8, 0)), (1, .inl (.inl x1)), (2, .inl (.inl x2))], [.inl (.inl s0)], σ) (none, res.2) := by
  unfold f_X8_readLine_b87 at h
  refine yG_n (n := 4) (C' := (92, [(3, .inl (.inl s0)), (0, .inr (.inl 8, 0)), (1, .inl (.inl x1)), (2, .inl (.inl x2))], [.inl (.inl ((-4))), .inl (.inl x1), .inr (.inl 8, 0)], σ)) rfl ?_
  cases hg17 : ycP .eq x1 ((-4)) with
  | true =>
    rw [hg17] at h
    dsimp only [cond] at h
    refine yG_t (C' := (99, [(3, .inl (.inl s0)), (0, .inr (.inl 8, 0)), (1, .inl (.inl x1)), (2, .inl (.inl x2))], [.inr (.inl 8, 0)], σ)) rfl hg17 ?_
    refine yG_n (n := 1) (C' := (100, [(3, .inl (.inl s0)), (0, .inr (.inl 8, 0)), (1, .inl (.inl x1)), (2, .inl (.inl x2))], [.inl (.inl 0), .inr (.inl 8, 0)], σ)) rfl ?_
    exact yG_w [1, 2, 3, 0] rfl (t_X8_readLine_b100 σ x1 x2 s0 0 res h)
  | false =>
    rw [hg17] at h
    dsimp only [cond] at h
    refine yG_f (C' := (95, [(3, .inl (.inl s0)), (0, .inr (.inl 8, 0)), (1, .inl (.inl x1)), (2, .inl (.inl x2))], [.inr (.inl 8, 0)], σ)) rfl hg17 ?_
    refine yG_n (n := 2) (C' := (100, [(3, .inl (.inl s0)), (0, .inr (.inl 8, 0)), (1, .inl (.inl x1)), (2, .inl (.inl x2))], [.inl (.inl 1), .inr (.inl 8, 0)], σ)) rfl ?_
    exact yG_w [1, 2, 3, 0] rfl (t_X8_readLine_b100 σ x1 x2 s0 1 res h)
set_option maxRecDepth 100000 in
set_option maxHeartbeats 4000000 in
theorem t_X8_readLine_b82 {N : Nat} {X : zXT} {sh : List yH} {l : Launch} {rm : Room} (σ : yS) (x1 : Int) (x2 : Int) (res : Int × yS) (h : f_X8_readLine_b82 N σ x1 x2 = some res) : G_X8_readLine N X sh l rm (82, [(0, .inr (.inl 8, 0)), (1, .inl (.inl x1)), (2, .inl (.inl x2))], [], σ) (none, res.2) := by
  unfold f_X8_readLine_b82 at h
  refine yG_n (n := 2) (C' := (87, [(0, .inr (.inl 8, 0)), (1, .inl (.inl x1)), (2, .inl (.inl x2))], [.inl (.inl 1)], σ)) rfl ?_
  exact t_X8_readLine_b87 σ x1 x2 1 res h
set_option maxRecDepth 100000 in
set_option maxHeartbeats 4000000 in
theorem t_X8_readLine_b71 {N : Nat} {X : zXT} {sh : List yH} {l : Launch} {rm : Room} (σ : yS) (x1 : Int) (s0 : Int) (res : Int × yS) (h : f_X8_readLine_b71 N σ x1 s0 = some res) : G_X8_readLine N X sh l rm (71, [(0, .inr (.inl 8, 0)), (1, .inl (.inl x1))], [.inl (.inl s0)], σ) (none, res.2) := by
  unfold f_X8_readLine_b71 at h
  refine yG_n (n := 3) (C' := (74, [(2, .inl (.inl s0)), (0, .inr (.inl 8, 0)), (1, .inl (.inl x1))], [.inl (.inl 3), .inl (.inl x1)], σ)) rfl ?_
  cases hg18 : ycP .eq x1 3 with
  | true =>
    rw [hg18] at h
    dsimp only [cond] at h
    refine yG_t (C' := (82, [(2, .inl (.inl s0)), (0, .inr (.inl 8, 0)), (1, .inl (.inl x1))], [], σ)) rfl hg18 ?_
    exact yG_w [1, 2, 0] rfl (t_X8_readLine_b82 σ x1 s0 res h)
  | false =>
    rw [hg18] at h
    dsimp only [cond] at h
    refine yG_f (C' := (77, [(2, .inl (.inl s0)), (0, .inr (.inl 8, 0)), (1, .inl (.inl x1))], [], σ)) rfl hg18 ?_
    refine yG_n (n := 2) (C' := (79, [(2, .inl (.inl s0)), (0, .inr (.inl 8, 0)), (1, .inl (.inl x1))], [.inl (.inl 4), .inl (.inl x1)], σ)) rfl ?_
    cases hg19 : ycP .ne x1 4 with
    | true =>
      rw [hg19] at h
      dsimp only [cond] at h
      refine yG_t (C' := (86, [(2, .inl (.inl s0)), (0, .inr (.inl 8, 0)), (1, .inl (.inl x1))], [], σ)) rfl hg19 ?_
      refine yG_n (n := 1) (C' := (87, [(2, .inl (.inl s0)), (0, .inr (.inl 8, 0)), (1, .inl (.inl x1))], [.inl (.inl 0)], σ)) rfl ?_
      exact yG_w [1, 2, 0] rfl (t_X8_readLine_b87 σ x1 s0 0 res h)
    | false =>
      rw [hg19] at h
      dsimp only [cond] at h
      refine yG_f (C' := (82, [(2, .inl (.inl s0)), (0, .inr (.inl 8, 0)), (1, .inl (.inl x1))], [], σ)) rfl hg19 ?_
      exact yG_w [1, 2, 0] rfl (t_X8_readLine_b82 σ x1 s0 res h)
set_option maxRecDepth 100000 in
set_option maxHeartbeats 4000000 in
theorem t_X8_readLine_b70 {N : Nat} {X : zXT} {sh : List yH} {l : Launch} {rm : Room} (σ : yS) (x1 : Int) (res : Int × yS) (h : f_X8_readLine_b70 N σ x1 = some res) : G_X8_readLine N X sh l rm (70, [(0, .inr (.inl 8, 0)), (1, .inl (.inl x1))], [], σ) (none, res.2) := by
  unfold f_X8_readLine_b70 at h
  refine yG_n (n := 1) (C' := (71, [(0, .inr (.inl 8, 0)), (1, .inl (.inl x1))], [.inl (.inl 0)], σ)) rfl ?_
  exact t_X8_readLine_b71 σ x1 0 res h
set_option maxRecDepth 100000 in
set_option maxHeartbeats 4000000 in
theorem t_X8_readLine_b66 {N : Nat} {X : zXT} {sh : List yH} {l : Launch} {rm : Room} (σ : yS) (x1 : Int) (res : Int × yS) (h : f_X8_readLine_b66 N σ x1 = some res) : G_X8_readLine N X sh l rm (66, [(0, .inr (.inl 8, 0)), (1, .inl (.inl x1))], [], σ) (none, res.2) := by
  unfold f_X8_readLine_b66 at h
  refine yG_n (n := 2) (C' := (71, [(0, .inr (.inl 8, 0)), (1, .inl (.inl x1))], [.inl (.inl 1)], σ)) rfl ?_
  exact t_X8_readLine_b71 σ x1 1 res h
set_option maxRecDepth 100000 in
set_option maxHeartbeats 4000000 in
theorem t_X8_readLine_b49 {N : Nat} {X : zXT} {sh : List yH} {l : Launch} {rm : Room} (σ : yS) (x1 : Int) (res : Int × yS) (h : f_X8_readLine_b49 N σ x1 = some res) : G_X8_readLine N X sh l rm (49, [(0, .inr (.inl 8, 0)), (1, .inl (.inl x1))], [], σ) (none, res.2) := by
  unfold f_X8_readLine_b49 at h
  refine yG_n (n := 2) (C' := (52, [(0, .inr (.inl 8, 0)), (1, .inl (.inl x1))], [.inl (.inl 7), .inl (.inl x1)], σ)) rfl ?_
  cases hg20 : ycP .ne x1 7 with
  | true =>
    rw [hg20] at h
    dsimp only [cond] at h
    refine yG_t (C' := (70, [(0, .inr (.inl 8, 0)), (1, .inl (.inl x1))], [], σ)) rfl hg20 ?_
    exact t_X8_readLine_b70 σ x1 res h
  | false =>
    rw [hg20] at h
    dsimp only [cond] at h
    refine yG_f (C' := (55, [(0, .inr (.inl 8, 0)), (1, .inl (.inl x1))], [], σ)) rfl hg20 ?_
    refine yG_n (n := 5) (C' := (63, [(0, .inr (.inl 8, 0)), (1, .inl (.inl x1))], [.inl (.inl 4), .inl (.inl (σ.1 5 118))], σ)) rfl ?_
    cases hg21 : ycP .ne (σ.1 5 118) 4 with
    | true =>
      rw [hg21] at h
      dsimp only [cond] at h
      refine yG_t (C' := (70, [(0, .inr (.inl 8, 0)), (1, .inl (.inl x1))], [], σ)) rfl hg21 ?_
      exact t_X8_readLine_b70 σ x1 res h
    | false =>
      rw [hg21] at h
      dsimp only [cond] at h
      refine yG_f (C' := (66, [(0, .inr (.inl 8, 0)), (1, .inl (.inl x1))], [], σ)) rfl hg21 ?_
      exact t_X8_readLine_b66 σ x1 res h
set_option maxRecDepth 100000 in
set_option maxHeartbeats 4000000 in
theorem t_X8_readLine_b31 {N : Nat} {X : zXT} {sh : List yH} {l : Launch} {rm : Room} (σ : yS) (x1 : Int) (res : Int × yS) (h : f_X8_readLine_b31 N σ x1 = some res) : G_X8_readLine N X sh l rm (31, [(0, .inr (.inl 8, 0)), (1, .inl (.inl x1))], [], σ) (none, res.2) := by
  unfold f_X8_readLine_b31 at h
  refine yG_n (n := 2) (C' := (34, [(0, .inr (.inl 8, 0)), (1, .inl (.inl x1))], [.inl (.inl 6), .inl (.inl x1)], σ)) rfl ?_
  cases hg22 : ycP .ne x1 6 with
  | true =>
    rw [hg22] at h
    dsimp only [cond] at h
    refine yG_t (C' := (49, [(0, .inr (.inl 8, 0)), (1, .inl (.inl x1))], [], σ)) rfl hg22 ?_
    exact t_X8_readLine_b49 σ x1 res h
  | false =>
    rw [hg22] at h
    dsimp only [cond] at h
    refine yG_f (C' := (37, [(0, .inr (.inl 8, 0)), (1, .inl (.inl x1))], [], σ)) rfl hg22 ?_
    refine yG_n (n := 5) (C' := (46, [(0, .inr (.inl 8, 0)), (1, .inl (.inl x1))], [.inl (.inl 10), .inl (.inl (σ.1 5 77))], σ)) rfl ?_
    cases hg23 : ycP .eq (σ.1 5 77) 10 with
    | true =>
      rw [hg23] at h
      dsimp only [cond] at h
      refine yG_t (C' := (66, [(0, .inr (.inl 8, 0)), (1, .inl (.inl x1))], [], σ)) rfl hg23 ?_
      exact t_X8_readLine_b66 σ x1 res h
    | false =>
      rw [hg23] at h
      dsimp only [cond] at h
      refine yG_f (C' := (49, [(0, .inr (.inl 8, 0)), (1, .inl (.inl x1))], [], σ)) rfl hg23 ?_
      exact t_X8_readLine_b49 σ x1 res h
set_option maxRecDepth 100000 in
set_option maxHeartbeats 4000000 in
theorem t_X8_readLine_b17 {N : Nat} {X : zXT} {sh : List yH} {l : Launch} {rm : Room} (σ : yS) (s0 : Int) (res : Int × yS) (h : f_X8_readLine_b17 N σ s0 = some res) : G_X8_readLine N X sh l rm (17, [(0, .inr (.inl 8, 0))], [.inl (.inl s0)], σ) (none, res.2) := by
  unfold f_X8_readLine_b17 at h
  refine yG_n (n := 3) (C' := (20, [(1, .inl (.inl s0)), (0, .inr (.inl 8, 0))], [.inl (.inl 5), .inl (.inl s0)], σ)) rfl ?_
  cases hg24 : ycP .ne s0 5 with
  | true =>
    rw [hg24] at h
    dsimp only [cond] at h
    refine yG_t (C' := (31, [(1, .inl (.inl s0)), (0, .inr (.inl 8, 0))], [], σ)) rfl hg24 ?_
    exact yG_w [1, 0] rfl (t_X8_readLine_b31 σ s0 res h)
  | false =>
    rw [hg24] at h
    dsimp only [cond] at h
    refine yG_f (C' := (23, [(1, .inl (.inl s0)), (0, .inr (.inl 8, 0))], [], σ)) rfl hg24 ?_
    refine yG_n (n := 3) (C' := (28, [(1, .inl (.inl s0)), (0, .inr (.inl 8, 0))], [.inl (.inl 5), .inl (.inl (σ.1 0 11))], σ)) rfl ?_
    cases hg25 : ycP .eq (σ.1 0 11) 5 with
    | true =>
      rw [hg25] at h
      dsimp only [cond] at h
      refine yG_t (C' := (66, [(1, .inl (.inl s0)), (0, .inr (.inl 8, 0))], [], σ)) rfl hg25 ?_
      exact yG_w [1, 0] rfl (t_X8_readLine_b66 σ s0 res h)
    | false =>
      rw [hg25] at h
      dsimp only [cond] at h
      refine yG_f (C' := (31, [(1, .inl (.inl s0)), (0, .inr (.inl 8, 0))], [], σ)) rfl hg25 ?_
      exact yG_w [1, 0] rfl (t_X8_readLine_b31 σ s0 res h)
set_option maxRecDepth 100000 in
set_option maxHeartbeats 4000000 in
theorem t_X8_readLine {N : Nat} {X : zXT} {sh : List yH} {l : Launch} {rm : Room} (σ : yS) (res : Int × yS) (h : f_X8_readLine N σ = some res) : G_X8_readLine N X sh l rm (0, [(0, .inr (.inl 8, 0))], [], σ) (none, res.2) := by
  unfold f_X8_readLine at h
  refine yG_n (n := 3) (C' := (5, [(0, .inr (.inl 8, 0))], [.inl (.inl 1), .inl (.inl (σ.1 0 20))], σ)) rfl ?_
  cases hg26 : ycP .ne (σ.1 0 20) 1 with
  | true =>
    rw [hg26] at h
    dsimp only [cond] at h
    refine yG_t (C' := (15, [(0, .inr (.inl 8, 0))], [], σ)) rfl hg26 ?_
    refine yG_n (n := 1) (C' := (17, [(0, .inr (.inl 8, 0))], [.inl (.inl ((-4)))], σ)) rfl ?_
    exact t_X8_readLine_b17 σ ((-4)) res h
  | false =>
    rw [hg26] at h
    dsimp only [cond] at h
    refine yG_f (C' := (8, [(0, .inr (.inl 8, 0))], [], σ)) rfl hg26 ?_
    refine yG_n (n := 1) (C' := (9, [(0, .inr (.inl 8, 0))], [.inr (.inl 8, 0)], σ)) rfl ?_
    cases hr27 : f_X8_lineNow N σ with
    | none => rw [hr27] at h; dsimp only at h; cases h
    | some r8 =>
      rw [hr27] at h
      dsimp only at h
      refine yG_c (C1 := (12, [(0, .inr (.inl 8, 0))], [.inl (.inl r8.1)], r8.2)) rfl (e_X8_lineNow hr27) rfl ?_
      refine yG_n (n := 1) (C' := (17, [(0, .inr (.inl 8, 0))], [.inl (.inl r8.1)], r8.2)) rfl ?_
      exact t_X8_readLine_b17 r8.2 r8.1 res h
set_option maxRecDepth 100000 in
set_option maxHeartbeats 4000000 in
theorem m_X8_readLine {N : Nat} {X : zXT} (hX : zXok X) (hN : zXn X) (l : Launch) {sh : List yH} : yMet X vwCl yct sh l yX8_readLine wsX8_readLine { frames := 7, cells := 0, slots := 0, locals := 198 } (F_X8_readLine N) :=
  ymeth (tb := tb_X8_readLine N) (pr := pr_X8_readLine) (rt := 0) (own := RX8) hX (by decide +kernel) rfl rfl ⟨Nat.le_of_ble_eq_true rfl, Nat.le_of_ble_eq_true rfl⟩
    (zfl_all (List.forall_mem_cons.mpr ⟨zfl_X8 (fun w h => List.mem_cons_of_mem _ (List.mem_append_right _ h)) (List.mem_of_getElem? (i := 3) rfl) (by decide) (by decide), List.forall_mem_cons.mpr ⟨zfl_X8 (fun w h => List.mem_cons_of_mem _ (List.mem_append_right _ h)) (List.mem_of_getElem? (i := 4) rfl) (by decide) (by decide), List.forall_mem_cons.mpr ⟨zfl_X8 (fun w h => List.mem_cons_of_mem _ (List.mem_append_right _ h)) (List.mem_of_getElem? (i := 2) rfl) (by decide) (by decide), List.forall_mem_cons.mpr ⟨zfl_X8 (fun w h => List.mem_cons_of_mem _ (List.mem_append_right _ h)) (List.mem_of_getElem? (i := 5) rfl) (by decide) (by decide), List.forall_mem_cons.mpr ⟨zfl_X8 (fun w h => List.mem_cons_of_mem _ (List.mem_append_right _ h)) (List.mem_of_getElem? (i := 1) rfl) (by decide) (by decide), fun _ h => absurd h List.not_mem_nil⟩⟩⟩⟩⟩))
    (zco_all (fun _ h => absurd h List.not_mem_nil)) (zlc_all (fun _ h => absurd h List.not_mem_nil))
    (List.forall_mem_cons.mpr ⟨ycal_V hX (m_X8_needs hX hN l) rfl (fun s args hts => cwV 2 hts gX8_readLine_X8_needs rfl rfl rfl (by decide +kernel) ⟨Nat.le_of_ble_eq_true rfl, Nat.le_of_ble_eq_true rfl⟩), List.forall_mem_cons.mpr ⟨ycal_V hX (m_X8_next hX hN l) rfl (fun s args hts => cwV 0 hts gX8_readLine_X8_next rfl rfl rfl (by decide +kernel) ⟨Nat.le_of_ble_eq_true rfl, Nat.le_of_ble_eq_true rfl⟩), List.forall_mem_cons.mpr ⟨ycal_V hX (m_X8_lineNow hX hN l) rfl (fun s args hts => cwV 0 hts gX8_readLine_X8_lineNow rfl rfl rfl (by decide +kernel) ⟨Nat.le_of_ble_eq_true rfl, Nat.le_of_ble_eq_true rfl⟩), List.forall_mem_cons.mpr ⟨ycal_V hX (m_X8_readLineOf hX hN l) rfl (fun s args hts => cwV 1 hts gX8_readLine_X8_readLineOf rfl rfl rfl (by decide +kernel) ⟨Nat.le_of_ble_eq_true rfl, Nat.le_of_ble_eq_true rfl⟩), fun _ h => absurd h List.not_mem_nil⟩⟩⟩⟩)
    (fun _ h => absurd h List.not_mem_nil)
    (zmm_all (fun _ h => absurd h List.not_mem_nil)) (fun _ h => absurd h List.not_mem_nil) (zpr_all hp_X8_readLine) (fun as σ res h => by
      unfold F_X8_readLine at h
      split at h
      · cases hr : f_X8_readLine N σ with
        | none => rw [hr] at h; cases h
        | some r =>
          rw [hr] at h
          cases h
          exact ⟨Nat.le_of_ble_eq_true rfl, t_X8_readLine σ r hr⟩
      · cases h)
end
