noncomputable def pr_X8_drift : List (Nat × Instr × Nat) := [(0, .iload_n 2, 1), (1, .i2l, 1), (2, .lconst 1, 1), (3, .ldc2_w 264, 3), (6, .invokestatic 90, 3), (9, .ifCond .eq 13, 3), (12, .iload_n 3, 1), (13, .i2l, 1), (14, .lconst 0, 1), (15, .lconst 1, 1), (16, .invokestatic 90, 3), (19, .ifCond .ne 5, 3), (22, .iconst (-1), 1), (23, .ireturn, 1), (24, .aload_n 0, 1), (25, .invokevirtual 266, 3), (28, .aload_n 0, 1), (29, .iconst 0, 1), (30, .putfield 239, 3), (33, .aload_n 0, 1), (34, .getfield 13, 3), (37, .sipush 130, 3), (40, .iaload, 1), (41, .istore 4, 2), (43, .iload_n 1, 1), (44, .istore 5, 2), (46, .iconst 0, 1), (47, .istore 6, 2), (49, .iload 6, 2), (51, .iload_n 2, 1), (52, .if_icmp .ge 148, 3), (55, .iload 5, 2), (57, .ldc_w 317, 3), (60, .imul, 1), (61, .sipush 12345, 3), (64, .iadd, 1), (65, .istore 5, 2), (67, .iload 5, 2), (69, .bipush 16, 2), (71, .ishr, 1), (72, .sipush 32767, 3), (75, .iand, 1), (76, .aload_n 0, 1), (77, .getfield 79, 3), (80, .irem, 1), (81, .istore 7, 2), (83, .aload_n 0, 1), (84, .getfield 13, 3), (87, .bipush 35, 2), (89, .iload 7, 2), (91, .iadd, 1), (92, .iaload, 1), (93, .ifCond .le 97, 3), (96, .aload_n 0, 1), (97, .getfield 13, 3), (100, .bipush 77, 2), (102, .iaload, 1), (103, .bipush 10, 2), (105, .if_icmp .ge 85, 3), (108, .bipush 78, 2), (110, .iconst 4, 1), (111, .aload_n 0, 1), (112, .getfield 13, 3), (115, .bipush 77, 2), (117, .iaload, 1), (118, .imul, 1), (119, .iadd, 1), (120, .istore 8, 2), (122, .aload_n 0, 1), (123, .getfield 13, 3), (126, .iload 8, 2), (128, .iload 7, 2), (130, .iastore, 1), (131, .aload_n 0, 1), (132, .getfield 13, 3), (135, .iload 8, 2), (137, .iconst 1, 1), (138, .iadd, 1), (139, .aload_n 0, 1), (140, .getfield 13, 3), (143, .bipush 21, 2), (145, .iload 7, 2), (147, .iadd, 1), (148, .iaload, 1), (149, .iastore, 1), (150, .aload_n 0, 1), (151, .getfield 13, 3), (154, .iload 8, 2), (156, .iconst 2, 1), (157, .iadd, 1), (158, .iconst 0, 1), (159, .iastore, 1), (160, .aload_n 0, 1), (161, .getfield 13, 3), (164, .iload 8, 2), (166, .iconst 3, 1), (167, .iadd, 1), (168, .aload_n 0, 1), (169, .getfield 13, 3), (172, .bipush 28, 2), (174, .iload 7, 2), (176, .iadd, 1), (177, .iaload, 1), (178, .iastore, 1), (179, .aload_n 0, 1), (180, .getfield 13, 3), (183, .bipush 77, 2), (185, .dup2, 1), (186, .iaload, 1), (187, .iconst 1, 1), (188, .iadd, 1), (189, .iastore, 1), (190, .aload_n 0, 1), (191, .invokevirtual 261, 3), (194, .iinc 6 1, 3), (197, .goto (-148), 3), (200, .iload_n 3, 1), (201, .ifCond .ne 10, 3), (204, .aload_n 0, 1), (205, .getfield 239, 3), (208, .goto 14, 3), (211, .aload_n 0, 1), (212, .getfield 13, 3), (215, .sipush 130, 3), (218, .iaload, 1), (219, .iload 4, 2), (221, .isub, 1), (222, .ireturn, 1)]
set_option maxRecDepth 100000 in
theorem hp_X8_drift : pr_X8_drift.all (fun x => decide (decode cX8_drift x.1 = .ok x.2)) = true := by decide +kernel
noncomputable def f_X8_drift_b22 (N : Nat) (σ : yS) : Option (Int × yS) :=
  some ((-1), σ)
noncomputable def f_X8_drift_b222 (N : Nat) (σ : yS) (s0 : Int) : Option (Int × yS) :=
  some (s0, σ)
noncomputable def f_X8_drift_b190 (N : Nat) (k49 : yS → Int → Int → Int → Int → Int → Option (Int × yS)) (σ : yS) (x2 : Int) (x3 : Int) (x4 : Int) (x5 : Int) (x6 : Int) : Option (Int × yS) :=
  match f_X8_days N σ with
  | none => none
  | some r4 => k49 r4.2 x2 x3 x4 x5 (yad x6 1)
noncomputable def f_X8_drift_b186 (N : Nat) (k49 : yS → Int → Int → Int → Int → Int → Option (Int × yS)) (σ : yS) (x2 : Int) (x3 : Int) (x4 : Int) (x5 : Int) (x6 : Int) (s0 : Int) (s2 : Int) : Option (Int × yS) :=
  bif yin s0 131 then
    bif yin s2 131 then
      f_X8_drift_b190 N k49 (yw σ 2 s2.toNat (yad (σ.1 2 s0.toNat) 1)) x2 x3 x4 x5 x6
    else none
  else none
noncomputable def f_X8_drift_b177 (N : Nat) (k49 : yS → Int → Int → Int → Int → Int → Option (Int × yS)) (σ : yS) (x2 : Int) (x3 : Int) (x4 : Int) (x5 : Int) (x6 : Int) (s0 : Int) (s2 : Int) : Option (Int × yS) :=
  bif yin s0 131 then
    bif yin s2 131 then
      f_X8_drift_b186 N k49 (yw σ 2 s2.toNat (σ.1 2 s0.toNat)) x2 x3 x4 x5 x6 77 77
    else none
  else none
noncomputable def f_X8_drift_b148 (N : Nat) (k49 : yS → Int → Int → Int → Int → Int → Option (Int × yS)) (σ : yS) (x2 : Int) (x3 : Int) (x4 : Int) (x5 : Int) (x6 : Int) (x7 : Int) (x8 : Int) (s0 : Int) (s2 : Int) : Option (Int × yS) :=
  bif yin s0 131 then
    bif yin s2 131 then
      bif yin (yad x8 2) 131 then
        f_X8_drift_b177 N k49 (yw (yw σ 2 s2.toNat (σ.1 2 s0.toNat)) 2 (yad x8 2).toNat 0) x2 x3 x4 x5 x6 (yad 28 x7) (yad x8 3)
      else none
    else none
  else none
noncomputable def f_X8_drift_b83 (N : Nat) (k49 : yS → Int → Int → Int → Int → Int → Option (Int × yS)) (σ : yS) (x2 : Int) (x3 : Int) (x4 : Int) (x5 : Int) (x6 : Int) (x7 : Int) : Option (Int × yS) :=
  bif yin (yad 35 x7) 131 then
    bif ycP .le (σ.1 2 (yad 35 x7).toNat) 0 then
      f_X8_drift_b190 N k49 σ x2 x3 x4 x5 x6
    else
      bif ycP .ge (σ.1 2 77) 10 then
        f_X8_drift_b190 N k49 σ x2 x3 x4 x5 x6
      else
        bif yin (yad 78 (ymu 4 (σ.1 2 77))) 131 then
          f_X8_drift_b148 N k49 (yw σ 2 (yad 78 (ymu 4 (σ.1 2 77))).toNat x7) x2 x3 x4 x5 x6 x7 (yad 78 (ymu 4 (σ.1 2 77))) (yad 21 x7) (yad (yad 78 (ymu 4 (σ.1 2 77))) 1)
        else none
  else none
noncomputable def f_X8_drift_b67 (N : Nat) (k49 : yS → Int → Int → Int → Int → Int → Option (Int × yS)) (σ : yS) (x2 : Int) (x3 : Int) (x4 : Int) (x5 : Int) (x6 : Int) : Option (Int × yS) :=
  bif ynz (σ.1 0 3) then
    f_X8_drift_b83 N k49 σ x2 x3 x4 x5 x6 (yrm (yan (ysr x5 16) 32767) (σ.1 0 3))
  else none
noncomputable def f_X8_drift_b49 (N : Nat) : Nat → yS → Int → Int → Int → Int → Int → Option (Int × yS) := yfix (fun _ _ _ _ _ _ => none) (fun ih σ x2 x3 x4 x5 x6 =>
    bif ycP .ge x6 x2 then
      bif ycP .ne x3 0 then
        f_X8_drift_b222 N σ (ysu (σ.1 2 130) x4)
      else
        f_X8_drift_b222 N σ (σ.1 0 26)
    else
      f_X8_drift_b67 N ih σ x2 x3 x4 (yad (ymu x5 1103515245) 12345) x6)
theorem q_X8_drift_b49 (N : Nat) (n : Nat) (σ : yS) (x2 : Int) (x3 : Int) (x4 : Int) (x5 : Int) (x6 : Int) : f_X8_drift_b49 N (n + 1) σ x2 x3 x4 x5 x6 =
    (bif ycP .ge x6 x2 then
      bif ycP .ne x3 0 then
        f_X8_drift_b222 N σ (ysu (σ.1 2 130) x4)
      else
        f_X8_drift_b222 N σ (σ.1 0 26)
    else
      f_X8_drift_b67 N (f_X8_drift_b49 N n) σ x2 x3 x4 (yad (ymu x5 1103515245) 12345) x6) := rfl
noncomputable def f_X8_drift_b40 (N : Nat) (σ : yS) (x1 : Int) (x2 : Int) (x3 : Int) (s0 : Int) : Option (Int × yS) :=
  bif yin s0 131 then
    f_X8_drift_b49 N N σ x2 x3 (σ.1 2 s0.toNat) x1 0
  else none
noncomputable def f_X8_drift (N : Nat) (σ : yS) (x1 : Int) (x2 : Int) (x3 : Int) : Option (Int × yS) :=
  match f_X8_in N σ x2 1 60 with
  | none => none
  | some r1 => bif ycP .eq r1.1 0 then
      f_X8_drift_b22 N r1.2
    else
      match f_X8_in N r1.2 x3 0 1 with
      | none => none
      | some r2 => bif ycP .ne r2.1 0 then
          match f_X8_starts N r2.2 with
          | none => none
          | some r3 => f_X8_drift_b40 N (yw r3.2 0 26 0) x1 x2 x3 130
        else
          f_X8_drift_b22 N r2.2
noncomputable def F_X8_drift (N : Nat) : yF := fun as σ => match as with
  | [.inr (.inl 8, 0), .inl (.inl x1), .inl (.inl x2), .inl (.inl x3)] => (f_X8_drift N σ x1 x2 x3).map (fun r => (some (.inl (.inl r.1)), r.2))
  | _ => none
theorem e_X8_drift {N : Nat} {σ : yS} {x1 : Int} {x2 : Int} {x3 : Int} {r : Int × yS} (h : f_X8_drift N σ x1 x2 x3 = some r) : F_X8_drift N [.inr (.inl 8, 0), .inl (.inl x1), .inl (.inl x2), .inl (.inl x3)] σ = some (some (.inl (.inl r.1)), r.2) := by
  show (f_X8_drift N σ x1 x2 x3).map (fun r => ((some (.inl (.inl r.1)), r.2) : yR)) = _
  rw [h]
  rfl
noncomputable def tb_X8_drift (N : Nat) : yTb := ([(13, 8, 1, 3), (79, 8, 3, 0), (239, 8, 26, 0)], [(317, 1103515245)], [(264, 60)], [(261, 1, 8, F_X8_days N), (266, 1, 8, F_X8_starts N)], [(90, 3, F_X8_in N)], [], [])
abbrev G_X8_drift (N : Nat) (X : zXT) (sh : List yH) (l : Launch) (rm : Room) : yC → yR → Prop := yGoes X vwCl yct sh l rm cX8_drift 9 wsX8_drift RX8 (tb_X8_drift N) pr_X8_drift 1
set_option maxRecDepth 100000 in
set_option maxHeartbeats 4000000 in
theorem t_X8_drift_b22 {N : Nat} {X : zXT} {sh : List yH} {l : Launch} {rm : Room} (σ : yS) (res : Int × yS) (h : f_X8_drift_b22 N σ = some res) : G_X8_drift N X sh l rm (22, [], [], σ) (some (.inl (.inl res.1)), res.2) := by
  unfold f_X8_drift_b22 at h
  refine yG_n (n := 1) (C' := (23, [], [.inl (.inl ((-1)))], σ)) rfl ?_
  have h := Option.some.inj h
  subst h
  dsimp only
  exact yG_r rfl rfl
set_option maxRecDepth 100000 in
set_option maxHeartbeats 4000000 in
theorem t_X8_drift_b222 {N : Nat} {X : zXT} {sh : List yH} {l : Launch} {rm : Room} (σ : yS) (s0 : Int) (res : Int × yS) (h : f_X8_drift_b222 N σ s0 = some res) : G_X8_drift N X sh l rm (222, [], [.inl (.inl s0)], σ) (some (.inl (.inl res.1)), res.2) := by
  unfold f_X8_drift_b222 at h
  have h := Option.some.inj h
  subst h
  dsimp only
  exact yG_r rfl rfl
set_option maxRecDepth 100000 in
set_option maxHeartbeats 4000000 in
theorem t_X8_drift_b190 {N : Nat} {X : zXT} {sh : List yH} {l : Launch} {rm : Room} (k49 : yS → Int → Int → Int → Int → Int → Option (Int × yS)) (hk49 : ∀ (σ : yS) (x2 : Int) (x3 : Int) (x4 : Int) (x5 : Int) (x6 : Int) (res : Int × yS), k49 σ x2 x3 x4 x5 x6 = some res → G_X8_drift N X sh l rm (49, [(0, .inr (.inl 8, 0)), (2, .inl (.inl x2)), (3, .inl (.inl x3)), (4, .inl (.inl x4)), (5, .inl (.inl x5)), (6, .inl (.inl x6))], [], σ) (some (.inl (.inl res.1)), res.2)) (σ : yS) (x2 : Int) (x3 : Int) (x4 : Int) (x5 : Int) (x6 : Int) (res : Int × yS) (h : f_X8_drift_b190 N k49 σ x2 x3 x4 x5 x6 = some res) : G_X8_drift N X sh l rm (190, [(0, .inr (.inl 8, 0)), (2, .inl (.inl x2)), (3, .inl (.inl x3)), (4, .inl (.inl x4)), (5, .inl (.inl x5)), (6, .inl (.inl x6))], [], σ) (some (.inl (.inl res.1)), res.2) := by
  unfold f_X8_drift_b190 at h
  refine yG_n (n := 1) (C' := (191, [(0, .inr (.inl 8, 0)), (2, .inl (.inl x2)), (3, .inl (.inl x3)), (4, .inl (.inl x4)), (5, .inl (.inl x5)), (6, .inl (.inl x6))], [.inr (.inl 8, 0)], σ)) rfl ?_
  cases hr1 : f_X8_days N σ with
  | none => rw [hr1] at h; dsimp only at h; cases h
  | some r4 =>
    rw [hr1] at h
    dsimp only at h
    refine yG_c (C1 := (194, [(0, .inr (.inl 8, 0)), (2, .inl (.inl x2)), (3, .inl (.inl x3)), (4, .inl (.inl x4)), (5, .inl (.inl x5)), (6, .inl (.inl x6))], [], r4.2)) rfl (e_X8_days hr1) rfl ?_
    refine yG_n (n := 2) (C' := (49, [(6, .inl (.inl (yad x6 1))), (0, .inr (.inl 8, 0)), (2, .inl (.inl x2)), (3, .inl (.inl x3)), (4, .inl (.inl x4)), (5, .inl (.inl x5))], [], r4.2)) rfl ?_
    exact yG_w [1, 2, 3, 4, 5, 0] rfl (hk49 r4.2 x2 x3 x4 x5 (yad x6 1) res h)
set_option maxRecDepth 100000 in
set_option maxHeartbeats 4000000 in
theorem t_X8_drift_b186 {N : Nat} {X : zXT} {sh : List yH} {l : Launch} {rm : Room} (k49 : yS → Int → Int → Int → Int → Int → Option (Int × yS)) (hk49 : ∀ (σ : yS) (x2 : Int) (x3 : Int) (x4 : Int) (x5 : Int) (x6 : Int) (res : Int × yS), k49 σ x2 x3 x4 x5 x6 = some res → G_X8_drift N X sh l rm (49, [(0, .inr (.inl 8, 0)), (2, .inl (.inl x2)), (3, .inl (.inl x3)), (4, .inl (.inl x4)), (5, .inl (.inl x5)), (6, .inl (.inl x6))], [], σ) (some (.inl (.inl res.1)), res.2)) (σ : yS) (x2 : Int) (x3 : Int) (x4 : Int) (x5 : Int) (x6 : Int) (s0 : Int) (s2 : Int) (res : Int × yS) (h : f_X8_drift_b186 N k49 σ x2 x3 x4 x5 x6 s0 s2 = some res) : G_X8_drift N X sh l rm (186, [(0, .inr (.inl 8, 0)), (2, .inl (.inl x2)), (3, .inl (.inl x3)), (4, .inl (.inl x4)), (5, .inl (.inl x5)), (6, .inl (.inl x6))], [.inl (.inl s0), .inr (.inr (0, 131), 2), .inl (.inl s2), .inr (.inr (0, 131), 2)], σ) (some (.inl (.inl res.1)), res.2) := by
  unfold f_X8_drift_b186 at h
  cases hg2 : yin s0 131 with
  | false => rw [hg2] at h; dsimp only [cond] at h; cases h
  | true =>
    rw [hg2] at h
    dsimp only [cond] at h
    refine yG_t (C' := (187, [(0, .inr (.inl 8, 0)), (2, .inl (.inl x2)), (3, .inl (.inl x3)), (4, .inl (.inl x4)), (5, .inl (.inl x5)), (6, .inl (.inl x6))], [.inl (.inl (σ.1 2 s0.toNat)), .inl (.inl s2), .inr (.inr (0, 131), 2)], σ)) rfl hg2 ?_
    refine yG_n (n := 2) (C' := (189, [(0, .inr (.inl 8, 0)), (2, .inl (.inl x2)), (3, .inl (.inl x3)), (4, .inl (.inl x4)), (5, .inl (.inl x5)), (6, .inl (.inl x6))], [.inl (.inl (yad (σ.1 2 s0.toNat) 1)), .inl (.inl s2), .inr (.inr (0, 131), 2)], σ)) rfl ?_
    cases hg3 : yin s2 131 with
    | false => rw [hg3] at h; dsimp only [cond] at h; cases h
    | true =>
      rw [hg3] at h
      dsimp only [cond] at h
      refine yG_t (C' := (190, [(0, .inr (.inl 8, 0)), (2, .inl (.inl x2)), (3, .inl (.inl x3)), (4, .inl (.inl x4)), (5, .inl (.inl x5)), (6, .inl (.inl x6))], [], yw σ 2 s2.toNat (yad (σ.1 2 s0.toNat) 1))) rfl hg3 ?_
      exact t_X8_drift_b190 k49 hk49 (yw σ 2 s2.toNat (yad (σ.1 2 s0.toNat) 1)) x2 x3 x4 x5 x6 res h
set_option maxRecDepth 100000 in
set_option maxHeartbeats 4000000 in
theorem t_X8_drift_b177 {N : Nat} {X : zXT} {sh : List yH} {l : Launch} {rm : Room} (k49 : yS → Int → Int → Int → Int → Int → Option (Int × yS)) (hk49 : ∀ (σ : yS) (x2 : Int) (x3 : Int) (x4 : Int) (x5 : Int) (x6 : Int) (res : Int × yS), k49 σ x2 x3 x4 x5 x6 = some res → G_X8_drift N X sh l rm (49, [(0, .inr (.inl 8, 0)), (2, .inl (.inl x2)), (3, .inl (.inl x3)), (4, .inl (.inl x4)), (5, .inl (.inl x5)), (6, .inl (.inl x6))], [], σ) (some (.inl (.inl res.1)), res.2)) (σ : yS) (x2 : Int) (x3 : Int) (x4 : Int) (x5 : Int) (x6 : Int) (s0 : Int) (s2 : Int) (res : Int × yS) (h : f_X8_drift_b177 N k49 σ x2 x3 x4 x5 x6 s0 s2 = some res) : G_X8_drift N X sh l rm (177, [(0, .inr (.inl 8, 0)), (2, .inl (.inl x2)), (3, .inl (.inl x3)), (4, .inl (.inl x4)), (5, .inl (.inl x5)), (6, .inl (.inl x6))], [.inl (.inl s0), .inr (.inr (0, 131), 2), .inl (.inl s2), .inr (.inr (0, 131), 2)], σ) (some (.inl (.inl res.1)), res.2) := by
  unfold f_X8_drift_b177 at h
  cases hg4 : yin s0 131 with
  | false => rw [hg4] at h; dsimp only [cond] at h; cases h
  | true =>
    rw [hg4] at h
    dsimp only [cond] at h
    refine yG_t (C' := (178, [(0, .inr (.inl 8, 0)), (2, .inl (.inl x2)), (3, .inl (.inl x3)), (4, .inl (.inl x4)), (5, .inl (.inl x5)), (6, .inl (.inl x6))], [.inl (.inl (σ.1 2 s0.toNat)), .inl (.inl s2), .inr (.inr (0, 131), 2)], σ)) rfl hg4 ?_
    cases hg5 : yin s2 131 with
    | false => rw [hg5] at h; dsimp only [cond] at h; cases h
    | true =>
      rw [hg5] at h
      dsimp only [cond] at h
      refine yG_t (C' := (179, [(0, .inr (.inl 8, 0)), (2, .inl (.inl x2)), (3, .inl (.inl x3)), (4, .inl (.inl x4)), (5, .inl (.inl x5)), (6, .inl (.inl x6))], [], yw σ 2 s2.toNat (σ.1 2 s0.toNat))) rfl hg5 ?_
      refine yG_n (n := 4) (C' := (186, [(0, .inr (.inl 8, 0)), (2, .inl (.inl x2)), (3, .inl (.inl x3)), (4, .inl (.inl x4)), (5, .inl (.inl x5)), (6, .inl (.inl x6))], [.inl (.inl 77), .inr (.inr (0, 131), 2), .inl (.inl 77), .inr (.inr (0, 131), 2)], yw σ 2 s2.toNat (σ.1 2 s0.toNat))) rfl ?_
      exact t_X8_drift_b186 k49 hk49 (yw σ 2 s2.toNat (σ.1 2 s0.toNat)) x2 x3 x4 x5 x6 77 77 res h
set_option maxRecDepth 100000 in
set_option maxHeartbeats 4000000 in
theorem t_X8_drift_b148 {N : Nat} {X : zXT} {sh : List yH} {l : Launch} {rm : Room} (k49 : yS → Int → Int → Int → Int → Int → Option (Int × yS)) (hk49 : ∀ (σ : yS) (x2 : Int) (x3 : Int) (x4 : Int) (x5 : Int) (x6 : Int) (res : Int × yS), k49 σ x2 x3 x4 x5 x6 = some res → G_X8_drift N X sh l rm (49, [(0, .inr (.inl 8, 0)), (2, .inl (.inl x2)), (3, .inl (.inl x3)), (4, .inl (.inl x4)), (5, .inl (.inl x5)), (6, .inl (.inl x6))], [], σ) (some (.inl (.inl res.1)), res.2)) (σ : yS) (x2 : Int) (x3 : Int) (x4 : Int) (x5 : Int) (x6 : Int) (x7 : Int) (x8 : Int) (s0 : Int) (s2 : Int) (res : Int × yS) (h : f_X8_drift_b148 N k49 σ x2 x3 x4 x5 x6 x7 x8 s0 s2 = some res) : G_X8_drift N X sh l rm (148, [(0, .inr (.inl 8, 0)), (2, .inl (.inl x2)), (3, .inl (.inl x3)), (4, .inl (.inl x4)), (5, .inl (.inl x5)), (6, .inl (.inl x6)), (7, .inl (.inl x7)), (8, .inl (.inl x8))], [.inl (.inl s0), .inr (.inr (0, 131), 2), .inl (.inl s2), .inr (.inr (0, 131), 2)], σ) (some (.inl (.inl res.1)), res.2) := by
  unfold f_X8_drift_b148 at h
  cases hg6 : yin s0 131 with
  | false => rw [hg6] at h; dsimp only [cond] at h; cases h
  | true =>
    rw [hg6] at h
    dsimp only [cond] at h
    refine yG_t (C' := (149, [(0, .inr (.inl 8, 0)), (2, .inl (.inl x2)), (3, .inl (.inl x3)), (4, .inl (.inl x4)), (5, .inl (.inl x5)), (6, .inl (.inl x6)), (7, .inl (.inl x7)), (8, .inl (.inl x8))], [.inl (.inl (σ.1 2 s0.toNat)), .inl (.inl s2), .inr (.inr (0, 131), 2)], σ)) rfl hg6 ?_
    cases hg7 : yin s2 131 with
    | false => rw [hg7] at h; dsimp only [cond] at h; cases h
    | true =>
      rw [hg7] at h
      dsimp only [cond] at h
      refine yG_t (C' := (150, [(0, .inr (.inl 8, 0)), (2, .inl (.inl x2)), (3, .inl (.inl x3)), (4, .inl (.inl x4)), (5, .inl (.inl x5)), (6, .inl (.inl x6)), (7, .inl (.inl x7)), (8, .inl (.inl x8))], [], yw σ 2 s2.toNat (σ.1 2 s0.toNat))) rfl hg7 ?_
      refine yG_n (n := 5) (C' := (158, [(0, .inr (.inl 8, 0)), (2, .inl (.inl x2)), (3, .inl (.inl x3)), (4, .inl (.inl x4)), (5, .inl (.inl x5)), (6, .inl (.inl x6)), (7, .inl (.inl x7)), (8, .inl (.inl x8))], [.inl (.inl (yad x8 2)), .inr (.inr (0, 131), 2)], yw σ 2 s2.toNat (σ.1 2 s0.toNat))) rfl ?_
      refine yG_n (n := 1) (C' := (159, [(0, .inr (.inl 8, 0)), (2, .inl (.inl x2)), (3, .inl (.inl x3)), (4, .inl (.inl x4)), (5, .inl (.inl x5)), (6, .inl (.inl x6)), (7, .inl (.inl x7)), (8, .inl (.inl x8))], [.inl (.inl 0), .inl (.inl (yad x8 2)), .inr (.inr (0, 131), 2)], yw σ 2 s2.toNat (σ.1 2 s0.toNat))) rfl ?_
      cases hg8 : yin (yad x8 2) 131 with
      | false => rw [hg8] at h; dsimp only [cond] at h; cases h
      | true =>
        rw [hg8] at h
        dsimp only [cond] at h
        refine yG_t (C' := (160, [(0, .inr (.inl 8, 0)), (2, .inl (.inl x2)), (3, .inl (.inl x3)), (4, .inl (.inl x4)), (5, .inl (.inl x5)), (6, .inl (.inl x6)), (7, .inl (.inl x7)), (8, .inl (.inl x8))], [], yw (yw σ 2 s2.toNat (σ.1 2 s0.toNat)) 2 (yad x8 2).toNat 0)) rfl hg8 ?_
        refine yG_n (n := 5) (C' := (168, [(0, .inr (.inl 8, 0)), (2, .inl (.inl x2)), (3, .inl (.inl x3)), (4, .inl (.inl x4)), (5, .inl (.inl x5)), (6, .inl (.inl x6)), (7, .inl (.inl x7)), (8, .inl (.inl x8))], [.inl (.inl (yad x8 3)), .inr (.inr (0, 131), 2)], yw (yw σ 2 s2.toNat (σ.1 2 s0.toNat)) 2 (yad x8 2).toNat 0)) rfl ?_
        refine yG_n (n := 5) (C' := (177, [(0, .inr (.inl 8, 0)), (2, .inl (.inl x2)), (3, .inl (.inl x3)), (4, .inl (.inl x4)), (5, .inl (.inl x5)), (6, .inl (.inl x6)), (7, .inl (.inl x7)), (8, .inl (.inl x8))], [.inl (.inl (yad 28 x7)), .inr (.inr (0, 131), 2), .inl (.inl (yad x8 3)), .inr (.inr (0, 131), 2)], yw (yw σ 2 s2.toNat (σ.1 2 s0.toNat)) 2 (yad x8 2).toNat 0)) rfl ?_
        exact yG_w [0, 1, 2, 3, 4, 5] rfl (t_X8_drift_b177 k49 hk49 (yw (yw σ 2 s2.toNat (σ.1 2 s0.toNat)) 2 (yad x8 2).toNat 0) x2 x3 x4 x5 x6 (yad 28 x7) (yad x8 3) res h)
set_option maxRecDepth 100000 in
set_option maxHeartbeats 4000000 in
theorem t_X8_drift_b83 {N : Nat} {X : zXT} {sh : List yH} {l : Launch} {rm : Room} (k49 : yS → Int → Int → Int → Int → Int → Option (Int × yS)) (hk49 : ∀ (σ : yS) (x2 : Int) (x3 : Int) (x4 : Int) (x5 : Int) (x6 : Int) (res : Int × yS), k49 σ x2 x3 x4 x5 x6 = some res → G_X8_drift N X sh l rm (49, [(0, .inr (.inl 8, 0)), (2, .inl (.inl x2)), (3, .inl (.inl x3)), (4, .inl (.inl x4)), (5, .inl (.inl x5)), (6, .inl (.inl x6))], [], σ) (some (.inl (.inl res.1)), res.2)) (σ : yS) (x2 : Int) (x3 : Int) (x4 : Int) (x5 : Int) (x6 : Int) (x7 : Int) (res : Int × yS) (h : f_X8_drift_b83 N k49 σ x2 x3 x4 x5 x6 x7 = some res) : G_X8_drift N X sh l rm (83, [(0, .inr (.inl 8, 0)), (2, .inl (.inl x2)), (3, .inl (.inl x3)), (4, .inl (.inl x4)), (5, .inl (.inl x5)), (6, .inl (.inl x6)), (7, .inl (.inl x7))], [], σ) (some (.inl (.inl res.1)), res.2) := by
  unfold f_X8_drift_b83 at h
  refine yG_n (n := 5) (C' := (92, [(0, .inr (.inl 8, 0)), (2, .inl (.inl x2)), (3, .inl (.inl x3)), (4, .inl (.inl x4)), (5, .inl (.inl x5)), (6, .inl (.inl x6)), (7, .inl (.inl x7))], [.inl (.inl (yad 35 x7)), .inr (.inr (0, 131), 2)], σ)) rfl ?_
  cases hg9 : yin (yad 35 x7) 131 with
  | false => rw [hg9] at h; dsimp only [cond] at h; cases h
  | true =>
    rw [hg9] at h
    dsimp only [cond] at h
    refine yG_t (C' := (93, [(0, .inr (.inl 8, 0)), (2, .inl (.inl x2)), (3, .inl (.inl x3)), (4, .inl (.inl x4)), (5, .inl (.inl x5)), (6, .inl (.inl x6)), (7, .inl (.inl x7))], [.inl (.inl (σ.1 2 (yad 35 x7).toNat))], σ)) rfl hg9 ?_
    cases hg10 : ycP .le (σ.1 2 (yad 35 x7).toNat) 0 with
    | true =>
      rw [hg10] at h
      dsimp only [cond] at h
      refine yG_t (C' := (190, [(0, .inr (.inl 8, 0)), (2, .inl (.inl x2)), (3, .inl (.inl x3)), (4, .inl (.inl x4)), (5, .inl (.inl x5)), (6, .inl (.inl x6)), (7, .inl (.inl x7))], [], σ)) rfl hg10 ?_
      exact yG_w [0, 1, 2, 3, 4, 5] rfl (t_X8_drift_b190 k49 hk49 σ x2 x3 x4 x5 x6 res h)
    | false =>
      rw [hg10] at h
      dsimp only [cond] at h
      refine yG_f (C' := (96, [(0, .inr (.inl 8, 0)), (2, .inl (.inl x2)), (3, .inl (.inl x3)), (4, .inl (.inl x4)), (5, .inl (.inl x5)), (6, .inl (.inl x6)), (7, .inl (.inl x7))], [], σ)) rfl hg10 ?_
      refine yG_n (n := 5) (C' := (105, [(0, .inr (.inl 8, 0)), (2, .inl (.inl x2)), (3, .inl (.inl x3)), (4, .inl (.inl x4)), (5, .inl (.inl x5)), (6, .inl (.inl x6)), (7, .inl (.inl x7))], [.inl (.inl 10), .inl (.inl (σ.1 2 77))], σ)) rfl ?_
      cases hg11 : ycP .ge (σ.1 2 77) 10 with
      | true =>
        rw [hg11] at h
        dsimp only [cond] at h
        refine yG_t (C' := (190, [(0, .inr (.inl 8, 0)), (2, .inl (.inl x2)), (3, .inl (.inl x3)), (4, .inl (.inl x4)), (5, .inl (.inl x5)), (6, .inl (.inl x6)), (7, .inl (.inl x7))], [], σ)) rfl hg11 ?_
        exact yG_w [0, 1, 2, 3, 4, 5] rfl (t_X8_drift_b190 k49 hk49 σ x2 x3 x4 x5 x6 res h)
      | false =>
        rw [hg11] at h
        dsimp only [cond] at h
        refine yG_f (C' := (108, [(0, .inr (.inl 8, 0)), (2, .inl (.inl x2)), (3, .inl (.inl x3)), (4, .inl (.inl x4)), (5, .inl (.inl x5)), (6, .inl (.inl x6)), (7, .inl (.inl x7))], [], σ)) rfl hg11 ?_
        refine yG_n (n := 7) (C' := (119, [(0, .inr (.inl 8, 0)), (2, .inl (.inl x2)), (3, .inl (.inl x3)), (4, .inl (.inl x4)), (5, .inl (.inl x5)), (6, .inl (.inl x6)), (7, .inl (.inl x7))], [.inl (.inl (ymu 4 (σ.1 2 77))), .inl (.inl 78)], σ)) rfl ?_
        refine yG_n (n := 1) (C' := (120, [(0, .inr (.inl 8, 0)), (2, .inl (.inl x2)), (3, .inl (.inl x3)), (4, .inl (.inl x4)), (5, .inl (.inl x5)), (6, .inl (.inl x6)), (7, .inl (.inl x7))], [.inl (.inl (yad 78 (ymu 4 (σ.1 2 77))))], σ)) rfl ?_
        refine yG_n (n := 5) (C' := (130, [(8, .inl (.inl (yad 78 (ymu 4 (σ.1 2 77))))), (0, .inr (.inl 8, 0)), (2, .inl (.inl x2)), (3, .inl (.inl x3)), (4, .inl (.inl x4)), (5, .inl (.inl x5)), (6, .inl (.inl x6)), (7, .inl (.inl x7))], [.inl (.inl x7), .inl (.inl (yad 78 (ymu 4 (σ.1 2 77)))), .inr (.inr (0, 131), 2)], σ)) rfl ?_
        cases hg12 : yin (yad 78 (ymu 4 (σ.1 2 77))) 131 with
        | false => rw [hg12] at h; dsimp only [cond] at h; cases h
        | true =>
          rw [hg12] at h
          dsimp only [cond] at h
          refine yG_t (C' := (131, [(8, .inl (.inl (yad 78 (ymu 4 (σ.1 2 77))))), (0, .inr (.inl 8, 0)), (2, .inl (.inl x2)), (3, .inl (.inl x3)), (4, .inl (.inl x4)), (5, .inl (.inl x5)), (6, .inl (.inl x6)), (7, .inl (.inl x7))], [], yw σ 2 (yad 78 (ymu 4 (σ.1 2 77))).toNat x7)) rfl hg12 ?_
          refine yG_n (n := 5) (C' := (139, [(8, .inl (.inl (yad 78 (ymu 4 (σ.1 2 77))))), (0, .inr (.inl 8, 0)), (2, .inl (.inl x2)), (3, .inl (.inl x3)), (4, .inl (.inl x4)), (5, .inl (.inl x5)), (6, .inl (.inl x6)), (7, .inl (.inl x7))], [.inl (.inl (yad (yad 78 (ymu 4 (σ.1 2 77))) 1)), .inr (.inr (0, 131), 2)], yw σ 2 (yad 78 (ymu 4 (σ.1 2 77))).toNat x7)) rfl ?_
          refine yG_n (n := 5) (C' := (148, [(8, .inl (.inl (yad 78 (ymu 4 (σ.1 2 77))))), (0, .inr (.inl 8, 0)), (2, .inl (.inl x2)), (3, .inl (.inl x3)), (4, .inl (.inl x4)), (5, .inl (.inl x5)), (6, .inl (.inl x6)), (7, .inl (.inl x7))], [.inl (.inl (yad 21 x7)), .inr (.inr (0, 131), 2), .inl (.inl (yad (yad 78 (ymu 4 (σ.1 2 77))) 1)), .inr (.inr (0, 131), 2)], yw σ 2 (yad 78 (ymu 4 (σ.1 2 77))).toNat x7)) rfl ?_
          exact yG_w [1, 2, 3, 4, 5, 6, 7, 0] rfl (t_X8_drift_b148 k49 hk49 (yw σ 2 (yad 78 (ymu 4 (σ.1 2 77))).toNat x7) x2 x3 x4 x5 x6 x7 (yad 78 (ymu 4 (σ.1 2 77))) (yad 21 x7) (yad (yad 78 (ymu 4 (σ.1 2 77))) 1) res h)
set_option maxRecDepth 100000 in
set_option maxHeartbeats 4000000 in
theorem t_X8_drift_b67 {N : Nat} {X : zXT} {sh : List yH} {l : Launch} {rm : Room} (k49 : yS → Int → Int → Int → Int → Int → Option (Int × yS)) (hk49 : ∀ (σ : yS) (x2 : Int) (x3 : Int) (x4 : Int) (x5 : Int) (x6 : Int) (res : Int × yS), k49 σ x2 x3 x4 x5 x6 = some res → G_X8_drift N X sh l rm (49, [(0, .inr (.inl 8, 0)), (2, .inl (.inl x2)), (3, .inl (.inl x3)), (4, .inl (.inl x4)), (5, .inl (.inl x5)), (6, .inl (.inl x6))], [], σ) (some (.inl (.inl res.1)), res.2)) (σ : yS) (x2 : Int) (x3 : Int) (x4 : Int) (x5 : Int) (x6 : Int) (res : Int × yS) (h : f_X8_drift_b67 N k49 σ x2 x3 x4 x5 x6 = some res) : G_X8_drift N X sh l rm (67, [(0, .inr (.inl 8, 0)), (2, .inl (.inl x2)), (3, .inl (.inl x3)), (4, .inl (.inl x4)), (5, .inl (.inl x5)), (6, .inl (.inl x6))], [], σ) (some (.inl (.inl res.1)), res.2) := by
  unfold f_X8_drift_b67 at h
  refine yG_n (n := 3) (C' := (72, [(0, .inr (.inl 8, 0)), (2, .inl (.inl x2)), (3, .inl (.inl x3)), (4, .inl (.inl x4)), (5, .inl (.inl x5)), (6, .inl (.inl x6))], [.inl (.inl (ysr x5 16))], σ)) rfl ?_
  refine yG_n (n := 2) (C' := (76, [(0, .inr (.inl 8, 0)), (2, .inl (.inl x2)), (3, .inl (.inl x3)), (4, .inl (.inl x4)), (5, .inl (.inl x5)), (6, .inl (.inl x6))], [.inl (.inl (yan (ysr x5 16) 32767))], σ)) rfl ?_
  refine yG_n (n := 2) (C' := (80, [(0, .inr (.inl 8, 0)), (2, .inl (.inl x2)), (3, .inl (.inl x3)), (4, .inl (.inl x4)), (5, .inl (.inl x5)), (6, .inl (.inl x6))], [.inl (.inl (σ.1 0 3)), .inl (.inl (yan (ysr x5 16) 32767))], σ)) rfl ?_
  cases hg13 : ynz (σ.1 0 3) with
  | false => rw [hg13] at h; dsimp only [cond] at h; cases h
  | true =>
    rw [hg13] at h
    dsimp only [cond] at h
    refine yG_t (C' := (81, [(0, .inr (.inl 8, 0)), (2, .inl (.inl x2)), (3, .inl (.inl x3)), (4, .inl (.inl x4)), (5, .inl (.inl x5)), (6, .inl (.inl x6))], [.inl (.inl (yrm (yan (ysr x5 16) 32767) (σ.1 0 3)))], σ)) rfl hg13 ?_
    refine yG_n (n := 1) (C' := (83, [(7, .inl (.inl (yrm (yan (ysr x5 16) 32767) (σ.1 0 3)))), (0, .inr (.inl 8, 0)), (2, .inl (.inl x2)), (3, .inl (.inl x3)), (4, .inl (.inl x4)), (5, .inl (.inl x5)), (6, .inl (.inl x6))], [], σ)) rfl ?_
    exact yG_w [1, 2, 3, 4, 5, 6, 0] rfl (t_X8_drift_b83 k49 hk49 σ x2 x3 x4 x5 x6 (yrm (yan (ysr x5 16) 32767) (σ.1 0 3)) res h)
set_option maxRecDepth 100000 in
set_option maxHeartbeats 4000000 in
theorem t_X8_drift_b49 {N : Nat} {X : zXT} {sh : List yH} {l : Launch} {rm : Room} : ∀ (n : Nat) (σ : yS) (x2 : Int) (x3 : Int) (x4 : Int) (x5 : Int) (x6 : Int) (res : Int × yS), f_X8_drift_b49 N n σ x2 x3 x4 x5 x6 = some res → G_X8_drift N X sh l rm (49, [(0, .inr (.inl 8, 0)), (2, .inl (.inl x2)), (3, .inl (.inl x3)), (4, .inl (.inl x4)), (5, .inl (.inl x5)), (6, .inl (.inl x6))], [], σ) (some (.inl (.inl res.1)), res.2) := by
  intro n
  induction n with
  | zero => intro σ x2 x3 x4 x5 x6 res h; exact (yno h).elim
  | succ n ih =>
    intro σ x2 x3 x4 x5 x6 res h
    rw [q_X8_drift_b49] at h
    refine yG_n (n := 2) (C' := (52, [(0, .inr (.inl 8, 0)), (2, .inl (.inl x2)), (3, .inl (.inl x3)), (4, .inl (.inl x4)), (5, .inl (.inl x5)), (6, .inl (.inl x6))], [.inl (.inl x2), .inl (.inl x6)], σ)) rfl ?_
    cases hg14 : ycP .ge x6 x2 with
    | true =>
      rw [hg14] at h
      dsimp only [cond] at h
      refine yG_t (C' := (200, [(0, .inr (.inl 8, 0)), (2, .inl (.inl x2)), (3, .inl (.inl x3)), (4, .inl (.inl x4)), (5, .inl (.inl x5)), (6, .inl (.inl x6))], [], σ)) rfl hg14 ?_
      refine yG_n (n := 1) (C' := (201, [(0, .inr (.inl 8, 0)), (2, .inl (.inl x2)), (3, .inl (.inl x3)), (4, .inl (.inl x4)), (5, .inl (.inl x5)), (6, .inl (.inl x6))], [.inl (.inl x3)], σ)) rfl ?_
      cases hg15 : ycP .ne x3 0 with
      | true =>
        rw [hg15] at h
        dsimp only [cond] at h
        refine yG_t (C' := (211, [(0, .inr (.inl 8, 0)), (2, .inl (.inl x2)), (3, .inl (.inl x3)), (4, .inl (.inl x4)), (5, .inl (.inl x5)), (6, .inl (.inl x6))], [], σ)) rfl hg15 ?_
        refine yG_n (n := 6) (C' := (222, [(0, .inr (.inl 8, 0)), (2, .inl (.inl x2)), (3, .inl (.inl x3)), (4, .inl (.inl x4)), (5, .inl (.inl x5)), (6, .inl (.inl x6))], [.inl (.inl (ysu (σ.1 2 130) x4))], σ)) rfl ?_
        exact yG_w [] rfl (t_X8_drift_b222 σ (ysu (σ.1 2 130) x4) res h)
      | false =>
        rw [hg15] at h
        dsimp only [cond] at h
        refine yG_f (C' := (204, [(0, .inr (.inl 8, 0)), (2, .inl (.inl x2)), (3, .inl (.inl x3)), (4, .inl (.inl x4)), (5, .inl (.inl x5)), (6, .inl (.inl x6))], [], σ)) rfl hg15 ?_
        refine yG_n (n := 3) (C' := (222, [(0, .inr (.inl 8, 0)), (2, .inl (.inl x2)), (3, .inl (.inl x3)), (4, .inl (.inl x4)), (5, .inl (.inl x5)), (6, .inl (.inl x6))], [.inl (.inl (σ.1 0 26))], σ)) rfl ?_
        exact yG_w [] rfl (t_X8_drift_b222 σ (σ.1 0 26) res h)
    | false =>
      rw [hg14] at h
      dsimp only [cond] at h
      refine yG_f (C' := (55, [(0, .inr (.inl 8, 0)), (2, .inl (.inl x2)), (3, .inl (.inl x3)), (4, .inl (.inl x4)), (5, .inl (.inl x5)), (6, .inl (.inl x6))], [], σ)) rfl hg14 ?_
      refine yG_n (n := 3) (C' := (61, [(0, .inr (.inl 8, 0)), (2, .inl (.inl x2)), (3, .inl (.inl x3)), (4, .inl (.inl x4)), (5, .inl (.inl x5)), (6, .inl (.inl x6))], [.inl (.inl (ymu x5 1103515245))], σ)) rfl ?_
      refine yG_n (n := 2) (C' := (65, [(0, .inr (.inl 8, 0)), (2, .inl (.inl x2)), (3, .inl (.inl x3)), (4, .inl (.inl x4)), (5, .inl (.inl x5)), (6, .inl (.inl x6))], [.inl (.inl (yad (ymu x5 1103515245) 12345))], σ)) rfl ?_
      refine yG_n (n := 1) (C' := (67, [(5, .inl (.inl (yad (ymu x5 1103515245) 12345))), (0, .inr (.inl 8, 0)), (2, .inl (.inl x2)), (3, .inl (.inl x3)), (4, .inl (.inl x4)), (6, .inl (.inl x6))], [], σ)) rfl ?_
      exact yG_w [1, 2, 3, 4, 0, 5] rfl (t_X8_drift_b67 (f_X8_drift_b49 N n) ih σ x2 x3 x4 (yad (ymu x5 1103515245) 12345) x6 res h)
set_option maxRecDepth 100000 in
set_option maxHeartbeats 4000000 in
theorem t_X8_drift_b40 {N : Nat} {X : zXT} {sh : List yH} {l : Launch} {rm : Room} (σ : yS) (x1 : Int) (x2 : Int) (x3 : Int) (s0 : Int) (res : Int × yS) (h : f_X8_drift_b40 N σ x1 x2 x3 s0 = some res) : G_X8_drift N X sh l rm (40, [(0, .inr (.inl 8, 0)), (1, .inl (.inl x1)), (2, .inl (.inl x2)), (3, .inl (.inl x3))], [.inl (.inl s0), .inr (.inr (0, 131), 2)], σ) (some (.inl (.inl res.1)), res.2) := by
  unfold f_X8_drift_b40 at h
  cases hg16 : yin s0 131 with
  | false => rw [hg16] at h; dsimp only [cond] at h; cases h
  | true =>
    rw [hg16] at h
    dsimp only [cond] at h
    refine yG_t (C' := (41, [(0, .inr (.inl 8, 0)), (1, .inl (.inl x1)), (2, .inl (.inl x2)), (3, .inl (.inl x3))], [.inl (.inl (σ.1 2 s0.toNat))], σ)) rfl hg16 ?_
    refine yG_n (n := 5) (C' := (49, [(6, .inl (.inl 0)), (5, .inl (.inl x1)), (4, .inl (.inl (σ.1 2 s0.toNat))), (0, .inr (.inl 8, 0)), (1, .inl (.inl x1)), (2, .inl (.inl x2)), (3, .inl (.inl x3))], [], σ)) rfl ?_
    exact yG_w [3, 5, 6, 2, 1, 0] rfl (t_X8_drift_b49 N σ x2 x3 (σ.1 2 s0.toNat) x1 0 res h)
set_option maxRecDepth 100000 in
set_option maxHeartbeats 4000000 in
theorem t_X8_drift {N : Nat} {X : zXT} {sh : List yH} {l : Launch} {rm : Room} (σ : yS) (x1 : Int) (x2 : Int) (x3 : Int) (res : Int × yS) (h : f_X8_drift N σ x1 x2 x3 = some res) : G_X8_drift N X sh l rm (0, [(0, .inr (.inl 8, 0)), (1, .inl (.inl x1)), (2, .inl (.inl x2)), (3, .inl (.inl x3))], [], σ) (some (.inl (.inl res.1)), res.2) := by
  unfold f_X8_drift at h
  refine yG_n (n := 4) (C' := (6, [(0, .inr (.inl 8, 0)), (1, .inl (.inl x1)), (2, .inl (.inl x2)), (3, .inl (.inl x3))], [.inl (.inr 60), .inl (.inr 1), .inl (.inr x2)], σ)) rfl ?_
  cases hr17 : f_X8_in N σ x2 1 60 with
  | none => rw [hr17] at h; dsimp only at h; cases h
  | some r1 =>
    rw [hr17] at h
    dsimp only at h
    refine yG_c (C1 := (9, [(0, .inr (.inl 8, 0)), (1, .inl (.inl x1)), (2, .inl (.inl x2)), (3, .inl (.inl x3))], [.inl (.inl r1.1)], r1.2)) rfl (e_X8_in hr17) rfl ?_
    cases hg18 : ycP .eq r1.1 0 with
    | true =>
      rw [hg18] at h
      dsimp only [cond] at h
      refine yG_t (C' := (22, [(0, .inr (.inl 8, 0)), (1, .inl (.inl x1)), (2, .inl (.inl x2)), (3, .inl (.inl x3))], [], r1.2)) rfl hg18 ?_
      exact yG_w [] rfl (t_X8_drift_b22 r1.2 res h)
    | false =>
      rw [hg18] at h
      dsimp only [cond] at h
      refine yG_f (C' := (12, [(0, .inr (.inl 8, 0)), (1, .inl (.inl x1)), (2, .inl (.inl x2)), (3, .inl (.inl x3))], [], r1.2)) rfl hg18 ?_
      refine yG_n (n := 4) (C' := (16, [(0, .inr (.inl 8, 0)), (1, .inl (.inl x1)), (2, .inl (.inl x2)), (3, .inl (.inl x3))], [.inl (.inr 1), .inl (.inr 0), .inl (.inr x3)], r1.2)) rfl ?_
      cases hr19 : f_X8_in N r1.2 x3 0 1 with
      | none => rw [hr19] at h; dsimp only at h; cases h
      | some r2 =>
        rw [hr19] at h
        dsimp only at h
        refine yG_c (C1 := (19, [(0, .inr (.inl 8, 0)), (1, .inl (.inl x1)), (2, .inl (.inl x2)), (3, .inl (.inl x3))], [.inl (.inl r2.1)], r2.2)) rfl (e_X8_in hr19) rfl ?_
        cases hg20 : ycP .ne r2.1 0 with
        | true =>
          rw [hg20] at h
          dsimp only [cond] at h
          refine yG_t (C' := (24, [(0, .inr (.inl 8, 0)), (1, .inl (.inl x1)), (2, .inl (.inl x2)), (3, .inl (.inl x3))], [], r2.2)) rfl hg20 ?_
          refine yG_n (n := 1) (C' := (25, [(0, .inr (.inl 8, 0)), (1, .inl (.inl x1)), (2, .inl (.inl x2)), (3, .inl (.inl x3))], [.inr (.inl 8, 0)], r2.2)) rfl ?_
          cases hr21 : f_X8_starts N r2.2 with
          | none => rw [hr21] at h; dsimp only at h; cases h
          | some r3 =>
            rw [hr21] at h
            dsimp only at h
            refine yG_c (C1 := (28, [(0, .inr (.inl 8, 0)), (1, .inl (.inl x1)), (2, .inl (.inl x2)), (3, .inl (.inl x3))], [], r3.2)) rfl (e_X8_starts hr21) rfl ?_
            refine yG_n (n := 6) (C' := (40, [(0, .inr (.inl 8, 0)), (1, .inl (.inl x1)), (2, .inl (.inl x2)), (3, .inl (.inl x3))], [.inl (.inl 130), .inr (.inr (0, 131), 2)], yw r3.2 0 26 0)) rfl ?_
            exact t_X8_drift_b40 (yw r3.2 0 26 0) x1 x2 x3 130 res h
        | false =>
          rw [hg20] at h
          dsimp only [cond] at h
          refine yG_f (C' := (22, [(0, .inr (.inl 8, 0)), (1, .inl (.inl x1)), (2, .inl (.inl x2)), (3, .inl (.inl x3))], [], r2.2)) rfl hg20 ?_
          exact yG_w [] rfl (t_X8_drift_b22 r2.2 res h)
set_option maxRecDepth 100000 in
set_option maxHeartbeats 4000000 in
theorem m_X8_drift {N : Nat} {X : zXT} (hX : zXok X) (hN : zXn X) (l : Launch) {sh : List yH} : yMet X vwCl yct sh l yX8_drift wsX8_drift { frames := 5, cells := 0, slots := 0, locals := 155 } (F_X8_drift N) :=
  ymeth (tb := tb_X8_drift N) (pr := pr_X8_drift) (rt := 1) (own := RX8) hX (by decide +kernel) rfl rfl ⟨Nat.le_of_ble_eq_true rfl, Nat.le_of_ble_eq_true rfl⟩
    (zfl_all (List.forall_mem_cons.mpr ⟨zfl_X8 (fun w h => List.mem_cons_of_mem _ (List.mem_append_right _ h)) (List.mem_of_getElem? (i := 3) rfl) (by decide) (by decide), List.forall_mem_cons.mpr ⟨zfl_X8 (fun w h => List.mem_cons_of_mem _ (List.mem_append_right _ h)) (List.mem_of_getElem? (i := 5) rfl) (by decide) (by decide), List.forall_mem_cons.mpr ⟨zfl_X8 (fun w h => List.mem_cons_of_mem _ (List.mem_append_right _ h)) (List.mem_of_getElem? (i := 2) rfl) (by decide) (by decide), fun _ h => absurd h List.not_mem_nil⟩⟩⟩))
    (zco_all (List.forall_mem_cons.mpr ⟨(List.mem_of_getElem? (i := 4) rfl), fun _ h => absurd h List.not_mem_nil⟩)) (zlc_all (List.forall_mem_cons.mpr ⟨(List.mem_of_getElem? (i := 1) rfl), fun _ h => absurd h List.not_mem_nil⟩))
    (List.forall_mem_cons.mpr ⟨ycal_V hX (m_X8_days hX hN l) rfl (fun s args hts => cwV 0 hts gX8_drift_X8_days rfl rfl rfl (by decide +kernel) ⟨Nat.le_of_ble_eq_true rfl, Nat.le_of_ble_eq_true rfl⟩), List.forall_mem_cons.mpr ⟨ycal_V hX (m_X8_starts hX hN l) rfl (fun s args hts => cwV 0 hts gX8_drift_X8_starts rfl rfl rfl (by decide +kernel) ⟨Nat.le_of_ble_eq_true rfl, Nat.le_of_ble_eq_true rfl⟩), fun _ h => absurd h List.not_mem_nil⟩⟩)
    (List.forall_mem_cons.mpr ⟨ycal_S hX (m_X8_in hX hN l) (fun s args hts => va_cwS 3 hts gX8_drift_X8_in rfl rfl rfl (by decide +kernel) ⟨Nat.le_of_ble_eq_true rfl, Nat.le_of_ble_eq_true rfl⟩), fun _ h => absurd h List.not_mem_nil⟩)
    (zmm_all (fun _ h => absurd h List.not_mem_nil)) (fun _ h => absurd h List.not_mem_nil) (zpr_all hp_X8_drift) (fun as σ res h => by
      unfold F_X8_drift at h
      split at h
      · rename_i x1 x2 x3
        cases hr : f_X8_drift N σ x1 x2 x3 with
        | none => rw [hr] at h; cases h
        | some r =>
          rw [hr] at h
          cases h
          exact ⟨Nat.le_of_ble_eq_true rfl, t_X8_drift σ x1 x2 x3 r hr⟩
      · cases h)
