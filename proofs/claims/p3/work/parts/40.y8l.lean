noncomputable def pr_X8_ways : List (Nat × Instr × Nat) := [(0, .aload_n 0, 1), (1, .iload_n 1, 1), (2, .invokevirtual 205, 3), (5, .ifCond .eq 21, 3), (8, .aload_n 0, 1), (9, .iload_n 2, 1), (10, .invokevirtual 209, 3), (13, .ifCond .eq 13, 3), (16, .iload_n 3, 1), (17, .i2l, 1), (18, .lconst 0, 1), (19, .lconst 1, 1), (20, .invokestatic 90, 3), (23, .ifCond .ne 5, 3), (26, .iconst (-1), 1), (27, .ireturn, 1), (28, .iconst 0, 1), (29, .istore 4, 2), (31, .bipush (-4), 2), (33, .istore 5, 2), (35, .iconst 0, 1), (36, .istore 6, 2), (38, .iload 6, 2), (40, .aload_n 0, 1), (41, .getfield 79, 3), (44, .if_icmp .ge 87, 3), (47, .iconst 0, 1), (48, .istore 7, 2), (50, .iload 7, 2), (52, .iconst 5, 1), (53, .if_icmp .ge 72, 3), (56, .iconst 0, 1), (57, .istore 8, 2), (59, .iload 8, 2), (61, .iconst 3, 1), (62, .if_icmp .gt 57, 3), (65, .aload_n 0, 1), (66, .iload 6, 2), (68, .iload 7, 2), (70, .iload 8, 2), (72, .iload_n 1, 1), (73, .iload_n 2, 1), (74, .invokevirtual 282, 3), (77, .ifCond .eq 36, 3), (80, .iload 4, 2), (82, .ifCond .ne 24, 3), (85, .bipush 100, 2), (87, .iload 6, 2), (89, .imul, 1), (90, .bipush 20, 2), (92, .iload 7, 2), (94, .imul, 1), (95, .iadd, 1), (96, .iconst 5, 1), (97, .iload 8, 2), (99, .imul, 1), (100, .iadd, 1), (101, .iload_n 2, 1), (102, .iadd, 1), (103, .goto 5, 3), (106, .iload 5, 2), (108, .istore 5, 2), (110, .iinc 4 1, 3), (113, .iinc 8 1, 3), (116, .goto (-57), 3), (119, .iinc 7 1, 3), (122, .goto (-72), 3), (125, .iinc 6 1, 3), (128, .goto (-90), 3), (131, .iload_n 3, 1), (132, .ifCond .ne 8, 3), (135, .iload 4, 2), (137, .goto 5, 3), (140, .iload 5, 2), (142, .ireturn, 1)]
set_option maxRecDepth 100000 in
theorem hp_X8_ways : pr_X8_ways.all (fun x => decide (decode cX8_ways x.1 = .ok x.2)) = true := by decide +kernel
noncomputable def f_X8_ways_b26 (N : Nat) (σ : yS) : Option (Int × yS) :=
  some ((-1), σ)
noncomputable def f_X8_ways_b142 (N : Nat) (σ : yS) (s0 : Int) : Option (Int × yS) :=
  some (s0, σ)
noncomputable def f_X8_ways_b113 (N : Nat) (k38 : yS → Int → Int → Int → Int → Int → Int → Option (Int × yS)) (k50 : yS → Int → Int → Int → Int → Int → Int → Int → Option (Int × yS)) (k59 : yS → Int → Int → Int → Int → Int → Int → Int → Int → Option (Int × yS)) (σ : yS) (x1 : Int) (x2 : Int) (x3 : Int) (x4 : Int) (x5 : Int) (x6 : Int) (x7 : Int) (x8 : Int) : Option (Int × yS) :=
  k59 σ x1 x2 x3 x4 x5 x6 x7 (yad x8 1)
noncomputable def f_X8_ways_b108 (N : Nat) (k38 : yS → Int → Int → Int → Int → Int → Int → Option (Int × yS)) (k50 : yS → Int → Int → Int → Int → Int → Int → Int → Option (Int × yS)) (k59 : yS → Int → Int → Int → Int → Int → Int → Int → Int → Option (Int × yS)) (σ : yS) (x1 : Int) (x2 : Int) (x3 : Int) (x4 : Int) (x6 : Int) (x7 : Int) (x8 : Int) (s0 : Int) : Option (Int × yS) :=
  f_X8_ways_b113 N k38 k50 k59 σ x1 x2 x3 (yad x4 1) s0 x6 x7 x8
noncomputable def f_X8_ways_b59 (N : Nat) (k38 : yS → Int → Int → Int → Int → Int → Int → Option (Int × yS)) (k50 : yS → Int → Int → Int → Int → Int → Int → Int → Option (Int × yS)) : Nat → yS → Int → Int → Int → Int → Int → Int → Int → Int → Option (Int × yS) := yfix (fun _ _ _ _ _ _ _ _ _ => none) (fun ih σ x1 x2 x3 x4 x5 x6 x7 x8 =>
    bif ycP .gt x8 3 then
      k50 σ x1 x2 x3 x4 x5 x6 (yad x7 1)
    else
      match f_X8_doesBring N σ x6 x7 x8 x1 x2 with
      | none => none
      | some r4 => bif ycP .eq r4.1 0 then
          f_X8_ways_b113 N k38 k50 ih r4.2 x1 x2 x3 x4 x5 x6 x7 x8
        else
          bif ycP .ne x4 0 then
            f_X8_ways_b108 N k38 k50 ih r4.2 x1 x2 x3 x4 x6 x7 x8 x5
          else
            f_X8_ways_b108 N k38 k50 ih r4.2 x1 x2 x3 x4 x6 x7 x8 (yad (yad (yad (ymu 100 x6) (ymu 20 x7)) (ymu 5 x8)) x2))
theorem q_X8_ways_b59 (N : Nat) (k38 : yS → Int → Int → Int → Int → Int → Int → Option (Int × yS)) (k50 : yS → Int → Int → Int → Int → Int → Int → Int → Option (Int × yS)) (n : Nat) (σ : yS) (x1 : Int) (x2 : Int) (x3 : Int) (x4 : Int) (x5 : Int) (x6 : Int) (x7 : Int) (x8 : Int) : f_X8_ways_b59 N k38 k50 (n + 1) σ x1 x2 x3 x4 x5 x6 x7 x8 =
    (bif ycP .gt x8 3 then
      k50 σ x1 x2 x3 x4 x5 x6 (yad x7 1)
    else
      match f_X8_doesBring N σ x6 x7 x8 x1 x2 with
      | none => none
      | some r4 => bif ycP .eq r4.1 0 then
          f_X8_ways_b113 N k38 k50 (f_X8_ways_b59 N k38 k50 n) r4.2 x1 x2 x3 x4 x5 x6 x7 x8
        else
          bif ycP .ne x4 0 then
            f_X8_ways_b108 N k38 k50 (f_X8_ways_b59 N k38 k50 n) r4.2 x1 x2 x3 x4 x6 x7 x8 x5
          else
            f_X8_ways_b108 N k38 k50 (f_X8_ways_b59 N k38 k50 n) r4.2 x1 x2 x3 x4 x6 x7 x8 (yad (yad (yad (ymu 100 x6) (ymu 20 x7)) (ymu 5 x8)) x2)) := rfl
noncomputable def f_X8_ways_b50 (N : Nat) (k38 : yS → Int → Int → Int → Int → Int → Int → Option (Int × yS)) : Nat → yS → Int → Int → Int → Int → Int → Int → Int → Option (Int × yS) := yfix (fun _ _ _ _ _ _ _ _ => none) (fun ih σ x1 x2 x3 x4 x5 x6 x7 =>
    bif ycP .ge x7 5 then
      k38 σ x1 x2 x3 x4 x5 (yad x6 1)
    else
      f_X8_ways_b59 N k38 ih N σ x1 x2 x3 x4 x5 x6 x7 0)
theorem q_X8_ways_b50 (N : Nat) (k38 : yS → Int → Int → Int → Int → Int → Int → Option (Int × yS)) (n : Nat) (σ : yS) (x1 : Int) (x2 : Int) (x3 : Int) (x4 : Int) (x5 : Int) (x6 : Int) (x7 : Int) : f_X8_ways_b50 N k38 (n + 1) σ x1 x2 x3 x4 x5 x6 x7 =
    (bif ycP .ge x7 5 then
      k38 σ x1 x2 x3 x4 x5 (yad x6 1)
    else
      f_X8_ways_b59 N k38 (f_X8_ways_b50 N k38 n) N σ x1 x2 x3 x4 x5 x6 x7 0) := rfl
noncomputable def f_X8_ways_b38 (N : Nat) : Nat → yS → Int → Int → Int → Int → Int → Int → Option (Int × yS) := yfix (fun _ _ _ _ _ _ _ => none) (fun ih σ x1 x2 x3 x4 x5 x6 =>
    bif ycP .ge x6 (σ.1 0 3) then
      bif ycP .ne x3 0 then
        f_X8_ways_b142 N σ x5
      else
        f_X8_ways_b142 N σ x4
    else
      f_X8_ways_b50 N ih N σ x1 x2 x3 x4 x5 x6 0)
theorem q_X8_ways_b38 (N : Nat) (n : Nat) (σ : yS) (x1 : Int) (x2 : Int) (x3 : Int) (x4 : Int) (x5 : Int) (x6 : Int) : f_X8_ways_b38 N (n + 1) σ x1 x2 x3 x4 x5 x6 =
    (bif ycP .ge x6 (σ.1 0 3) then
      bif ycP .ne x3 0 then
        f_X8_ways_b142 N σ x5
      else
        f_X8_ways_b142 N σ x4
    else
      f_X8_ways_b50 N (f_X8_ways_b38 N n) N σ x1 x2 x3 x4 x5 x6 0) := rfl
noncomputable def f_X8_ways (N : Nat) (σ : yS) (x1 : Int) (x2 : Int) (x3 : Int) : Option (Int × yS) :=
  match f_X8_isHouse N σ x1 with
  | none => none
  | some r1 => bif ycP .eq r1.1 0 then
      f_X8_ways_b26 N r1.2
    else
      match f_X8_isDeed N r1.2 x2 with
      | none => none
      | some r2 => bif ycP .eq r2.1 0 then
          f_X8_ways_b26 N r2.2
        else
          match f_X8_in N r2.2 x3 0 1 with
          | none => none
          | some r3 => bif ycP .ne r3.1 0 then
              f_X8_ways_b38 N N r3.2 x1 x2 x3 0 ((-4)) 0
            else
              f_X8_ways_b26 N r3.2
noncomputable def F_X8_ways (N : Nat) : yF := fun as σ => match as with
  | [.inr (.inl 8, 0), .inl (.inl x1), .inl (.inl x2), .inl (.inl x3)] => (f_X8_ways N σ x1 x2 x3).map (fun r => (some (.inl (.inl r.1)), r.2))
  | _ => none
theorem e_X8_ways {N : Nat} {σ : yS} {x1 : Int} {x2 : Int} {x3 : Int} {r : Int × yS} (h : f_X8_ways N σ x1 x2 x3 = some r) : F_X8_ways N [.inr (.inl 8, 0), .inl (.inl x1), .inl (.inl x2), .inl (.inl x3)] σ = some (some (.inl (.inl r.1)), r.2) := by
  show (f_X8_ways N σ x1 x2 x3).map (fun r => ((some (.inl (.inl r.1)), r.2) : yR)) = _
  rw [h]
  rfl
noncomputable def tb_X8_ways (N : Nat) : yTb := ([(79, 8, 3, 0)], [], [], [(205, 2, 8, F_X8_isHouse N), (209, 2, 8, F_X8_isDeed N), (282, 6, 8, F_X8_doesBring N)], [(90, 3, F_X8_in N)], [], [])
abbrev G_X8_ways (N : Nat) (X : zXT) (sh : List yH) (l : Launch) (rm : Room) : yC → yR → Prop := yGoes X vwCl yct sh l rm cX8_ways 9 wsX8_ways RX8 (tb_X8_ways N) pr_X8_ways 1
set_option maxRecDepth 100000 in
set_option maxHeartbeats 4000000 in
theorem t_X8_ways_b26 {N : Nat} {X : zXT} {sh : List yH} {l : Launch} {rm : Room} (σ : yS) (res : Int × yS) (h : f_X8_ways_b26 N σ = some res) : G_X8_ways N X sh l rm (26, [], [], σ) (some (.inl (.inl res.1)), res.2) := by
  unfold f_X8_ways_b26 at h
  refine yG_n (n := 1) (C' := (27, [], [.inl (.inl ((-1)))], σ)) rfl ?_
  have h := Option.some.inj h
  subst h
  dsimp only
  exact yG_r rfl rfl
set_option maxRecDepth 100000 in
set_option maxHeartbeats 4000000 in
theorem t_X8_ways_b142 {N : Nat} {X : zXT} {sh : List yH} {l : Launch} {rm : Room} (σ : yS) (s0 : Int) (res : Int × yS) (h : f_X8_ways_b142 N σ s0 = some res) : G_X8_ways N X sh l rm (142, [], [.inl (.inl s0)], σ) (some (.inl (.inl res.1)), res.2) := by
  unfold f_X8_ways_b142 at h
  have h := Option.some.inj h
  subst h
  dsimp only
  exact yG_r rfl rfl
set_option maxRecDepth 100000 in
set_option maxHeartbeats 4000000 in
theorem t_X8_ways_b113 {N : Nat} {X : zXT} {sh : List yH} {l : Launch} {rm : Room} (k38 : yS → Int → Int → Int → Int → Int → Int → Option (Int × yS)) (hk38 : ∀ (σ : yS) (x1 : Int) (x2 : Int) (x3 : Int) (x4 : Int) (x5 : Int) (x6 : Int) (res : Int × yS), k38 σ x1 x2 x3 x4 x5 x6 = some res → G_X8_ways N X sh l rm (38, [(0, .inr (.inl 8, 0)), (1, .inl (.inl x1)), (2, .inl (.inl x2)), (3, .inl (.inl x3)), (4, .inl (.inl x4)), (5, .inl (.inl x5)), (6, .inl (.inl x6))], [], σ) (some (.inl (.inl res.1)), res.2)) (k50 : yS → Int → Int → Int → Int → Int → Int → Int → Option (Int × yS)) (hk50 : ∀ (σ : yS) (x1 : Int) (x2 : Int) (x3 : Int) (x4 : Int) (x5 : Int) (x6 : Int) (x7 : Int) (res : Int × yS), k50 σ x1 x2 x3 x4 x5 x6 x7 = some res → G_X8_ways N X sh l rm (50, [(0, .inr (.inl 8, 0)), (1, .inl (.inl x1)), (2, .inl (.inl x2)), (3, .inl (.inl x3)), (4, .inl (.inl x4)), (5, .inl (.inl x5)), (6, .inl (.inl x6)), (7, .inl (.inl x7))], [], σ) (some (.inl (.inl res.1)), res.2)) (k59 : yS → Int → Int → Int → Int → Int → Int → Int → Int → Option (Int × yS)) (hk59 : ∀ (σ : yS) (x1 : Int) (x2 : Int) (x3 : Int) (x4 : Int) (x5 : Int) (x6 : Int) (x7 : Int) (x8 : Int) (res : Int × yS), k59 σ x1 x2 x3 x4 x5 x6 x7 x8 = some res → G_X8_ways N X sh l rm (59, [(0, .inr (.inl 8, 0)), (1, .inl (.inl x1)), (2, .inl (.inl x2)), (3, .inl (.inl x3)), (4, .inl (.inl x4)), (5, .inl (.inl x5)), (6, .inl (.inl x6)), (7, .inl (.inl x7)), (8, .inl (.inl x8))], [], σ) (some (.inl (.inl res.1)), res.2)) (σ : yS) (x1 : Int) (x2 : Int) (x3 : Int) (x4 : Int) (x5 : Int) (x6 : Int) (x7 : Int) (x8 : Int) (res : Int × yS) (h : f_X8_ways_b113 N k38 k50 k59 σ x1 x2 x3 x4 x5 x6 x7 x8 = some res) : G_X8_ways N X sh l rm (113, [(0, .inr (.inl 8, 0)), (1, .inl (.inl x1)), (2, .inl (.inl x2)), (3, .inl (.inl x3)), (4, .inl (.inl x4)), (5, .inl (.inl x5)), (6, .inl (.inl x6)), (7, .inl (.inl x7)), (8, .inl (.inl x8))], [], σ) (some (.inl (.inl res.1)), res.2) := by
  unfold f_X8_ways_b113 at h
  refine yG_n (n := 2) (C' := (59, [(8, .inl (.inl (yad x8 1))), (0, .inr (.inl 8, 0)), (1, .inl (.inl x1)), (2, .inl (.inl x2)), (3, .inl (.inl x3)), (4, .inl (.inl x4)), (5, .inl (.inl x5)), (6, .inl (.inl x6)), (7, .inl (.inl x7))], [], σ)) rfl ?_
  exact yG_w [1, 2, 3, 4, 5, 6, 7, 8, 0] rfl (hk59 σ x1 x2 x3 x4 x5 x6 x7 (yad x8 1) res h)
set_option maxRecDepth 100000 in
set_option maxHeartbeats 4000000 in
theorem t_X8_ways_b108 {N : Nat} {X : zXT} {sh : List yH} {l : Launch} {rm : Room} (k38 : yS → Int → Int → Int → Int → Int → Int → Option (Int × yS)) (hk38 : ∀ (σ : yS) (x1 : Int) (x2 : Int) (x3 : Int) (x4 : Int) (x5 : Int) (x6 : Int) (res : Int × yS), k38 σ x1 x2 x3 x4 x5 x6 = some res → G_X8_ways N X sh l rm (38, [(0, .inr (.inl 8, 0)), (1, .inl (.inl x1)), (2, .inl (.inl x2)), (3, .inl (.inl x3)), (4, .inl (.inl x4)), (5, .inl (.inl x5)), (6, .inl (.inl x6))], [], σ) (some (.inl (.inl res.1)), res.2)) (k50 : yS → Int → Int → Int → Int → Int → Int → Int → Option (Int × yS)) (hk50 : ∀ (σ : yS) (x1 : Int) (x2 : Int) (x3 : Int) (x4 : Int) (x5 : Int) (x6 : Int) (x7 : Int) (res : Int × yS), k50 σ x1 x2 x3 x4 x5 x6 x7 = some res → G_X8_ways N X sh l rm (50, [(0, .inr (.inl 8, 0)), (1, .inl (.inl x1)), (2, .inl (.inl x2)), (3, .inl (.inl x3)), (4, .inl (.inl x4)), (5, .inl (.inl x5)), (6, .inl (.inl x6)), (7, .inl (.inl x7))], [], σ) (some (.inl (.inl res.1)), res.2)) (k59 : yS → Int → Int → Int → Int → Int → Int → Int → Int → Option (Int × yS)) (hk59 : ∀ (σ : yS) (x1 : Int) (x2 : Int) (x3 : Int) (x4 : Int) (x5 : Int) (x6 : Int) (x7 : Int) (x8 : Int) (res : Int × yS), k59 σ x1 x2 x3 x4 x5 x6 x7 x8 = some res → G_X8_ways N X sh l rm (59, [(0, .inr (.inl 8, 0)), (1, .inl (.inl x1)), (2, .inl (.inl x2)), (3, .inl (.inl x3)), (4, .inl (.inl x4)), (5, .inl (.inl x5)), (6, .inl (.inl x6)), (7, .inl (.inl x7)), (8, .inl (.inl x8))], [], σ) (some (.inl (.inl res.1)), res.2)) (σ : yS) (x1 : Int) (x2 : Int) (x3 : Int) (x4 : Int) (x6 : Int) (x7 : Int) (x8 : Int) (s0 : Int) (res : Int × yS) (h : f_X8_ways_b108 N k38 k50 k59 σ x1 x2 x3 x4 x6 x7 x8 s0 = some res) : G_X8_ways N X sh l rm (108, [(0, .inr (.inl 8, 0)), (1, .inl (.inl x1)), (2, .inl (.inl x2)), (3, .inl (.inl x3)), (4, .inl (.inl x4)), (6, .inl (.inl x6)), (7, .inl (.inl x7)), (8, .inl (.inl x8))], [.inl (.inl s0)], σ) (some (.inl (.inl res.1)), res.2) := by
  unfold f_X8_ways_b108 at h
  refine yG_n (n := 2) (C' := (113, [(4, .inl (.inl (yad x4 1))), (5, .inl (.inl s0)), (0, .inr (.inl 8, 0)), (1, .inl (.inl x1)), (2, .inl (.inl x2)), (3, .inl (.inl x3)), (6, .inl (.inl x6)), (7, .inl (.inl x7)), (8, .inl (.inl x8))], [], σ)) rfl ?_
  exact yG_w [2, 3, 4, 5, 0, 1, 6, 7, 8] rfl (t_X8_ways_b113 k38 hk38 k50 hk50 k59 hk59 σ x1 x2 x3 (yad x4 1) s0 x6 x7 x8 res h)
set_option maxRecDepth 100000 in
set_option maxHeartbeats 4000000 in
theorem t_X8_ways_b59 {N : Nat} {X : zXT} {sh : List yH} {l : Launch} {rm : Room} (k38 : yS → Int → Int → Int → Int → Int → Int → Option (Int × yS)) (hk38 : ∀ (σ : yS) (x1 : Int) (x2 : Int) (x3 : Int) (x4 : Int) (x5 : Int) (x6 : Int) (res : Int × yS), k38 σ x1 x2 x3 x4 x5 x6 = some res → G_X8_ways N X sh l rm (38, [(0, .inr (.inl 8, 0)), (1, .inl (.inl x1)), (2, .inl (.inl x2)), (3, .inl (.inl x3)), (4, .inl (.inl x4)), (5, .inl (.inl x5)), (6, .inl (.inl x6))], [], σ) (some (.inl (.inl res.1)), res.2)) (k50 : yS → Int → Int → Int → Int → Int → Int → Int → Option (Int × yS)) (hk50 : ∀ (σ : yS) (x1 : Int) (x2 : Int) (x3 : Int) (x4 : Int) (x5 : Int) (x6 : Int) (x7 : Int) (res : Int × yS), k50 σ x1 x2 x3 x4 x5 x6 x7 = some res → G_X8_ways N X sh l rm (50, [(0, .inr (.inl 8, 0)), (1, .inl (.inl x1)), (2, .inl (.inl x2)), (3, .inl (.inl x3)), (4, .inl (.inl x4)), (5, .inl (.inl x5)), (6, .inl (.inl x6)), (7, .inl (.inl x7))], [], σ) (some (.inl (.inl res.1)), res.2)) : ∀ (n : Nat) (σ : yS) (x1 : Int) (x2 : Int) (x3 : Int) (x4 : Int) (x5 : Int) (x6 : Int) (x7 : Int) (x8 : Int) (res : Int × yS), f_X8_ways_b59 N k38 k50 n σ x1 x2 x3 x4 x5 x6 x7 x8 = some res → G_X8_ways N X sh l rm (59, [(0, .inr (.inl 8, 0)), (1, .inl (.inl x1)), (2, .inl (.inl x2)), (3, .inl (.inl x3)), (4, .inl (.inl x4)), (5, .inl (.inl x5)), (6, .inl (.inl x6)), (7, .inl (.inl x7)), (8, .inl (.inl x8))], [], σ) (some (.inl (.inl res.1)), res.2) := by
  intro n
  induction n with
  | zero => intro σ x1 x2 x3 x4 x5 x6 x7 x8 res h; exact (yno h).elim
  | succ n ih =>
    intro σ x1 x2 x3 x4 x5 x6 x7 x8 res h
    rw [q_X8_ways_b59] at h
    refine yG_n (n := 2) (C' := (62, [(0, .inr (.inl 8, 0)), (1, .inl (.inl x1)), (2, .inl (.inl x2)), (3, .inl (.inl x3)), (4, .inl (.inl x4)), (5, .inl (.inl x5)), (6, .inl (.inl x6)), (7, .inl (.inl x7)), (8, .inl (.inl x8))], [.inl (.inl 3), .inl (.inl x8)], σ)) rfl ?_
    cases hg1 : ycP .gt x8 3 with
    | true =>
      rw [hg1] at h
      dsimp only [cond] at h
      refine yG_t (C' := (119, [(0, .inr (.inl 8, 0)), (1, .inl (.inl x1)), (2, .inl (.inl x2)), (3, .inl (.inl x3)), (4, .inl (.inl x4)), (5, .inl (.inl x5)), (6, .inl (.inl x6)), (7, .inl (.inl x7)), (8, .inl (.inl x8))], [], σ)) rfl hg1 ?_
      refine yG_n (n := 2) (C' := (50, [(7, .inl (.inl (yad x7 1))), (0, .inr (.inl 8, 0)), (1, .inl (.inl x1)), (2, .inl (.inl x2)), (3, .inl (.inl x3)), (4, .inl (.inl x4)), (5, .inl (.inl x5)), (6, .inl (.inl x6)), (8, .inl (.inl x8))], [], σ)) rfl ?_
      exact yG_w [1, 2, 3, 4, 5, 6, 7, 0] rfl (hk50 σ x1 x2 x3 x4 x5 x6 (yad x7 1) res h)
    | false =>
      rw [hg1] at h
      dsimp only [cond] at h
      refine yG_f (C' := (65, [(0, .inr (.inl 8, 0)), (1, .inl (.inl x1)), (2, .inl (.inl x2)), (3, .inl (.inl x3)), (4, .inl (.inl x4)), (5, .inl (.inl x5)), (6, .inl (.inl x6)), (7, .inl (.inl x7)), (8, .inl (.inl x8))], [], σ)) rfl hg1 ?_
      refine yG_n (n := 6) (C' := (74, [(0, .inr (.inl 8, 0)), (1, .inl (.inl x1)), (2, .inl (.inl x2)), (3, .inl (.inl x3)), (4, .inl (.inl x4)), (5, .inl (.inl x5)), (6, .inl (.inl x6)), (7, .inl (.inl x7)), (8, .inl (.inl x8))], [.inl (.inl x2), .inl (.inl x1), .inl (.inl x8), .inl (.inl x7), .inl (.inl x6), .inr (.inl 8, 0)], σ)) rfl ?_
      cases hr2 : f_X8_doesBring N σ x6 x7 x8 x1 x2 with
      | none => rw [hr2] at h; dsimp only at h; cases h
      | some r4 =>
        rw [hr2] at h
        dsimp only at h
        refine yG_c (C1 := (77, [(0, .inr (.inl 8, 0)), (1, .inl (.inl x1)), (2, .inl (.inl x2)), (3, .inl (.inl x3)), (4, .inl (.inl x4)), (5, .inl (.inl x5)), (6, .inl (.inl x6)), (7, .inl (.inl x7)), (8, .inl (.inl x8))], [.inl (.inl r4.1)], r4.2)) rfl (e_X8_doesBring hr2) rfl ?_
        cases hg3 : ycP .eq r4.1 0 with
        | true =>
          rw [hg3] at h
          dsimp only [cond] at h
          refine yG_t (C' := (113, [(0, .inr (.inl 8, 0)), (1, .inl (.inl x1)), (2, .inl (.inl x2)), (3, .inl (.inl x3)), (4, .inl (.inl x4)), (5, .inl (.inl x5)), (6, .inl (.inl x6)), (7, .inl (.inl x7)), (8, .inl (.inl x8))], [], r4.2)) rfl hg3 ?_
          exact t_X8_ways_b113 k38 hk38 k50 hk50 (f_X8_ways_b59 N k38 k50 n) ih r4.2 x1 x2 x3 x4 x5 x6 x7 x8 res h
        | false =>
          rw [hg3] at h
          dsimp only [cond] at h
          refine yG_f (C' := (80, [(0, .inr (.inl 8, 0)), (1, .inl (.inl x1)), (2, .inl (.inl x2)), (3, .inl (.inl x3)), (4, .inl (.inl x4)), (5, .inl (.inl x5)), (6, .inl (.inl x6)), (7, .inl (.inl x7)), (8, .inl (.inl x8))], [], r4.2)) rfl hg3 ?_
          refine yG_n (n := 1) (C' := (82, [(0, .inr (.inl 8, 0)), (1, .inl (.inl x1)), (2, .inl (.inl x2)), (3, .inl (.inl x3)), (4, .inl (.inl x4)), (5, .inl (.inl x5)), (6, .inl (.inl x6)), (7, .inl (.inl x7)), (8, .inl (.inl x8))], [.inl (.inl x4)], r4.2)) rfl ?_
          cases hg4 : ycP .ne x4 0 with
          | true =>
            rw [hg4] at h
            dsimp only [cond] at h
            refine yG_t (C' := (106, [(0, .inr (.inl 8, 0)), (1, .inl (.inl x1)), (2, .inl (.inl x2)), (3, .inl (.inl x3)), (4, .inl (.inl x4)), (5, .inl (.inl x5)), (6, .inl (.inl x6)), (7, .inl (.inl x7)), (8, .inl (.inl x8))], [], r4.2)) rfl hg4 ?_
            refine yG_n (n := 1) (C' := (108, [(0, .inr (.inl 8, 0)), (1, .inl (.inl x1)), (2, .inl (.inl x2)), (3, .inl (.inl x3)), (4, .inl (.inl x4)), (5, .inl (.inl x5)), (6, .inl (.inl x6)), (7, .inl (.inl x7)), (8, .inl (.inl x8))], [.inl (.inl x5)], r4.2)) rfl ?_
            exact yG_w [0, 1, 2, 3, 4, 6, 7, 8] rfl (t_X8_ways_b108 k38 hk38 k50 hk50 (f_X8_ways_b59 N k38 k50 n) ih r4.2 x1 x2 x3 x4 x6 x7 x8 x5 res h)
          | false =>
            rw [hg4] at h
            dsimp only [cond] at h
            refine yG_f (C' := (85, [(0, .inr (.inl 8, 0)), (1, .inl (.inl x1)), (2, .inl (.inl x2)), (3, .inl (.inl x3)), (4, .inl (.inl x4)), (5, .inl (.inl x5)), (6, .inl (.inl x6)), (7, .inl (.inl x7)), (8, .inl (.inl x8))], [], r4.2)) rfl hg4 ?_
            refine yG_n (n := 14) (C' := (108, [(0, .inr (.inl 8, 0)), (1, .inl (.inl x1)), (2, .inl (.inl x2)), (3, .inl (.inl x3)), (4, .inl (.inl x4)), (5, .inl (.inl x5)), (6, .inl (.inl x6)), (7, .inl (.inl x7)), (8, .inl (.inl x8))], [.inl (.inl (yad (yad (yad (ymu 100 x6) (ymu 20 x7)) (ymu 5 x8)) x2))], r4.2)) rfl ?_
            exact yG_w [0, 1, 2, 3, 4, 6, 7, 8] rfl (t_X8_ways_b108 k38 hk38 k50 hk50 (f_X8_ways_b59 N k38 k50 n) ih r4.2 x1 x2 x3 x4 x6 x7 x8 (yad (yad (yad (ymu 100 x6) (ymu 20 x7)) (ymu 5 x8)) x2) res h)
set_option maxRecDepth 100000 in
set_option maxHeartbeats 4000000 in
theorem t_X8_ways_b50 {N : Nat} {X : zXT} {sh : List yH} {l : Launch} {rm : Room} (k38 : yS → Int → Int → Int → Int → Int → Int → Option (Int × yS)) (hk38 : ∀ (σ : yS) (x1 : Int) (x2 : Int) (x3 : Int) (x4 : Int) (x5 : Int) (x6 : Int) (res : Int × yS), k38 σ x1 x2 x3 x4 x5 x6 = some res → G_X8_ways N X sh l rm (38, [(0, .inr (.inl 8, 0)), (1, .inl (.inl x1)), (2, .inl (.inl x2)), (3, .inl (.inl x3)), (4, .inl (.inl x4)), (5, .inl (.inl x5)), (6, .inl (.inl x6))], [], σ) (some (.inl (.inl res.1)), res.2)) : ∀ (n : Nat) (σ : yS) (x1 : Int) (x2 : Int) (x3 : Int) (x4 : Int) (x5 : Int) (x6 : Int) (x7 : Int) (res : Int × yS), f_X8_ways_b50 N k38 n σ x1 x2 x3 x4 x5 x6 x7 = some res → G_X8_ways N X sh l rm (50, [(0, .inr (.inl 8, 0)), (1, .inl (.inl x1)), (2, .inl (.inl x2)), (3, .inl (.inl x3)), (4, .inl (.inl x4)), (5, .inl (.inl x5)), (6, .inl (.inl x6)), (7, .inl (.inl x7))], [], σ) (some (.inl (.inl res.1)), res.2) := by
  intro n
  induction n with
  | zero => intro σ x1 x2 x3 x4 x5 x6 x7 res h; exact (yno h).elim
  | succ n ih =>
    intro σ x1 x2 x3 x4 x5 x6 x7 res h
    rw [q_X8_ways_b50] at h
    refine yG_n (n := 2) (C' := (53, [(0, .inr (.inl 8, 0)), (1, .inl (.inl x1)), (2, .inl (.inl x2)), (3, .inl (.inl x3)), (4, .inl (.inl x4)), (5, .inl (.inl x5)), (6, .inl (.inl x6)), (7, .inl (.inl x7))], [.inl (.inl 5), .inl (.inl x7)], σ)) rfl ?_
    cases hg5 : ycP .ge x7 5 with
    | true =>
      rw [hg5] at h
      dsimp only [cond] at h
      refine yG_t (C' := (125, [(0, .inr (.inl 8, 0)), (1, .inl (.inl x1)), (2, .inl (.inl x2)), (3, .inl (.inl x3)), (4, .inl (.inl x4)), (5, .inl (.inl x5)), (6, .inl (.inl x6)), (7, .inl (.inl x7))], [], σ)) rfl hg5 ?_
      refine yG_n (n := 2) (C' := (38, [(6, .inl (.inl (yad x6 1))), (0, .inr (.inl 8, 0)), (1, .inl (.inl x1)), (2, .inl (.inl x2)), (3, .inl (.inl x3)), (4, .inl (.inl x4)), (5, .inl (.inl x5)), (7, .inl (.inl x7))], [], σ)) rfl ?_
      exact yG_w [1, 2, 3, 4, 5, 6, 0] rfl (hk38 σ x1 x2 x3 x4 x5 (yad x6 1) res h)
    | false =>
      rw [hg5] at h
      dsimp only [cond] at h
      refine yG_f (C' := (56, [(0, .inr (.inl 8, 0)), (1, .inl (.inl x1)), (2, .inl (.inl x2)), (3, .inl (.inl x3)), (4, .inl (.inl x4)), (5, .inl (.inl x5)), (6, .inl (.inl x6)), (7, .inl (.inl x7))], [], σ)) rfl hg5 ?_
      refine yG_n (n := 2) (C' := (59, [(8, .inl (.inl 0)), (0, .inr (.inl 8, 0)), (1, .inl (.inl x1)), (2, .inl (.inl x2)), (3, .inl (.inl x3)), (4, .inl (.inl x4)), (5, .inl (.inl x5)), (6, .inl (.inl x6)), (7, .inl (.inl x7))], [], σ)) rfl ?_
      exact yG_w [1, 2, 3, 4, 5, 6, 7, 8, 0] rfl (t_X8_ways_b59 k38 hk38 (f_X8_ways_b50 N k38 n) ih N σ x1 x2 x3 x4 x5 x6 x7 0 res h)
set_option maxRecDepth 100000 in
set_option maxHeartbeats 4000000 in
theorem t_X8_ways_b38 {N : Nat} {X : zXT} {sh : List yH} {l : Launch} {rm : Room} : ∀ (n : Nat) (σ : yS) (x1 : Int) (x2 : Int) (x3 : Int) (x4 : Int) (x5 : Int) (x6 : Int) (res : Int × yS), f_X8_ways_b38 N n σ x1 x2 x3 x4 x5 x6 = some res → G_X8_ways N X sh l rm (38, [(0, .inr (.inl 8, 0)), (1, .inl (.inl x1)), (2, .inl (.inl x2)), (3, .inl (.inl x3)), (4, .inl (.inl x4)), (5, .inl (.inl x5)), (6, .inl (.inl x6))], [], σ) (some (.inl (.inl res.1)), res.2) := by
  intro n
  induction n with
  | zero => intro σ x1 x2 x3 x4 x5 x6 res h; exact (yno h).elim
  | succ n ih =>
    intro σ x1 x2 x3 x4 x5 x6 res h
    rw [q_X8_ways_b38] at h
    refine yG_n (n := 3) (C' := (44, [(0, .inr (.inl 8, 0)), (1, .inl (.inl x1)), (2, .inl (.inl x2)), (3, .inl (.inl x3)), (4, .inl (.inl x4)), (5, .inl (.inl x5)), (6, .inl (.inl x6))], [.inl (.inl (σ.1 0 3)), .inl (.inl x6)], σ)) rfl ?_
    cases hg6 : ycP .ge x6 (σ.1 0 3) with
    | true =>
      rw [hg6] at h
      dsimp only [cond] at h
      refine yG_t (C' := (131, [(0, .inr (.inl 8, 0)), (1, .inl (.inl x1)), (2, .inl (.inl x2)), (3, .inl (.inl x3)), (4, .inl (.inl x4)), (5, .inl (.inl x5)), (6, .inl (.inl x6))], [], σ)) rfl hg6 ?_
      refine yG_n (n := 1) (C' := (132, [(0, .inr (.inl 8, 0)), (1, .inl (.inl x1)), (2, .inl (.inl x2)), (3, .inl (.inl x3)), (4, .inl (.inl x4)), (5, .inl (.inl x5)), (6, .inl (.inl x6))], [.inl (.inl x3)], σ)) rfl ?_
      cases hg7 : ycP .ne x3 0 with
      | true =>
        rw [hg7] at h
        dsimp only [cond] at h
        refine yG_t (C' := (140, [(0, .inr (.inl 8, 0)), (1, .inl (.inl x1)), (2, .inl (.inl x2)), (3, .inl (.inl x3)), (4, .inl (.inl x4)), (5, .inl (.inl x5)), (6, .inl (.inl x6))], [], σ)) rfl hg7 ?_
        refine yG_n (n := 1) (C' := (142, [(0, .inr (.inl 8, 0)), (1, .inl (.inl x1)), (2, .inl (.inl x2)), (3, .inl (.inl x3)), (4, .inl (.inl x4)), (5, .inl (.inl x5)), (6, .inl (.inl x6))], [.inl (.inl x5)], σ)) rfl ?_
        exact yG_w [] rfl (t_X8_ways_b142 σ x5 res h)
      | false =>
        rw [hg7] at h
        dsimp only [cond] at h
        refine yG_f (C' := (135, [(0, .inr (.inl 8, 0)), (1, .inl (.inl x1)), (2, .inl (.inl x2)), (3, .inl (.inl x3)), (4, .inl (.inl x4)), (5, .inl (.inl x5)), (6, .inl (.inl x6))], [], σ)) rfl hg7 ?_
        refine yG_n (n := 2) (C' := (142, [(0, .inr (.inl 8, 0)), (1, .inl (.inl x1)), (2, .inl (.inl x2)), (3, .inl (.inl x3)), (4, .inl (.inl x4)), (5, .inl (.inl x5)), (6, .inl (.inl x6))], [.inl (.inl x4)], σ)) rfl ?_
        exact yG_w [] rfl (t_X8_ways_b142 σ x4 res h)
    | false =>
      rw [hg6] at h
      dsimp only [cond] at h
      refine yG_f (C' := (47, [(0, .inr (.inl 8, 0)), (1, .inl (.inl x1)), (2, .inl (.inl x2)), (3, .inl (.inl x3)), (4, .inl (.inl x4)), (5, .inl (.inl x5)), (6, .inl (.inl x6))], [], σ)) rfl hg6 ?_
      refine yG_n (n := 2) (C' := (50, [(7, .inl (.inl 0)), (0, .inr (.inl 8, 0)), (1, .inl (.inl x1)), (2, .inl (.inl x2)), (3, .inl (.inl x3)), (4, .inl (.inl x4)), (5, .inl (.inl x5)), (6, .inl (.inl x6))], [], σ)) rfl ?_
      exact yG_w [1, 2, 3, 4, 5, 6, 7, 0] rfl (t_X8_ways_b50 (f_X8_ways_b38 N n) ih N σ x1 x2 x3 x4 x5 x6 0 res h)
set_option maxRecDepth 100000 in
set_option maxHeartbeats 4000000 in
theorem t_X8_ways {N : Nat} {X : zXT} {sh : List yH} {l : Launch} {rm : Room} (σ : yS) (x1 : Int) (x2 : Int) (x3 : Int) (res : Int × yS) (h : f_X8_ways N σ x1 x2 x3 = some res) : G_X8_ways N X sh l rm (0, [(0, .inr (.inl 8, 0)), (1, .inl (.inl x1)), (2, .inl (.inl x2)), (3, .inl (.inl x3))], [], σ) (some (.inl (.inl res.1)), res.2) := by
  unfold f_X8_ways at h
  refine yG_n (n := 2) (C' := (2, [(0, .inr (.inl 8, 0)), (1, .inl (.inl x1)), (2, .inl (.inl x2)), (3, .inl (.inl x3))], [.inl (.inl x1), .inr (.inl 8, 0)], σ)) rfl ?_
  cases hr8 : f_X8_isHouse N σ x1 with
  | none => rw [hr8] at h; dsimp only at h; cases h
  | some r1 =>
    rw [hr8] at h
    dsimp only at h
    refine yG_c (C1 := (5, [(0, .inr (.inl 8, 0)), (1, .inl (.inl x1)), (2, .inl (.inl x2)), (3, .inl (.inl x3))], [.inl (.inl r1.1)], r1.2)) rfl (e_X8_isHouse hr8) rfl ?_
    cases hg9 : ycP .eq r1.1 0 with
    | true =>
      rw [hg9] at h
      dsimp only [cond] at h
      refine yG_t (C' := (26, [(0, .inr (.inl 8, 0)), (1, .inl (.inl x1)), (2, .inl (.inl x2)), (3, .inl (.inl x3))], [], r1.2)) rfl hg9 ?_
      exact yG_w [] rfl (t_X8_ways_b26 r1.2 res h)
    | false =>
      rw [hg9] at h
      dsimp only [cond] at h
      refine yG_f (C' := (8, [(0, .inr (.inl 8, 0)), (1, .inl (.inl x1)), (2, .inl (.inl x2)), (3, .inl (.inl x3))], [], r1.2)) rfl hg9 ?_
      refine yG_n (n := 2) (C' := (10, [(0, .inr (.inl 8, 0)), (1, .inl (.inl x1)), (2, .inl (.inl x2)), (3, .inl (.inl x3))], [.inl (.inl x2), .inr (.inl 8, 0)], r1.2)) rfl ?_
      cases hr10 : f_X8_isDeed N r1.2 x2 with
      | none => rw [hr10] at h; dsimp only at h; cases h
      | some r2 =>
        rw [hr10] at h
        dsimp only at h
        refine yG_c (C1 := (13, [(0, .inr (.inl 8, 0)), (1, .inl (.inl x1)), (2, .inl (.inl x2)), (3, .inl (.inl x3))], [.inl (.inl r2.1)], r2.2)) rfl (e_X8_isDeed hr10) rfl ?_
        cases hg11 : ycP .eq r2.1 0 with
        | true =>
          rw [hg11] at h
          dsimp only [cond] at h
          refine yG_t (C' := (26, [(0, .inr (.inl 8, 0)), (1, .inl (.inl x1)), (2, .inl (.inl x2)), (3, .inl (.inl x3))], [], r2.2)) rfl hg11 ?_
          exact yG_w [] rfl (t_X8_ways_b26 r2.2 res h)
        | false =>
          rw [hg11] at h
          dsimp only [cond] at h
          refine yG_f (C' := (16, [(0, .inr (.inl 8, 0)), (1, .inl (.inl x1)), (2, .inl (.inl x2)), (3, .inl (.inl x3))], [], r2.2)) rfl hg11 ?_
          refine yG_n (n := 4) (C' := (20, [(0, .inr (.inl 8, 0)), (1, .inl (.inl x1)), (2, .inl (.inl x2)), (3, .inl (.inl x3))], [.inl (.inr 1), .inl (.inr 0), .inl (.inr x3)], r2.2)) rfl ?_
          cases hr12 : f_X8_in N r2.2 x3 0 1 with
          | none => rw [hr12] at h; dsimp only at h; cases h
          | some r3 =>
            rw [hr12] at h
            dsimp only at h
            refine yG_c (C1 := (23, [(0, .inr (.inl 8, 0)), (1, .inl (.inl x1)), (2, .inl (.inl x2)), (3, .inl (.inl x3))], [.inl (.inl r3.1)], r3.2)) rfl (e_X8_in hr12) rfl ?_
            cases hg13 : ycP .ne r3.1 0 with
            | true =>
              rw [hg13] at h
              dsimp only [cond] at h
              refine yG_t (C' := (28, [(0, .inr (.inl 8, 0)), (1, .inl (.inl x1)), (2, .inl (.inl x2)), (3, .inl (.inl x3))], [], r3.2)) rfl hg13 ?_
              refine yG_n (n := 6) (C' := (38, [(6, .inl (.inl 0)), (5, .inl (.inl ((-4)))), (4, .inl (.inl 0)), (0, .inr (.inl 8, 0)), (1, .inl (.inl x1)), (2, .inl (.inl x2)), (3, .inl (.inl x3))], [], r3.2)) rfl ?_
              exact yG_w [3, 4, 5, 6, 2, 1, 0] rfl (t_X8_ways_b38 N r3.2 x1 x2 x3 0 ((-4)) 0 res h)
            | false =>
              rw [hg13] at h
              dsimp only [cond] at h
              refine yG_f (C' := (26, [(0, .inr (.inl 8, 0)), (1, .inl (.inl x1)), (2, .inl (.inl x2)), (3, .inl (.inl x3))], [], r3.2)) rfl hg13 ?_
              exact yG_w [] rfl (t_X8_ways_b26 r3.2 res h)
set_option maxRecDepth 100000 in
set_option maxHeartbeats 4000000 in
theorem m_X8_ways {N : Nat} {X : zXT} (hX : zXok X) (hN : zXn X) (l : Launch) {sh : List yH} : yMet X vwCl yct sh l yX8_ways wsX8_ways { frames := 6, cells := 0, slots := 0, locals := 189 } (F_X8_ways N) :=
  ymeth (tb := tb_X8_ways N) (pr := pr_X8_ways) (rt := 1) (own := RX8) hX (by decide +kernel) rfl rfl ⟨Nat.le_of_ble_eq_true rfl, Nat.le_of_ble_eq_true rfl⟩
    (zfl_all (List.forall_mem_cons.mpr ⟨zfl_X8 (fun w h => List.mem_cons_of_mem _ (List.mem_append_right _ h)) (List.mem_of_getElem? (i := 1) rfl) (by decide) (by decide), fun _ h => absurd h List.not_mem_nil⟩))
    (zco_all (fun _ h => absurd h List.not_mem_nil)) (zlc_all (fun _ h => absurd h List.not_mem_nil))
    (List.forall_mem_cons.mpr ⟨ycal_V hX (m_X8_isHouse hX hN l) rfl (fun s args hts => cwV 1 hts gX8_ways_X8_isHouse rfl rfl rfl (by decide +kernel) ⟨Nat.le_of_ble_eq_true rfl, Nat.le_of_ble_eq_true rfl⟩), List.forall_mem_cons.mpr ⟨ycal_V hX (m_X8_isDeed hX hN l) rfl (fun s args hts => cwV 1 hts gX8_ways_X8_isDeed rfl rfl rfl (by decide +kernel) ⟨Nat.le_of_ble_eq_true rfl, Nat.le_of_ble_eq_true rfl⟩), List.forall_mem_cons.mpr ⟨ycal_V hX (m_X8_doesBring hX hN l) rfl (fun s args hts => cwV 5 hts gX8_ways_X8_doesBring rfl rfl rfl (by decide +kernel) ⟨Nat.le_of_ble_eq_true rfl, Nat.le_of_ble_eq_true rfl⟩), fun _ h => absurd h List.not_mem_nil⟩⟩⟩)
    (List.forall_mem_cons.mpr ⟨ycal_S hX (m_X8_in hX hN l) (fun s args hts => va_cwS 3 hts gX8_ways_X8_in rfl rfl rfl (by decide +kernel) ⟨Nat.le_of_ble_eq_true rfl, Nat.le_of_ble_eq_true rfl⟩), fun _ h => absurd h List.not_mem_nil⟩)
    (zmm_all (fun _ h => absurd h List.not_mem_nil)) (fun _ h => absurd h List.not_mem_nil) (zpr_all hp_X8_ways) (fun as σ res h => by
      unfold F_X8_ways at h
      split at h
      · rename_i x1 x2 x3
        cases hr : f_X8_ways N σ x1 x2 x3 with
        | none => rw [hr] at h; cases h
        | some r =>
          rw [hr] at h
          cases h
          exact ⟨Nat.le_of_ble_eq_true rfl, t_X8_ways σ x1 x2 x3 r hr⟩
      · cases h)
noncomputable def pr_X8_who : List (Nat × Instr × Nat) := [(0, .aload_n 0, 1), (1, .iload_n 1, 1), (2, .invokevirtual 205, 3), (5, .ifCond .eq 23, 3), (8, .aload_n 0, 1), (9, .iload_n 2, 1), (10, .invokevirtual 209, 3), (13, .ifCond .eq 15, 3), (16, .iload_n 3, 1), (17, .i2l, 1), (18, .lconst 1, 1), (19, .ldc2_w 193, 3), (22, .invokestatic 90, 3), (25, .ifCond .ne 5, 3), (28, .iconst (-1), 1), (29, .ireturn, 1), (30, .iconst 0, 1), (31, .istore 4, 2), (33, .iconst 0, 1), (34, .istore 5, 2), (36, .iload 5, 2), (38, .aload_n 0, 1), (39, .getfield 79, 3), (42, .if_icmp .ge 48, 3), (45, .iconst 0, 1), (46, .istore 6, 2), (48, .iload 6, 2), (50, .iconst 5, 1), (51, .if_icmp .ge 33, 3), (54, .iload 4, 2), (56, .aload_n 0, 1), (57, .iload 5, 2), (59, .iload 6, 2), (61, .iload_n 3, 1), (62, .iconst 1, 1), (63, .isub, 1), (64, .iload_n 1, 1), (65, .iload_n 2, 1), (66, .invokevirtual 282, 3), (69, .invokestatic 197, 3), (72, .iload 5, 2), (74, .ishl, 1), (75, .ior, 1), (76, .istore 4, 2), (78, .iinc 6 1, 3), (81, .goto (-33), 3), (84, .iinc 5 1, 3), (87, .goto (-51), 3), (90, .iload 4, 2), (92, .ireturn, 1)]
set_option maxRecDepth 100000 in
theorem hp_X8_who : pr_X8_who.all (fun x => decide (decode cX8_who x.1 = .ok x.2)) = true := by decide +kernel
noncomputable def f_X8_who_b28 (N : Nat) (σ : yS) : Option (Int × yS) :=
  some ((-1), σ)
noncomputable def f_X8_who_b48 (N : Nat) (k36 : yS → Int → Int → Int → Int → Int → Option (Int × yS)) : Nat → yS → Int → Int → Int → Int → Int → Int → Option (Int × yS) := yfix (fun _ _ _ _ _ _ _ => none) (fun ih σ x1 x2 x3 x4 x5 x6 =>
    bif ycP .ge x6 5 then
      k36 σ x1 x2 x3 x4 (yad x5 1)
    else
      match f_X8_doesBring N σ x5 x6 (ysu x3 1) x1 x2 with
      | none => none
      | some r4 => match f_X8_flag N r4.2 r4.1 with
        | none => none
        | some r5 => ih r5.2 x1 x2 x3 (yor x4 (ysl r5.1 x5)) x5 (yad x6 1))
theorem q_X8_who_b48 (N : Nat) (k36 : yS → Int → Int → Int → Int → Int → Option (Int × yS)) (n : Nat) (σ : yS) (x1 : Int) (x2 : Int) (x3 : Int) (x4 : Int) (x5 : Int) (x6 : Int) : f_X8_who_b48 N k36 (n + 1) σ x1 x2 x3 x4 x5 x6 =
    (bif ycP .ge x6 5 then
      k36 σ x1 x2 x3 x4 (yad x5 1)
    else
      match f_X8_doesBring N σ x5 x6 (ysu x3 1) x1 x2 with
      | none => none
      | some r4 => match f_X8_flag N r4.2 r4.1 with
        | none => none
        | some r5 => (f_X8_who_b48 N k36 n) r5.2 x1 x2 x3 (yor x4 (ysl r5.1 x5)) x5 (yad x6 1)) := rfl
noncomputable def f_X8_who_b36 (N : Nat) : Nat → yS → Int → Int → Int → Int → Int → Option (Int × yS) := yfix (fun _ _ _ _ _ _ => none) (fun ih σ x1 x2 x3 x4 x5 =>
    bif ycP .ge x5 (σ.1 0 3) then
      some (x4, σ)
    else
      f_X8_who_b48 N ih N σ x1 x2 x3 x4 x5 0)
theorem q_X8_who_b36 (N : Nat) (n : Nat) (σ : yS) (x1 : Int) (x2 : Int) (x3 : Int) (x4 : Int) (x5 : Int) : f_X8_who_b36 N (n + 1) σ x1 x2 x3 x4 x5 =
    (bif ycP .ge x5 (σ.1 0 3) then
      some (x4, σ)
    else
      f_X8_who_b48 N (f_X8_who_b36 N n) N σ x1 x2 x3 x4 x5 0) := rfl
noncomputable def f_X8_who (N : Nat) (σ : yS) (x1 : Int) (x2 : Int) (x3 : Int) : Option (Int × yS) :=
  match f_X8_isHouse N σ x1 with
  | none => none
  | some r1 => bif ycP .eq r1.1 0 then
      f_X8_who_b28 N r1.2
    else
      match f_X8_isDeed N r1.2 x2 with
      | none => none
      | some r2 => bif ycP .eq r2.1 0 then
          f_X8_who_b28 N r2.2
        else
          match f_X8_in N r2.2 x3 1 4 with
          | none => none
          | some r3 => bif ycP .ne r3.1 0 then
              f_X8_who_b36 N N r3.2 x1 x2 x3 0 0
            else
              f_X8_who_b28 N r3.2
noncomputable def F_X8_who (N : Nat) : yF := fun as σ => match as with
  | [.inr (.inl 8, 0), .inl (.inl x1), .inl (.inl x2), .inl (.inl x3)] => (f_X8_who N σ x1 x2 x3).map (fun r => (some (.inl (.inl r.1)), r.2))
  | _ => none
theorem e_X8_who {N : Nat} {σ : yS} {x1 : Int} {x2 : Int} {x3 : Int} {r : Int × yS} (h : f_X8_who N σ x1 x2 x3 = some r) : F_X8_who N [.inr (.inl 8, 0), .inl (.inl x1), .inl (.inl x2), .inl (.inl x3)] σ = some (some (.inl (.inl r.1)), r.2) := by
  show (f_X8_who N σ x1 x2 x3).map (fun r => ((some (.inl (.inl r.1)), r.2) : yR)) = _
  rw [h]
  rfl
noncomputable def tb_X8_who (N : Nat) : yTb := ([(79, 8, 3, 0)], [], [(193, 4)], [(205, 2, 8, F_X8_isHouse N), (209, 2, 8, F_X8_isDeed N), (282, 6, 8, F_X8_doesBring N)], [(90, 3, F_X8_in N), (197, 1, F_X8_flag N)], [], [])
abbrev G_X8_who (N : Nat) (X : zXT) (sh : List yH) (l : Launch) (rm : Room) : yC → yR → Prop := yGoes X vwCl yct sh l rm cX8_who 7 wsX8_who RX8 (tb_X8_who N) pr_X8_who 1
set_option maxRecDepth 100000 in
set_option maxHeartbeats 4000000 in
theorem t_X8_who_b28 {N : Nat} {X : zXT} {sh : List yH} {l : Launch} {rm : Room} (σ : yS) (res : Int × yS) (h : f_X8_who_b28 N σ = some res) : G_X8_who N X sh l rm (28, [], [], σ) (some (.inl (.inl res.1)), res.2) := by
  unfold f_X8_who_b28 at h
  refine yG_n (n := 1) (C' := (29, [], [.inl (.inl ((-1)))], σ)) rfl ?_
  have h := Option.some.inj h
  subst h
  dsimp only
  exact yG_r rfl rfl
set_option maxRecDepth 100000 in
set_option maxHeartbeats 4000000 in
theorem t_X8_who_b48 {N : Nat} {X : zXT} {sh : List yH} {l : Launch} {rm : Room} (k36 : yS → Int → Int → Int → Int → Int → Option (Int × yS)) (hk36 : ∀ (σ : yS) (x1 : Int) (x2 : Int) (x3 : Int) (x4 : Int) (x5 : Int) (res : Int × yS), k36 σ x1 x2 x3 x4 x5 = some res → G_X8_who N X sh l rm (36, [(0, .inr (.inl 8, 0)), (1, .inl (.inl x1)), (2, .inl (.inl x2)), (3, .inl (.inl x3)), (4, .inl (.inl x4)), (5, .inl (.inl x5))], [], σ) (some (.inl (.inl res.1)), res.2)) : ∀ (n : Nat) (σ : yS) (x1 : Int) (x2 : Int) (x3 : Int) (x4 : Int) (x5 : Int) (x6 : Int) (res : Int × yS), f_X8_who_b48 N k36 n σ x1 x2 x3 x4 x5 x6 = some res → G_X8_who N X sh l rm (48, [(0, .inr (.inl 8, 0)), (1, .inl (.inl x1)), (2, .inl (.inl x2)), (3, .inl (.inl x3)), (4, .inl (.inl x4)), (5, .inl (.inl x5)), (6, .inl (.inl x6))], [], σ) (some (.inl (.inl res.1)), res.2) := by
  intro n
  induction n with
  | zero => intro σ x1 x2 x3 x4 x5 x6 res h; exact (yno h).elim
  | succ n ih =>
    intro σ x1 x2 x3 x4 x5 x6 res h
    rw [q_X8_who_b48] at h
    refine yG_n (n := 2) (C' := (51, [(0, .inr (.inl 8, 0)), (1, .inl (.inl x1)), (2, .inl (.inl x2)), (3, .inl (.inl x3)), (4, .inl (.inl x4)), (5, .inl (.inl x5)), (6, .inl (.inl x6))], [.inl (.inl 5), .inl (.inl x6)], σ)) rfl ?_
    cases hg1 : ycP .ge x6 5 with
    | true =>
      rw [hg1] at h
      dsimp only [cond] at h
      refine yG_t (C' := (84, [(0, .inr (.inl 8, 0)), (1, .inl (.inl x1)), (2, .inl (.inl x2)), (3, .inl (.inl x3)), (4, .inl (.inl x4)), (5, .inl (.inl x5)), (6, .inl (.inl x6))], [], σ)) rfl hg1 ?_
      refine yG_n (n := 2) (C' := (36, [(5, .inl (.inl (yad x5 1))), (0, .inr (.inl 8, 0)), (1, .inl (.inl x1)), (2, .inl (.inl x2)), (3, .inl (.inl x3)), (4, .inl (.inl x4)), (6, .inl (.inl x6))], [], σ)) rfl ?_
      exact yG_w [1, 2, 3, 4, 5, 0] rfl (hk36 σ x1 x2 x3 x4 (yad x5 1) res h)
    | false =>
      rw [hg1] at h
      dsimp only [cond] at h
      refine yG_f (C' := (54, [(0, .inr (.inl 8, 0)), (1, .inl (.inl x1)), (2, .inl (.inl x2)), (3, .inl (.inl x3)), (4, .inl (.inl x4)), (5, .inl (.inl x5)), (6, .inl (.inl x6))], [], σ)) rfl hg1 ?_
      refine yG_n (n := 9) (C' := (66, [(0, .inr (.inl 8, 0)), (1, .inl (.inl x1)), (2, .inl (.inl x2)), (3, .inl (.inl x3)), (4, .inl (.inl x4)), (5, .inl (.inl x5)), (6, .inl (.inl x6))], [.inl (.inl x2), .inl (.inl x1), .inl (.inl (ysu x3 1)), .inl (.inl x6), .inl (.inl x5), .inr (.inl 8, 0), .inl (.inl x4)], σ)) rfl ?_
      cases hr2 : f_X8_doesBring N σ x5 x6 (ysu x3 1) x1 x2 with
      | none => rw [hr2] at h; dsimp only at h; cases h
      | some r4 =>
        rw [hr2] at h
        dsimp only at h
        refine yG_c (C1 := (69, [(0, .inr (.inl 8, 0)), (1, .inl (.inl x1)), (2, .inl (.inl x2)), (3, .inl (.inl x3)), (4, .inl (.inl x4)), (5, .inl (.inl x5)), (6, .inl (.inl x6))], [.inl (.inl r4.1), .inl (.inl x4)], r4.2)) rfl (e_X8_doesBring hr2) rfl ?_
        cases hr3 : f_X8_flag N r4.2 r4.1 with
        | none => rw [hr3] at h; dsimp only at h; cases h
        | some r5 =>
          rw [hr3] at h
          dsimp only at h
          refine yG_c (C1 := (72, [(0, .inr (.inl 8, 0)), (1, .inl (.inl x1)), (2, .inl (.inl x2)), (3, .inl (.inl x3)), (4, .inl (.inl x4)), (5, .inl (.inl x5)), (6, .inl (.inl x6))], [.inl (.inl r5.1), .inl (.inl x4)], r5.2)) rfl (e_X8_flag hr3) rfl ?_
          refine yG_n (n := 6) (C' := (48, [(6, .inl (.inl (yad x6 1))), (4, .inl (.inl (yor x4 (ysl r5.1 x5)))), (0, .inr (.inl 8, 0)), (1, .inl (.inl x1)), (2, .inl (.inl x2)), (3, .inl (.inl x3)), (5, .inl (.inl x5))], [], r5.2)) rfl ?_
          exact yG_w [2, 3, 4, 5, 1, 6, 0] rfl (ih r5.2 x1 x2 x3 (yor x4 (ysl r5.1 x5)) x5 (yad x6 1) res h)
set_option maxRecDepth 100000 in
set_option maxHeartbeats 4000000 in
theorem t_X8_who_b36 {N : Nat} {X : zXT} {sh : List yH} {l : Launch} {rm : Room} : ∀ (n : Nat) (σ : yS) (x1 : Int) (x2 : Int) (x3 : Int) (x4 : Int) (x5 : Int) (res : Int × yS), f_X8_who_b36 N n σ x1 x2 x3 x4 x5 = some res → G_X8_who N X sh l rm (36, [(0, .inr (.inl 8, 0)), (1, .inl (.inl x1)), (2, .inl (.inl x2)), (3, .inl (.inl x3)), (4, .inl (.inl x4)), (5, .inl (.inl x5))], [], σ) (some (.inl (.inl res.1)), res.2) := by
  intro n
  induction n with
  | zero => intro σ x1 x2 x3 x4 x5 res h; exact (yno h).elim
  | succ n ih =>
    intro σ x1 x2 x3 x4 x5 res h
    rw [q_X8_who_b36] at h
    refine yG_n (n := 3) (C' := (42, [(0, .inr (.inl 8, 0)), (1, .inl (.inl x1)), (2, .inl (.inl x2)), (3, .inl (.inl x3)), (4, .inl (.inl x4)), (5, .inl (.inl x5))], [.inl (.inl (σ.1 0 3)), .inl (.inl x5)], σ)) rfl ?_
    cases hg4 : ycP .ge x5 (σ.1 0 3) with
    | true =>
      rw [hg4] at h
      dsimp only [cond] at h
      refine yG_t (C' := (90, [(0, .inr (.inl 8, 0)), (1, .inl (.inl x1)), (2, .inl (.inl x2)), (3, .inl (.inl x3)), (4, .inl (.inl x4)), (5, .inl (.inl x5))], [], σ)) rfl hg4 ?_
      refine yG_n (n := 1) (C' := (92, [(0, .inr (.inl 8, 0)), (1, .inl (.inl x1)), (2, .inl (.inl x2)), (3, .inl (.inl x3)), (4, .inl (.inl x4)), (5, .inl (.inl x5))], [.inl (.inl x4)], σ)) rfl ?_
      have h := Option.some.inj h
      subst h
      dsimp only
      exact yG_r rfl rfl
    | false =>
      rw [hg4] at h
      dsimp only [cond] at h
      refine yG_f (C' := (45, [(0, .inr (.inl 8, 0)), (1, .inl (.inl x1)), (2, .inl (.inl x2)), (3, .inl (.inl x3)), (4, .inl (.inl x4)), (5, .inl (.inl x5))], [], σ)) rfl hg4 ?_
      refine yG_n (n := 2) (C' := (48, [(6, .inl (.inl 0)), (0, .inr (.inl 8, 0)), (1, .inl (.inl x1)), (2, .inl (.inl x2)), (3, .inl (.inl x3)), (4, .inl (.inl x4)), (5, .inl (.inl x5))], [], σ)) rfl ?_
      exact yG_w [1, 2, 3, 4, 5, 6, 0] rfl (t_X8_who_b48 (f_X8_who_b36 N n) ih N σ x1 x2 x3 x4 x5 0 res h)
set_option maxRecDepth 100000 in
set_option maxHeartbeats 4000000 in
theorem t_X8_who {N : Nat} {X : zXT} {sh : List yH} {l : Launch} {rm : Room} (σ : yS) (x1 : Int) (x2 : Int) (x3 : Int) (res : Int × yS) (h : f_X8_who N σ x1 x2 x3 = some res) : G_X8_who N X sh l rm (0, [(0, .inr (.inl 8, 0)), (1, .inl (.inl x1)), (2, .inl (.inl x2)), (3, .inl (.inl x3))], [], σ) (some (.inl (.inl res.1)), res.2) := by
  unfold f_X8_who at h
  refine yG_n (n := 2) (C' := (2, [(0, .inr (.inl 8, 0)), (1, .inl (.inl x1)), (2, .inl (.inl x2)), (3, .inl (.inl x3))], [.inl (.inl x1), .inr (.inl 8, 0)], σ)) rfl ?_
  cases hr5 : f_X8_isHouse N σ x1 with
  | none => rw [hr5] at h; dsimp only at h; cases h
  | some r1 =>
    rw [hr5] at h
    dsimp only at h
    refine yG_c (C1 := (5, [(0, .inr (.inl 8, 0)), (1, .inl (.inl x1)), (2, .inl (.inl x2)), (3, .inl (.inl x3))], [.inl (.inl r1.1)], r1.2)) rfl (e_X8_isHouse hr5) rfl ?_
    cases hg6 : ycP .eq r1.1 0 with
    | true =>
      rw [hg6] at h
      dsimp only [cond] at h
      refine yG_t (C' := (28, [(0, .inr (.inl 8, 0)), (1, .inl (.inl x1)), (2, .inl (.inl x2)), (3, .inl (.inl x3))], [], r1.2)) rfl hg6 ?_
      exact yG_w [] rfl (t_X8_who_b28 r1.2 res h)
    | false =>
      rw [hg6] at h
      dsimp only [cond] at h
      refine yG_f (C' := (8, [(0, .inr (.inl 8, 0)), (1, .inl (.inl x1)), (2, .inl (.inl x2)), (3, .inl (.inl x3))], [], r1.2)) rfl hg6 ?_
      refine yG_n (n := 2) (C' := (10, [(0, .inr (.inl 8, 0)), (1, .inl (.inl x1)), (2, .inl (.inl x2)), (3, .inl (.inl x3))], [.inl (.inl x2), .inr (.inl 8, 0)], r1.2)) rfl ?_
      cases hr7 : f_X8_isDeed N r1.2 x2 with
      | none => rw [hr7] at h; dsimp only at h; cases h
      | some r2 =>
        rw [hr7] at h
        dsimp only at h
        refine yG_c (C1 := (13, [(0, .inr (.inl 8, 0)), (1, .inl (.inl x1)), (2, .inl (.inl x2)), (3, .inl (.inl x3))], [.inl (.inl r2.1)], r2.2)) rfl (e_X8_isDeed hr7) rfl ?_
        cases hg8 : ycP .eq r2.1 0 with
        | true =>
          rw [hg8] at h
          dsimp only [cond] at h
          refine yG_t (C' := (28, [(0, .inr (.inl 8, 0)), (1, .inl (.inl x1)), (2, .inl (.inl x2)), (3, .inl (.inl x3))], [], r2.2)) rfl hg8 ?_
          exact yG_w [] rfl (t_X8_who_b28 r2.2 res h)
        | false =>
          rw [hg8] at h
          dsimp only [cond] at h
          refine yG_f (C' := (16, [(0, .inr (.inl 8, 0)), (1, .inl (.inl x1)), (2, .inl (.inl x2)), (3, .inl (.inl x3))], [], r2.2)) rfl hg8 ?_
          refine yG_n (n := 4) (C' := (22, [(0, .inr (.inl 8, 0)), (1, .inl (.inl x1)), (2, .inl (.inl x2)), (3, .inl (.inl x3))], [.inl (.inr 4), .inl (.inr 1), .inl (.inr x3)], r2.2)) rfl ?_
          cases hr9 : f_X8_in N r2.2 x3 1 4 with
          | none => rw [hr9] at h; dsimp only at h; cases h
          | some r3 =>
            rw [hr9] at h
            dsimp only at h
            refine yG_c (C1 := (25, [(0, .inr (.inl 8, 0)), (1, .inl (.inl x1)), (2, .inl (.inl x2)), (3, .inl (.inl x3))], [.inl (.inl r3.1)], r3.2)) rfl (e_X8_in hr9) rfl ?_
            cases hg10 : ycP .ne r3.1 0 with
            | true =>
              rw [hg10] at h
              dsimp only [cond] at h
              refine yG_t (C' := (30, [(0, .inr (.inl 8, 0)), (1, .inl (.inl x1)), (2, .inl (.inl x2)), (3, .inl (.inl x3))], [], r3.2)) rfl hg10 ?_
              refine yG_n (n := 4) (C' := (36, [(5, .inl (.inl 0)), (4, .inl (.inl 0)), (0, .inr (.inl 8, 0)), (1, .inl (.inl x1)), (2, .inl (.inl x2)), (3, .inl (.inl x3))], [], r3.2)) rfl ?_
              exact yG_w [2, 3, 4, 5, 1, 0] rfl (t_X8_who_b36 N r3.2 x1 x2 x3 0 0 res h)
            | false =>
              rw [hg10] at h
              dsimp only [cond] at h
              refine yG_f (C' := (28, [(0, .inr (.inl 8, 0)), (1, .inl (.inl x1)), (2, .inl (.inl x2)), (3, .inl (.inl x3))], [], r3.2)) rfl hg10 ?_
              exact yG_w [] rfl (t_X8_who_b28 r3.2 res h)
set_option maxRecDepth 100000 in
set_option maxHeartbeats 4000000 in
theorem m_X8_who {N : Nat} {X : zXT} (hX : zXok X) (hN : zXn X) (l : Launch) {sh : List yH} : yMet X vwCl yct sh l yX8_who wsX8_who { frames := 6, cells := 0, slots := 0, locals := 189 } (F_X8_who N) :=
  ymeth (tb := tb_X8_who N) (pr := pr_X8_who) (rt := 1) (own := RX8) hX (by decide +kernel) rfl rfl ⟨Nat.le_of_ble_eq_true rfl, Nat.le_of_ble_eq_true rfl⟩
    (zfl_all (List.forall_mem_cons.mpr ⟨zfl_X8 (fun w h => List.mem_cons_of_mem _ (List.mem_append_right _ h)) (List.mem_of_getElem? (i := 2) rfl) (by decide) (by decide), fun _ h => absurd h List.not_mem_nil⟩))
    (zco_all (fun _ h => absurd h List.not_mem_nil)) (zlc_all (List.forall_mem_cons.mpr ⟨(List.mem_of_getElem? (i := 1) rfl), fun _ h => absurd h List.not_mem_nil⟩))
    (List.forall_mem_cons.mpr ⟨ycal_V hX (m_X8_isHouse hX hN l) rfl (fun s args hts => cwV 1 hts gX8_who_X8_isHouse rfl rfl rfl (by decide +kernel) ⟨Nat.le_of_ble_eq_true rfl, Nat.le_of_ble_eq_true rfl⟩), List.forall_mem_cons.mpr ⟨ycal_V hX (m_X8_isDeed hX hN l) rfl (fun s args hts => cwV 1 hts gX8_who_X8_isDeed rfl rfl rfl (by decide +kernel) ⟨Nat.le_of_ble_eq_true rfl, Nat.le_of_ble_eq_true rfl⟩), List.forall_mem_cons.mpr ⟨ycal_V hX (m_X8_doesBring hX hN l) rfl (fun s args hts => cwV 5 hts gX8_who_X8_doesBring rfl rfl rfl (by decide +kernel) ⟨Nat.le_of_ble_eq_true rfl, Nat.le_of_ble_eq_true rfl⟩), fun _ h => absurd h List.not_mem_nil⟩⟩⟩)
    (List.forall_mem_cons.mpr ⟨ycal_S hX (m_X8_in hX hN l) (fun s args hts => va_cwS 3 hts gX8_who_X8_in rfl rfl rfl (by decide +kernel) ⟨Nat.le_of_ble_eq_true rfl, Nat.le_of_ble_eq_true rfl⟩), List.forall_mem_cons.mpr ⟨ycal_S hX (m_X8_flag hX hN l) (fun s args hts => va_cwS 1 hts gX8_who_X8_flag rfl rfl rfl (by decide +kernel) ⟨Nat.le_of_ble_eq_true rfl, Nat.le_of_ble_eq_true rfl⟩), fun _ h => absurd h List.not_mem_nil⟩⟩)
    (zmm_all (fun _ h => absurd h List.not_mem_nil)) (fun _ h => absurd h List.not_mem_nil) (zpr_all hp_X8_who) (fun as σ res h => by
      unfold F_X8_who at h
      split at h
      · rename_i x1 x2 x3
        cases hr : f_X8_who N σ x1 x2 x3 with
        | none => rw [hr] at h; cases h
        | some r =>
          rw [hr] at h
          cases h
          exact ⟨Nat.le_of_ble_eq_true rfl, t_X8_who σ x1 x2 x3 r hr⟩
      · cases h)
noncomputable def pr_X8_wish : List (Nat × Instr × Nat) := [(0, .aload_n 0, 1), (1, .iload_n 1, 1), (2, .invokevirtual 205, 3), (5, .ifCond .eq 11, 3), (8, .aload_n 0, 1), (9, .iload_n 2, 1), (10, .invokevirtual 209, 3), (13, .ifCond .ne 5, 3), (16, .iconst (-1), 1), (17, .ireturn, 1), (18, .aload_n 0, 1), (19, .getfield 7, 3), (22, .bipush 118, 2), (24, .iaload, 1), (25, .iconst 4, 1), (26, .if_icmp .ne 6, 3), (29, .bipush (-3), 2), (31, .ireturn, 1), (32, .aload_n 0, 1), (33, .getfield 7, 3), (36, .bipush 119, 2), (38, .iconst 2, 1), (39, .aload_n 0, 1), (40, .getfield 7, 3), (43, .bipush 118, 2), (45, .iaload, 1), (46, .imul, 1), (47, .iadd, 1), (48, .iload_n 1, 1), (49, .iastore, 1), (50, .aload_n 0, 1), (51, .getfield 7, 3), (54, .bipush 119, 2), (56, .iconst 2, 1), (57, .aload_n 0, 1), (58, .getfield 7, 3), (61, .bipush 118, 2), (63, .iaload, 1), (64, .imul, 1), (65, .iadd, 1), (66, .iconst 1, 1), (67, .iadd, 1), (68, .iload_n 2, 1), (69, .iastore, 1), (70, .aload_n 0, 1), (71, .getfield 7, 3), (74, .bipush 118, 2), (76, .dup2, 1), (77, .iaload, 1), (78, .iconst 1, 1), (79, .iadd, 1), (80, .iastore, 1), (81, .aload_n 0, 1), (82, .getfield 7, 3), (85, .bipush 118, 2), (87, .iaload, 1), (88, .ireturn, 1)]
set_option maxRecDepth 100000 in
theorem hp_X8_wish : pr_X8_wish.all (fun x => decide (decode cX8_wish x.1 = .ok x.2)) = true := by decide +kernel
noncomputable def f_X8_wish_b16 (N : Nat) (σ : yS) : Option (Int × yS) :=
  some ((-1), σ)
noncomputable def f_X8_wish_b87 (N : Nat) (σ : yS) (s0 : Int) : Option (Int × yS) :=
  bif yin s0 393 then
    some (σ.1 1 s0.toNat, σ)
  else none
noncomputable def f_X8_wish_b77 (N : Nat) (σ : yS) (s0 : Int) (s2 : Int) : Option (Int × yS) :=
  bif yin s0 393 then
    bif yin s2 393 then
      f_X8_wish_b87 N (yw σ 1 s2.toNat (yad (σ.1 1 s0.toNat) 1)) 118
    else none
  else none
noncomputable def f_X8_wish_b63 (N : Nat) (σ : yS) (x2 : Int) (s0 : Int) (s2 : Int) (s3 : Int) : Option (Int × yS) :=
  bif yin s0 393 then
    bif yin (yad (yad s3 (ymu s2 (σ.1 1 s0.toNat))) 1) 393 then
      f_X8_wish_b77 N (yw σ 1 (yad (yad s3 (ymu s2 (σ.1 1 s0.toNat))) 1).toNat x2) 118 118
    else none
  else none
noncomputable def f_X8_wish (N : Nat) (σ : yS) (x1 : Int) (x2 : Int) : Option (Int × yS) :=
  match f_X8_isHouse N σ x1 with
  | none => none
  | some r1 => bif ycP .eq r1.1 0 then
      f_X8_wish_b16 N r1.2
    else
      match f_X8_isDeed N r1.2 x2 with
      | none => none
      | some r2 => bif ycP .ne r2.1 0 then
          bif ycP .ne (r2.2.1 1 118) 4 then
            bif yin (yad 119 (ymu 2 (r2.2.1 1 118))) 393 then
              f_X8_wish_b63 N (yw r2.2 1 (yad 119 (ymu 2 (r2.2.1 1 118))).toNat x1) x2 118 2 119
            else none
          else
            some ((-3), r2.2)
        else
          f_X8_wish_b16 N r2.2
noncomputable def F_X8_wish (N : Nat) : yF := fun as σ => match as with
  | [.inr (.inl 8, 0), .inl (.inl x1), .inl (.inl x2)] => (f_X8_wish N σ x1 x2).map (fun r => (some (.inl (.inl r.1)), r.2))
  | _ => none
theorem e_X8_wish {N : Nat} {σ : yS} {x1 : Int} {x2 : Int} {r : Int × yS} (h : f_X8_wish N σ x1 x2 = some r) : F_X8_wish N [.inr (.inl 8, 0), .inl (.inl x1), .inl (.inl x2)] σ = some (some (.inl (.inl r.1)), r.2) := by
  show (f_X8_wish N σ x1 x2).map (fun r => ((some (.inl (.inl r.1)), r.2) : yR)) = _
  rw [h]
  rfl
noncomputable def tb_X8_wish (N : Nat) : yTb := ([(7, 8, 0, 3)], [], [], [(205, 2, 8, F_X8_isHouse N), (209, 2, 8, F_X8_isDeed N)], [], [], [])
abbrev G_X8_wish (N : Nat) (X : zXT) (sh : List yH) (l : Launch) (rm : Room) : yC → yR → Prop := yGoes X vwCl yct sh l rm cX8_wish 3 wsX8_wish RX8 (tb_X8_wish N) pr_X8_wish 1
set_option maxRecDepth 100000 in
set_option maxHeartbeats 4000000 in
theorem t_X8_wish_b16 {N : Nat} {X : zXT} {sh : List yH} {l : Launch} {rm : Room} (σ : yS) (res : Int × yS) (h : f_X8_wish_b16 N σ = some res) : G_X8_wish N X sh l rm (16, [], [], σ) (some (.inl (.inl res.1)), res.2) := by
  unfold f_X8_wish_b16 at h
  refine yG_n (n := 1) (C' := (17, [], [.inl (.inl ((-1)))], σ)) rfl ?_
  have h := Option.some.inj h
  subst h
  dsimp only
  exact yG_r rfl rfl
set_option maxRecDepth 100000 in
set_option maxHeartbeats 4000000 in
theorem t_X8_wish_b87 {N : Nat} {X : zXT} {sh : List yH} {l : Launch} {rm : Room} (σ : yS) (s0 : Int) (res : Int × yS) (h : f_X8_wish_b87 N σ s0 = some res) : G_X8_wish N X sh l rm (87, [], [.inl (.inl s0), .inr (.inr (0, 393), 1)], σ) (some (.inl (.inl res.1)), res.2) := by
  unfold f_X8_wish_b87 at h
  cases hg1 : yin s0 393 with
  | false => rw [hg1] at h; dsimp only [cond] at h; cases h
  | true =>
    rw [hg1] at h
    dsimp only [cond] at h
    refine yG_t (C' := (88, [], [.inl (.inl (σ.1 1 s0.toNat))], σ)) rfl hg1 ?_
    have h := Option.some.inj h
    subst h
    dsimp only
    exact yG_r rfl rfl
set_option maxRecDepth 100000 in
set_option maxHeartbeats 4000000 in
theorem t_X8_wish_b77 {N : Nat} {X : zXT} {sh : List yH} {l : Launch} {rm : Room} (σ : yS) (s0 : Int) (s2 : Int) (res : Int × yS) (h : f_X8_wish_b77 N σ s0 s2 = some res) : G_X8_wish N X sh l rm (77, [(0, .inr (.inl 8, 0))], [.inl (.inl s0), .inr (.inr (0, 393), 1), .inl (.inl s2), .inr (.inr (0, 393), 1)], σ) (some (.inl (.inl res.1)), res.2) := by
  unfold f_X8_wish_b77 at h
  cases hg2 : yin s0 393 with
  | false => rw [hg2] at h; dsimp only [cond] at h; cases h
  | true =>
    rw [hg2] at h
    dsimp only [cond] at h
    refine yG_t (C' := (78, [(0, .inr (.inl 8, 0))], [.inl (.inl (σ.1 1 s0.toNat)), .inl (.inl s2), .inr (.inr (0, 393), 1)], σ)) rfl hg2 ?_
    refine yG_n (n := 2) (C' := (80, [(0, .inr (.inl 8, 0))], [.inl (.inl (yad (σ.1 1 s0.toNat) 1)), .inl (.inl s2), .inr (.inr (0, 393), 1)], σ)) rfl ?_
    cases hg3 : yin s2 393 with
    | false => rw [hg3] at h; dsimp only [cond] at h; cases h
    | true =>
      rw [hg3] at h
      dsimp only [cond] at h
      refine yG_t (C' := (81, [(0, .inr (.inl 8, 0))], [], yw σ 1 s2.toNat (yad (σ.1 1 s0.toNat) 1))) rfl hg3 ?_
      refine yG_n (n := 3) (C' := (87, [(0, .inr (.inl 8, 0))], [.inl (.inl 118), .inr (.inr (0, 393), 1)], yw σ 1 s2.toNat (yad (σ.1 1 s0.toNat) 1))) rfl ?_
      exact yG_w [] rfl (t_X8_wish_b87 (yw σ 1 s2.toNat (yad (σ.1 1 s0.toNat) 1)) 118 res h)
set_option maxRecDepth 100000 in
set_option maxHeartbeats 4000000 in
theorem t_X8_wish_b63 {N : Nat} {X : zXT} {sh : List yH} {l : Launch} {rm : Room} (σ : yS) (x2 : Int) (s0 : Int) (s2 : Int) (s3 : Int) (res : Int × yS) (h : f_X8_wish_b63 N σ x2 s0 s2 s3 = some res) : G_X8_wish N X sh l rm (63, [(0, .inr (.inl 8, 0)), (2, .inl (.inl x2))], [.inl (.inl s0), .inr (.inr (0, 393), 1), .inl (.inl s2), .inl (.inl s3), .inr (.inr (0, 393), 1)], σ) (some (.inl (.inl res.1)), res.2) := by
  unfold f_X8_wish_b63 at h
  cases hg4 : yin s0 393 with
  | false => rw [hg4] at h; dsimp only [cond] at h; cases h
  | true =>
    rw [hg4] at h
    dsimp only [cond] at h
    refine yG_t (C' := (64, [(0, .inr (.inl 8, 0)), (2, .inl (.inl x2))], [.inl (.inl (σ.1 1 s0.toNat)), .inl (.inl s2), .inl (.inl s3), .inr (.inr (0, 393), 1)], σ)) rfl hg4 ?_
    refine yG_n (n := 5) (C' := (69, [(0, .inr (.inl 8, 0)), (2, .inl (.inl x2))], [.inl (.inl x2), .inl (.inl (yad (yad s3 (ymu s2 (σ.1 1 s0.toNat))) 1)), .inr (.inr (0, 393), 1)], σ)) rfl ?_
    cases hg5 : yin (yad (yad s3 (ymu s2 (σ.1 1 s0.toNat))) 1) 393 with
    | false => rw [hg5] at h; dsimp only [cond] at h; cases h
    | true =>
      rw [hg5] at h
      dsimp only [cond] at h
      refine yG_t (C' := (70, [(0, .inr (.inl 8, 0)), (2, .inl (.inl x2))], [], yw σ 1 (yad (yad s3 (ymu s2 (σ.1 1 s0.toNat))) 1).toNat x2)) rfl hg5 ?_
      refine yG_n (n := 4) (C' := (77, [(0, .inr (.inl 8, 0)), (2, .inl (.inl x2))], [.inl (.inl 118), .inr (.inr (0, 393), 1), .inl (.inl 118), .inr (.inr (0, 393), 1)], yw σ 1 (yad (yad s3 (ymu s2 (σ.1 1 s0.toNat))) 1).toNat x2)) rfl ?_
      exact yG_w [0] rfl (t_X8_wish_b77 (yw σ 1 (yad (yad s3 (ymu s2 (σ.1 1 s0.toNat))) 1).toNat x2) 118 118 res h)
set_option maxRecDepth 100000 in
set_option maxHeartbeats 4000000 in
theorem t_X8_wish {N : Nat} {X : zXT} {sh : List yH} {l : Launch} {rm : Room} (σ : yS) (x1 : Int) (x2 : Int) (res : Int × yS) (h : f_X8_wish N σ x1 x2 = some res) : G_X8_wish N X sh l rm (0, [(0, .inr (.inl 8, 0)), (1, .inl (.inl x1)), (2, .inl (.inl x2))], [], σ) (some (.inl (.inl res.1)), res.2) := by
  unfold f_X8_wish at h
  refine yG_n (n := 2) (C' := (2, [(0, .inr (.inl 8, 0)), (1, .inl (.inl x1)), (2, .inl (.inl x2))], [.inl (.inl x1), .inr (.inl 8, 0)], σ)) rfl ?_
  cases hr6 : f_X8_isHouse N σ x1 with
  | none => rw [hr6] at h; dsimp only at h; cases h
  | some r1 =>
    rw [hr6] at h
    dsimp only at h
    refine yG_c (C1 := (5, [(0, .inr (.inl 8, 0)), (1, .inl (.inl x1)), (2, .inl (.inl x2))], [.inl (.inl r1.1)], r1.2)) rfl (e_X8_isHouse hr6) rfl ?_
    cases hg7 : ycP .eq r1.1 0 with
    | true =>
      rw [hg7] at h
      dsimp only [cond] at h
      refine yG_t (C' := (16, [(0, .inr (.inl 8, 0)), (1, .inl (.inl x1)), (2, .inl (.inl x2))], [], r1.2)) rfl hg7 ?_
      exact yG_w [] rfl (t_X8_wish_b16 r1.2 res h)
    | false =>
      rw [hg7] at h
      dsimp only [cond] at h
      refine yG_f (C' := (8, [(0, .inr (.inl 8, 0)), (1, .inl (.inl x1)), (2, .inl (.inl x2))], [], r1.2)) rfl hg7 ?_
      refine yG_n (n := 2) (C' := (10, [(0, .inr (.inl 8, 0)), (1, .inl (.inl x1)), (2, .inl (.inl x2))], [.inl (.inl x2), .inr (.inl 8, 0)], r1.2)) rfl ?_
      cases hr8 : f_X8_isDeed N r1.2 x2 with
      | none => rw [hr8] at h; dsimp only at h; cases h
      | some r2 =>
        rw [hr8] at h
        dsimp only at h
        refine yG_c (C1 := (13, [(0, .inr (.inl 8, 0)), (1, .inl (.inl x1)), (2, .inl (.inl x2))], [.inl (.inl r2.1)], r2.2)) rfl (e_X8_isDeed hr8) rfl ?_
        cases hg9 : ycP .ne r2.1 0 with
        | true =>
          rw [hg9] at h
          dsimp only [cond] at h
          refine yG_t (C' := (18, [(0, .inr (.inl 8, 0)), (1, .inl (.inl x1)), (2, .inl (.inl x2))], [], r2.2)) rfl hg9 ?_
          refine yG_n (n := 5) (C' := (26, [(0, .inr (.inl 8, 0)), (1, .inl (.inl x1)), (2, .inl (.inl x2))], [.inl (.inl 4), .inl (.inl (r2.2.1 1 118))], r2.2)) rfl ?_
          cases hg10 : ycP .ne (r2.2.1 1 118) 4 with
          | true =>
            rw [hg10] at h
            dsimp only [cond] at h
            refine yG_t (C' := (32, [(0, .inr (.inl 8, 0)), (1, .inl (.inl x1)), (2, .inl (.inl x2))], [], r2.2)) rfl hg10 ?_
            refine yG_n (n := 11) (C' := (49, [(0, .inr (.inl 8, 0)), (1, .inl (.inl x1)), (2, .inl (.inl x2))], [.inl (.inl x1), .inl (.inl (yad 119 (ymu 2 (r2.2.1 1 118)))), .inr (.inr (0, 393), 1)], r2.2)) rfl ?_
            cases hg11 : yin (yad 119 (ymu 2 (r2.2.1 1 118))) 393 with
            | false => rw [hg11] at h; dsimp only [cond] at h; cases h
            | true =>
              rw [hg11] at h
              dsimp only [cond] at h
              refine yG_t (C' := (50, [(0, .inr (.inl 8, 0)), (1, .inl (.inl x1)), (2, .inl (.inl x2))], [], yw r2.2 1 (yad 119 (ymu 2 (r2.2.1 1 118))).toNat x1)) rfl hg11 ?_
              refine yG_n (n := 7) (C' := (63, [(0, .inr (.inl 8, 0)), (1, .inl (.inl x1)), (2, .inl (.inl x2))], [.inl (.inl 118), .inr (.inr (0, 393), 1), .inl (.inl 2), .inl (.inl 119), .inr (.inr (0, 393), 1)], yw r2.2 1 (yad 119 (ymu 2 (r2.2.1 1 118))).toNat x1)) rfl ?_
              exact yG_w [0, 2] rfl (t_X8_wish_b63 (yw r2.2 1 (yad 119 (ymu 2 (r2.2.1 1 118))).toNat x1) x2 118 2 119 res h)
          | false =>
            rw [hg10] at h
            dsimp only [cond] at h
            refine yG_f (C' := (29, [(0, .inr (.inl 8, 0)), (1, .inl (.inl x1)), (2, .inl (.inl x2))], [], r2.2)) rfl hg10 ?_
            refine yG_n (n := 1) (C' := (31, [(0, .inr (.inl 8, 0)), (1, .inl (.inl x1)), (2, .inl (.inl x2))], [.inl (.inl ((-3)))], r2.2)) rfl ?_
            have h := Option.some.inj h
            subst h
            dsimp only
            exact yG_r rfl rfl
        | false =>
          rw [hg9] at h
          dsimp only [cond] at h
          refine yG_f (C' := (16, [(0, .inr (.inl 8, 0)), (1, .inl (.inl x1)), (2, .inl (.inl x2))], [], r2.2)) rfl hg9 ?_
          exact yG_w [] rfl (t_X8_wish_b16 r2.2 res h)
set_option maxRecDepth 100000 in
set_option maxHeartbeats 4000000 in
theorem m_X8_wish {N : Nat} {X : zXT} (hX : zXok X) (hN : zXn X) (l : Launch) {sh : List yH} : yMet X vwCl yct sh l yX8_wish wsX8_wish { frames := 3, cells := 0, slots := 0, locals := 110 } (F_X8_wish N) :=
  ymeth (tb := tb_X8_wish N) (pr := pr_X8_wish) (rt := 1) (own := RX8) hX (by decide +kernel) rfl rfl ⟨Nat.le_of_ble_eq_true rfl, Nat.le_of_ble_eq_true rfl⟩
    (zfl_all (List.forall_mem_cons.mpr ⟨zfl_X8 (fun w h => List.mem_cons_of_mem _ (List.mem_append_right _ h)) (List.mem_of_getElem? (i := 1) rfl) (by decide) (by decide), fun _ h => absurd h List.not_mem_nil⟩))
    (zco_all (fun _ h => absurd h List.not_mem_nil)) (zlc_all (fun _ h => absurd h List.not_mem_nil))
    (List.forall_mem_cons.mpr ⟨ycal_V hX (m_X8_isHouse hX hN l) rfl (fun s args hts => cwV 1 hts gX8_wish_X8_isHouse rfl rfl rfl (by decide +kernel) ⟨Nat.le_of_ble_eq_true rfl, Nat.le_of_ble_eq_true rfl⟩), List.forall_mem_cons.mpr ⟨ycal_V hX (m_X8_isDeed hX hN l) rfl (fun s args hts => cwV 1 hts gX8_wish_X8_isDeed rfl rfl rfl (by decide +kernel) ⟨Nat.le_of_ble_eq_true rfl, Nat.le_of_ble_eq_true rfl⟩), fun _ h => absurd h List.not_mem_nil⟩⟩)
    (fun _ h => absurd h List.not_mem_nil)
    (zmm_all (fun _ h => absurd h List.not_mem_nil)) (fun _ h => absurd h List.not_mem_nil) (zpr_all hp_X8_wish) (fun as σ res h => by
      unfold F_X8_wish at h
      split at h
      · rename_i x1 x2
        cases hr : f_X8_wish N σ x1 x2 with
        | none => rw [hr] at h; cases h
        | some r =>
          rw [hr] at h
          cases h
          exact ⟨Nat.le_of_ble_eq_true rfl, t_X8_wish σ x1 x2 r hr⟩
      · cases h)
