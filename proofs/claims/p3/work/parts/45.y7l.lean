noncomputable def pr_X7_who : List (Nat × Instr × Nat) := [(0, .aload_n 0, 1), (1, .getfield 10, 3), (4, .iload_n 1, 1), (5, .invokevirtual 118, 3), (8, .ifCond .eq 23, 3), (11, .aload_n 0, 1), (12, .getfield 10, 3), (15, .iload_n 2, 1), (16, .invokevirtual 150, 3), (19, .ifCond .eq 12, 3), (22, .iload_n 3, 1), (23, .iconst 1, 1), (24, .iconst 4, 1), (25, .invokestatic 49, 3), (28, .ifCond .ne 5, 3), (31, .iconst (-1), 1), (32, .ireturn, 1), (33, .iconst 0, 1), (34, .istore 4, 2), (36, .iconst 0, 1), (37, .istore 5, 2), (39, .iload 5, 2), (41, .aload_n 0, 1), (42, .getfield 10, 3), (45, .getfield 82, 3), (48, .if_icmp .ge 60, 3), (51, .iconst 0, 1), (52, .istore 6, 2), (54, .iload 6, 2), (56, .iconst 4, 1), (57, .if_icmp .ge 45, 3), (60, .aload_n 0, 1), (61, .getfield 10, 3), (64, .iload 5, 2), (66, .iload 6, 2), (68, .iload_n 3, 1), (69, .iconst 1, 1), (70, .isub, 1), (71, .iload_n 2, 1), (72, .invokestatic 215, 3), (75, .invokevirtual 219, 3), (78, .iload_n 1, 1), (79, .invokestatic 131, 3), (82, .iconst 1, 1), (83, .if_icmp .ne 13, 3), (86, .iload 4, 2), (88, .iload 5, 2), (90, .iconst 1, 1), (91, .invokestatic 170, 3), (94, .istore 4, 2), (96, .iinc 6 1, 3), (99, .goto (-45), 3), (102, .iinc 5 1, 3), (105, .goto (-66), 3), (108, .iload 4, 2), (110, .ireturn, 1)]
set_option maxRecDepth 100000 in
theorem hp_X7_who : pr_X7_who.all (fun x => decide (decode cX7_who x.1 = .ok x.2)) = true := by decide +kernel
noncomputable def f_X7_who_b31 (N : Nat) (σ : yS) : Option (Int × yS) :=
  some ((-1), σ)
noncomputable def f_X7_who_b96 (N : Nat) (k39 : yS → Int → Int → Int → Int → Int → Option (Int × yS)) (k54 : yS → Int → Int → Int → Int → Int → Int → Option (Int × yS)) (σ : yS) (x1 : Int) (x2 : Int) (x3 : Int) (x4 : Int) (x5 : Int) (x6 : Int) : Option (Int × yS) :=
  k54 σ x1 x2 x3 x4 x5 (yad x6 1)
noncomputable def f_X7_who_b54 (N : Nat) (k39 : yS → Int → Int → Int → Int → Int → Option (Int × yS)) : Nat → yS → Int → Int → Int → Int → Int → Int → Option (Int × yS) := yfix (fun _ _ _ _ _ _ _ => none) (fun ih σ x1 x2 x3 x4 x5 x6 =>
    bif ycP .ge x6 4 then
      k39 σ x1 x2 x3 x4 (yad x5 1)
    else
      match f_X7_numberOf N σ x5 x6 (ysu x3 1) x2 with
      | none => none
      | some r4 => match f_X4_broughtBy N r4.2 17 r4.1 with
        | none => none
        | some r5 => match f_X7_bit N r5.2 r5.1 x1 with
          | none => none
          | some r6 => bif ycP .ne r6.1 1 then
              f_X7_who_b96 N k39 ih r6.2 x1 x2 x3 x4 x5 x6
            else
              match f_X7_withBit N r6.2 x4 x5 1 with
              | none => none
              | some r7 => f_X7_who_b96 N k39 ih r7.2 x1 x2 x3 r7.1 x5 x6)
theorem q_X7_who_b54 (N : Nat) (k39 : yS → Int → Int → Int → Int → Int → Option (Int × yS)) (n : Nat) (σ : yS) (x1 : Int) (x2 : Int) (x3 : Int) (x4 : Int) (x5 : Int) (x6 : Int) : f_X7_who_b54 N k39 (n + 1) σ x1 x2 x3 x4 x5 x6 =
    (bif ycP .ge x6 4 then
      k39 σ x1 x2 x3 x4 (yad x5 1)
    else
      match f_X7_numberOf N σ x5 x6 (ysu x3 1) x2 with
      | none => none
      | some r4 => match f_X4_broughtBy N r4.2 17 r4.1 with
        | none => none
        | some r5 => match f_X7_bit N r5.2 r5.1 x1 with
          | none => none
          | some r6 => bif ycP .ne r6.1 1 then
              f_X7_who_b96 N k39 (f_X7_who_b54 N k39 n) r6.2 x1 x2 x3 x4 x5 x6
            else
              match f_X7_withBit N r6.2 x4 x5 1 with
              | none => none
              | some r7 => f_X7_who_b96 N k39 (f_X7_who_b54 N k39 n) r7.2 x1 x2 x3 r7.1 x5 x6) := rfl
noncomputable def f_X7_who_b39 (N : Nat) : Nat → yS → Int → Int → Int → Int → Int → Option (Int × yS) := yfix (fun _ _ _ _ _ _ => none) (fun ih σ x1 x2 x3 x4 x5 =>
    bif ycP .ge x5 (σ.1 17 0) then
      some (x4, σ)
    else
      f_X7_who_b54 N ih N σ x1 x2 x3 x4 x5 0)
theorem q_X7_who_b39 (N : Nat) (n : Nat) (σ : yS) (x1 : Int) (x2 : Int) (x3 : Int) (x4 : Int) (x5 : Int) : f_X7_who_b39 N (n + 1) σ x1 x2 x3 x4 x5 =
    (bif ycP .ge x5 (σ.1 17 0) then
      some (x4, σ)
    else
      f_X7_who_b54 N (f_X7_who_b39 N n) N σ x1 x2 x3 x4 x5 0) := rfl
noncomputable def f_X7_who (N : Nat) (σ : yS) (x1 : Int) (x2 : Int) (x3 : Int) : Option (Int × yS) :=
  match f_X4_isHouse N σ 17 x1 with
  | none => none
  | some r1 => bif ycP .eq r1.1 0 then
      f_X7_who_b31 N r1.2
    else
      match f_X4_isDeed N r1.2 17 x2 with
      | none => none
      | some r2 => bif ycP .eq r2.1 0 then
          f_X7_who_b31 N r2.2
        else
          match f_X7_within N r2.2 x3 1 4 with
          | none => none
          | some r3 => bif ycP .ne r3.1 0 then
              f_X7_who_b39 N N r3.2 x1 x2 x3 0 0
            else
              f_X7_who_b31 N r3.2
noncomputable def F_X7_who (N : Nat) : yF := fun as σ => match as with
  | [.inr (.inl 7, 0), .inl (.inl x1), .inl (.inl x2), .inl (.inl x3)] => (f_X7_who N σ x1 x2 x3).map (fun r => (some (.inl (.inl r.1)), r.2))
  | _ => none
theorem e_X7_who {N : Nat} {σ : yS} {x1 : Int} {x2 : Int} {x3 : Int} {r : Int × yS} (h : f_X7_who N σ x1 x2 x3 = some r) : F_X7_who N [.inr (.inl 7, 0), .inl (.inl x1), .inl (.inl x2), .inl (.inl x3)] σ = some (some (.inl (.inl r.1)), r.2) := by
  show (f_X7_who N σ x1 x2 x3).map (fun r => ((some (.inl (.inl r.1)), r.2) : yR)) = _
  rw [h]
  rfl
noncomputable def tb_X7_who (N : Nat) : yTb := ([(10, 7, 0, 3), (82, 4, 0, 0)], [], [], [(118, 2, 4, F_X4_isHouse N), (150, 2, 4, F_X4_isDeed N), (219, 2, 4, F_X4_broughtBy N)], [(49, 3, F_X7_within N), (131, 2, F_X7_bit N), (170, 3, F_X7_withBit N), (215, 4, F_X7_numberOf N)], [], [])
abbrev G_X7_who (N : Nat) (X : zXT) (sh : List yH) (l : Launch) (rm : Room) : yC → yR → Prop := yGoes X vwCl yct sh l rm cX7_who 7 wsX7_who RX7 (tb_X7_who N) pr_X7_who 1
set_option maxRecDepth 100000 in
set_option maxHeartbeats 4000000 in
theorem t_X7_who_b31 {N : Nat} {X : zXT} {sh : List yH} {l : Launch} {rm : Room} (σ : yS) (res : Int × yS) (h : f_X7_who_b31 N σ = some res) : G_X7_who N X sh l rm (31, [], [], σ) (some (.inl (.inl res.1)), res.2) := by
  unfold f_X7_who_b31 at h
  refine yG_n (n := 1) (C' := (32, [], [.inl (.inl ((-1)))], σ)) rfl ?_
  have h := Option.some.inj h
  subst h
  dsimp only
  exact yG_r rfl rfl
set_option maxRecDepth 100000 in
set_option maxHeartbeats 4000000 in
theorem t_X7_who_b96 {N : Nat} {X : zXT} {sh : List yH} {l : Launch} {rm : Room} (k39 : yS → Int → Int → Int → Int → Int → Option (Int × yS)) (hk39 : ∀ (σ : yS) (x1 : Int) (x2 : Int) (x3 : Int) (x4 : Int) (x5 : Int) (res : Int × yS), k39 σ x1 x2 x3 x4 x5 = some res → G_X7_who N X sh l rm (39, [(0, .inr (.inl 7, 0)), (1, .inl (.inl x1)), (2, .inl (.inl x2)), (3, .inl (.inl x3)), (4, .inl (.inl x4)), (5, .inl (.inl x5))], [], σ) (some (.inl (.inl res.1)), res.2)) (k54 : yS → Int → Int → Int → Int → Int → Int → Option (Int × yS)) (hk54 : ∀ (σ : yS) (x1 : Int) (x2 : Int) (x3 : Int) (x4 : Int) (x5 : Int) (x6 : Int) (res : Int × yS), k54 σ x1 x2 x3 x4 x5 x6 = some res → G_X7_who N X sh l rm (54, [(0, .inr (.inl 7, 0)), (1, .inl (.inl x1)), (2, .inl (.inl x2)), (3, .inl (.inl x3)), (4, .inl (.inl x4)), (5, .inl (.inl x5)), (6, .inl (.inl x6))], [], σ) (some (.inl (.inl res.1)), res.2)) (σ : yS) (x1 : Int) (x2 : Int) (x3 : Int) (x4 : Int) (x5 : Int) (x6 : Int) (res : Int × yS) (h : f_X7_who_b96 N k39 k54 σ x1 x2 x3 x4 x5 x6 = some res) : G_X7_who N X sh l rm (96, [(0, .inr (.inl 7, 0)), (1, .inl (.inl x1)), (2, .inl (.inl x2)), (3, .inl (.inl x3)), (4, .inl (.inl x4)), (5, .inl (.inl x5)), (6, .inl (.inl x6))], [], σ) (some (.inl (.inl res.1)), res.2) := by
  unfold f_X7_who_b96 at h
  refine yG_n (n := 2) (C' := (54, [(6, .inl (.inl (yad x6 1))), (0, .inr (.inl 7, 0)), (1, .inl (.inl x1)), (2, .inl (.inl x2)), (3, .inl (.inl x3)), (4, .inl (.inl x4)), (5, .inl (.inl x5))], [], σ)) rfl ?_
  exact yG_w [1, 2, 3, 4, 5, 6, 0] rfl (hk54 σ x1 x2 x3 x4 x5 (yad x6 1) res h)
set_option maxRecDepth 100000 in
set_option maxHeartbeats 4000000 in
theorem t_X7_who_b54 {N : Nat} {X : zXT} {sh : List yH} {l : Launch} {rm : Room} (k39 : yS → Int → Int → Int → Int → Int → Option (Int × yS)) (hk39 : ∀ (σ : yS) (x1 : Int) (x2 : Int) (x3 : Int) (x4 : Int) (x5 : Int) (res : Int × yS), k39 σ x1 x2 x3 x4 x5 = some res → G_X7_who N X sh l rm (39, [(0, .inr (.inl 7, 0)), (1, .inl (.inl x1)), (2, .inl (.inl x2)), (3, .inl (.inl x3)), (4, .inl (.inl x4)), (5, .inl (.inl x5))], [], σ) (some (.inl (.inl res.1)), res.2)) : ∀ (n : Nat) (σ : yS) (x1 : Int) (x2 : Int) (x3 : Int) (x4 : Int) (x5 : Int) (x6 : Int) (res : Int × yS), f_X7_who_b54 N k39 n σ x1 x2 x3 x4 x5 x6 = some res → G_X7_who N X sh l rm (54, [(0, .inr (.inl 7, 0)), (1, .inl (.inl x1)), (2, .inl (.inl x2)), (3, .inl (.inl x3)), (4, .inl (.inl x4)), (5, .inl (.inl x5)), (6, .inl (.inl x6))], [], σ) (some (.inl (.inl res.1)), res.2) := by
  intro n
  induction n with
  | zero => intro σ x1 x2 x3 x4 x5 x6 res h; exact (yno h).elim
  | succ n ih =>
    intro σ x1 x2 x3 x4 x5 x6 res h
    rw [q_X7_who_b54] at h
    refine yG_n (n := 2) (C' := (57, [(0, .inr (.inl 7, 0)), (1, .inl (.inl x1)), (2, .inl (.inl x2)), (3, .inl (.inl x3)), (4, .inl (.inl x4)), (5, .inl (.inl x5)), (6, .inl (.inl x6))], [.inl (.inl 4), .inl (.inl x6)], σ)) rfl ?_
    cases hg1 : ycP .ge x6 4 with
    | true =>
      rw [hg1] at h
      dsimp only [cond] at h
      refine yG_t (C' := (102, [(0, .inr (.inl 7, 0)), (1, .inl (.inl x1)), (2, .inl (.inl x2)), (3, .inl (.inl x3)), (4, .inl (.inl x4)), (5, .inl (.inl x5)), (6, .inl (.inl x6))], [], σ)) rfl hg1 ?_
      refine yG_n (n := 2) (C' := (39, [(5, .inl (.inl (yad x5 1))), (0, .inr (.inl 7, 0)), (1, .inl (.inl x1)), (2, .inl (.inl x2)), (3, .inl (.inl x3)), (4, .inl (.inl x4)), (6, .inl (.inl x6))], [], σ)) rfl ?_
      exact yG_w [1, 2, 3, 4, 5, 0] rfl (hk39 σ x1 x2 x3 x4 (yad x5 1) res h)
    | false =>
      rw [hg1] at h
      dsimp only [cond] at h
      refine yG_f (C' := (60, [(0, .inr (.inl 7, 0)), (1, .inl (.inl x1)), (2, .inl (.inl x2)), (3, .inl (.inl x3)), (4, .inl (.inl x4)), (5, .inl (.inl x5)), (6, .inl (.inl x6))], [], σ)) rfl hg1 ?_
      refine yG_n (n := 8) (C' := (72, [(0, .inr (.inl 7, 0)), (1, .inl (.inl x1)), (2, .inl (.inl x2)), (3, .inl (.inl x3)), (4, .inl (.inl x4)), (5, .inl (.inl x5)), (6, .inl (.inl x6))], [.inl (.inl x2), .inl (.inl (ysu x3 1)), .inl (.inl x6), .inl (.inl x5), .inr (.inl 4, 17)], σ)) rfl ?_
      cases hr2 : f_X7_numberOf N σ x5 x6 (ysu x3 1) x2 with
      | none => rw [hr2] at h; dsimp only at h; cases h
      | some r4 =>
        rw [hr2] at h
        dsimp only at h
        refine yG_c (C1 := (75, [(0, .inr (.inl 7, 0)), (1, .inl (.inl x1)), (2, .inl (.inl x2)), (3, .inl (.inl x3)), (4, .inl (.inl x4)), (5, .inl (.inl x5)), (6, .inl (.inl x6))], [.inl (.inl r4.1), .inr (.inl 4, 17)], r4.2)) rfl (e_X7_numberOf hr2) rfl ?_
        cases hr3 : f_X4_broughtBy N r4.2 17 r4.1 with
        | none => rw [hr3] at h; dsimp only at h; cases h
        | some r5 =>
          rw [hr3] at h
          dsimp only at h
          refine yG_c (C1 := (78, [(0, .inr (.inl 7, 0)), (1, .inl (.inl x1)), (2, .inl (.inl x2)), (3, .inl (.inl x3)), (4, .inl (.inl x4)), (5, .inl (.inl x5)), (6, .inl (.inl x6))], [.inl (.inl r5.1)], r5.2)) rfl (e_X4_broughtBy hr3) rfl ?_
          refine yG_n (n := 1) (C' := (79, [(0, .inr (.inl 7, 0)), (1, .inl (.inl x1)), (2, .inl (.inl x2)), (3, .inl (.inl x3)), (4, .inl (.inl x4)), (5, .inl (.inl x5)), (6, .inl (.inl x6))], [.inl (.inl x1), .inl (.inl r5.1)], r5.2)) rfl ?_
          cases hr4 : f_X7_bit N r5.2 r5.1 x1 with
          | none => rw [hr4] at h; dsimp only at h; cases h
          | some r6 =>
            rw [hr4] at h
            dsimp only at h
            refine yG_c (C1 := (82, [(0, .inr (.inl 7, 0)), (1, .inl (.inl x1)), (2, .inl (.inl x2)), (3, .inl (.inl x3)), (4, .inl (.inl x4)), (5, .inl (.inl x5)), (6, .inl (.inl x6))], [.inl (.inl r6.1)], r6.2)) rfl (e_X7_bit hr4) rfl ?_
            refine yG_n (n := 1) (C' := (83, [(0, .inr (.inl 7, 0)), (1, .inl (.inl x1)), (2, .inl (.inl x2)), (3, .inl (.inl x3)), (4, .inl (.inl x4)), (5, .inl (.inl x5)), (6, .inl (.inl x6))], [.inl (.inl 1), .inl (.inl r6.1)], r6.2)) rfl ?_
            cases hg5 : ycP .ne r6.1 1 with
            | true =>
              rw [hg5] at h
              dsimp only [cond] at h
              refine yG_t (C' := (96, [(0, .inr (.inl 7, 0)), (1, .inl (.inl x1)), (2, .inl (.inl x2)), (3, .inl (.inl x3)), (4, .inl (.inl x4)), (5, .inl (.inl x5)), (6, .inl (.inl x6))], [], r6.2)) rfl hg5 ?_
              exact t_X7_who_b96 k39 hk39 (f_X7_who_b54 N k39 n) ih r6.2 x1 x2 x3 x4 x5 x6 res h
            | false =>
              rw [hg5] at h
              dsimp only [cond] at h
              refine yG_f (C' := (86, [(0, .inr (.inl 7, 0)), (1, .inl (.inl x1)), (2, .inl (.inl x2)), (3, .inl (.inl x3)), (4, .inl (.inl x4)), (5, .inl (.inl x5)), (6, .inl (.inl x6))], [], r6.2)) rfl hg5 ?_
              refine yG_n (n := 3) (C' := (91, [(0, .inr (.inl 7, 0)), (1, .inl (.inl x1)), (2, .inl (.inl x2)), (3, .inl (.inl x3)), (4, .inl (.inl x4)), (5, .inl (.inl x5)), (6, .inl (.inl x6))], [.inl (.inl 1), .inl (.inl x5), .inl (.inl x4)], r6.2)) rfl ?_
              cases hr6 : f_X7_withBit N r6.2 x4 x5 1 with
              | none => rw [hr6] at h; dsimp only at h; cases h
              | some r7 =>
                rw [hr6] at h
                dsimp only at h
                refine yG_c (C1 := (94, [(0, .inr (.inl 7, 0)), (1, .inl (.inl x1)), (2, .inl (.inl x2)), (3, .inl (.inl x3)), (4, .inl (.inl x4)), (5, .inl (.inl x5)), (6, .inl (.inl x6))], [.inl (.inl r7.1)], r7.2)) rfl (e_X7_withBit hr6) rfl ?_
                refine yG_n (n := 1) (C' := (96, [(4, .inl (.inl r7.1)), (0, .inr (.inl 7, 0)), (1, .inl (.inl x1)), (2, .inl (.inl x2)), (3, .inl (.inl x3)), (5, .inl (.inl x5)), (6, .inl (.inl x6))], [], r7.2)) rfl ?_
                exact yG_w [1, 2, 3, 4, 0, 5, 6] rfl (t_X7_who_b96 k39 hk39 (f_X7_who_b54 N k39 n) ih r7.2 x1 x2 x3 r7.1 x5 x6 res h)
set_option maxRecDepth 100000 in
set_option maxHeartbeats 4000000 in
theorem t_X7_who_b39 {N : Nat} {X : zXT} {sh : List yH} {l : Launch} {rm : Room} : ∀ (n : Nat) (σ : yS) (x1 : Int) (x2 : Int) (x3 : Int) (x4 : Int) (x5 : Int) (res : Int × yS), f_X7_who_b39 N n σ x1 x2 x3 x4 x5 = some res → G_X7_who N X sh l rm (39, [(0, .inr (.inl 7, 0)), (1, .inl (.inl x1)), (2, .inl (.inl x2)), (3, .inl (.inl x3)), (4, .inl (.inl x4)), (5, .inl (.inl x5))], [], σ) (some (.inl (.inl res.1)), res.2) := by
  intro n
  induction n with
  | zero => intro σ x1 x2 x3 x4 x5 res h; exact (yno h).elim
  | succ n ih =>
    intro σ x1 x2 x3 x4 x5 res h
    rw [q_X7_who_b39] at h
    refine yG_n (n := 4) (C' := (48, [(0, .inr (.inl 7, 0)), (1, .inl (.inl x1)), (2, .inl (.inl x2)), (3, .inl (.inl x3)), (4, .inl (.inl x4)), (5, .inl (.inl x5))], [.inl (.inl (σ.1 17 0)), .inl (.inl x5)], σ)) rfl ?_
    cases hg7 : ycP .ge x5 (σ.1 17 0) with
    | true =>
      rw [hg7] at h
      dsimp only [cond] at h
      refine yG_t (C' := (108, [(0, .inr (.inl 7, 0)), (1, .inl (.inl x1)), (2, .inl (.inl x2)), (3, .inl (.inl x3)), (4, .inl (.inl x4)), (5, .inl (.inl x5))], [], σ)) rfl hg7 ?_
      refine yG_n (n := 1) (C' := (110, [(0, .inr (.inl 7, 0)), (1, .inl (.inl x1)), (2, .inl (.inl x2)), (3, .inl (.inl x3)), (4, .inl (.inl x4)), (5, .inl (.inl x5))], [.inl (.inl x4)], σ)) rfl ?_
      have h := Option.some.inj h
      subst h
      dsimp only
      exact yG_r rfl rfl
    | false =>
      rw [hg7] at h
      dsimp only [cond] at h
      refine yG_f (C' := (51, [(0, .inr (.inl 7, 0)), (1, .inl (.inl x1)), (2, .inl (.inl x2)), (3, .inl (.inl x3)), (4, .inl (.inl x4)), (5, .inl (.inl x5))], [], σ)) rfl hg7 ?_
      refine yG_n (n := 2) (C' := (54, [(6, .inl (.inl 0)), (0, .inr (.inl 7, 0)), (1, .inl (.inl x1)), (2, .inl (.inl x2)), (3, .inl (.inl x3)), (4, .inl (.inl x4)), (5, .inl (.inl x5))], [], σ)) rfl ?_
      exact yG_w [1, 2, 3, 4, 5, 6, 0] rfl (t_X7_who_b54 (f_X7_who_b39 N n) ih N σ x1 x2 x3 x4 x5 0 res h)
set_option maxRecDepth 100000 in
set_option maxHeartbeats 4000000 in
theorem t_X7_who {N : Nat} {X : zXT} {sh : List yH} {l : Launch} {rm : Room} (σ : yS) (x1 : Int) (x2 : Int) (x3 : Int) (res : Int × yS) (h : f_X7_who N σ x1 x2 x3 = some res) : G_X7_who N X sh l rm (0, [(0, .inr (.inl 7, 0)), (1, .inl (.inl x1)), (2, .inl (.inl x2)), (3, .inl (.inl x3))], [], σ) (some (.inl (.inl res.1)), res.2) := by
  unfold f_X7_who at h
  refine yG_n (n := 3) (C' := (5, [(0, .inr (.inl 7, 0)), (1, .inl (.inl x1)), (2, .inl (.inl x2)), (3, .inl (.inl x3))], [.inl (.inl x1), .inr (.inl 4, 17)], σ)) rfl ?_
  cases hr8 : f_X4_isHouse N σ 17 x1 with
  | none => rw [hr8] at h; dsimp only at h; cases h
  | some r1 =>
    rw [hr8] at h
    dsimp only at h
    refine yG_c (C1 := (8, [(0, .inr (.inl 7, 0)), (1, .inl (.inl x1)), (2, .inl (.inl x2)), (3, .inl (.inl x3))], [.inl (.inl r1.1)], r1.2)) rfl (e_X4_isHouse hr8) rfl ?_
    cases hg9 : ycP .eq r1.1 0 with
    | true =>
      rw [hg9] at h
      dsimp only [cond] at h
      refine yG_t (C' := (31, [(0, .inr (.inl 7, 0)), (1, .inl (.inl x1)), (2, .inl (.inl x2)), (3, .inl (.inl x3))], [], r1.2)) rfl hg9 ?_
      exact yG_w [] rfl (t_X7_who_b31 r1.2 res h)
    | false =>
      rw [hg9] at h
      dsimp only [cond] at h
      refine yG_f (C' := (11, [(0, .inr (.inl 7, 0)), (1, .inl (.inl x1)), (2, .inl (.inl x2)), (3, .inl (.inl x3))], [], r1.2)) rfl hg9 ?_
      refine yG_n (n := 3) (C' := (16, [(0, .inr (.inl 7, 0)), (1, .inl (.inl x1)), (2, .inl (.inl x2)), (3, .inl (.inl x3))], [.inl (.inl x2), .inr (.inl 4, 17)], r1.2)) rfl ?_
      cases hr10 : f_X4_isDeed N r1.2 17 x2 with
      | none => rw [hr10] at h; dsimp only at h; cases h
      | some r2 =>
        rw [hr10] at h
        dsimp only at h
        refine yG_c (C1 := (19, [(0, .inr (.inl 7, 0)), (1, .inl (.inl x1)), (2, .inl (.inl x2)), (3, .inl (.inl x3))], [.inl (.inl r2.1)], r2.2)) rfl (e_X4_isDeed hr10) rfl ?_
        cases hg11 : ycP .eq r2.1 0 with
        | true =>
          rw [hg11] at h
          dsimp only [cond] at h
          refine yG_t (C' := (31, [(0, .inr (.inl 7, 0)), (1, .inl (.inl x1)), (2, .inl (.inl x2)), (3, .inl (.inl x3))], [], r2.2)) rfl hg11 ?_
          exact yG_w [] rfl (t_X7_who_b31 r2.2 res h)
        | false =>
          rw [hg11] at h
          dsimp only [cond] at h
          refine yG_f (C' := (22, [(0, .inr (.inl 7, 0)), (1, .inl (.inl x1)), (2, .inl (.inl x2)), (3, .inl (.inl x3))], [], r2.2)) rfl hg11 ?_
          refine yG_n (n := 3) (C' := (25, [(0, .inr (.inl 7, 0)), (1, .inl (.inl x1)), (2, .inl (.inl x2)), (3, .inl (.inl x3))], [.inl (.inl 4), .inl (.inl 1), .inl (.inl x3)], r2.2)) rfl ?_
          cases hr12 : f_X7_within N r2.2 x3 1 4 with
          | none => rw [hr12] at h; dsimp only at h; cases h
          | some r3 =>
            rw [hr12] at h
            dsimp only at h
            refine yG_c (C1 := (28, [(0, .inr (.inl 7, 0)), (1, .inl (.inl x1)), (2, .inl (.inl x2)), (3, .inl (.inl x3))], [.inl (.inl r3.1)], r3.2)) rfl (e_X7_within hr12) rfl ?_
            cases hg13 : ycP .ne r3.1 0 with
            | true =>
              rw [hg13] at h
              dsimp only [cond] at h
              refine yG_t (C' := (33, [(0, .inr (.inl 7, 0)), (1, .inl (.inl x1)), (2, .inl (.inl x2)), (3, .inl (.inl x3))], [], r3.2)) rfl hg13 ?_
              refine yG_n (n := 4) (C' := (39, [(5, .inl (.inl 0)), (4, .inl (.inl 0)), (0, .inr (.inl 7, 0)), (1, .inl (.inl x1)), (2, .inl (.inl x2)), (3, .inl (.inl x3))], [], r3.2)) rfl ?_
              exact yG_w [2, 3, 4, 5, 1, 0] rfl (t_X7_who_b39 N r3.2 x1 x2 x3 0 0 res h)
            | false =>
              rw [hg13] at h
              dsimp only [cond] at h
              refine yG_f (C' := (31, [(0, .inr (.inl 7, 0)), (1, .inl (.inl x1)), (2, .inl (.inl x2)), (3, .inl (.inl x3))], [], r3.2)) rfl hg13 ?_
              exact yG_w [] rfl (t_X7_who_b31 r3.2 res h)
set_option maxRecDepth 100000 in
set_option maxHeartbeats 4000000 in
theorem m_X7_who {N : Nat} {X : zXT} (hX : zXok X) (hN : zXn X) (l : Launch) {sh : List yH} : yMet X vwCl yct sh l yX7_who wsX7_who { frames := 4, cells := 0, slots := 0, locals := 137 } (F_X7_who N) :=
  ymeth (tb := tb_X7_who N) (pr := pr_X7_who) (rt := 1) (own := RX7) hX (by decide +kernel) rfl rfl ⟨Nat.le_of_ble_eq_true rfl, Nat.le_of_ble_eq_true rfl⟩
    (zfl_all (List.forall_mem_cons.mpr ⟨zfl_X7 (fun w h => List.mem_cons_of_mem _ (List.mem_append_left _ (List.mem_append_right _ h))) (List.mem_of_getElem? (i := 1) rfl) (by decide) (by decide), List.forall_mem_cons.mpr ⟨zfl_X4 (fun w h => List.mem_cons_of_mem _ (List.mem_append_right _ h)) (List.mem_of_getElem? (i := 2) rfl) (by decide) (by decide), fun _ h => absurd h List.not_mem_nil⟩⟩))
    (zco_all (fun _ h => absurd h List.not_mem_nil)) (zlc_all (fun _ h => absurd h List.not_mem_nil))
    (List.forall_mem_cons.mpr ⟨ycal_V hX (m_X4_isHouse hX hN l) rfl (fun s args hts => cwV 1 hts gX7_who_X4_isHouse rfl rfl rfl (by decide +kernel) ⟨Nat.le_of_ble_eq_true rfl, Nat.le_of_ble_eq_true rfl⟩), List.forall_mem_cons.mpr ⟨ycal_V hX (m_X4_isDeed hX hN l) rfl (fun s args hts => cwV 1 hts gX7_who_X4_isDeed rfl rfl rfl (by decide +kernel) ⟨Nat.le_of_ble_eq_true rfl, Nat.le_of_ble_eq_true rfl⟩), List.forall_mem_cons.mpr ⟨ycal_V hX (m_X4_broughtBy hX hN l) rfl (fun s args hts => cwV 1 hts gX7_who_X4_broughtBy rfl rfl rfl (by decide +kernel) ⟨Nat.le_of_ble_eq_true rfl, Nat.le_of_ble_eq_true rfl⟩), fun _ h => absurd h List.not_mem_nil⟩⟩⟩)
    (List.forall_mem_cons.mpr ⟨ycal_S hX (m_X7_within hX hN l) (fun s args hts => va_cwS 3 hts gX7_who_X7_within rfl rfl rfl (by decide +kernel) ⟨Nat.le_of_ble_eq_true rfl, Nat.le_of_ble_eq_true rfl⟩), List.forall_mem_cons.mpr ⟨ycal_S hX (m_X7_bit hX hN l) (fun s args hts => va_cwS 2 hts gX7_who_X7_bit rfl rfl rfl (by decide +kernel) ⟨Nat.le_of_ble_eq_true rfl, Nat.le_of_ble_eq_true rfl⟩), List.forall_mem_cons.mpr ⟨ycal_S hX (m_X7_withBit hX hN l) (fun s args hts => va_cwS 3 hts gX7_who_X7_withBit rfl rfl rfl (by decide +kernel) ⟨Nat.le_of_ble_eq_true rfl, Nat.le_of_ble_eq_true rfl⟩), List.forall_mem_cons.mpr ⟨ycal_S hX (m_X7_numberOf hX hN l) (fun s args hts => va_cwS 4 hts gX7_who_X7_numberOf rfl rfl rfl (by decide +kernel) ⟨Nat.le_of_ble_eq_true rfl, Nat.le_of_ble_eq_true rfl⟩), fun _ h => absurd h List.not_mem_nil⟩⟩⟩⟩)
    (zmm_all (fun _ h => absurd h List.not_mem_nil)) (fun _ h => absurd h List.not_mem_nil) (zpr_all hp_X7_who) (fun as σ res h => by
      unfold F_X7_who at h
      split at h
      · rename_i x1 x2 x3
        cases hr : f_X7_who N σ x1 x2 x3 with
        | none => rw [hr] at h; cases h
        | some r =>
          rw [hr] at h
          cases h
          exact ⟨Nat.le_of_ble_eq_true rfl, t_X7_who σ x1 x2 x3 r hr⟩
      · cases h)
noncomputable def pr_X7_wish : List (Nat × Instr × Nat) := [(0, .aload_n 0, 1), (1, .getfield 10, 3), (4, .iload_n 1, 1), (5, .invokevirtual 118, 3), (8, .ifCond .eq 14, 3), (11, .aload_n 0, 1), (12, .getfield 10, 3), (15, .iload_n 2, 1), (16, .invokevirtual 150, 3), (19, .ifCond .ne 5, 3), (22, .iconst (-1), 1), (23, .ireturn, 1), (24, .aload_n 0, 1), (25, .getfield 10, 3), (28, .getfield 99, 3), (31, .iload_n 1, 1), (32, .iload_n 2, 1), (33, .invokevirtual 187, 3), (36, .ifCond .eq 16, 3), (39, .aload_n 0, 1), (40, .getfield 10, 3), (43, .getfield 99, 3), (46, .getfield 103, 3), (49, .goto 5, 3), (52, .bipush (-3), 2), (54, .ireturn, 1)]
set_option maxRecDepth 100000 in
theorem hp_X7_wish : pr_X7_wish.all (fun x => decide (decode cX7_wish x.1 = .ok x.2)) = true := by decide +kernel
noncomputable def f_X7_wish_b22 (N : Nat) (σ : yS) : Option (Int × yS) :=
  some ((-1), σ)
noncomputable def f_X7_wish_b54 (N : Nat) (σ : yS) (s0 : Int) : Option (Int × yS) :=
  some (s0, σ)
noncomputable def f_X7_wish (N : Nat) (σ : yS) (x1 : Int) (x2 : Int) : Option (Int × yS) :=
  match f_X4_isHouse N σ 17 x1 with
  | none => none
  | some r1 => bif ycP .eq r1.1 0 then
      f_X7_wish_b22 N r1.2
    else
      match f_X4_isDeed N r1.2 17 x2 with
      | none => none
      | some r2 => bif ycP .ne r2.1 0 then
          match f_X6_append N r2.2 35 x1 x2 with
          | none => none
          | some r3 => bif ycP .eq r3.1 0 then
              f_X7_wish_b54 N r3.2 ((-3))
            else
              f_X7_wish_b54 N r3.2 (r3.2.1 35 0)
        else
          f_X7_wish_b22 N r2.2
noncomputable def F_X7_wish (N : Nat) : yF := fun as σ => match as with
  | [.inr (.inl 7, 0), .inl (.inl x1), .inl (.inl x2)] => (f_X7_wish N σ x1 x2).map (fun r => (some (.inl (.inl r.1)), r.2))
  | _ => none
theorem e_X7_wish {N : Nat} {σ : yS} {x1 : Int} {x2 : Int} {r : Int × yS} (h : f_X7_wish N σ x1 x2 = some r) : F_X7_wish N [.inr (.inl 7, 0), .inl (.inl x1), .inl (.inl x2)] σ = some (some (.inl (.inl r.1)), r.2) := by
  show (f_X7_wish N σ x1 x2).map (fun r => ((some (.inl (.inl r.1)), r.2) : yR)) = _
  rw [h]
  rfl
noncomputable def tb_X7_wish (N : Nat) : yTb := ([(10, 7, 0, 3), (99, 4, 13, 3), (103, 6, 0, 0)], [], [], [(118, 2, 4, F_X4_isHouse N), (150, 2, 4, F_X4_isDeed N), (187, 3, 6, F_X6_append N)], [], [], [])
abbrev G_X7_wish (N : Nat) (X : zXT) (sh : List yH) (l : Launch) (rm : Room) : yC → yR → Prop := yGoes X vwCl yct sh l rm cX7_wish 3 wsX7_wish RX7 (tb_X7_wish N) pr_X7_wish 1
set_option maxRecDepth 100000 in
set_option maxHeartbeats 4000000 in
theorem t_X7_wish_b22 {N : Nat} {X : zXT} {sh : List yH} {l : Launch} {rm : Room} (σ : yS) (res : Int × yS) (h : f_X7_wish_b22 N σ = some res) : G_X7_wish N X sh l rm (22, [], [], σ) (some (.inl (.inl res.1)), res.2) := by
  unfold f_X7_wish_b22 at h
  refine yG_n (n := 1) (C' := (23, [], [.inl (.inl ((-1)))], σ)) rfl ?_
  have h := Option.some.inj h
  subst h
  dsimp only
  exact yG_r rfl rfl
set_option maxRecDepth 100000 in
set_option maxHeartbeats 4000000 in
theorem t_X7_wish_b54 {N : Nat} {X : zXT} {sh : List yH} {l : Launch} {rm : Room} (σ : yS) (s0 : Int) (res : Int × yS) (h : f_X7_wish_b54 N σ s0 = some res) : G_X7_wish N X sh l rm (54, [], [.inl (.inl s0)], σ) (some (.inl (.inl res.1)), res.2) := by
  unfold f_X7_wish_b54 at h
  have h := Option.some.inj h
  subst h
  dsimp only
  exact yG_r rfl rfl
set_option maxRecDepth 100000 in
set_option maxHeartbeats 4000000 in
theorem t_X7_wish {N : Nat} {X : zXT} {sh : List yH} {l : Launch} {rm : Room} (σ : yS) (x1 : Int) (x2 : Int) (res : Int × yS) (h : f_X7_wish N σ x1 x2 = some res) : G_X7_wish N X sh l rm (0, [(0, .inr (.inl 7, 0)), (1, .inl (.inl x1)), (2, .inl (.inl x2))], [], σ) (some (.inl (.inl res.1)), res.2) := by
  unfold f_X7_wish at h
  refine yG_n (n := 3) (C' := (5, [(0, .inr (.inl 7, 0)), (1, .inl (.inl x1)), (2, .inl (.inl x2))], [.inl (.inl x1), .inr (.inl 4, 17)], σ)) rfl ?_
  cases hr1 : f_X4_isHouse N σ 17 x1 with
  | none => rw [hr1] at h; dsimp only at h; cases h
  | some r1 =>
    rw [hr1] at h
    dsimp only at h
    refine yG_c (C1 := (8, [(0, .inr (.inl 7, 0)), (1, .inl (.inl x1)), (2, .inl (.inl x2))], [.inl (.inl r1.1)], r1.2)) rfl (e_X4_isHouse hr1) rfl ?_
    cases hg2 : ycP .eq r1.1 0 with
    | true =>
      rw [hg2] at h
      dsimp only [cond] at h
      refine yG_t (C' := (22, [(0, .inr (.inl 7, 0)), (1, .inl (.inl x1)), (2, .inl (.inl x2))], [], r1.2)) rfl hg2 ?_
      exact yG_w [] rfl (t_X7_wish_b22 r1.2 res h)
    | false =>
      rw [hg2] at h
      dsimp only [cond] at h
      refine yG_f (C' := (11, [(0, .inr (.inl 7, 0)), (1, .inl (.inl x1)), (2, .inl (.inl x2))], [], r1.2)) rfl hg2 ?_
      refine yG_n (n := 3) (C' := (16, [(0, .inr (.inl 7, 0)), (1, .inl (.inl x1)), (2, .inl (.inl x2))], [.inl (.inl x2), .inr (.inl 4, 17)], r1.2)) rfl ?_
      cases hr3 : f_X4_isDeed N r1.2 17 x2 with
      | none => rw [hr3] at h; dsimp only at h; cases h
      | some r2 =>
        rw [hr3] at h
        dsimp only at h
        refine yG_c (C1 := (19, [(0, .inr (.inl 7, 0)), (1, .inl (.inl x1)), (2, .inl (.inl x2))], [.inl (.inl r2.1)], r2.2)) rfl (e_X4_isDeed hr3) rfl ?_
        cases hg4 : ycP .ne r2.1 0 with
        | true =>
          rw [hg4] at h
          dsimp only [cond] at h
          refine yG_t (C' := (24, [(0, .inr (.inl 7, 0)), (1, .inl (.inl x1)), (2, .inl (.inl x2))], [], r2.2)) rfl hg4 ?_
          refine yG_n (n := 5) (C' := (33, [(0, .inr (.inl 7, 0)), (1, .inl (.inl x1)), (2, .inl (.inl x2))], [.inl (.inl x2), .inl (.inl x1), .inr (.inl 6, 35)], r2.2)) rfl ?_
          cases hr5 : f_X6_append N r2.2 35 x1 x2 with
          | none => rw [hr5] at h; dsimp only at h; cases h
          | some r3 =>
            rw [hr5] at h
            dsimp only at h
            refine yG_c (C1 := (36, [(0, .inr (.inl 7, 0)), (1, .inl (.inl x1)), (2, .inl (.inl x2))], [.inl (.inl r3.1)], r3.2)) rfl (e_X6_append hr5) rfl ?_
            cases hg6 : ycP .eq r3.1 0 with
            | true =>
              rw [hg6] at h
              dsimp only [cond] at h
              refine yG_t (C' := (52, [(0, .inr (.inl 7, 0)), (1, .inl (.inl x1)), (2, .inl (.inl x2))], [], r3.2)) rfl hg6 ?_
              refine yG_n (n := 1) (C' := (54, [(0, .inr (.inl 7, 0)), (1, .inl (.inl x1)), (2, .inl (.inl x2))], [.inl (.inl ((-3)))], r3.2)) rfl ?_
              exact yG_w [] rfl (t_X7_wish_b54 r3.2 ((-3)) res h)
            | false =>
              rw [hg6] at h
              dsimp only [cond] at h
              refine yG_f (C' := (39, [(0, .inr (.inl 7, 0)), (1, .inl (.inl x1)), (2, .inl (.inl x2))], [], r3.2)) rfl hg6 ?_
              refine yG_n (n := 5) (C' := (54, [(0, .inr (.inl 7, 0)), (1, .inl (.inl x1)), (2, .inl (.inl x2))], [.inl (.inl (r3.2.1 35 0))], r3.2)) rfl ?_
              exact yG_w [] rfl (t_X7_wish_b54 r3.2 (r3.2.1 35 0) res h)
        | false =>
          rw [hg4] at h
          dsimp only [cond] at h
          refine yG_f (C' := (22, [(0, .inr (.inl 7, 0)), (1, .inl (.inl x1)), (2, .inl (.inl x2))], [], r2.2)) rfl hg4 ?_
          exact yG_w [] rfl (t_X7_wish_b22 r2.2 res h)
set_option maxRecDepth 100000 in
set_option maxHeartbeats 4000000 in
theorem m_X7_wish {N : Nat} {X : zXT} (hX : zXok X) (hN : zXn X) (l : Launch) {sh : List yH} : yMet X vwCl yct sh l yX7_wish wsX7_wish { frames := 3, cells := 0, slots := 0, locals := 107 } (F_X7_wish N) :=
  ymeth (tb := tb_X7_wish N) (pr := pr_X7_wish) (rt := 1) (own := RX7) hX (by decide +kernel) rfl rfl ⟨Nat.le_of_ble_eq_true rfl, Nat.le_of_ble_eq_true rfl⟩
    (zfl_all (List.forall_mem_cons.mpr ⟨zfl_X7 (fun w h => List.mem_cons_of_mem _ (List.mem_append_left _ (List.mem_append_left _ (List.mem_append_right _ h)))) (List.mem_of_getElem? (i := 1) rfl) (by decide) (by decide), List.forall_mem_cons.mpr ⟨zfl_X4 (fun w h => List.mem_cons_of_mem _ (List.mem_append_left _ (List.mem_append_right _ h))) (List.mem_of_getElem? (i := 2) rfl) (by decide) (by decide), List.forall_mem_cons.mpr ⟨zfl_X6 (fun w h => List.mem_cons_of_mem _ (List.mem_append_right _ h)) (List.mem_of_getElem? (i := 3) rfl) (by decide) (by decide), fun _ h => absurd h List.not_mem_nil⟩⟩⟩))
    (zco_all (fun _ h => absurd h List.not_mem_nil)) (zlc_all (fun _ h => absurd h List.not_mem_nil))
    (List.forall_mem_cons.mpr ⟨ycal_V hX (m_X4_isHouse hX hN l) rfl (fun s args hts => cwV 1 hts gX7_wish_X4_isHouse rfl rfl rfl (by decide +kernel) ⟨Nat.le_of_ble_eq_true rfl, Nat.le_of_ble_eq_true rfl⟩), List.forall_mem_cons.mpr ⟨ycal_V hX (m_X4_isDeed hX hN l) rfl (fun s args hts => cwV 1 hts gX7_wish_X4_isDeed rfl rfl rfl (by decide +kernel) ⟨Nat.le_of_ble_eq_true rfl, Nat.le_of_ble_eq_true rfl⟩), List.forall_mem_cons.mpr ⟨ycal_V hX (m_X6_append hX hN l) rfl (fun s args hts => cwV 2 hts gX7_wish_X6_append rfl rfl rfl (by decide +kernel) ⟨Nat.le_of_ble_eq_true rfl, Nat.le_of_ble_eq_true rfl⟩), fun _ h => absurd h List.not_mem_nil⟩⟩⟩)
    (fun _ h => absurd h List.not_mem_nil)
    (zmm_all (fun _ h => absurd h List.not_mem_nil)) (fun _ h => absurd h List.not_mem_nil) (zpr_all hp_X7_wish) (fun as σ res h => by
      unfold F_X7_wish at h
      split at h
      · rename_i x1 x2
        cases hr : f_X7_wish N σ x1 x2 with
        | none => rw [hr] at h; cases h
        | some r =>
          rw [hr] at h
          cases h
          exact ⟨Nat.le_of_ble_eq_true rfl, t_X7_wish σ x1 x2 r hr⟩
      · cases h)
