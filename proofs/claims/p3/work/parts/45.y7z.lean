noncomputable def pr_X7_drift : List (Nat × Instr × Nat) := [(0, .iload_n 2, 1), (1, .iconst 1, 1), (2, .bipush 60, 2), (4, .invokestatic 49, 3), (7, .ifCond .eq 12, 3), (10, .iload_n 3, 1), (11, .iconst 0, 1), (12, .iconst 1, 1), (13, .invokestatic 49, 3), (16, .ifCond .ne 5, 3), (19, .iconst (-1), 1), (20, .ireturn, 1), (21, .aload_n 0, 1), (22, .getfield 16, 3), (25, .aload_n 0, 1), (26, .getfield 10, 3), (29, .invokevirtual 73, 3), (32, .iload_n 1, 1), (33, .istore 4, 2), (35, .iconst 0, 1), (36, .istore 5, 2), (38, .iconst 0, 1), (39, .istore 6, 2), (41, .iload 6, 2), (43, .iload_n 2, 1), (44, .if_icmp .ge 62, 3), (47, .iload 4, 2), (49, .ldc 249, 2), (51, .imul, 1), (52, .sipush 12345, 3), (55, .iadd, 1), (56, .istore 4, 2), (58, .aload_n 0, 1), (59, .getfield 16, 3), (62, .iload 4, 2), (64, .bipush 16, 2), (66, .iushr, 1), (67, .sipush 32767, 3), (70, .iand, 1), (71, .iconst 1, 1), (72, .aload_n 0, 1), (73, .getfield 16, 3), (76, .getfield 82, 3), (79, .invokestatic 250, 3), (82, .invokestatic 255, 3), (85, .invokevirtual 258, 3), (88, .iload 5, 2), (90, .aload_n 0, 1), (91, .getfield 16, 3), (94, .invokevirtual 203, 3), (97, .iadd, 1), (98, .istore 5, 2), (100, .iinc 6 1, 3), (103, .goto (-62), 3), (106, .iload_n 3, 1), (107, .ifCond .ne 8, 3), (110, .iload 5, 2), (112, .goto 18, 3), (115, .aload_n 0, 1), (116, .getfield 16, 3), (119, .getfield 115, 3), (122, .aload_n 0, 1), (123, .getfield 10, 3), (126, .getfield 115, 3), (129, .isub, 1), (130, .ireturn, 1)]
set_option maxRecDepth 100000 in
theorem hp_X7_drift : pr_X7_drift.all (fun x => decide (decode cX7_drift x.1 = .ok x.2)) = true := by decide +kernel
noncomputable def f_X7_drift_b19 (N : Nat) (σ : yS) : Option (Int × yS) :=
  some ((-1), σ)
noncomputable def f_X7_drift_b130 (N : Nat) (σ : yS) (s0 : Int) : Option (Int × yS) :=
  some (s0, σ)
noncomputable def f_X7_drift_b58 (N : Nat) (k41 : yS → Int → Int → Int → Int → Int → Option (Int × yS)) (σ : yS) (x2 : Int) (x3 : Int) (x4 : Int) (x5 : Int) (x6 : Int) : Option (Int × yS) :=
  match f_J9_floorMod_7cf53 N σ (yan (yus x4 16) 32767) (ymx 1 (σ.1 38 0)) with
  | none => none
  | some r4 => match f_X4_vowByHabit N r4.2 38 r4.1 with
    | none => none
    | some r5 => match f_X4_passDay N r5.2 38 with
      | none => none
      | some r6 => k41 r6.2 x2 x3 x4 (yad x5 r6.1) (yad x6 1)
noncomputable def f_X7_drift_b41 (N : Nat) : Nat → yS → Int → Int → Int → Int → Int → Option (Int × yS) := yfix (fun _ _ _ _ _ _ => none) (fun ih σ x2 x3 x4 x5 x6 =>
    bif ycP .ge x6 x2 then
      bif ycP .ne x3 0 then
        f_X7_drift_b130 N σ (ysu (σ.1 38 17) (σ.1 17 17))
      else
        f_X7_drift_b130 N σ x5
    else
      f_X7_drift_b58 N ih σ x2 x3 (yad (ymu x4 1103515245) 12345) x5 x6)
theorem q_X7_drift_b41 (N : Nat) (n : Nat) (σ : yS) (x2 : Int) (x3 : Int) (x4 : Int) (x5 : Int) (x6 : Int) : f_X7_drift_b41 N (n + 1) σ x2 x3 x4 x5 x6 =
    (bif ycP .ge x6 x2 then
      bif ycP .ne x3 0 then
        f_X7_drift_b130 N σ (ysu (σ.1 38 17) (σ.1 17 17))
      else
        f_X7_drift_b130 N σ x5
    else
      f_X7_drift_b58 N (f_X7_drift_b41 N n) σ x2 x3 (yad (ymu x4 1103515245) 12345) x5 x6) := rfl
noncomputable def f_X7_drift (N : Nat) (σ : yS) (x1 : Int) (x2 : Int) (x3 : Int) : Option (Int × yS) :=
  match f_X7_within N σ x2 1 60 with
  | none => none
  | some r1 => bif ycP .eq r1.1 0 then
      f_X7_drift_b19 N r1.2
    else
      match f_X7_within N r1.2 x3 0 1 with
      | none => none
      | some r2 => bif ycP .ne r2.1 0 then
          match f_X4_copyFrom N r2.2 38 17 with
          | none => none
          | some r3 => f_X7_drift_b41 N N r3.2 x2 x3 x1 0 0
        else
          f_X7_drift_b19 N r2.2
noncomputable def F_X7_drift (N : Nat) : yF := fun as σ => match as with
  | [.inr (.inl 7, 0), .inl (.inl x1), .inl (.inl x2), .inl (.inl x3)] => (f_X7_drift N σ x1 x2 x3).map (fun r => (some (.inl (.inl r.1)), r.2))
  | _ => none
theorem e_X7_drift {N : Nat} {σ : yS} {x1 : Int} {x2 : Int} {x3 : Int} {r : Int × yS} (h : f_X7_drift N σ x1 x2 x3 = some r) : F_X7_drift N [.inr (.inl 7, 0), .inl (.inl x1), .inl (.inl x2), .inl (.inl x3)] σ = some (some (.inl (.inl r.1)), r.2) := by
  show (f_X7_drift N σ x1 x2 x3).map (fun r => ((some (.inl (.inl r.1)), r.2) : yR)) = _
  rw [h]
  rfl
noncomputable def tb_X7_drift (N : Nat) : yTb := ([(10, 7, 0, 3), (16, 7, 1, 3), (82, 4, 0, 0), (115, 4, 17, 0)], [(249, 1103515245)], [], [(73, 2, 4, F_X4_copyFrom N), (203, 1, 4, F_X4_passDay N), (258, 2, 4, F_X4_vowByHabit N)], [(49, 3, F_X7_within N), (255, 2, F_J9_floorMod_7cf53 N)], [(250, 0)], [])
abbrev G_X7_drift (N : Nat) (X : zXT) (sh : List yH) (l : Launch) (rm : Room) : yC → yR → Prop := yGoes X vwCl yct sh l rm cX7_drift 7 wsX7_drift RX7 (tb_X7_drift N) pr_X7_drift 1
set_option maxRecDepth 100000 in
set_option maxHeartbeats 4000000 in
theorem t_X7_drift_b19 {N : Nat} {X : zXT} {sh : List yH} {l : Launch} {rm : Room} (σ : yS) (res : Int × yS) (h : f_X7_drift_b19 N σ = some res) : G_X7_drift N X sh l rm (19, [], [], σ) (some (.inl (.inl res.1)), res.2) := by
  unfold f_X7_drift_b19 at h
  refine yG_n (n := 1) (C' := (20, [], [.inl (.inl ((-1)))], σ)) rfl ?_
  have h := Option.some.inj h
  subst h
  dsimp only
  exact yG_r rfl rfl
set_option maxRecDepth 100000 in
set_option maxHeartbeats 4000000 in
theorem t_X7_drift_b130 {N : Nat} {X : zXT} {sh : List yH} {l : Launch} {rm : Room} (σ : yS) (s0 : Int) (res : Int × yS) (h : f_X7_drift_b130 N σ s0 = some res) : G_X7_drift N X sh l rm (130, [], [.inl (.inl s0)], σ) (some (.inl (.inl res.1)), res.2) := by
  unfold f_X7_drift_b130 at h
  have h := Option.some.inj h
  subst h
  dsimp only
  exact yG_r rfl rfl
set_option maxRecDepth 100000 in
set_option maxHeartbeats 4000000 in
theorem t_X7_drift_b58 {N : Nat} {X : zXT} {sh : List yH} {l : Launch} {rm : Room} (k41 : yS → Int → Int → Int → Int → Int → Option (Int × yS)) (hk41 : ∀ (σ : yS) (x2 : Int) (x3 : Int) (x4 : Int) (x5 : Int) (x6 : Int) (res : Int × yS), k41 σ x2 x3 x4 x5 x6 = some res → G_X7_drift N X sh l rm (41, [(0, .inr (.inl 7, 0)), (2, .inl (.inl x2)), (3, .inl (.inl x3)), (4, .inl (.inl x4)), (5, .inl (.inl x5)), (6, .inl (.inl x6))], [], σ) (some (.inl (.inl res.1)), res.2)) (σ : yS) (x2 : Int) (x3 : Int) (x4 : Int) (x5 : Int) (x6 : Int) (res : Int × yS) (h : f_X7_drift_b58 N k41 σ x2 x3 x4 x5 x6 = some res) : G_X7_drift N X sh l rm (58, [(0, .inr (.inl 7, 0)), (2, .inl (.inl x2)), (3, .inl (.inl x3)), (4, .inl (.inl x4)), (5, .inl (.inl x5)), (6, .inl (.inl x6))], [], σ) (some (.inl (.inl res.1)), res.2) := by
  unfold f_X7_drift_b58 at h
  refine yG_n (n := 7) (C' := (71, [(0, .inr (.inl 7, 0)), (2, .inl (.inl x2)), (3, .inl (.inl x3)), (4, .inl (.inl x4)), (5, .inl (.inl x5)), (6, .inl (.inl x6))], [.inl (.inl (yan (yus x4 16) 32767)), .inr (.inl 4, 38)], σ)) rfl ?_
  refine yG_n (n := 5) (C' := (82, [(0, .inr (.inl 7, 0)), (2, .inl (.inl x2)), (3, .inl (.inl x3)), (4, .inl (.inl x4)), (5, .inl (.inl x5)), (6, .inl (.inl x6))], [.inl (.inl (ymx 1 (σ.1 38 0))), .inl (.inl (yan (yus x4 16) 32767)), .inr (.inl 4, 38)], σ)) rfl ?_
  cases hr1 : f_J9_floorMod_7cf53 N σ (yan (yus x4 16) 32767) (ymx 1 (σ.1 38 0)) with
  | none => rw [hr1] at h; dsimp only at h; cases h
  | some r4 =>
    rw [hr1] at h
    dsimp only at h
    refine yG_c (C1 := (85, [(0, .inr (.inl 7, 0)), (2, .inl (.inl x2)), (3, .inl (.inl x3)), (4, .inl (.inl x4)), (5, .inl (.inl x5)), (6, .inl (.inl x6))], [.inl (.inl r4.1), .inr (.inl 4, 38)], r4.2)) rfl (e_J9_floorMod_7cf53 hr1) rfl ?_
    cases hr2 : f_X4_vowByHabit N r4.2 38 r4.1 with
    | none => rw [hr2] at h; dsimp only at h; cases h
    | some r5 =>
      rw [hr2] at h
      dsimp only at h
      refine yG_c (C1 := (88, [(0, .inr (.inl 7, 0)), (2, .inl (.inl x2)), (3, .inl (.inl x3)), (4, .inl (.inl x4)), (5, .inl (.inl x5)), (6, .inl (.inl x6))], [], r5.2)) rfl (e_X4_vowByHabit hr2) rfl ?_
      refine yG_n (n := 3) (C' := (94, [(0, .inr (.inl 7, 0)), (2, .inl (.inl x2)), (3, .inl (.inl x3)), (4, .inl (.inl x4)), (5, .inl (.inl x5)), (6, .inl (.inl x6))], [.inr (.inl 4, 38), .inl (.inl x5)], r5.2)) rfl ?_
      cases hr3 : f_X4_passDay N r5.2 38 with
      | none => rw [hr3] at h; dsimp only at h; cases h
      | some r6 =>
        rw [hr3] at h
        dsimp only at h
        refine yG_c (C1 := (97, [(0, .inr (.inl 7, 0)), (2, .inl (.inl x2)), (3, .inl (.inl x3)), (4, .inl (.inl x4)), (5, .inl (.inl x5)), (6, .inl (.inl x6))], [.inl (.inl r6.1), .inl (.inl x5)], r6.2)) rfl (e_X4_passDay hr3) rfl ?_
        refine yG_n (n := 1) (C' := (98, [(0, .inr (.inl 7, 0)), (2, .inl (.inl x2)), (3, .inl (.inl x3)), (4, .inl (.inl x4)), (5, .inl (.inl x5)), (6, .inl (.inl x6))], [.inl (.inl (yad x5 r6.1))], r6.2)) rfl ?_
        refine yG_n (n := 3) (C' := (41, [(6, .inl (.inl (yad x6 1))), (5, .inl (.inl (yad x5 r6.1))), (0, .inr (.inl 7, 0)), (2, .inl (.inl x2)), (3, .inl (.inl x3)), (4, .inl (.inl x4))], [], r6.2)) rfl ?_
        exact yG_w [2, 3, 4, 5, 1, 0] rfl (hk41 r6.2 x2 x3 x4 (yad x5 r6.1) (yad x6 1) res h)
set_option maxRecDepth 100000 in
set_option maxHeartbeats 4000000 in
theorem t_X7_drift_b41 {N : Nat} {X : zXT} {sh : List yH} {l : Launch} {rm : Room} : ∀ (n : Nat) (σ : yS) (x2 : Int) (x3 : Int) (x4 : Int) (x5 : Int) (x6 : Int) (res : Int × yS), f_X7_drift_b41 N n σ x2 x3 x4 x5 x6 = some res → G_X7_drift N X sh l rm (41, [(0, .inr (.inl 7, 0)), (2, .inl (.inl x2)), (3, .inl (.inl x3)), (4, .inl (.inl x4)), (5, .inl (.inl x5)), (6, .inl (.inl x6))], [], σ) (some (.inl (.inl res.1)), res.2) := by
  intro n
  induction n with
  | zero => intro σ x2 x3 x4 x5 x6 res h; exact (yno h).elim
  | succ n ih =>
    intro σ x2 x3 x4 x5 x6 res h
    rw [q_X7_drift_b41] at h
    refine yG_n (n := 2) (C' := (44, [(0, .inr (.inl 7, 0)), (2, .inl (.inl x2)), (3, .inl (.inl x3)), (4, .inl (.inl x4)), (5, .inl (.inl x5)), (6, .inl (.inl x6))], [.inl (.inl x2), .inl (.inl x6)], σ)) rfl ?_
    cases hg4 : ycP .ge x6 x2 with
    | true =>
      rw [hg4] at h
      dsimp only [cond] at h
      refine yG_t (C' := (106, [(0, .inr (.inl 7, 0)), (2, .inl (.inl x2)), (3, .inl (.inl x3)), (4, .inl (.inl x4)), (5, .inl (.inl x5)), (6, .inl (.inl x6))], [], σ)) rfl hg4 ?_
      refine yG_n (n := 1) (C' := (107, [(0, .inr (.inl 7, 0)), (2, .inl (.inl x2)), (3, .inl (.inl x3)), (4, .inl (.inl x4)), (5, .inl (.inl x5)), (6, .inl (.inl x6))], [.inl (.inl x3)], σ)) rfl ?_
      cases hg5 : ycP .ne x3 0 with
      | true =>
        rw [hg5] at h
        dsimp only [cond] at h
        refine yG_t (C' := (115, [(0, .inr (.inl 7, 0)), (2, .inl (.inl x2)), (3, .inl (.inl x3)), (4, .inl (.inl x4)), (5, .inl (.inl x5)), (6, .inl (.inl x6))], [], σ)) rfl hg5 ?_
        refine yG_n (n := 7) (C' := (130, [(0, .inr (.inl 7, 0)), (2, .inl (.inl x2)), (3, .inl (.inl x3)), (4, .inl (.inl x4)), (5, .inl (.inl x5)), (6, .inl (.inl x6))], [.inl (.inl (ysu (σ.1 38 17) (σ.1 17 17)))], σ)) rfl ?_
        exact yG_w [] rfl (t_X7_drift_b130 σ (ysu (σ.1 38 17) (σ.1 17 17)) res h)
      | false =>
        rw [hg5] at h
        dsimp only [cond] at h
        refine yG_f (C' := (110, [(0, .inr (.inl 7, 0)), (2, .inl (.inl x2)), (3, .inl (.inl x3)), (4, .inl (.inl x4)), (5, .inl (.inl x5)), (6, .inl (.inl x6))], [], σ)) rfl hg5 ?_
        refine yG_n (n := 2) (C' := (130, [(0, .inr (.inl 7, 0)), (2, .inl (.inl x2)), (3, .inl (.inl x3)), (4, .inl (.inl x4)), (5, .inl (.inl x5)), (6, .inl (.inl x6))], [.inl (.inl x5)], σ)) rfl ?_
        exact yG_w [] rfl (t_X7_drift_b130 σ x5 res h)
    | false =>
      rw [hg4] at h
      dsimp only [cond] at h
      refine yG_f (C' := (47, [(0, .inr (.inl 7, 0)), (2, .inl (.inl x2)), (3, .inl (.inl x3)), (4, .inl (.inl x4)), (5, .inl (.inl x5)), (6, .inl (.inl x6))], [], σ)) rfl hg4 ?_
      refine yG_n (n := 3) (C' := (52, [(0, .inr (.inl 7, 0)), (2, .inl (.inl x2)), (3, .inl (.inl x3)), (4, .inl (.inl x4)), (5, .inl (.inl x5)), (6, .inl (.inl x6))], [.inl (.inl (ymu x4 1103515245))], σ)) rfl ?_
      refine yG_n (n := 2) (C' := (56, [(0, .inr (.inl 7, 0)), (2, .inl (.inl x2)), (3, .inl (.inl x3)), (4, .inl (.inl x4)), (5, .inl (.inl x5)), (6, .inl (.inl x6))], [.inl (.inl (yad (ymu x4 1103515245) 12345))], σ)) rfl ?_
      refine yG_n (n := 1) (C' := (58, [(4, .inl (.inl (yad (ymu x4 1103515245) 12345))), (0, .inr (.inl 7, 0)), (2, .inl (.inl x2)), (3, .inl (.inl x3)), (5, .inl (.inl x5)), (6, .inl (.inl x6))], [], σ)) rfl ?_
      exact yG_w [1, 2, 3, 0, 4, 5] rfl (t_X7_drift_b58 (f_X7_drift_b41 N n) ih σ x2 x3 (yad (ymu x4 1103515245) 12345) x5 x6 res h)
set_option maxRecDepth 100000 in
set_option maxHeartbeats 4000000 in
theorem t_X7_drift {N : Nat} {X : zXT} {sh : List yH} {l : Launch} {rm : Room} (σ : yS) (x1 : Int) (x2 : Int) (x3 : Int) (res : Int × yS) (h : f_X7_drift N σ x1 x2 x3 = some res) : G_X7_drift N X sh l rm (0, [(0, .inr (.inl 7, 0)), (1, .inl (.inl x1)), (2, .inl (.inl x2)), (3, .inl (.inl x3))], [], σ) (some (.inl (.inl res.1)), res.2) := by
  unfold f_X7_drift at h
  refine yG_n (n := 3) (C' := (4, [(0, .inr (.inl 7, 0)), (1, .inl (.inl x1)), (2, .inl (.inl x2)), (3, .inl (.inl x3))], [.inl (.inl 60), .inl (.inl 1), .inl (.inl x2)], σ)) rfl ?_
  cases hr6 : f_X7_within N σ x2 1 60 with
  | none => rw [hr6] at h; dsimp only at h; cases h
  | some r1 =>
    rw [hr6] at h
    dsimp only at h
    refine yG_c (C1 := (7, [(0, .inr (.inl 7, 0)), (1, .inl (.inl x1)), (2, .inl (.inl x2)), (3, .inl (.inl x3))], [.inl (.inl r1.1)], r1.2)) rfl (e_X7_within hr6) rfl ?_
    cases hg7 : ycP .eq r1.1 0 with
    | true =>
      rw [hg7] at h
      dsimp only [cond] at h
      refine yG_t (C' := (19, [(0, .inr (.inl 7, 0)), (1, .inl (.inl x1)), (2, .inl (.inl x2)), (3, .inl (.inl x3))], [], r1.2)) rfl hg7 ?_
      exact yG_w [] rfl (t_X7_drift_b19 r1.2 res h)
    | false =>
      rw [hg7] at h
      dsimp only [cond] at h
      refine yG_f (C' := (10, [(0, .inr (.inl 7, 0)), (1, .inl (.inl x1)), (2, .inl (.inl x2)), (3, .inl (.inl x3))], [], r1.2)) rfl hg7 ?_
      refine yG_n (n := 3) (C' := (13, [(0, .inr (.inl 7, 0)), (1, .inl (.inl x1)), (2, .inl (.inl x2)), (3, .inl (.inl x3))], [.inl (.inl 1), .inl (.inl 0), .inl (.inl x3)], r1.2)) rfl ?_
      cases hr8 : f_X7_within N r1.2 x3 0 1 with
      | none => rw [hr8] at h; dsimp only at h; cases h
      | some r2 =>
        rw [hr8] at h
        dsimp only at h
        refine yG_c (C1 := (16, [(0, .inr (.inl 7, 0)), (1, .inl (.inl x1)), (2, .inl (.inl x2)), (3, .inl (.inl x3))], [.inl (.inl r2.1)], r2.2)) rfl (e_X7_within hr8) rfl ?_
        cases hg9 : ycP .ne r2.1 0 with
        | true =>
          rw [hg9] at h
          dsimp only [cond] at h
          refine yG_t (C' := (21, [(0, .inr (.inl 7, 0)), (1, .inl (.inl x1)), (2, .inl (.inl x2)), (3, .inl (.inl x3))], [], r2.2)) rfl hg9 ?_
          refine yG_n (n := 4) (C' := (29, [(0, .inr (.inl 7, 0)), (1, .inl (.inl x1)), (2, .inl (.inl x2)), (3, .inl (.inl x3))], [.inr (.inl 4, 17), .inr (.inl 4, 38)], r2.2)) rfl ?_
          cases hr10 : f_X4_copyFrom N r2.2 38 17 with
          | none => rw [hr10] at h; dsimp only at h; cases h
          | some r3 =>
            rw [hr10] at h
            dsimp only at h
            refine yG_c (C1 := (32, [(0, .inr (.inl 7, 0)), (1, .inl (.inl x1)), (2, .inl (.inl x2)), (3, .inl (.inl x3))], [], r3.2)) rfl (e_X4_copyFrom hr10) rfl ?_
            refine yG_n (n := 6) (C' := (41, [(6, .inl (.inl 0)), (5, .inl (.inl 0)), (4, .inl (.inl x1)), (0, .inr (.inl 7, 0)), (1, .inl (.inl x1)), (2, .inl (.inl x2)), (3, .inl (.inl x3))], [], r3.2)) rfl ?_
            exact yG_w [3, 5, 6, 2, 1, 0] rfl (t_X7_drift_b41 N r3.2 x2 x3 x1 0 0 res h)
        | false =>
          rw [hg9] at h
          dsimp only [cond] at h
          refine yG_f (C' := (19, [(0, .inr (.inl 7, 0)), (1, .inl (.inl x1)), (2, .inl (.inl x2)), (3, .inl (.inl x3))], [], r2.2)) rfl hg9 ?_
          exact yG_w [] rfl (t_X7_drift_b19 r2.2 res h)
set_option maxRecDepth 100000 in
set_option maxHeartbeats 4000000 in
theorem m_X7_drift {N : Nat} {X : zXT} (hX : zXok X) (hN : zXn X) (l : Launch) {sh : List yH} : yMet X vwCl yct sh l yX7_drift wsX7_drift { frames := 5, cells := 0, slots := 0, locals := 158 } (F_X7_drift N) :=
  ymeth (tb := tb_X7_drift N) (pr := pr_X7_drift) (rt := 1) (own := RX7) hX (by decide +kernel) rfl rfl ⟨Nat.le_of_ble_eq_true rfl, Nat.le_of_ble_eq_true rfl⟩
    (zfl_all (List.forall_mem_cons.mpr ⟨zfl_X7 (fun w h => List.mem_cons_of_mem _ (List.mem_append_left _ (List.mem_append_left _ (List.mem_append_left _ (List.mem_append_right _ h))))) (List.mem_of_getElem? (i := 2) rfl) (by decide) (by decide), List.forall_mem_cons.mpr ⟨zfl_X7 (fun w h => List.mem_cons_of_mem _ (List.mem_append_left _ (List.mem_append_left _ (List.mem_append_left _ (List.mem_append_right _ h))))) (List.mem_of_getElem? (i := 1) rfl) (by decide) (by decide), List.forall_mem_cons.mpr ⟨zfl_X4 (fun w h => List.mem_cons_of_mem _ (List.mem_append_left _ (List.mem_append_left _ (List.mem_append_right _ h)))) (List.mem_of_getElem? (i := 4) rfl) (by decide) (by decide), List.forall_mem_cons.mpr ⟨zfl_X4 (fun w h => List.mem_cons_of_mem _ (List.mem_append_left _ (List.mem_append_left _ (List.mem_append_right _ h)))) (List.mem_of_getElem? (i := 9) rfl) (by decide) (by decide), fun _ h => absurd h List.not_mem_nil⟩⟩⟩⟩))
    (zco_all (List.forall_mem_cons.mpr ⟨(List.mem_of_getElem? (i := 3) rfl), fun _ h => absurd h List.not_mem_nil⟩)) (zlc_all (fun _ h => absurd h List.not_mem_nil))
    (List.forall_mem_cons.mpr ⟨ycal_V hX (m_X4_copyFrom hX hN l) rfl (fun s args hts => cwV 1 hts gX7_drift_X4_copyFrom rfl rfl rfl (by decide +kernel) ⟨Nat.le_of_ble_eq_true rfl, Nat.le_of_ble_eq_true rfl⟩), List.forall_mem_cons.mpr ⟨ycal_V hX (m_X4_passDay hX hN l) rfl (fun s args hts => cwV 0 hts gX7_drift_X4_passDay rfl rfl rfl (by decide +kernel) ⟨Nat.le_of_ble_eq_true rfl, Nat.le_of_ble_eq_true rfl⟩), List.forall_mem_cons.mpr ⟨ycal_V hX (m_X4_vowByHabit hX hN l) rfl (fun s args hts => cwV 1 hts gX7_drift_X4_vowByHabit rfl rfl rfl (by decide +kernel) ⟨Nat.le_of_ble_eq_true rfl, Nat.le_of_ble_eq_true rfl⟩), fun _ h => absurd h List.not_mem_nil⟩⟩⟩)
    (List.forall_mem_cons.mpr ⟨ycal_S hX (m_X7_within hX hN l) (fun s args hts => va_cwS 3 hts gX7_drift_X7_within rfl rfl rfl (by decide +kernel) ⟨Nat.le_of_ble_eq_true rfl, Nat.le_of_ble_eq_true rfl⟩), List.forall_mem_cons.mpr ⟨ycal_S hX (m_J9_floorMod_7cf53 hX hN l) (fun s args hts => va_cwS 2 hts gX7_drift_J9_floorMod_7cf53 rfl rfl rfl (by decide +kernel) ⟨Nat.le_of_ble_eq_true rfl, Nat.le_of_ble_eq_true rfl⟩), fun _ h => absurd h List.not_mem_nil⟩⟩)
    (zmm_all (List.forall_mem_cons.mpr ⟨⟨List.mem_of_getElem? (i := 5) rfl, List.mem_of_getElem? (i := 6) rfl, List.mem_of_getElem? (i := 7) rfl, List.mem_of_getElem? (i := 8) rfl⟩, fun _ h => absurd h List.not_mem_nil⟩)) (fun _ h => absurd h List.not_mem_nil) (zpr_all hp_X7_drift) (fun as σ res h => by
      unfold F_X7_drift at h
      split at h
      · rename_i x1 x2 x3
        cases hr : f_X7_drift N σ x1 x2 x3 with
        | none => rw [hr] at h; cases h
        | some r =>
          rw [hr] at h
          cases h
          exact ⟨Nat.le_of_ble_eq_true rfl, t_X7_drift σ x1 x2 x3 r hr⟩
      · cases h)
