section
noncomputable def pr_X0_wantsBrought : List (Nat × Instr × Nat) := [(0, .iload_n 1, 1), (1, .iconst 5, 1), (2, .irem, 1), (3, .aload_n 0, 1), (4, .getfield 52, 3), (7, .if_icmp .ge 11, 3), (10, .aload_n 0, 1), (11, .iload_n 1, 1), (12, .invokevirtual 55, 3), (15, .goto 4, 3), (18, .iconst 0, 1), (19, .istore_n 2, 1), (20, .iconst 0, 1), (21, .istore_n 3, 1), (22, .iconst 0, 1), (23, .istore 4, 2), (25, .iload 4, 2), (27, .aload_n 0, 1), (28, .getfield 43, 3), (31, .getfield 47, 3), (34, .if_icmp .ge 59, 3), (37, .aload_n 0, 1), (38, .getfield 43, 3), (41, .getfield 58, 3), (44, .iload 4, 2), (46, .iaload, 1), (47, .iload_n 1, 1), (48, .iconst 5, 1), (49, .irem, 1), (50, .if_icmp .ne 25, 3), (53, .iload_n 2, 1), (54, .aload_n 0, 1), (55, .getfield 43, 3), (58, .getfield 61, 3), (61, .iload 4, 2), (63, .iaload, 1), (64, .invokestatic 64, 3), (67, .iconst 1, 1), (68, .if_icmp .ne 7, 3), (71, .iconst 1, 1), (72, .goto 4, 3), (75, .iconst 0, 1), (76, .istore 5, 2), (78, .iload_n 3, 1), (79, .iload 4, 2), (81, .iload 5, 2), (83, .invokestatic 67, 3), (86, .istore_n 3, 1), (87, .iinc 4 1, 3), (90, .goto (-65), 3), (93, .iload_n 3, 1), (94, .ireturn, 1)]
set_option maxRecDepth 100000 in
theorem hp_X0_wantsBrought : pr_X0_wantsBrought.all (fun x => decide (decode cX0_wantsBrought x.1 = .ok x.2)) = true := by decide +kernel
noncomputable def f_X0_wantsBrought_b76 (N : Nat) (k25 : yS → Nat → Int → Int → Int → Int → Option (Int × yS)) (σ : yS) (x0 : Nat) (x1 : Int) (x2 : Int) (x3 : Int) (x4 : Int) (s0 : Int) : Option (Int × yS) :=
  match f_X7_withBit N σ x3 x4 s0 with
  | none => none
  | some r1 => k25 r1.2 x0 x1 x2 r1.1 (yad x4 1)
noncomputable def f_X0_wantsBrought_b75 (N : Nat) (k25 : yS → Nat → Int → Int → Int → Int → Option (Int × yS)) (σ : yS) (x0 : Nat) (x1 : Int) (x2 : Int) (x3 : Int) (x4 : Int) : Option (Int × yS) :=
  f_X0_wantsBrought_b76 N k25 σ x0 x1 x2 x3 x4 0
noncomputable def f_X0_wantsBrought_b25 (N : Nat) : Nat → yS → Nat → Int → Int → Int → Int → Option (Int × yS) := yfix (fun _ _ _ _ _ _ => none) (fun ih σ x0 x1 x2 x3 x4 =>
    bif ycP .ge x4 (σ.1 (x0 + 18) 0) then
      some (x3, σ)
    else
      bif yin x4 4 then
        bif ycP .ne (σ.1 (x0 + 18 + 2) x4.toNat) (yrm x1 5) then
          f_X0_wantsBrought_b75 N ih σ x0 x1 x2 x3 x4
        else
          match f_X7_bit N σ x2 (σ.1 (x0 + 18 + 1) x4.toNat) with
          | none => none
          | some r2 => bif ycP .ne r2.1 1 then
              f_X0_wantsBrought_b75 N ih r2.2 x0 x1 x2 x3 x4
            else
              f_X0_wantsBrought_b76 N ih r2.2 x0 x1 x2 x3 x4 1
      else none)
theorem q_X0_wantsBrought_b25 (N : Nat) (n : Nat) (σ : yS) (x0 : Nat) (x1 : Int) (x2 : Int) (x3 : Int) (x4 : Int) : f_X0_wantsBrought_b25 N (n + 1) σ x0 x1 x2 x3 x4 =
    (bif ycP .ge x4 (σ.1 (x0 + 18) 0) then
      some (x3, σ)
    else
      bif yin x4 4 then
        bif ycP .ne (σ.1 (x0 + 18 + 2) x4.toNat) (yrm x1 5) then
          f_X0_wantsBrought_b75 N (f_X0_wantsBrought_b25 N n) σ x0 x1 x2 x3 x4
        else
          match f_X7_bit N σ x2 (σ.1 (x0 + 18 + 1) x4.toNat) with
          | none => none
          | some r2 => bif ycP .ne r2.1 1 then
              f_X0_wantsBrought_b75 N (f_X0_wantsBrought_b25 N n) r2.2 x0 x1 x2 x3 x4
            else
              f_X0_wantsBrought_b76 N (f_X0_wantsBrought_b25 N n) r2.2 x0 x1 x2 x3 x4 1
      else none) := rfl
noncomputable def f_X0_wantsBrought_b19 (N : Nat) (σ : yS) (x0 : Nat) (x1 : Int) (s0 : Int) : Option (Int × yS) :=
  f_X0_wantsBrought_b25 N N σ x0 x1 s0 0 0
noncomputable def f_X0_wantsBrought (N : Nat) (σ : yS) (x0 : Nat) (x1 : Int) : Option (Int × yS) :=
  bif ycP .ge (yrm x1 5) (σ.1 x0 2) then
    f_X0_wantsBrought_b19 N σ x0 x1 0
  else
    match f_X4_broughtBy N σ x0 x1 with
    | none => none
    | some r3 => f_X0_wantsBrought_b19 N r3.2 x0 x1 r3.1
noncomputable def F_X0_wantsBrought (N : Nat) : yF := fun as σ => match as with
  | [.inr (.inl 4, x0), .inl (.inl x1)] => (f_X0_wantsBrought N σ x0 x1).map (fun r => (some (.inl (.inl r.1)), r.2))
  | _ => none
theorem e_X0_wantsBrought {N : Nat} {σ : yS} {x0 : Nat} {x1 : Int} {r : Int × yS} (h : f_X0_wantsBrought N σ x0 x1 = some r) : F_X0_wantsBrought N [.inr (.inl 4, x0), .inl (.inl x1)] σ = some (some (.inl (.inl r.1)), r.2) := by
  show (f_X0_wantsBrought N σ x0 x1).map (fun r => ((some (.inl (.inl r.1)), r.2) : yR)) = _
  rw [h]
  rfl
noncomputable def tb_X0_wantsBrought (N : Nat) : yTb := ([(43, 4, 13, 3), (47, 6, 0, 0), (52, 4, 2, 0), (58, 6, 2, 3), (61, 6, 1, 3)], [], [], [(55, 2, 4, F_X4_broughtBy N)], [(64, 2, F_X7_bit N), (67, 3, F_X7_withBit N)], [], [])
abbrev G_X0_wantsBrought (N : Nat) (X : zXT) (sh : List yH) (l : Launch) (rm : Room) : yC → yR → Prop := yGoes X vwCl yct sh l rm cX0_wantsBrought 6 wsX0_wantsBrought RX0 (tb_X0_wantsBrought N) pr_X0_wantsBrought 1
set_option maxRecDepth 100000 in
set_option maxHeartbeats 4000000 in
theorem t_X0_wantsBrought_b76 {N : Nat} {X : zXT} {sh : List yH} {l : Launch} {rm : Room} (k25 : yS → Nat → Int → Int → Int → Int → Option (Int × yS)) (hk25 : ∀ (σ : yS) (x0 : Nat) (x1 : Int) (x2 : Int) (x3 : Int) (x4 : Int) (res : Int × yS), k25 σ x0 x1 x2 x3 x4 = some res → G_X0_wantsBrought N X sh l rm (25, [(0, .inr (.inl 4, x0)), (1, .inl (.inl x1)), (2, .inl (.inl x2)), (3, .inl (.inl x3)), (4, .inl (.inl x4))], [], σ) (some (.inl (.inl res.1)), res.2)) (σ : yS) (x0 : Nat) (x1 : Int) (x2 : Int) (x3 : Int) (x4 : Int) (s0 : Int) (res : Int × yS) (h : f_X0_wantsBrought_b76 N k25 σ x0 x1 x2 x3 x4 s0 = some res) : G_X0_wantsBrought N X sh l rm (76, [(0, .inr (.inl 4, x0)), (1, .inl (.inl x1)), (2, .inl (.inl x2)), (3, .inl (.inl x3)), (4, .inl (.inl x4))], [.inl (.inl s0)], σ) (some (.inl (.inl res.1)), res.2) := by
  unfold f_X0_wantsBrought_b76 at h
  refine yG_n (n := 4) (C' := (83, [(5, .inl (.inl s0)), (0, .inr (.inl 4, x0)), (1, .inl (.inl x1)), (2, .inl (.inl x2)), (3, .inl (.inl x3)), (4, .inl (.inl x4))], [.inl (.inl s0), .inl (.inl x4), .inl (.inl x3)], σ)) rfl ?_
  cases hr1 : f_X7_withBit N σ x3 x4 s0 with
  | none => rw [hr1] at h; dsimp only at h; cases h
  | some r1 =>
    rw [hr1] at h
    dsimp only at h
    refine yG_c (C1 := (86, [(5, .inl (.inl s0)), (0, .inr (.inl 4, x0)), (1, .inl (.inl x1)), (2, .inl (.inl x2)), (3, .inl (.inl x3)), (4, .inl (.inl x4))], [.inl (.inl r1.1)], r1.2)) rfl (e_X7_withBit hr1) rfl ?_
    refine yG_n (n := 3) (C' := (25, [(4, .inl (.inl (yad x4 1))), (3, .inl (.inl r1.1)), (5, .inl (.inl s0)), (0, .inr (.inl 4, x0)), (1, .inl (.inl x1)), (2, .inl (.inl x2))], [], r1.2)) rfl ?_
    exact yG_w [3, 4, 5, 1, 0] rfl (hk25 r1.2 x0 x1 x2 r1.1 (yad x4 1) res h)
set_option maxRecDepth 100000 in
set_option maxHeartbeats 4000000 in
theorem t_X0_wantsBrought_b75 {N : Nat} {X : zXT} {sh : List yH} {l : Launch} {rm : Room} (k25 : yS → Nat → Int → Int → Int → Int → Option (Int × yS)) (hk25 : ∀ (σ : yS) (x0 : Nat) (x1 : Int) (x2 : Int) (x3 : Int) (x4 : Int) (res : Int × yS), k25 σ x0 x1 x2 x3 x4 = some res → G_X0_wantsBrought N X sh l rm (25, [(0, .inr (.inl 4, x0)), (1, .inl (.inl x1)), (2, .inl (.inl x2)), (3, .inl (.inl x3)), (4, .inl (.inl x4))], [], σ) (some (.inl (.inl res.1)), res.2)) (σ : yS) (x0 : Nat) (x1 : Int) (x2 : Int) (x3 : Int) (x4 : Int) (res : Int × yS) (h : f_X0_wantsBrought_b75 N k25 σ x0 x1 x2 x3 x4 = some res) : G_X0_wantsBrought N X sh l rm (75, [(0, .inr (.inl 4, x0)), (1, .inl (.inl x1)), (2, .inl (.inl x2)), (3, .inl (.inl x3)), (4, .inl (.inl x4))], [], σ) (some (.inl (.inl res.1)), res.2) := by
  unfold f_X0_wantsBrought_b75 at h
  refine yG_n (n := 1) (C' := (76, [(0, .inr (.inl 4, x0)), (1, .inl (.inl x1)), (2, .inl (.inl x2)), (3, .inl (.inl x3)), (4, .inl (.inl x4))], [.inl (.inl 0)], σ)) rfl ?_
  exact t_X0_wantsBrought_b76 k25 hk25 σ x0 x1 x2 x3 x4 0 res h
set_option maxRecDepth 100000 in
set_option maxHeartbeats 4000000 in
theorem t_X0_wantsBrought_b25 {N : Nat} {X : zXT} {sh : List yH} {l : Launch} {rm : Room} : ∀ (n : Nat) (σ : yS) (x0 : Nat) (x1 : Int) (x2 : Int) (x3 : Int) (x4 : Int) (res : Int × yS), f_X0_wantsBrought_b25 N n σ x0 x1 x2 x3 x4 = some res → G_X0_wantsBrought N X sh l rm (25, [(0, .inr (.inl 4, x0)), (1, .inl (.inl x1)), (2, .inl (.inl x2)), (3, .inl (.inl x3)), (4, .inl (.inl x4))], [], σ) (some (.inl (.inl res.1)), res.2) := by
  intro n
  induction n with
  | zero => intro σ x0 x1 x2 x3 x4 res h; exact (yno h).elim
  | succ n ih =>
    intro σ x0 x1 x2 x3 x4 res h
    rw [q_X0_wantsBrought_b25] at h
    refine yG_n (n := 4) (C' := (34, [(0, .inr (.inl 4, x0)), (1, .inl (.inl x1)), (2, .inl (.inl x2)), (3, .inl (.inl x3)), (4, .inl (.inl x4))], [.inl (.inl (σ.1 (x0 + 18) 0)), .inl (.inl x4)], σ)) rfl ?_
    cases hg2 : ycP .ge x4 (σ.1 (x0 + 18) 0) with
    | true =>
      rw [hg2] at h
      dsimp only [cond] at h
      refine yG_t (C' := (93, [(0, .inr (.inl 4, x0)), (1, .inl (.inl x1)), (2, .inl (.inl x2)), (3, .inl (.inl x3)), (4, .inl (.inl x4))], [], σ)) rfl hg2 ?_
      refine yG_n (n := 1) (C' := (94, [(0, .inr (.inl 4, x0)), (1, .inl (.inl x1)), (2, .inl (.inl x2)), (3, .inl (.inl x3)), (4, .inl (.inl x4))], [.inl (.inl x3)], σ)) rfl ?_
      have h := Option.some.inj h
      subst h
      dsimp only
      exact yG_r rfl rfl
    | false =>
      rw [hg2] at h
      dsimp only [cond] at h
      refine yG_f (C' := (37, [(0, .inr (.inl 4, x0)), (1, .inl (.inl x1)), (2, .inl (.inl x2)), (3, .inl (.inl x3)), (4, .inl (.inl x4))], [], σ)) rfl hg2 ?_
      refine yG_n (n := 4) (C' := (46, [(0, .inr (.inl 4, x0)), (1, .inl (.inl x1)), (2, .inl (.inl x2)), (3, .inl (.inl x3)), (4, .inl (.inl x4))], [.inl (.inl x4), .inr (.inr (0, 4), x0 + 18 + 2)], σ)) rfl ?_
      cases hg3 : yin x4 4 with
      | false => rw [hg3] at h; dsimp only [cond] at h; cases h
      | true =>
        rw [hg3] at h
        dsimp only [cond] at h
        refine yG_t (C' := (47, [(0, .inr (.inl 4, x0)), (1, .inl (.inl x1)), (2, .inl (.inl x2)), (3, .inl (.inl x3)), (4, .inl (.inl x4))], [.inl (.inl (σ.1 (x0 + 18 + 2) x4.toNat))], σ)) rfl hg3 ?_
        refine yG_n (n := 3) (C' := (50, [(0, .inr (.inl 4, x0)), (1, .inl (.inl x1)), (2, .inl (.inl x2)), (3, .inl (.inl x3)), (4, .inl (.inl x4))], [.inl (.inl (yrm x1 5)), .inl (.inl (σ.1 (x0 + 18 + 2) x4.toNat))], σ)) rfl ?_
        cases hg4 : ycP .ne (σ.1 (x0 + 18 + 2) x4.toNat) (yrm x1 5) with
        | true =>
          rw [hg4] at h
          dsimp only [cond] at h
          refine yG_t (C' := (75, [(0, .inr (.inl 4, x0)), (1, .inl (.inl x1)), (2, .inl (.inl x2)), (3, .inl (.inl x3)), (4, .inl (.inl x4))], [], σ)) rfl hg4 ?_
          exact t_X0_wantsBrought_b75 (f_X0_wantsBrought_b25 N n) ih σ x0 x1 x2 x3 x4 res h
        | false =>
          rw [hg4] at h
          dsimp only [cond] at h
          refine yG_f (C' := (53, [(0, .inr (.inl 4, x0)), (1, .inl (.inl x1)), (2, .inl (.inl x2)), (3, .inl (.inl x3)), (4, .inl (.inl x4))], [], σ)) rfl hg4 ?_
          refine yG_n (n := 5) (C' := (63, [(0, .inr (.inl 4, x0)), (1, .inl (.inl x1)), (2, .inl (.inl x2)), (3, .inl (.inl x3)), (4, .inl (.inl x4))], [.inl (.inl x4), .inr (.inr (0, 4), x0 + 18 + 1), .inl (.inl x2)], σ)) rfl ?_
          refine yG_t (C' := (64, [(0, .inr (.inl 4, x0)), (1, .inl (.inl x1)), (2, .inl (.inl x2)), (3, .inl (.inl x3)), (4, .inl (.inl x4))], [.inl (.inl (σ.1 (x0 + 18 + 1) x4.toNat)), .inl (.inl x2)], σ)) rfl hg3 ?_
          cases hr5 : f_X7_bit N σ x2 (σ.1 (x0 + 18 + 1) x4.toNat) with
          | none => rw [hr5] at h; dsimp only at h; cases h
          | some r2 =>
            rw [hr5] at h
            dsimp only at h
            refine yG_c (C1 := (67, [(0, .inr (.inl 4, x0)), (1, .inl (.inl x1)), (2, .inl (.inl x2)), (3, .inl (.inl x3)), (4, .inl (.inl x4))], [.inl (.inl r2.1)], r2.2)) rfl (e_X7_bit hr5) rfl ?_
            refine yG_n (n := 1) (C' := (68, [(0, .inr (.inl 4, x0)), (1, .inl (.inl x1)), (2, .inl (.inl x2)), (3, .inl (.inl x3)), (4, .inl (.inl x4))], [.inl (.inl 1), .inl (.inl r2.1)], r2.2)) rfl ?_
            cases hg6 : ycP .ne r2.1 1 with
            | true =>
              rw [hg6] at h
              dsimp only [cond] at h
              refine yG_t (C' := (75, [(0, .inr (.inl 4, x0)), (1, .inl (.inl x1)), (2, .inl (.inl x2)), (3, .inl (.inl x3)), (4, .inl (.inl x4))], [], r2.2)) rfl hg6 ?_
              exact t_X0_wantsBrought_b75 (f_X0_wantsBrought_b25 N n) ih r2.2 x0 x1 x2 x3 x4 res h
            | false =>
              rw [hg6] at h
              dsimp only [cond] at h
              refine yG_f (C' := (71, [(0, .inr (.inl 4, x0)), (1, .inl (.inl x1)), (2, .inl (.inl x2)), (3, .inl (.inl x3)), (4, .inl (.inl x4))], [], r2.2)) rfl hg6 ?_
              refine yG_n (n := 2) (C' := (76, [(0, .inr (.inl 4, x0)), (1, .inl (.inl x1)), (2, .inl (.inl x2)), (3, .inl (.inl x3)), (4, .inl (.inl x4))], [.inl (.inl 1)], r2.2)) rfl ?_
              exact t_X0_wantsBrought_b76 (f_X0_wantsBrought_b25 N n) ih r2.2 x0 x1 x2 x3 x4 1 res h
set_option maxRecDepth 100000 in
set_option maxHeartbeats 4000000 in
theorem t_X0_wantsBrought_b19 {N : Nat} {X : zXT} {sh : List yH} {l : Launch} {rm : Room} (σ : yS) (x0 : Nat) (x1 : Int) (s0 : Int) (res : Int × yS) (h : f_X0_wantsBrought_b19 N σ x0 x1 s0 = some res) : G_X0_wantsBrought N X sh l rm (19, [(0, .inr (.inl 4, x0)), (1, .inl (.inl x1))], [.inl (.inl s0)], σ) (some (.inl (.inl res.1)), res.2) := by
  unfold f_X0_wantsBrought_b19 at h
  refine yG_n (n := 5) (C' := (25, [(4, .inl (.inl 0)), (3, .inl (.inl 0)), (2, .inl (.inl s0)), (0, .inr (.inl 4, x0)), (1, .inl (.inl x1))], [], σ)) rfl ?_
  exact yG_w [3, 4, 2, 1, 0] rfl (t_X0_wantsBrought_b25 N σ x0 x1 s0 0 0 res h)
set_option maxRecDepth 100000 in
set_option maxHeartbeats 4000000 in
theorem t_X0_wantsBrought {N : Nat} {X : zXT} {sh : List yH} {l : Launch} {rm : Room} (σ : yS) (x0 : Nat) (x1 : Int) (res : Int × yS) (h : f_X0_wantsBrought N σ x0 x1 = some res) : G_X0_wantsBrought N X sh l rm (0, [(0, .inr (.inl 4, x0)), (1, .inl (.inl x1))], [], σ) (some (.inl (.inl res.1)), res.2) := by
  unfold f_X0_wantsBrought at h
  refine yG_n (n := 5) (C' := (7, [(0, .inr (.inl 4, x0)), (1, .inl (.inl x1))], [.inl (.inl (σ.1 x0 2)), .inl (.inl (yrm x1 5))], σ)) rfl ?_
  cases hg7 : ycP .ge (yrm x1 5) (σ.1 x0 2) with
  | true =>
    rw [hg7] at h
    dsimp only [cond] at h
    refine yG_t (C' := (18, [(0, .inr (.inl 4, x0)), (1, .inl (.inl x1))], [], σ)) rfl hg7 ?_
    refine yG_n (n := 1) (C' := (19, [(0, .inr (.inl 4, x0)), (1, .inl (.inl x1))], [.inl (.inl 0)], σ)) rfl ?_
    exact t_X0_wantsBrought_b19 σ x0 x1 0 res h
  | false =>
    rw [hg7] at h
    dsimp only [cond] at h
    refine yG_f (C' := (10, [(0, .inr (.inl 4, x0)), (1, .inl (.inl x1))], [], σ)) rfl hg7 ?_
    refine yG_n (n := 2) (C' := (12, [(0, .inr (.inl 4, x0)), (1, .inl (.inl x1))], [.inl (.inl x1), .inr (.inl 4, x0)], σ)) rfl ?_
    cases hr8 : f_X4_broughtBy N σ x0 x1 with
    | none => rw [hr8] at h; dsimp only at h; cases h
    | some r3 =>
      rw [hr8] at h
      dsimp only at h
      refine yG_c (C1 := (15, [(0, .inr (.inl 4, x0)), (1, .inl (.inl x1))], [.inl (.inl r3.1)], r3.2)) rfl (e_X4_broughtBy hr8) rfl ?_
      refine yG_n (n := 1) (C' := (19, [(0, .inr (.inl 4, x0)), (1, .inl (.inl x1))], [.inl (.inl r3.1)], r3.2)) rfl ?_
      exact t_X0_wantsBrought_b19 r3.2 x0 x1 r3.1 res h
set_option maxRecDepth 100000 in
set_option maxHeartbeats 4000000 in
theorem m_X0_wantsBrought {N : Nat} {X : zXT} (hX : zXok X) (hN : zXn X) (l : Launch) {sh : List yH} : yMet X vwCl yct sh l yX0_wantsBrought wsX0_wantsBrought { frames := 4, cells := 0, slots := 0, locals := 137 } (F_X0_wantsBrought N) :=
  ymeth (tb := tb_X0_wantsBrought N) (pr := pr_X0_wantsBrought) (rt := 1) (own := RX0) hX (by decide +kernel) rfl rfl ⟨Nat.le_of_ble_eq_true rfl, Nat.le_of_ble_eq_true rfl⟩
    (zfl_all (List.forall_mem_cons.mpr ⟨zfl_X4 (fun w h => List.mem_cons_of_mem _ (List.mem_append_left _ (List.mem_append_right _ h))) (List.mem_of_getElem? (i := 2) rfl) (by decide) (by decide), List.forall_mem_cons.mpr ⟨zfl_X6 (fun w h => List.mem_cons_of_mem _ (List.mem_append_right _ h)) (List.mem_of_getElem? (i := 3) rfl) (by decide) (by decide), List.forall_mem_cons.mpr ⟨zfl_X4 (fun w h => List.mem_cons_of_mem _ (List.mem_append_left _ (List.mem_append_right _ h))) (List.mem_of_getElem? (i := 1) rfl) (by decide) (by decide), List.forall_mem_cons.mpr ⟨zfl_X6 (fun w h => List.mem_cons_of_mem _ (List.mem_append_right _ h)) (List.mem_of_getElem? (i := 4) rfl) (by decide) (by decide), List.forall_mem_cons.mpr ⟨zfl_X6 (fun w h => List.mem_cons_of_mem _ (List.mem_append_right _ h)) (List.mem_of_getElem? (i := 5) rfl) (by decide) (by decide), fun _ h => absurd h List.not_mem_nil⟩⟩⟩⟩⟩))
    (zco_all (fun _ h => absurd h List.not_mem_nil)) (zlc_all (fun _ h => absurd h List.not_mem_nil))
    (List.forall_mem_cons.mpr ⟨ycal_V hX (m_X4_broughtBy hX hN l) rfl (fun s args hts => cwV 1 hts gX0_wantsBrought_X4_broughtBy rfl rfl rfl (by decide +kernel) ⟨Nat.le_of_ble_eq_true rfl, Nat.le_of_ble_eq_true rfl⟩), fun _ h => absurd h List.not_mem_nil⟩)
    (List.forall_mem_cons.mpr ⟨ycal_SN hX (m_X7_bit hX hN l) (fun A s args hts hx => ⟨va_cnB 2 hts ggX0_wantsBrought_X7_bit rfl rfl rfl (hN A s s.heap hx RX0 64 yX7_bit RX7 (by decide +kernel)) (hts _ (List.mem_of_getElem? (i := 30) rfl)) (by decide +kernel) ⟨Nat.le_of_ble_eq_true rfl, Nat.le_of_ble_eq_true rfl⟩, hts _ (List.mem_of_getElem? (i := 29) rfl), trivial⟩), List.forall_mem_cons.mpr ⟨ycal_SN hX (m_X7_withBit hX hN l) (fun A s args hts hx => ⟨va_cnB 3 hts ggX0_wantsBrought_X7_withBit rfl rfl rfl (hN A s s.heap hx RX0 67 yX7_withBit RX7 (by decide +kernel)) (hts _ (List.mem_of_getElem? (i := 30) rfl)) (by decide +kernel) ⟨Nat.le_of_ble_eq_true rfl, Nat.le_of_ble_eq_true rfl⟩, hts _ (List.mem_of_getElem? (i := 32) rfl), trivial⟩), fun _ h => absurd h List.not_mem_nil⟩⟩)
    (zmm_all (fun _ h => absurd h List.not_mem_nil)) (fun _ h => absurd h List.not_mem_nil) (zpr_all hp_X0_wantsBrought) (fun as σ res h => by
      unfold F_X0_wantsBrought at h
      split at h
      · rename_i x0 x1
        cases hr : f_X0_wantsBrought N σ x0 x1 with
        | none => rw [hr] at h; cases h
        | some r =>
          rw [hr] at h
          cases h
          exact ⟨Nat.le_of_ble_eq_true rfl, t_X0_wantsBrought σ x0 x1 r hr⟩
      · cases h)
noncomputable def pr_X0_allWants : List (Nat × Instr × Nat) := [(0, .iconst 1, 1), (1, .aload_n 0, 1), (2, .getfield 43, 3), (5, .getfield 47, 3), (8, .ishl, 1), (9, .iconst 1, 1), (10, .isub, 1), (11, .ireturn, 1)]
set_option maxRecDepth 100000 in
theorem hp_X0_allWants : pr_X0_allWants.all (fun x => decide (decode cX0_allWants x.1 = .ok x.2)) = true := by decide +kernel
noncomputable def f_X0_allWants (N : Nat) (σ : yS) (x0 : Nat) : Option (Int × yS) :=
  some (ysu (ysl 1 (σ.1 (x0 + 18) 0)) 1, σ)
noncomputable def F_X0_allWants (N : Nat) : yF := fun as σ => match as with
  | [.inr (.inl 4, x0)] => (f_X0_allWants N σ x0).map (fun r => (some (.inl (.inl r.1)), r.2))
  | _ => none
theorem e_X0_allWants {N : Nat} {σ : yS} {x0 : Nat} {r : Int × yS} (h : f_X0_allWants N σ x0 = some r) : F_X0_allWants N [.inr (.inl 4, x0)] σ = some (some (.inl (.inl r.1)), r.2) := by
  show (f_X0_allWants N σ x0).map (fun r => ((some (.inl (.inl r.1)), r.2) : yR)) = _
  rw [h]
  rfl
noncomputable def tb_X0_allWants (N : Nat) : yTb := ([(43, 4, 13, 3), (47, 6, 0, 0)], [], [], [], [], [], [])
abbrev G_X0_allWants (N : Nat) (X : zXT) (sh : List yH) (l : Launch) (rm : Room) : yC → yR → Prop := yGoes X vwCl yct sh l rm cX0_allWants 1 wsX0_allWants RX0 (tb_X0_allWants N) pr_X0_allWants 1
set_option maxRecDepth 100000 in
set_option maxHeartbeats 4000000 in
theorem t_X0_allWants {N : Nat} {X : zXT} {sh : List yH} {l : Launch} {rm : Room} (σ : yS) (x0 : Nat) (res : Int × yS) (h : f_X0_allWants N σ x0 = some res) : G_X0_allWants N X sh l rm (0, [(0, .inr (.inl 4, x0))], [], σ) (some (.inl (.inl res.1)), res.2) := by
  unfold f_X0_allWants at h
  refine yG_n (n := 7) (C' := (11, [(0, .inr (.inl 4, x0))], [.inl (.inl (ysu (ysl 1 (σ.1 (x0 + 18) 0)) 1))], σ)) rfl ?_
  have h := Option.some.inj h
  subst h
  dsimp only
  exact yG_r rfl rfl
set_option maxRecDepth 100000 in
set_option maxHeartbeats 4000000 in
theorem m_X0_allWants {N : Nat} {X : zXT} (hX : zXok X) (hN : zXn X) (l : Launch) {sh : List yH} : yMet X vwCl yct sh l yX0_allWants wsX0_allWants { frames := 1, cells := 0, slots := 0, locals := 64 } (F_X0_allWants N) :=
  ymeth (tb := tb_X0_allWants N) (pr := pr_X0_allWants) (rt := 1) (own := RX0) hX (by decide +kernel) rfl rfl ⟨Nat.le_of_ble_eq_true rfl, Nat.le_of_ble_eq_true rfl⟩
    (zfl_all (List.forall_mem_cons.mpr ⟨zfl_X4 (fun w h => List.mem_cons_of_mem _ (List.mem_append_left _ (List.mem_append_right _ h))) (List.mem_of_getElem? (i := 1) rfl) (by decide) (by decide), List.forall_mem_cons.mpr ⟨zfl_X6 (fun w h => List.mem_cons_of_mem _ (List.mem_append_right _ h)) (List.mem_of_getElem? (i := 2) rfl) (by decide) (by decide), fun _ h => absurd h List.not_mem_nil⟩⟩))
    (zco_all (fun _ h => absurd h List.not_mem_nil)) (zlc_all (fun _ h => absurd h List.not_mem_nil))
    (fun _ h => absurd h List.not_mem_nil)
    (fun _ h => absurd h List.not_mem_nil)
    (zmm_all (fun _ h => absurd h List.not_mem_nil)) (fun _ h => absurd h List.not_mem_nil) (zpr_all hp_X0_allWants) (fun as σ res h => by
      unfold F_X0_allWants at h
      split at h
      · rename_i x0
        cases hr : f_X0_allWants N σ x0 with
        | none => rw [hr] at h; cases h
        | some r =>
          rw [hr] at h
          cases h
          exact ⟨Nat.le_of_ble_eq_true rfl, t_X0_allWants σ x0 r hr⟩
      · cases h)
noncomputable def pr_X0_fewestVows : List (Nat × Instr × Nat) := [(0, .iconst 0, 1), (1, .istore_n 2, 1), (2, .iload_n 2, 1), (3, .bipush 16, 2), (5, .if_icmp .ge 16, 3), (8, .aload_n 0, 1), (9, .getfield 11, 3), (12, .iload_n 2, 1), (13, .iconst 0, 1), (14, .bastore, 1), (15, .iinc 2 1, 3), (18, .goto (-16), 3), (21, .iconst 0, 1), (22, .istore_n 2, 1), (23, .iload_n 2, 1), (24, .aload_n 1, 1), (25, .getfield 19, 3), (28, .invokestatic 25, 3), (31, .if_icmp .ge 20, 3), (34, .aload_n 0, 1), (35, .getfield 11, 3), (38, .aload_n 1, 1), (39, .iload_n 2, 1), (40, .invokestatic 29, 3), (43, .iconst 1, 1), (44, .bastore, 1), (45, .iinc 2 1, 3), (48, .goto (-25), 3), (51, .aload_n 0, 1), (52, .getfield 15, 3), (55, .iconst 0, 1), (56, .iconst 0, 1), (57, .iastore, 1), (58, .iconst 1, 1), (59, .istore_n 2, 1), (60, .iload_n 2, 1), (61, .bipush 16, 2), (63, .if_icmp .ge 73, 3), (66, .aload_n 0, 1), (67, .getfield 15, 3), (70, .iload_n 2, 1), (71, .bipush 99, 2), (73, .iastore, 1), (74, .iconst 1, 1), (75, .istore_n 3, 1), (76, .iload_n 3, 1), (77, .bipush 16, 2), (79, .if_icmp .ge 51, 3), (82, .aload_n 0, 1), (83, .getfield 11, 3), (86, .iload_n 3, 1), (87, .baload, 1), (88, .ifCond .eq 36, 3), (91, .iload_n 3, 1), (92, .iload_n 2, 1), (93, .iand, 1), (94, .ifCond .eq 30, 3), (97, .aload_n 0, 1), (98, .getfield 15, 3), (101, .iload_n 2, 1), (102, .aload_n 0, 1), (103, .getfield 15, 3), (106, .iload_n 2, 1), (107, .iaload, 1), (108, .aload_n 0, 1), (109, .getfield 15, 3), (112, .iload_n 2, 1), (113, .iload_n 3, 1), (114, .iconst (-1), 1), (115, .ixor, 1), (116, .iand, 1), (117, .iaload, 1), (118, .iconst 1, 1), (119, .iadd, 1), (120, .invokestatic 33, 3), (123, .iastore, 1), (124, .iinc 3 1, 3), (127, .goto (-51), 3), (130, .iinc 2 1, 3), (133, .goto (-73), 3), (136, .aload_n 0, 1), (137, .getfield 15, 3), (140, .aload_n 1, 1), (141, .invokestatic 39, 3), (144, .iaload, 1), (145, .istore_n 2, 1), (146, .iload_n 2, 1), (147, .bipush 99, 2), (149, .if_icmp .ge 7, 3), (152, .iload_n 2, 1), (153, .goto 5, 3), (156, .bipush (-4), 2), (158, .ireturn, 1)]
set_option maxRecDepth 100000 in
theorem hp_X0_fewestVows : pr_X0_fewestVows.all (fun x => decide (decode cX0_fewestVows x.1 = .ok x.2)) = true := by decide +kernel
noncomputable def f_X0_fewestVows_b158 (N : Nat) (σ : yS) (s0 : Int) : Option (Int × yS) :=
  some (s0, σ)
noncomputable def f_X0_fewestVows_b124 (N : Nat) (k60 : yS → Nat → Int → Option (Int × yS)) (k76 : yS → Nat → Int → Int → Option (Int × yS)) (σ : yS) (x1 : Nat) (x2 : Int) (x3 : Int) : Option (Int × yS) :=
  k76 σ x1 x2 (yad x3 1)
noncomputable def f_X0_fewestVows_b76 (N : Nat) (k60 : yS → Nat → Int → Option (Int × yS)) : Nat → yS → Nat → Int → Int → Option (Int × yS) := yfix (fun _ _ _ _ => none) (fun ih σ x1 x2 x3 =>
    bif ycP .ge x3 16 then
      k60 σ x1 (yad x2 1)
    else
      bif yin x3 16 then
        bif ycP .eq (σ.1 6 x3.toNat) 0 then
          f_X0_fewestVows_b124 N k60 ih σ x1 x2 x3
        else
          bif ycP .eq (yan x3 x2) 0 then
            f_X0_fewestVows_b124 N k60 ih σ x1 x2 x3
          else
            bif yin x2 16 then
              bif yin (yan x2 (yxo x3 ((-1)))) 16 then
                f_X0_fewestVows_b124 N k60 ih (yw σ 7 x2.toNat (ymn (σ.1 7 x2.toNat) (yad (σ.1 7 (yan x2 (yxo x3 ((-1)))).toNat) 1))) x1 x2 x3
              else none
            else none
      else none)
theorem q_X0_fewestVows_b76 (N : Nat) (k60 : yS → Nat → Int → Option (Int × yS)) (n : Nat) (σ : yS) (x1 : Nat) (x2 : Int) (x3 : Int) : f_X0_fewestVows_b76 N k60 (n + 1) σ x1 x2 x3 =
    (bif ycP .ge x3 16 then
      k60 σ x1 (yad x2 1)
    else
      bif yin x3 16 then
        bif ycP .eq (σ.1 6 x3.toNat) 0 then
          f_X0_fewestVows_b124 N k60 (f_X0_fewestVows_b76 N k60 n) σ x1 x2 x3
        else
          bif ycP .eq (yan x3 x2) 0 then
            f_X0_fewestVows_b124 N k60 (f_X0_fewestVows_b76 N k60 n) σ x1 x2 x3
          else
            bif yin x2 16 then
              bif yin (yan x2 (yxo x3 ((-1)))) 16 then
                f_X0_fewestVows_b124 N k60 (f_X0_fewestVows_b76 N k60 n) (yw σ 7 x2.toNat (ymn (σ.1 7 x2.toNat) (yad (σ.1 7 (yan x2 (yxo x3 ((-1)))).toNat) 1))) x1 x2 x3
              else none
            else none
      else none) := rfl
noncomputable def f_X0_fewestVows_b60 (N : Nat) : Nat → yS → Nat → Int → Option (Int × yS) := yfix (fun _ _ _ => none) (fun ih σ x1 x2 =>
    bif ycP .ge x2 16 then
      match f_X0_allWants N σ x1 with
      | none => none
      | some r2 => bif yin r2.1 16 then
          bif ycP .ge (r2.2.1 7 r2.1.toNat) 99 then
            f_X0_fewestVows_b158 N r2.2 ((-4))
          else
            f_X0_fewestVows_b158 N r2.2 (r2.2.1 7 r2.1.toNat)
        else none
    else
      bif yin x2 16 then
        f_X0_fewestVows_b76 N ih N (yw σ 7 x2.toNat 99) x1 x2 1
      else none)
theorem q_X0_fewestVows_b60 (N : Nat) (n : Nat) (σ : yS) (x1 : Nat) (x2 : Int) : f_X0_fewestVows_b60 N (n + 1) σ x1 x2 =
    (bif ycP .ge x2 16 then
      match f_X0_allWants N σ x1 with
      | none => none
      | some r2 => bif yin r2.1 16 then
          bif ycP .ge (r2.2.1 7 r2.1.toNat) 99 then
            f_X0_fewestVows_b158 N r2.2 ((-4))
          else
            f_X0_fewestVows_b158 N r2.2 (r2.2.1 7 r2.1.toNat)
        else none
    else
      bif yin x2 16 then
        f_X0_fewestVows_b76 N (f_X0_fewestVows_b60 N n) N (yw σ 7 x2.toNat 99) x1 x2 1
      else none) := rfl
noncomputable def f_X0_fewestVows_b23 (N : Nat) : Nat → yS → Nat → Int → Option (Int × yS) := yfix (fun _ _ _ => none) (fun ih σ x1 x2 =>
    match f_X7_numbersOf N σ (σ.1 x1 0) with
    | none => none
    | some r1 => bif ycP .ge x2 r1.1 then
        f_X0_fewestVows_b60 N N (yw r1.2 7 0 0) x1 1
      else
        match f_X0_wantsBrought N r1.2 x1 x2 with
        | none => none
        | some r3 => bif yinb r3.1 16 1 then
            ih (yw r3.2 6 r3.1.toNat 1) x1 (yad x2 1)
          else none)
theorem q_X0_fewestVows_b23 (N : Nat) (n : Nat) (σ : yS) (x1 : Nat) (x2 : Int) : f_X0_fewestVows_b23 N (n + 1) σ x1 x2 =
    (match f_X7_numbersOf N σ (σ.1 x1 0) with
    | none => none
    | some r1 => bif ycP .ge x2 r1.1 then
        f_X0_fewestVows_b60 N N (yw r1.2 7 0 0) x1 1
      else
        match f_X0_wantsBrought N r1.2 x1 x2 with
        | none => none
        | some r3 => bif yinb r3.1 16 1 then
            (f_X0_fewestVows_b23 N n) (yw r3.2 6 r3.1.toNat 1) x1 (yad x2 1)
          else none) := rfl
noncomputable def f_X0_fewestVows_b2 (N : Nat) : Nat → yS → Nat → Int → Option (Int × yS) := yfix (fun _ _ _ => none) (fun ih σ x1 x2 =>
    bif ycP .ge x2 16 then
      f_X0_fewestVows_b23 N N σ x1 0
    else
      bif yinb x2 16 0 then
        ih (yw σ 6 x2.toNat 0) x1 (yad x2 1)
      else none)
theorem q_X0_fewestVows_b2 (N : Nat) (n : Nat) (σ : yS) (x1 : Nat) (x2 : Int) : f_X0_fewestVows_b2 N (n + 1) σ x1 x2 =
    (bif ycP .ge x2 16 then
      f_X0_fewestVows_b23 N N σ x1 0
    else
      bif yinb x2 16 0 then
        (f_X0_fewestVows_b2 N n) (yw σ 6 x2.toNat 0) x1 (yad x2 1)
      else none) := rfl
noncomputable def f_X0_fewestVows (N : Nat) (σ : yS) (x1 : Nat) : Option (Int × yS) :=
  f_X0_fewestVows_b2 N N σ x1 0
noncomputable def F_X0_fewestVows (N : Nat) : yF := fun as σ => match as with
  | [.inr (.inl 0, 5), .inr (.inl 4, x1)] => (f_X0_fewestVows N σ x1).map (fun r => (some (.inl (.inl r.1)), r.2))
  | _ => none
theorem e_X0_fewestVows {N : Nat} {σ : yS} {x1 : Nat} {r : Int × yS} (h : f_X0_fewestVows N σ x1 = some r) : F_X0_fewestVows N [.inr (.inl 0, 5), .inr (.inl 4, x1)] σ = some (some (.inl (.inl r.1)), r.2) := by
  show (f_X0_fewestVows N σ x1).map (fun r => ((some (.inl (.inl r.1)), r.2) : yR)) = _
  rw [h]
  rfl
noncomputable def tb_X0_fewestVows (N : Nat) : yTb := ([(11, 0, 0, 3), (15, 0, 1, 3), (19, 4, 0, 0)], [], [], [], [(25, 1, F_X7_numbersOf N), (29, 2, F_X0_wantsBrought N), (39, 1, F_X0_allWants N)], [(33, 1)], [])
abbrev G_X0_fewestVows (N : Nat) (X : zXT) (sh : List yH) (l : Launch) (rm : Room) : yC → yR → Prop := yGoes X vwCl yct sh l rm cX0_fewestVows 4 wsX0_fewestVows RX0 (tb_X0_fewestVows N) pr_X0_fewestVows 1
set_option maxRecDepth 100000 in
set_option maxHeartbeats 4000000 in
theorem t_X0_fewestVows_b158 {N : Nat} {X : zXT} {sh : List yH} {l : Launch} {rm : Room} (σ : yS) (s0 : Int) (res : Int × yS) (h : f_X0_fewestVows_b158 N σ s0 = some res) : G_X0_fewestVows N X sh l rm (158, [], [.inl (.inl s0)], σ) (some (.inl (.inl res.1)), res.2) := by
  unfold f_X0_fewestVows_b158 at h
  have h := Option.some.inj h
  subst h
  dsimp only
  exact yG_r rfl rfl
set_option maxRecDepth 100000 in
set_option maxHeartbeats 4000000 in
theorem t_X0_fewestVows_b124 {N : Nat} {X : zXT} {sh : List yH} {l : Launch} {rm : Room} (k60 : yS → Nat → Int → Option (Int × yS)) (hk60 : ∀ (σ : yS) (x1 : Nat) (x2 : Int) (res : Int × yS), k60 σ x1 x2 = some res → G_X0_fewestVows N X sh l rm (60, [(0, .inr (.inl 0, 5)), (1, .inr (.inl 4, x1)), (2, .inl (.inl x2))], [], σ) (some (.inl (.inl res.1)), res.2)) (k76 : yS → Nat → Int → Int → Option (Int × yS)) (hk76 : ∀ (σ : yS) (x1 : Nat) (x2 : Int) (x3 : Int) (res : Int × yS), k76 σ x1 x2 x3 = some res → G_X0_fewestVows N X sh l rm (76, [(0, .inr (.inl 0, 5)), (1, .inr (.inl 4, x1)), (2, .inl (.inl x2)), (3, .inl (.inl x3))], [], σ) (some (.inl (.inl res.1)), res.2)) (σ : yS) (x1 : Nat) (x2 : Int) (x3 : Int) (res : Int × yS) (h : f_X0_fewestVows_b124 N k60 k76 σ x1 x2 x3 = some res) : G_X0_fewestVows N X sh l rm (124, [(0, .inr (.inl 0, 5)), (1, .inr (.inl 4, x1)), (2, .inl (.inl x2)), (3, .inl (.inl x3))], [], σ) (some (.inl (.inl res.1)), res.2) := by
  unfold f_X0_fewestVows_b124 at h
  refine yG_n (n := 2) (C' := (76, [(3, .inl (.inl (yad x3 1))), (0, .inr (.inl 0, 5)), (1, .inr (.inl 4, x1)), (2, .inl (.inl x2))], [], σ)) rfl ?_
  exact yG_w [1, 2, 3, 0] rfl (hk76 σ x1 x2 (yad x3 1) res h)
set_option maxRecDepth 100000 in
set_option maxHeartbeats 4000000 in
theorem t_X0_fewestVows_b76 {N : Nat} {X : zXT} {sh : List yH} {l : Launch} {rm : Room} (k60 : yS → Nat → Int → Option (Int × yS)) (hk60 : ∀ (σ : yS) (x1 : Nat) (x2 : Int) (res : Int × yS), k60 σ x1 x2 = some res → G_X0_fewestVows N X sh l rm (60, [(0, .inr (.inl 0, 5)), (1, .inr (.inl 4, x1)), (2, .inl (.inl x2))], [], σ) (some (.inl (.inl res.1)), res.2)) : ∀ (n : Nat) (σ : yS) (x1 : Nat) (x2 : Int) (x3 : Int) (res : Int × yS), f_X0_fewestVows_b76 N k60 n σ x1 x2 x3 = some res → G_X0_fewestVows N X sh l rm (76, [(0, .inr (.inl 0, 5)), (1, .inr (.inl 4, x1)), (2, .inl (.inl x2)), (3, .inl (.inl x3))], [], σ) (some (.inl (.inl res.1)), res.2) := by
  intro n
  induction n with
  | zero => intro σ x1 x2 x3 res h; exact (yno h).elim
  | succ n ih =>
    intro σ x1 x2 x3 res h
    rw [q_X0_fewestVows_b76] at h
    refine yG_n (n := 2) (C' := (79, [(0, .inr (.inl 0, 5)), (1, .inr (.inl 4, x1)), (2, .inl (.inl x2)), (3, .inl (.inl x3))], [.inl (.inl 16), .inl (.inl x3)], σ)) rfl ?_
    cases hg1 : ycP .ge x3 16 with
    | true =>
      rw [hg1] at h
      dsimp only [cond] at h
      refine yG_t (C' := (130, [(0, .inr (.inl 0, 5)), (1, .inr (.inl 4, x1)), (2, .inl (.inl x2)), (3, .inl (.inl x3))], [], σ)) rfl hg1 ?_
      refine yG_n (n := 2) (C' := (60, [(2, .inl (.inl (yad x2 1))), (0, .inr (.inl 0, 5)), (1, .inr (.inl 4, x1)), (3, .inl (.inl x3))], [], σ)) rfl ?_
      exact yG_w [1, 2, 0] rfl (hk60 σ x1 (yad x2 1) res h)
    | false =>
      rw [hg1] at h
      dsimp only [cond] at h
      refine yG_f (C' := (82, [(0, .inr (.inl 0, 5)), (1, .inr (.inl 4, x1)), (2, .inl (.inl x2)), (3, .inl (.inl x3))], [], σ)) rfl hg1 ?_
      refine yG_n (n := 3) (C' := (87, [(0, .inr (.inl 0, 5)), (1, .inr (.inl 4, x1)), (2, .inl (.inl x2)), (3, .inl (.inl x3))], [.inl (.inl x3), .inr (.inr (1, 16), 6)], σ)) rfl ?_
      cases hg2 : yin x3 16 with
      | false => rw [hg2] at h; dsimp only [cond] at h; cases h
      | true =>
        rw [hg2] at h
        dsimp only [cond] at h
        refine yG_t (C' := (88, [(0, .inr (.inl 0, 5)), (1, .inr (.inl 4, x1)), (2, .inl (.inl x2)), (3, .inl (.inl x3))], [.inl (.inl (σ.1 6 x3.toNat))], σ)) rfl hg2 ?_
        cases hg3 : ycP .eq (σ.1 6 x3.toNat) 0 with
        | true =>
          rw [hg3] at h
          dsimp only [cond] at h
          refine yG_t (C' := (124, [(0, .inr (.inl 0, 5)), (1, .inr (.inl 4, x1)), (2, .inl (.inl x2)), (3, .inl (.inl x3))], [], σ)) rfl hg3 ?_
          exact t_X0_fewestVows_b124 k60 hk60 (f_X0_fewestVows_b76 N k60 n) ih σ x1 x2 x3 res h
        | false =>
          rw [hg3] at h
          dsimp only [cond] at h
          refine yG_f (C' := (91, [(0, .inr (.inl 0, 5)), (1, .inr (.inl 4, x1)), (2, .inl (.inl x2)), (3, .inl (.inl x3))], [], σ)) rfl hg3 ?_
          refine yG_n (n := 3) (C' := (94, [(0, .inr (.inl 0, 5)), (1, .inr (.inl 4, x1)), (2, .inl (.inl x2)), (3, .inl (.inl x3))], [.inl (.inl (yan x3 x2))], σ)) rfl ?_
          cases hg4 : ycP .eq (yan x3 x2) 0 with
          | true =>
            rw [hg4] at h
            dsimp only [cond] at h
            refine yG_t (C' := (124, [(0, .inr (.inl 0, 5)), (1, .inr (.inl 4, x1)), (2, .inl (.inl x2)), (3, .inl (.inl x3))], [], σ)) rfl hg4 ?_
            exact t_X0_fewestVows_b124 k60 hk60 (f_X0_fewestVows_b76 N k60 n) ih σ x1 x2 x3 res h
          | false =>
            rw [hg4] at h
            dsimp only [cond] at h
            refine yG_f (C' := (97, [(0, .inr (.inl 0, 5)), (1, .inr (.inl 4, x1)), (2, .inl (.inl x2)), (3, .inl (.inl x3))], [], σ)) rfl hg4 ?_
            refine yG_n (n := 6) (C' := (107, [(0, .inr (.inl 0, 5)), (1, .inr (.inl 4, x1)), (2, .inl (.inl x2)), (3, .inl (.inl x3))], [.inl (.inl x2), .inr (.inr (0, 16), 7), .inl (.inl x2), .inr (.inr (0, 16), 7)], σ)) rfl ?_
            cases hg5 : yin x2 16 with
            | false => rw [hg5] at h; dsimp only [cond] at h; cases h
            | true =>
              rw [hg5] at h
              dsimp only [cond] at h
              refine yG_t (C' := (108, [(0, .inr (.inl 0, 5)), (1, .inr (.inl 4, x1)), (2, .inl (.inl x2)), (3, .inl (.inl x3))], [.inl (.inl (σ.1 7 x2.toNat)), .inl (.inl x2), .inr (.inr (0, 16), 7)], σ)) rfl hg5 ?_
              refine yG_n (n := 7) (C' := (117, [(0, .inr (.inl 0, 5)), (1, .inr (.inl 4, x1)), (2, .inl (.inl x2)), (3, .inl (.inl x3))], [.inl (.inl (yan x2 (yxo x3 ((-1))))), .inr (.inr (0, 16), 7), .inl (.inl (σ.1 7 x2.toNat)), .inl (.inl x2), .inr (.inr (0, 16), 7)], σ)) rfl ?_
              cases hg6 : yin (yan x2 (yxo x3 ((-1)))) 16 with
              | false => rw [hg6] at h; dsimp only [cond] at h; cases h
              | true =>
                rw [hg6] at h
                dsimp only [cond] at h
                refine yG_t (C' := (118, [(0, .inr (.inl 0, 5)), (1, .inr (.inl 4, x1)), (2, .inl (.inl x2)), (3, .inl (.inl x3))], [.inl (.inl (σ.1 7 (yan x2 (yxo x3 ((-1)))).toNat)), .inl (.inl (σ.1 7 x2.toNat)), .inl (.inl x2), .inr (.inr (0, 16), 7)], σ)) rfl hg6 ?_
                refine yG_n (n := 3) (C' := (123, [(0, .inr (.inl 0, 5)), (1, .inr (.inl 4, x1)), (2, .inl (.inl x2)), (3, .inl (.inl x3))], [.inl (.inl (ymn (σ.1 7 x2.toNat) (yad (σ.1 7 (yan x2 (yxo x3 ((-1)))).toNat) 1))), .inl (.inl x2), .inr (.inr (0, 16), 7)], σ)) rfl ?_
                refine yG_t (C' := (124, [(0, .inr (.inl 0, 5)), (1, .inr (.inl 4, x1)), (2, .inl (.inl x2)), (3, .inl (.inl x3))], [], yw σ 7 x2.toNat (ymn (σ.1 7 x2.toNat) (yad (σ.1 7 (yan x2 (yxo x3 ((-1)))).toNat) 1)))) rfl hg5 ?_
                exact t_X0_fewestVows_b124 k60 hk60 (f_X0_fewestVows_b76 N k60 n) ih (yw σ 7 x2.toNat (ymn (σ.1 7 x2.toNat) (yad (σ.1 7 (yan x2 (yxo x3 ((-1)))).toNat) 1))) x1 x2 x3 res h
set_option maxRecDepth 100000 in
set_option maxHeartbeats 4000000 in
theorem t_X0_fewestVows_b60 {N : Nat} {X : zXT} {sh : List yH} {l : Launch} {rm : Room} : ∀ (n : Nat) (σ : yS) (x1 : Nat) (x2 : Int) (res : Int × yS), f_X0_fewestVows_b60 N n σ x1 x2 = some res → G_X0_fewestVows N X sh l rm (60, [(0, .inr (.inl 0, 5)), (1, .inr (.inl 4, x1)), (2, .inl (.inl x2))], [], σ) (some (.inl (.inl res.1)), res.2) := by
  intro n
  induction n with
  | zero => intro σ x1 x2 res h; exact (yno h).elim
  | succ n ih =>
    intro σ x1 x2 res h
    rw [q_X0_fewestVows_b60] at h
    refine yG_n (n := 2) (C' := (63, [(0, .inr (.inl 0, 5)), (1, .inr (.inl 4, x1)), (2, .inl (.inl x2))], [.inl (.inl 16), .inl (.inl x2)], σ)) rfl ?_
    cases hg7 : ycP .ge x2 16 with
    | true =>
      rw [hg7] at h
      dsimp only [cond] at h
      refine yG_t (C' := (136, [(0, .inr (.inl 0, 5)), (1, .inr (.inl 4, x1)), (2, .inl (.inl x2))], [], σ)) rfl hg7 ?_
      refine yG_n (n := 3) (C' := (141, [(0, .inr (.inl 0, 5)), (1, .inr (.inl 4, x1)), (2, .inl (.inl x2))], [.inr (.inl 4, x1), .inr (.inr (0, 16), 7)], σ)) rfl ?_
      cases hr8 : f_X0_allWants N σ x1 with
      | none => rw [hr8] at h; dsimp only at h; cases h
      | some r2 =>
        rw [hr8] at h
        dsimp only at h
        refine yG_c (C1 := (144, [(0, .inr (.inl 0, 5)), (1, .inr (.inl 4, x1)), (2, .inl (.inl x2))], [.inl (.inl r2.1), .inr (.inr (0, 16), 7)], r2.2)) rfl (e_X0_allWants hr8) rfl ?_
        cases hg9 : yin r2.1 16 with
        | false => rw [hg9] at h; dsimp only [cond] at h; cases h
        | true =>
          rw [hg9] at h
          dsimp only [cond] at h
          refine yG_t (C' := (145, [(0, .inr (.inl 0, 5)), (1, .inr (.inl 4, x1)), (2, .inl (.inl x2))], [.inl (.inl (r2.2.1 7 r2.1.toNat))], r2.2)) rfl hg9 ?_
          refine yG_n (n := 3) (C' := (149, [(2, .inl (.inl (r2.2.1 7 r2.1.toNat))), (0, .inr (.inl 0, 5)), (1, .inr (.inl 4, x1))], [.inl (.inl 99), .inl (.inl (r2.2.1 7 r2.1.toNat))], r2.2)) rfl ?_
          cases hg10 : ycP .ge (r2.2.1 7 r2.1.toNat) 99 with
          | true =>
            rw [hg10] at h
            dsimp only [cond] at h
            refine yG_t (C' := (156, [(2, .inl (.inl (r2.2.1 7 r2.1.toNat))), (0, .inr (.inl 0, 5)), (1, .inr (.inl 4, x1))], [], r2.2)) rfl hg10 ?_
            refine yG_n (n := 1) (C' := (158, [(2, .inl (.inl (r2.2.1 7 r2.1.toNat))), (0, .inr (.inl 0, 5)), (1, .inr (.inl 4, x1))], [.inl (.inl ((-4)))], r2.2)) rfl ?_
            exact yG_w [] rfl (t_X0_fewestVows_b158 r2.2 ((-4)) res h)
          | false =>
            rw [hg10] at h
            dsimp only [cond] at h
            refine yG_f (C' := (152, [(2, .inl (.inl (r2.2.1 7 r2.1.toNat))), (0, .inr (.inl 0, 5)), (1, .inr (.inl 4, x1))], [], r2.2)) rfl hg10 ?_
            refine yG_n (n := 2) (C' := (158, [(2, .inl (.inl (r2.2.1 7 r2.1.toNat))), (0, .inr (.inl 0, 5)), (1, .inr (.inl 4, x1))], [.inl (.inl (r2.2.1 7 r2.1.toNat))], r2.2)) rfl ?_
            exact yG_w [] rfl (t_X0_fewestVows_b158 r2.2 (r2.2.1 7 r2.1.toNat) res h)
    | false =>
      rw [hg7] at h
      dsimp only [cond] at h
      refine yG_f (C' := (66, [(0, .inr (.inl 0, 5)), (1, .inr (.inl 4, x1)), (2, .inl (.inl x2))], [], σ)) rfl hg7 ?_
      refine yG_n (n := 4) (C' := (73, [(0, .inr (.inl 0, 5)), (1, .inr (.inl 4, x1)), (2, .inl (.inl x2))], [.inl (.inl 99), .inl (.inl x2), .inr (.inr (0, 16), 7)], σ)) rfl ?_
      cases hg11 : yin x2 16 with
      | false => rw [hg11] at h; dsimp only [cond] at h; cases h
      | true =>
        rw [hg11] at h
        dsimp only [cond] at h
        refine yG_t (C' := (74, [(0, .inr (.inl 0, 5)), (1, .inr (.inl 4, x1)), (2, .inl (.inl x2))], [], yw σ 7 x2.toNat 99)) rfl hg11 ?_
        refine yG_n (n := 2) (C' := (76, [(3, .inl (.inl 1)), (0, .inr (.inl 0, 5)), (1, .inr (.inl 4, x1)), (2, .inl (.inl x2))], [], yw σ 7 x2.toNat 99)) rfl ?_
        exact yG_w [1, 2, 3, 0] rfl (t_X0_fewestVows_b76 (f_X0_fewestVows_b60 N n) ih N (yw σ 7 x2.toNat 99) x1 x2 1 res h)
set_option maxRecDepth 100000 in
set_option maxHeartbeats 4000000 in
theorem t_X0_fewestVows_b23 {N : Nat} {X : zXT} {sh : List yH} {l : Launch} {rm : Room} : ∀ (n : Nat) (σ : yS) (x1 : Nat) (x2 : Int) (res : Int × yS), f_X0_fewestVows_b23 N n σ x1 x2 = some res → G_X0_fewestVows N X sh l rm (23, [(0, .inr (.inl 0, 5)), (1, .inr (.inl 4, x1)), (2, .inl (.inl x2))], [], σ) (some (.inl (.inl res.1)), res.2) := by
  intro n
  induction n with
  | zero => intro σ x1 x2 res h; exact (yno h).elim
  | succ n ih =>
    intro σ x1 x2 res h
    rw [q_X0_fewestVows_b23] at h
    refine yG_n (n := 3) (C' := (28, [(0, .inr (.inl 0, 5)), (1, .inr (.inl 4, x1)), (2, .inl (.inl x2))], [.inl (.inl (σ.1 x1 0)), .inl (.inl x2)], σ)) rfl ?_
    cases hr12 : f_X7_numbersOf N σ (σ.1 x1 0) with
    | none => rw [hr12] at h; dsimp only at h; cases h
    | some r1 =>
      rw [hr12] at h
      dsimp only at h
      refine yG_c (C1 := (31, [(0, .inr (.inl 0, 5)), (1, .inr (.inl 4, x1)), (2, .inl (.inl x2))], [.inl (.inl r1.1), .inl (.inl x2)], r1.2)) rfl (e_X7_numbersOf hr12) rfl ?_
      cases hg13 : ycP .ge x2 r1.1 with
      | true =>
        rw [hg13] at h
        dsimp only [cond] at h
        refine yG_t (C' := (51, [(0, .inr (.inl 0, 5)), (1, .inr (.inl 4, x1)), (2, .inl (.inl x2))], [], r1.2)) rfl hg13 ?_
        refine yG_n (n := 7) (C' := (60, [(2, .inl (.inl 1)), (0, .inr (.inl 0, 5)), (1, .inr (.inl 4, x1))], [], yw r1.2 7 0 0)) rfl ?_
        exact yG_w [1, 2, 0] rfl (t_X0_fewestVows_b60 N (yw r1.2 7 0 0) x1 1 res h)
      | false =>
        rw [hg13] at h
        dsimp only [cond] at h
        refine yG_f (C' := (34, [(0, .inr (.inl 0, 5)), (1, .inr (.inl 4, x1)), (2, .inl (.inl x2))], [], r1.2)) rfl hg13 ?_
        refine yG_n (n := 4) (C' := (40, [(0, .inr (.inl 0, 5)), (1, .inr (.inl 4, x1)), (2, .inl (.inl x2))], [.inl (.inl x2), .inr (.inl 4, x1), .inr (.inr (1, 16), 6)], r1.2)) rfl ?_
        cases hr14 : f_X0_wantsBrought N r1.2 x1 x2 with
        | none => rw [hr14] at h; dsimp only at h; cases h
        | some r3 =>
          rw [hr14] at h
          dsimp only at h
          refine yG_c (C1 := (43, [(0, .inr (.inl 0, 5)), (1, .inr (.inl 4, x1)), (2, .inl (.inl x2))], [.inl (.inl r3.1), .inr (.inr (1, 16), 6)], r3.2)) rfl (e_X0_wantsBrought hr14) rfl ?_
          refine yG_n (n := 1) (C' := (44, [(0, .inr (.inl 0, 5)), (1, .inr (.inl 4, x1)), (2, .inl (.inl x2))], [.inl (.inl 1), .inl (.inl r3.1), .inr (.inr (1, 16), 6)], r3.2)) rfl ?_
          cases hg15 : yinb r3.1 16 1 with
          | false => rw [hg15] at h; dsimp only [cond] at h; cases h
          | true =>
            rw [hg15] at h
            dsimp only [cond] at h
            refine yG_t (C' := (45, [(0, .inr (.inl 0, 5)), (1, .inr (.inl 4, x1)), (2, .inl (.inl x2))], [], yw r3.2 6 r3.1.toNat 1)) rfl hg15 ?_
            refine yG_n (n := 2) (C' := (23, [(2, .inl (.inl (yad x2 1))), (0, .inr (.inl 0, 5)), (1, .inr (.inl 4, x1))], [], yw r3.2 6 r3.1.toNat 1)) rfl ?_
            exact yG_w [1, 2, 0] rfl (ih (yw r3.2 6 r3.1.toNat 1) x1 (yad x2 1) res h)
set_option maxRecDepth 100000 in
set_option maxHeartbeats 4000000 in
theorem t_X0_fewestVows_b2 {N : Nat} {X : zXT} {sh : List yH} {l : Launch} {rm : Room} : ∀ (n : Nat) (σ : yS) (x1 : Nat) (x2 : Int) (res : Int × yS), f_X0_fewestVows_b2 N n σ x1 x2 = some res → G_X0_fewestVows N X sh l rm (2, [(0, .inr (.inl 0, 5)), (1, .inr (.inl 4, x1)), (2, .inl (.inl x2))], [], σ) (some (.inl (.inl res.1)), res.2) := by
  intro n
  induction n with
  | zero => intro σ x1 x2 res h; exact (yno h).elim
  | succ n ih =>
    intro σ x1 x2 res h
    rw [q_X0_fewestVows_b2] at h
    refine yG_n (n := 2) (C' := (5, [(0, .inr (.inl 0, 5)), (1, .inr (.inl 4, x1)), (2, .inl (.inl x2))], [.inl (.inl 16), .inl (.inl x2)], σ)) rfl ?_
    cases hg16 : ycP .ge x2 16 with
    | true =>
      rw [hg16] at h
      dsimp only [cond] at h
      refine yG_t (C' := (21, [(0, .inr (.inl 0, 5)), (1, .inr (.inl 4, x1)), (2, .inl (.inl x2))], [], σ)) rfl hg16 ?_
      refine yG_n (n := 2) (C' := (23, [(2, .inl (.inl 0)), (0, .inr (.inl 0, 5)), (1, .inr (.inl 4, x1))], [], σ)) rfl ?_
      exact yG_w [1, 2, 0] rfl (t_X0_fewestVows_b23 N σ x1 0 res h)
    | false =>
      rw [hg16] at h
      dsimp only [cond] at h
      refine yG_f (C' := (8, [(0, .inr (.inl 0, 5)), (1, .inr (.inl 4, x1)), (2, .inl (.inl x2))], [], σ)) rfl hg16 ?_
      refine yG_n (n := 4) (C' := (14, [(0, .inr (.inl 0, 5)), (1, .inr (.inl 4, x1)), (2, .inl (.inl x2))], [.inl (.inl 0), .inl (.inl x2), .inr (.inr (1, 16), 6)], σ)) rfl ?_
      cases hg17 : yinb x2 16 0 with
      | false => rw [hg17] at h; dsimp only [cond] at h; cases h
      | true =>
        rw [hg17] at h
        dsimp only [cond] at h
        refine yG_t (C' := (15, [(0, .inr (.inl 0, 5)), (1, .inr (.inl 4, x1)), (2, .inl (.inl x2))], [], yw σ 6 x2.toNat 0)) rfl hg17 ?_
        refine yG_n (n := 2) (C' := (2, [(2, .inl (.inl (yad x2 1))), (0, .inr (.inl 0, 5)), (1, .inr (.inl 4, x1))], [], yw σ 6 x2.toNat 0)) rfl ?_
        exact yG_w [1, 2, 0] rfl (ih (yw σ 6 x2.toNat 0) x1 (yad x2 1) res h)
set_option maxRecDepth 100000 in
set_option maxHeartbeats 4000000 in
theorem t_X0_fewestVows {N : Nat} {X : zXT} {sh : List yH} {l : Launch} {rm : Room} (σ : yS) (x1 : Nat) (res : Int × yS) (h : f_X0_fewestVows N σ x1 = some res) : G_X0_fewestVows N X sh l rm (0, [(0, .inr (.inl 0, 5)), (1, .inr (.inl 4, x1))], [], σ) (some (.inl (.inl res.1)), res.2) := by
  unfold f_X0_fewestVows at h
  refine yG_n (n := 2) (C' := (2, [(2, .inl (.inl 0)), (0, .inr (.inl 0, 5)), (1, .inr (.inl 4, x1))], [], σ)) rfl ?_
  exact yG_w [1, 2, 0] rfl (t_X0_fewestVows_b2 N σ x1 0 res h)
set_option maxRecDepth 100000 in
set_option maxHeartbeats 4000000 in
theorem m_X0_fewestVows {N : Nat} {X : zXT} (hX : zXok X) (hN : zXn X) (l : Launch) {sh : List yH} : yMet X vwCl yct sh l yX0_fewestVows wsX0_fewestVows { frames := 5, cells := 0, slots := 0, locals := 162 } (F_X0_fewestVows N) :=
  ymeth (tb := tb_X0_fewestVows N) (pr := pr_X0_fewestVows) (rt := 1) (own := RX0) hX (by decide +kernel) rfl rfl ⟨Nat.le_of_ble_eq_true rfl, Nat.le_of_ble_eq_true rfl⟩
    (zfl_all (List.forall_mem_cons.mpr ⟨zfl_X0 (fun w h => List.mem_cons_of_mem _ (List.mem_append_left _ (List.mem_append_left _ (List.mem_append_right _ h)))) (List.mem_of_getElem? (i := 1) rfl) (by decide) (by decide), List.forall_mem_cons.mpr ⟨zfl_X0 (fun w h => List.mem_cons_of_mem _ (List.mem_append_left _ (List.mem_append_left _ (List.mem_append_right _ h)))) (List.mem_of_getElem? (i := 3) rfl) (by decide) (by decide), List.forall_mem_cons.mpr ⟨zfl_X4 (fun w h => List.mem_cons_of_mem _ (List.mem_append_left _ (List.mem_append_right _ h))) (List.mem_of_getElem? (i := 2) rfl) (by decide) (by decide), fun _ h => absurd h List.not_mem_nil⟩⟩⟩))
    (zco_all (fun _ h => absurd h List.not_mem_nil)) (zlc_all (fun _ h => absurd h List.not_mem_nil))
    (fun _ h => absurd h List.not_mem_nil)
    (List.forall_mem_cons.mpr ⟨ycal_SN hX (m_X7_numbersOf hX hN l) (fun A s args hts hx => ⟨va_cnB 1 hts ggX0_fewestVows_X7_numbersOf rfl rfl rfl (hN A s s.heap hx RX0 25 yX7_numbersOf RX7 (by decide +kernel)) (hts _ (List.mem_of_getElem? (i := 9) rfl)) (by decide +kernel) ⟨Nat.le_of_ble_eq_true rfl, Nat.le_of_ble_eq_true rfl⟩, hts _ (List.mem_of_getElem? (i := 8) rfl), trivial⟩), List.forall_mem_cons.mpr ⟨ycal_S hX (m_X0_wantsBrought hX hN l) (fun s args hts => va_cwS 2 hts gX0_fewestVows_X0_wantsBrought rfl rfl rfl (by decide +kernel) ⟨Nat.le_of_ble_eq_true rfl, Nat.le_of_ble_eq_true rfl⟩), List.forall_mem_cons.mpr ⟨ycal_S hX (m_X0_allWants hX hN l) (fun s args hts => va_cwS 1 hts gX0_fewestVows_X0_allWants rfl rfl rfl (by decide +kernel) ⟨Nat.le_of_ble_eq_true rfl, Nat.le_of_ble_eq_true rfl⟩), fun _ h => absurd h List.not_mem_nil⟩⟩⟩)
    (zmm_all (List.forall_mem_cons.mpr ⟨⟨List.mem_of_getElem? (i := 4) rfl, List.mem_of_getElem? (i := 5) rfl, List.mem_of_getElem? (i := 6) rfl, List.mem_of_getElem? (i := 7) rfl⟩, fun _ h => absurd h List.not_mem_nil⟩)) (fun _ h => absurd h List.not_mem_nil) (zpr_all hp_X0_fewestVows) (fun as σ res h => by
      unfold F_X0_fewestVows at h
      split at h
      · rename_i x1
        cases hr : f_X0_fewestVows N σ x1 with
        | none => rw [hr] at h; cases h
        | some r =>
          rw [hr] at h
          cases h
          exact ⟨Nat.le_of_ble_eq_true rfl, t_X0_fewestVows σ x1 r hr⟩
      · cases h)
noncomputable def pr_X0_vowOfFirstSet : List (Nat × Instr × Nat) := [(0, .aload_n 1, 1), (1, .invokestatic 39, 3), (4, .istore_n 3, 1), (5, .iconst 0, 1), (6, .istore 4, 2), (8, .iconst 0, 1), (9, .istore 5, 2), (11, .iload 5, 2), (13, .aload_n 1, 1), (14, .getfield 19, 3), (17, .invokestatic 25, 3), (20, .if_icmp .ge 52, 3), (23, .iload_n 3, 1), (24, .aload_n 1, 1), (25, .iload 5, 2), (27, .invokestatic 29, 3), (30, .iconst (-1), 1), (31, .ixor, 1), (32, .iand, 1), (33, .istore 6, 2), (35, .aload_n 0, 1), (36, .getfield 15, 3), (39, .iload 6, 2), (41, .iaload, 1), (42, .aload_n 0, 1), (43, .getfield 15, 3), (46, .iload_n 3, 1), (47, .iaload, 1), (48, .if_icmp .ge 18, 3), (51, .iload 4, 2), (53, .iload_n 2, 1), (54, .if_icmp .ne 6, 3), (57, .iload 5, 2), (59, .ireturn, 1), (60, .iinc 4 1, 3), (63, .iload 6, 2), (65, .istore_n 3, 1), (66, .iinc 5 1, 3), (69, .goto (-58), 3), (72, .bipush (-4), 2), (74, .ireturn, 1)]
set_option maxRecDepth 100000 in
theorem hp_X0_vowOfFirstSet : pr_X0_vowOfFirstSet.all (fun x => decide (decode cX0_vowOfFirstSet x.1 = .ok x.2)) = true := by decide +kernel
noncomputable def f_X0_vowOfFirstSet_b66 (N : Nat) (k11 : yS → Nat → Int → Int → Int → Int → Option (Int × yS)) (σ : yS) (x1 : Nat) (x2 : Int) (x3 : Int) (x4 : Int) (x5 : Int) : Option (Int × yS) :=
  k11 σ x1 x2 x3 x4 (yad x5 1)
noncomputable def f_X0_vowOfFirstSet_b11 (N : Nat) : Nat → yS → Nat → Int → Int → Int → Int → Option (Int × yS) := yfix (fun _ _ _ _ _ _ => none) (fun ih σ x1 x2 x3 x4 x5 =>
    match f_X7_numbersOf N σ (σ.1 x1 0) with
    | none => none
    | some r2 => bif ycP .ge x5 r2.1 then
        some ((-4), r2.2)
      else
        match f_X0_wantsBrought N r2.2 x1 x5 with
        | none => none
        | some r3 => bif yin (yan x3 (yxo r3.1 ((-1)))) 16 then
            bif yin x3 16 then
              bif ycP .ge (r3.2.1 7 (yan x3 (yxo r3.1 ((-1)))).toNat) (r3.2.1 7 x3.toNat) then
                f_X0_vowOfFirstSet_b66 N ih r3.2 x1 x2 x3 x4 x5
              else
                bif ycP .ne x4 x2 then
                  f_X0_vowOfFirstSet_b66 N ih r3.2 x1 x2 (yan x3 (yxo r3.1 ((-1)))) (yad x4 1) x5
                else
                  some (x5, r3.2)
            else none
          else none)
theorem q_X0_vowOfFirstSet_b11 (N : Nat) (n : Nat) (σ : yS) (x1 : Nat) (x2 : Int) (x3 : Int) (x4 : Int) (x5 : Int) : f_X0_vowOfFirstSet_b11 N (n + 1) σ x1 x2 x3 x4 x5 =
    (match f_X7_numbersOf N σ (σ.1 x1 0) with
    | none => none
    | some r2 => bif ycP .ge x5 r2.1 then
        some ((-4), r2.2)
      else
        match f_X0_wantsBrought N r2.2 x1 x5 with
        | none => none
        | some r3 => bif yin (yan x3 (yxo r3.1 ((-1)))) 16 then
            bif yin x3 16 then
              bif ycP .ge (r3.2.1 7 (yan x3 (yxo r3.1 ((-1)))).toNat) (r3.2.1 7 x3.toNat) then
                f_X0_vowOfFirstSet_b66 N (f_X0_vowOfFirstSet_b11 N n) r3.2 x1 x2 x3 x4 x5
              else
                bif ycP .ne x4 x2 then
                  f_X0_vowOfFirstSet_b66 N (f_X0_vowOfFirstSet_b11 N n) r3.2 x1 x2 (yan x3 (yxo r3.1 ((-1)))) (yad x4 1) x5
                else
                  some (x5, r3.2)
            else none
          else none) := rfl
noncomputable def f_X0_vowOfFirstSet (N : Nat) (σ : yS) (x1 : Nat) (x2 : Int) : Option (Int × yS) :=
  match f_X0_allWants N σ x1 with
  | none => none
  | some r1 => f_X0_vowOfFirstSet_b11 N N r1.2 x1 x2 r1.1 0 0
noncomputable def F_X0_vowOfFirstSet (N : Nat) : yF := fun as σ => match as with
  | [.inr (.inl 0, 5), .inr (.inl 4, x1), .inl (.inl x2)] => (f_X0_vowOfFirstSet N σ x1 x2).map (fun r => (some (.inl (.inl r.1)), r.2))
  | _ => none
theorem e_X0_vowOfFirstSet {N : Nat} {σ : yS} {x1 : Nat} {x2 : Int} {r : Int × yS} (h : f_X0_vowOfFirstSet N σ x1 x2 = some r) : F_X0_vowOfFirstSet N [.inr (.inl 0, 5), .inr (.inl 4, x1), .inl (.inl x2)] σ = some (some (.inl (.inl r.1)), r.2) := by
  show (f_X0_vowOfFirstSet N σ x1 x2).map (fun r => ((some (.inl (.inl r.1)), r.2) : yR)) = _
  rw [h]
  rfl
noncomputable def tb_X0_vowOfFirstSet (N : Nat) : yTb := ([(15, 0, 1, 3), (19, 4, 0, 0)], [], [], [], [(25, 1, F_X7_numbersOf N), (29, 2, F_X0_wantsBrought N), (39, 1, F_X0_allWants N)], [], [])
abbrev G_X0_vowOfFirstSet (N : Nat) (X : zXT) (sh : List yH) (l : Launch) (rm : Room) : yC → yR → Prop := yGoes X vwCl yct sh l rm cX0_vowOfFirstSet 7 wsX0_vowOfFirstSet RX0 (tb_X0_vowOfFirstSet N) pr_X0_vowOfFirstSet 1
set_option maxRecDepth 100000 in
set_option maxHeartbeats 4000000 in
theorem t_X0_vowOfFirstSet_b66 {N : Nat} {X : zXT} {sh : List yH} {l : Launch} {rm : Room} (k11 : yS → Nat → Int → Int → Int → Int → Option (Int × yS)) (hk11 : ∀ (σ : yS) (x1 : Nat) (x2 : Int) (x3 : Int) (x4 : Int) (x5 : Int) (res : Int × yS), k11 σ x1 x2 x3 x4 x5 = some res → G_X0_vowOfFirstSet N X sh l rm (11, [(0, .inr (.inl 0, 5)), (1, .inr (.inl 4, x1)), (2, .inl (.inl x2)), (3, .inl (.inl x3)), (4, .inl (.inl x4)), (5, .inl (.inl x5))], [], σ) (some (.inl (.inl res.1)), res.2)) (σ : yS) (x1 : Nat) (x2 : Int) (x3 : Int) (x4 : Int) (x5 : Int) (res : Int × yS) (h : f_X0_vowOfFirstSet_b66 N k11 σ x1 x2 x3 x4 x5 = some res) : G_X0_vowOfFirstSet N X sh l rm (66, [(0, .inr (.inl 0, 5)), (1, .inr (.inl 4, x1)), (2, .inl (.inl x2)), (3, .inl (.inl x3)), (4, .inl (.inl x4)), (5, .inl (.inl x5))], [], σ) (some (.inl (.inl res.1)), res.2) := by
  unfold f_X0_vowOfFirstSet_b66 at h
  refine yG_n (n := 2) (C' := (11, [(5, .inl (.inl (yad x5 1))), (0, .inr (.inl 0, 5)), (1, .inr (.inl 4, x1)), (2, .inl (.inl x2)), (3, .inl (.inl x3)), (4, .inl (.inl x4))], [], σ)) rfl ?_
  exact yG_w [1, 2, 3, 4, 5, 0] rfl (hk11 σ x1 x2 x3 x4 (yad x5 1) res h)
set_option maxRecDepth 100000 in
set_option maxHeartbeats 4000000 in
theorem t_X0_vowOfFirstSet_b11 {N : Nat} {X : zXT} {sh : List yH} {l : Launch} {rm : Room} : ∀ (n : Nat) (σ : yS) (x1 : Nat) (x2 : Int) (x3 : Int) (x4 : Int) (x5 : Int) (res : Int × yS), f_X0_vowOfFirstSet_b11 N n σ x1 x2 x3 x4 x5 = some res → G_X0_vowOfFirstSet N X sh l rm (11, [(0, .inr (.inl 0, 5)), (1, .inr (.inl 4, x1)), (2, .inl (.inl x2)), (3, .inl (.inl x3)), (4, .inl (.inl x4)), (5, .inl (.inl x5))], [], σ) (some (.inl (.inl res.1)), res.2) := by
  intro n
  induction n with
  | zero => intro σ x1 x2 x3 x4 x5 res h; exact (yno h).elim
  | succ n ih =>
    intro σ x1 x2 x3 x4 x5 res h
    rw [q_X0_vowOfFirstSet_b11] at h
    refine yG_n (n := 3) (C' := (17, [(0, .inr (.inl 0, 5)), (1, .inr (.inl 4, x1)), (2, .inl (.inl x2)), (3, .inl (.inl x3)), (4, .inl (.inl x4)), (5, .inl (.inl x5))], [.inl (.inl (σ.1 x1 0)), .inl (.inl x5)], σ)) rfl ?_
    cases hr1 : f_X7_numbersOf N σ (σ.1 x1 0) with
    | none => rw [hr1] at h; dsimp only at h; cases h
    | some r2 =>
      rw [hr1] at h
      dsimp only at h
      refine yG_c (C1 := (20, [(0, .inr (.inl 0, 5)), (1, .inr (.inl 4, x1)), (2, .inl (.inl x2)), (3, .inl (.inl x3)), (4, .inl (.inl x4)), (5, .inl (.inl x5))], [.inl (.inl r2.1), .inl (.inl x5)], r2.2)) rfl (e_X7_numbersOf hr1) rfl ?_
      cases hg2 : ycP .ge x5 r2.1 with
      | true =>
        rw [hg2] at h
        dsimp only [cond] at h
        refine yG_t (C' := (72, [(0, .inr (.inl 0, 5)), (1, .inr (.inl 4, x1)), (2, .inl (.inl x2)), (3, .inl (.inl x3)), (4, .inl (.inl x4)), (5, .inl (.inl x5))], [], r2.2)) rfl hg2 ?_
        refine yG_n (n := 1) (C' := (74, [(0, .inr (.inl 0, 5)), (1, .inr (.inl 4, x1)), (2, .inl (.inl x2)), (3, .inl (.inl x3)), (4, .inl (.inl x4)), (5, .inl (.inl x5))], [.inl (.inl ((-4)))], r2.2)) rfl ?_
        have h := Option.some.inj h
        subst h
        dsimp only
        exact yG_r rfl rfl
      | false =>
        rw [hg2] at h
        dsimp only [cond] at h
        refine yG_f (C' := (23, [(0, .inr (.inl 0, 5)), (1, .inr (.inl 4, x1)), (2, .inl (.inl x2)), (3, .inl (.inl x3)), (4, .inl (.inl x4)), (5, .inl (.inl x5))], [], r2.2)) rfl hg2 ?_
        refine yG_n (n := 3) (C' := (27, [(0, .inr (.inl 0, 5)), (1, .inr (.inl 4, x1)), (2, .inl (.inl x2)), (3, .inl (.inl x3)), (4, .inl (.inl x4)), (5, .inl (.inl x5))], [.inl (.inl x5), .inr (.inl 4, x1), .inl (.inl x3)], r2.2)) rfl ?_
        cases hr3 : f_X0_wantsBrought N r2.2 x1 x5 with
        | none => rw [hr3] at h; dsimp only at h; cases h
        | some r3 =>
          rw [hr3] at h
          dsimp only at h
          refine yG_c (C1 := (30, [(0, .inr (.inl 0, 5)), (1, .inr (.inl 4, x1)), (2, .inl (.inl x2)), (3, .inl (.inl x3)), (4, .inl (.inl x4)), (5, .inl (.inl x5))], [.inl (.inl r3.1), .inl (.inl x3)], r3.2)) rfl (e_X0_wantsBrought hr3) rfl ?_
          refine yG_n (n := 7) (C' := (41, [(6, .inl (.inl (yan x3 (yxo r3.1 ((-1)))))), (0, .inr (.inl 0, 5)), (1, .inr (.inl 4, x1)), (2, .inl (.inl x2)), (3, .inl (.inl x3)), (4, .inl (.inl x4)), (5, .inl (.inl x5))], [.inl (.inl (yan x3 (yxo r3.1 ((-1))))), .inr (.inr (0, 16), 7)], r3.2)) rfl ?_
          cases hg4 : yin (yan x3 (yxo r3.1 ((-1)))) 16 with
          | false => rw [hg4] at h; dsimp only [cond] at h; cases h
          | true =>
            rw [hg4] at h
            dsimp only [cond] at h
            refine yG_t (C' := (42, [(6, .inl (.inl (yan x3 (yxo r3.1 ((-1)))))), (0, .inr (.inl 0, 5)), (1, .inr (.inl 4, x1)), (2, .inl (.inl x2)), (3, .inl (.inl x3)), (4, .inl (.inl x4)), (5, .inl (.inl x5))], [.inl (.inl (r3.2.1 7 (yan x3 (yxo r3.1 ((-1)))).toNat))], r3.2)) rfl hg4 ?_
            refine yG_n (n := 3) (C' := (47, [(6, .inl (.inl (yan x3 (yxo r3.1 ((-1)))))), (0, .inr (.inl 0, 5)), (1, .inr (.inl 4, x1)), (2, .inl (.inl x2)), (3, .inl (.inl x3)), (4, .inl (.inl x4)), (5, .inl (.inl x5))], [.inl (.inl x3), .inr (.inr (0, 16), 7), .inl (.inl (r3.2.1 7 (yan x3 (yxo r3.1 ((-1)))).toNat))], r3.2)) rfl ?_
            cases hg5 : yin x3 16 with
            | false => rw [hg5] at h; dsimp only [cond] at h; cases h
            | true =>
              rw [hg5] at h
              dsimp only [cond] at h
              refine yG_t (C' := (48, [(6, .inl (.inl (yan x3 (yxo r3.1 ((-1)))))), (0, .inr (.inl 0, 5)), (1, .inr (.inl 4, x1)), (2, .inl (.inl x2)), (3, .inl (.inl x3)), (4, .inl (.inl x4)), (5, .inl (.inl x5))], [.inl (.inl (r3.2.1 7 x3.toNat)), .inl (.inl (r3.2.1 7 (yan x3 (yxo r3.1 ((-1)))).toNat))], r3.2)) rfl hg5 ?_
              cases hg6 : ycP .ge (r3.2.1 7 (yan x3 (yxo r3.1 ((-1)))).toNat) (r3.2.1 7 x3.toNat) with
              | true =>
                rw [hg6] at h
                dsimp only [cond] at h
                refine yG_t (C' := (66, [(6, .inl (.inl (yan x3 (yxo r3.1 ((-1)))))), (0, .inr (.inl 0, 5)), (1, .inr (.inl 4, x1)), (2, .inl (.inl x2)), (3, .inl (.inl x3)), (4, .inl (.inl x4)), (5, .inl (.inl x5))], [], r3.2)) rfl hg6 ?_
                exact yG_w [1, 2, 3, 4, 5, 6] rfl (t_X0_vowOfFirstSet_b66 (f_X0_vowOfFirstSet_b11 N n) ih r3.2 x1 x2 x3 x4 x5 res h)
              | false =>
                rw [hg6] at h
                dsimp only [cond] at h
                refine yG_f (C' := (51, [(6, .inl (.inl (yan x3 (yxo r3.1 ((-1)))))), (0, .inr (.inl 0, 5)), (1, .inr (.inl 4, x1)), (2, .inl (.inl x2)), (3, .inl (.inl x3)), (4, .inl (.inl x4)), (5, .inl (.inl x5))], [], r3.2)) rfl hg6 ?_
                refine yG_n (n := 2) (C' := (54, [(6, .inl (.inl (yan x3 (yxo r3.1 ((-1)))))), (0, .inr (.inl 0, 5)), (1, .inr (.inl 4, x1)), (2, .inl (.inl x2)), (3, .inl (.inl x3)), (4, .inl (.inl x4)), (5, .inl (.inl x5))], [.inl (.inl x2), .inl (.inl x4)], r3.2)) rfl ?_
                cases hg7 : ycP .ne x4 x2 with
                | true =>
                  rw [hg7] at h
                  dsimp only [cond] at h
                  refine yG_t (C' := (60, [(6, .inl (.inl (yan x3 (yxo r3.1 ((-1)))))), (0, .inr (.inl 0, 5)), (1, .inr (.inl 4, x1)), (2, .inl (.inl x2)), (3, .inl (.inl x3)), (4, .inl (.inl x4)), (5, .inl (.inl x5))], [], r3.2)) rfl hg7 ?_
                  refine yG_n (n := 3) (C' := (66, [(3, .inl (.inl (yan x3 (yxo r3.1 ((-1)))))), (4, .inl (.inl (yad x4 1))), (6, .inl (.inl (yan x3 (yxo r3.1 ((-1)))))), (0, .inr (.inl 0, 5)), (1, .inr (.inl 4, x1)), (2, .inl (.inl x2)), (5, .inl (.inl x5))], [], r3.2)) rfl ?_
                  exact yG_w [3, 4, 5, 0, 1, 6] rfl (t_X0_vowOfFirstSet_b66 (f_X0_vowOfFirstSet_b11 N n) ih r3.2 x1 x2 (yan x3 (yxo r3.1 ((-1)))) (yad x4 1) x5 res h)
                | false =>
                  rw [hg7] at h
                  dsimp only [cond] at h
                  refine yG_f (C' := (57, [(6, .inl (.inl (yan x3 (yxo r3.1 ((-1)))))), (0, .inr (.inl 0, 5)), (1, .inr (.inl 4, x1)), (2, .inl (.inl x2)), (3, .inl (.inl x3)), (4, .inl (.inl x4)), (5, .inl (.inl x5))], [], r3.2)) rfl hg7 ?_
                  refine yG_n (n := 1) (C' := (59, [(6, .inl (.inl (yan x3 (yxo r3.1 ((-1)))))), (0, .inr (.inl 0, 5)), (1, .inr (.inl 4, x1)), (2, .inl (.inl x2)), (3, .inl (.inl x3)), (4, .inl (.inl x4)), (5, .inl (.inl x5))], [.inl (.inl x5)], r3.2)) rfl ?_
                  have h := Option.some.inj h
                  subst h
                  dsimp only
                  exact yG_r rfl rfl
set_option maxRecDepth 100000 in
set_option maxHeartbeats 4000000 in
theorem t_X0_vowOfFirstSet {N : Nat} {X : zXT} {sh : List yH} {l : Launch} {rm : Room} (σ : yS) (x1 : Nat) (x2 : Int) (res : Int × yS) (h : f_X0_vowOfFirstSet N σ x1 x2 = some res) : G_X0_vowOfFirstSet N X sh l rm (0, [(0, .inr (.inl 0, 5)), (1, .inr (.inl 4, x1)), (2, .inl (.inl x2))], [], σ) (some (.inl (.inl res.1)), res.2) := by
  unfold f_X0_vowOfFirstSet at h
  refine yG_n (n := 1) (C' := (1, [(0, .inr (.inl 0, 5)), (1, .inr (.inl 4, x1)), (2, .inl (.inl x2))], [.inr (.inl 4, x1)], σ)) rfl ?_
  cases hr8 : f_X0_allWants N σ x1 with
  | none => rw [hr8] at h; dsimp only at h; cases h
  | some r1 =>
    rw [hr8] at h
    dsimp only at h
    refine yG_c (C1 := (4, [(0, .inr (.inl 0, 5)), (1, .inr (.inl 4, x1)), (2, .inl (.inl x2))], [.inl (.inl r1.1)], r1.2)) rfl (e_X0_allWants hr8) rfl ?_
    refine yG_n (n := 5) (C' := (11, [(5, .inl (.inl 0)), (4, .inl (.inl 0)), (3, .inl (.inl r1.1)), (0, .inr (.inl 0, 5)), (1, .inr (.inl 4, x1)), (2, .inl (.inl x2))], [], r1.2)) rfl ?_
    exact yG_w [3, 4, 5, 2, 1, 0] rfl (t_X0_vowOfFirstSet_b11 N r1.2 x1 x2 r1.1 0 0 res h)
set_option maxRecDepth 100000 in
set_option maxHeartbeats 4000000 in
theorem m_X0_vowOfFirstSet {N : Nat} {X : zXT} (hX : zXok X) (hN : zXn X) (l : Launch) {sh : List yH} : yMet X vwCl yct sh l yX0_vowOfFirstSet wsX0_vowOfFirstSet { frames := 5, cells := 0, slots := 0, locals := 162 } (F_X0_vowOfFirstSet N) :=
  ymeth (tb := tb_X0_vowOfFirstSet N) (pr := pr_X0_vowOfFirstSet) (rt := 1) (own := RX0) hX (by decide +kernel) rfl rfl ⟨Nat.le_of_ble_eq_true rfl, Nat.le_of_ble_eq_true rfl⟩
    (zfl_all (List.forall_mem_cons.mpr ⟨zfl_X0 (fun w h => List.mem_cons_of_mem _ (List.mem_append_left _ (List.mem_append_right _ h))) (List.mem_of_getElem? (i := 2) rfl) (by decide) (by decide), List.forall_mem_cons.mpr ⟨zfl_X4 (fun w h => List.mem_cons_of_mem _ (List.mem_append_left _ (List.mem_append_left _ (List.mem_append_right _ h)))) (List.mem_of_getElem? (i := 1) rfl) (by decide) (by decide), fun _ h => absurd h List.not_mem_nil⟩⟩))
    (zco_all (fun _ h => absurd h List.not_mem_nil)) (zlc_all (fun _ h => absurd h List.not_mem_nil))
    (fun _ h => absurd h List.not_mem_nil)
    (List.forall_mem_cons.mpr ⟨ycal_SN hX (m_X7_numbersOf hX hN l) (fun A s args hts hx => ⟨va_cnB 1 hts ggX0_vowOfFirstSet_X7_numbersOf rfl rfl rfl (hN A s s.heap hx RX0 25 yX7_numbersOf RX7 (by decide +kernel)) (hts _ (List.mem_of_getElem? (i := 10) rfl)) (by decide +kernel) ⟨Nat.le_of_ble_eq_true rfl, Nat.le_of_ble_eq_true rfl⟩, hts _ (List.mem_of_getElem? (i := 9) rfl), trivial⟩), List.forall_mem_cons.mpr ⟨ycal_S hX (m_X0_wantsBrought hX hN l) (fun s args hts => va_cwS 2 hts gX0_vowOfFirstSet_X0_wantsBrought rfl rfl rfl (by decide +kernel) ⟨Nat.le_of_ble_eq_true rfl, Nat.le_of_ble_eq_true rfl⟩), List.forall_mem_cons.mpr ⟨ycal_S hX (m_X0_allWants hX hN l) (fun s args hts => va_cwS 1 hts gX0_vowOfFirstSet_X0_allWants rfl rfl rfl (by decide +kernel) ⟨Nat.le_of_ble_eq_true rfl, Nat.le_of_ble_eq_true rfl⟩), fun _ h => absurd h List.not_mem_nil⟩⟩⟩)
    (zmm_all (fun _ h => absurd h List.not_mem_nil)) (fun _ h => absurd h List.not_mem_nil) (zpr_all hp_X0_vowOfFirstSet) (fun as σ res h => by
      unfold F_X0_vowOfFirstSet at h
      split at h
      · rename_i x1 x2
        cases hr : f_X0_vowOfFirstSet N σ x1 x2 with
        | none => rw [hr] at h; cases h
        | some r =>
          rw [hr] at h
          cases h
          exact ⟨Nat.le_of_ble_eq_true rfl, t_X0_vowOfFirstSet σ x1 x2 r hr⟩
      · cases h)
noncomputable def pr_X7_plan : List (Nat × Instr × Nat) := [(0, .iload_n 1, 1), (1, .ifCond .eq 11, 3), (4, .iload_n 1, 1), (5, .bipush 10, 2), (7, .if_icmp .ge 5, 3), (10, .iconst (-1), 1), (11, .ireturn, 1), (12, .aload_n 0, 1), (13, .getfield 38, 3), (16, .aload_n 0, 1), (17, .getfield 10, 3), (20, .invokevirtual 207, 3), (23, .istore_n 2, 1), (24, .iload_n 1, 1), (25, .ifCond .eq 9, 3), (28, .iload_n 2, 1), (29, .bipush (-4), 2), (31, .if_icmp .ne 5, 3), (34, .iload_n 2, 1), (35, .ireturn, 1), (36, .iload_n 1, 1), (37, .bipush 10, 2), (39, .isub, 1), (40, .istore_n 3, 1), (41, .iload_n 3, 1), (42, .iload_n 2, 1), (43, .if_icmp .ge 18, 3), (46, .aload_n 0, 1), (47, .getfield 38, 3), (50, .aload_n 0, 1), (51, .getfield 10, 3), (54, .iload_n 3, 1), (55, .invokevirtual 211, 3), (58, .goto 5, 3), (61, .bipush (-4), 2), (63, .ireturn, 1)]
set_option maxRecDepth 100000 in
theorem hp_X7_plan : pr_X7_plan.all (fun x => decide (decode cX7_plan x.1 = .ok x.2)) = true := by decide +kernel
noncomputable def f_X7_plan_b34 (N : Nat) (σ : yS) (x2 : Int) : Option (Int × yS) :=
  some (x2, σ)
noncomputable def f_X7_plan_b63 (N : Nat) (σ : yS) (s0 : Int) : Option (Int × yS) :=
  some (s0, σ)
noncomputable def f_X7_plan_b12 (N : Nat) (σ : yS) (x1 : Int) : Option (Int × yS) :=
  match f_X0_fewestVows N σ 17 with
  | none => none
  | some r1 => bif ycP .eq x1 0 then
      f_X7_plan_b34 N r1.2 r1.1
    else
      bif ycP .ne r1.1 ((-4)) then
        bif ycP .ge (ysu x1 10) r1.1 then
          f_X7_plan_b63 N r1.2 ((-4))
        else
          match f_X0_vowOfFirstSet N r1.2 17 (ysu x1 10) with
          | none => none
          | some r2 => f_X7_plan_b63 N r2.2 r2.1
      else
        f_X7_plan_b34 N r1.2 r1.1
noncomputable def f_X7_plan (N : Nat) (σ : yS) (x1 : Int) : Option (Int × yS) :=
  bif ycP .eq x1 0 then
    f_X7_plan_b12 N σ x1
  else
    bif ycP .ge x1 10 then
      f_X7_plan_b12 N σ x1
    else
      some ((-1), σ)
noncomputable def F_X7_plan (N : Nat) : yF := fun as σ => match as with
  | [.inr (.inl 7, 0), .inl (.inl x1)] => (f_X7_plan N σ x1).map (fun r => (some (.inl (.inl r.1)), r.2))
  | _ => none
theorem e_X7_plan {N : Nat} {σ : yS} {x1 : Int} {r : Int × yS} (h : f_X7_plan N σ x1 = some r) : F_X7_plan N [.inr (.inl 7, 0), .inl (.inl x1)] σ = some (some (.inl (.inl r.1)), r.2) := by
  show (f_X7_plan N σ x1).map (fun r => ((some (.inl (.inl r.1)), r.2) : yR)) = _
  rw [h]
  rfl
noncomputable def tb_X7_plan (N : Nat) : yTb := ([(10, 7, 0, 3), (38, 7, 5, 3)], [], [], [(207, 2, 0, F_X0_fewestVows N), (211, 3, 0, F_X0_vowOfFirstSet N)], [], [], [])
abbrev G_X7_plan (N : Nat) (X : zXT) (sh : List yH) (l : Launch) (rm : Room) : yC → yR → Prop := yGoes X vwCl yct sh l rm cX7_plan 4 wsX7_plan RX7 (tb_X7_plan N) pr_X7_plan 1
set_option maxRecDepth 100000 in
set_option maxHeartbeats 4000000 in
theorem t_X7_plan_b34 {N : Nat} {X : zXT} {sh : List yH} {l : Launch} {rm : Room} (σ : yS) (x2 : Int) (res : Int × yS) (h : f_X7_plan_b34 N σ x2 = some res) : G_X7_plan N X sh l rm (34, [(2, .inl (.inl x2))], [], σ) (some (.inl (.inl res.1)), res.2) := by
  unfold f_X7_plan_b34 at h
  refine yG_n (n := 1) (C' := (35, [(2, .inl (.inl x2))], [.inl (.inl x2)], σ)) rfl ?_
  have h := Option.some.inj h
  subst h
  dsimp only
  exact yG_r rfl rfl
set_option maxRecDepth 100000 in
set_option maxHeartbeats 4000000 in
theorem t_X7_plan_b63 {N : Nat} {X : zXT} {sh : List yH} {l : Launch} {rm : Room} (σ : yS) (s0 : Int) (res : Int × yS) (h : f_X7_plan_b63 N σ s0 = some res) : G_X7_plan N X sh l rm (63, [], [.inl (.inl s0)], σ) (some (.inl (.inl res.1)), res.2) := by
  unfold f_X7_plan_b63 at h
  have h := Option.some.inj h
  subst h
  dsimp only
  exact yG_r rfl rfl
set_option maxRecDepth 100000 in
set_option maxHeartbeats 4000000 in
theorem t_X7_plan_b12 {N : Nat} {X : zXT} {sh : List yH} {l : Launch} {rm : Room} (σ : yS) (x1 : Int) (res : Int × yS) (h : f_X7_plan_b12 N σ x1 = some res) : G_X7_plan N X sh l rm (12, [(0, .inr (.inl 7, 0)), (1, .inl (.inl x1))], [], σ) (some (.inl (.inl res.1)), res.2) := by
  unfold f_X7_plan_b12 at h
  refine yG_n (n := 4) (C' := (20, [(0, .inr (.inl 7, 0)), (1, .inl (.inl x1))], [.inr (.inl 4, 17), .inr (.inl 0, 5)], σ)) rfl ?_
  cases hr1 : f_X0_fewestVows N σ 17 with
  | none => rw [hr1] at h; dsimp only at h; cases h
  | some r1 =>
    rw [hr1] at h
    dsimp only at h
    refine yG_c (C1 := (23, [(0, .inr (.inl 7, 0)), (1, .inl (.inl x1))], [.inl (.inl r1.1)], r1.2)) rfl (e_X0_fewestVows hr1) rfl ?_
    refine yG_n (n := 2) (C' := (25, [(2, .inl (.inl r1.1)), (0, .inr (.inl 7, 0)), (1, .inl (.inl x1))], [.inl (.inl x1)], r1.2)) rfl ?_
    cases hg2 : ycP .eq x1 0 with
    | true =>
      rw [hg2] at h
      dsimp only [cond] at h
      refine yG_t (C' := (34, [(2, .inl (.inl r1.1)), (0, .inr (.inl 7, 0)), (1, .inl (.inl x1))], [], r1.2)) rfl hg2 ?_
      exact yG_w [0] rfl (t_X7_plan_b34 r1.2 r1.1 res h)
    | false =>
      rw [hg2] at h
      dsimp only [cond] at h
      refine yG_f (C' := (28, [(2, .inl (.inl r1.1)), (0, .inr (.inl 7, 0)), (1, .inl (.inl x1))], [], r1.2)) rfl hg2 ?_
      refine yG_n (n := 2) (C' := (31, [(2, .inl (.inl r1.1)), (0, .inr (.inl 7, 0)), (1, .inl (.inl x1))], [.inl (.inl ((-4))), .inl (.inl r1.1)], r1.2)) rfl ?_
      cases hg3 : ycP .ne r1.1 ((-4)) with
      | true =>
        rw [hg3] at h
        dsimp only [cond] at h
        refine yG_t (C' := (36, [(2, .inl (.inl r1.1)), (0, .inr (.inl 7, 0)), (1, .inl (.inl x1))], [], r1.2)) rfl hg3 ?_
        refine yG_n (n := 6) (C' := (43, [(3, .inl (.inl (ysu x1 10))), (2, .inl (.inl r1.1)), (0, .inr (.inl 7, 0)), (1, .inl (.inl x1))], [.inl (.inl r1.1), .inl (.inl (ysu x1 10))], r1.2)) rfl ?_
        cases hg4 : ycP .ge (ysu x1 10) r1.1 with
        | true =>
          rw [hg4] at h
          dsimp only [cond] at h
          refine yG_t (C' := (61, [(3, .inl (.inl (ysu x1 10))), (2, .inl (.inl r1.1)), (0, .inr (.inl 7, 0)), (1, .inl (.inl x1))], [], r1.2)) rfl hg4 ?_
          refine yG_n (n := 1) (C' := (63, [(3, .inl (.inl (ysu x1 10))), (2, .inl (.inl r1.1)), (0, .inr (.inl 7, 0)), (1, .inl (.inl x1))], [.inl (.inl ((-4)))], r1.2)) rfl ?_
          exact yG_w [] rfl (t_X7_plan_b63 r1.2 ((-4)) res h)
        | false =>
          rw [hg4] at h
          dsimp only [cond] at h
          refine yG_f (C' := (46, [(3, .inl (.inl (ysu x1 10))), (2, .inl (.inl r1.1)), (0, .inr (.inl 7, 0)), (1, .inl (.inl x1))], [], r1.2)) rfl hg4 ?_
          refine yG_n (n := 5) (C' := (55, [(3, .inl (.inl (ysu x1 10))), (2, .inl (.inl r1.1)), (0, .inr (.inl 7, 0)), (1, .inl (.inl x1))], [.inl (.inl (ysu x1 10)), .inr (.inl 4, 17), .inr (.inl 0, 5)], r1.2)) rfl ?_
          cases hr5 : f_X0_vowOfFirstSet N r1.2 17 (ysu x1 10) with
          | none => rw [hr5] at h; dsimp only at h; cases h
          | some r2 =>
            rw [hr5] at h
            dsimp only at h
            refine yG_c (C1 := (58, [(3, .inl (.inl (ysu x1 10))), (2, .inl (.inl r1.1)), (0, .inr (.inl 7, 0)), (1, .inl (.inl x1))], [.inl (.inl r2.1)], r2.2)) rfl (e_X0_vowOfFirstSet hr5) rfl ?_
            refine yG_n (n := 1) (C' := (63, [(3, .inl (.inl (ysu x1 10))), (2, .inl (.inl r1.1)), (0, .inr (.inl 7, 0)), (1, .inl (.inl x1))], [.inl (.inl r2.1)], r2.2)) rfl ?_
            exact yG_w [] rfl (t_X7_plan_b63 r2.2 r2.1 res h)
      | false =>
        rw [hg3] at h
        dsimp only [cond] at h
        refine yG_f (C' := (34, [(2, .inl (.inl r1.1)), (0, .inr (.inl 7, 0)), (1, .inl (.inl x1))], [], r1.2)) rfl hg3 ?_
        exact yG_w [0] rfl (t_X7_plan_b34 r1.2 r1.1 res h)
set_option maxRecDepth 100000 in
set_option maxHeartbeats 4000000 in
theorem t_X7_plan {N : Nat} {X : zXT} {sh : List yH} {l : Launch} {rm : Room} (σ : yS) (x1 : Int) (res : Int × yS) (h : f_X7_plan N σ x1 = some res) : G_X7_plan N X sh l rm (0, [(0, .inr (.inl 7, 0)), (1, .inl (.inl x1))], [], σ) (some (.inl (.inl res.1)), res.2) := by
  unfold f_X7_plan at h
  refine yG_n (n := 1) (C' := (1, [(0, .inr (.inl 7, 0)), (1, .inl (.inl x1))], [.inl (.inl x1)], σ)) rfl ?_
  cases hg6 : ycP .eq x1 0 with
  | true =>
    rw [hg6] at h
    dsimp only [cond] at h
    refine yG_t (C' := (12, [(0, .inr (.inl 7, 0)), (1, .inl (.inl x1))], [], σ)) rfl hg6 ?_
    exact t_X7_plan_b12 σ x1 res h
  | false =>
    rw [hg6] at h
    dsimp only [cond] at h
    refine yG_f (C' := (4, [(0, .inr (.inl 7, 0)), (1, .inl (.inl x1))], [], σ)) rfl hg6 ?_
    refine yG_n (n := 2) (C' := (7, [(0, .inr (.inl 7, 0)), (1, .inl (.inl x1))], [.inl (.inl 10), .inl (.inl x1)], σ)) rfl ?_
    cases hg7 : ycP .ge x1 10 with
    | true =>
      rw [hg7] at h
      dsimp only [cond] at h
      refine yG_t (C' := (12, [(0, .inr (.inl 7, 0)), (1, .inl (.inl x1))], [], σ)) rfl hg7 ?_
      exact t_X7_plan_b12 σ x1 res h
    | false =>
      rw [hg7] at h
      dsimp only [cond] at h
      refine yG_f (C' := (10, [(0, .inr (.inl 7, 0)), (1, .inl (.inl x1))], [], σ)) rfl hg7 ?_
      refine yG_n (n := 1) (C' := (11, [(0, .inr (.inl 7, 0)), (1, .inl (.inl x1))], [.inl (.inl ((-1)))], σ)) rfl ?_
      have h := Option.some.inj h
      subst h
      dsimp only
      exact yG_r rfl rfl
set_option maxRecDepth 100000 in
set_option maxHeartbeats 4000000 in
theorem m_X7_plan {N : Nat} {X : zXT} (hX : zXok X) (hN : zXn X) (l : Launch) {sh : List yH} : yMet X vwCl yct sh l yX7_plan wsX7_plan { frames := 6, cells := 0, slots := 0, locals := 188 } (F_X7_plan N) :=
  ymeth (tb := tb_X7_plan N) (pr := pr_X7_plan) (rt := 1) (own := RX7) hX (by decide +kernel) rfl rfl ⟨Nat.le_of_ble_eq_true rfl, Nat.le_of_ble_eq_true rfl⟩
    (zfl_all (List.forall_mem_cons.mpr ⟨zfl_X7 (fun w h => List.mem_cons_of_mem _ (List.mem_append_left _ (List.mem_append_left _ (List.mem_append_left _ (List.mem_append_right _ h))))) (List.mem_of_getElem? (i := 2) rfl) (by decide) (by decide), List.forall_mem_cons.mpr ⟨zfl_X7 (fun w h => List.mem_cons_of_mem _ (List.mem_append_left _ (List.mem_append_left _ (List.mem_append_left _ (List.mem_append_right _ h))))) (List.mem_of_getElem? (i := 1) rfl) (by decide) (by decide), fun _ h => absurd h List.not_mem_nil⟩⟩))
    (zco_all (fun _ h => absurd h List.not_mem_nil)) (zlc_all (fun _ h => absurd h List.not_mem_nil))
    (List.forall_mem_cons.mpr ⟨ycal_V hX (m_X0_fewestVows hX hN l) rfl (fun s args hts => cwV 1 hts gX7_plan_X0_fewestVows rfl rfl rfl (by decide +kernel) ⟨Nat.le_of_ble_eq_true rfl, Nat.le_of_ble_eq_true rfl⟩), List.forall_mem_cons.mpr ⟨ycal_V hX (m_X0_vowOfFirstSet hX hN l) rfl (fun s args hts => cwV 2 hts gX7_plan_X0_vowOfFirstSet rfl rfl rfl (by decide +kernel) ⟨Nat.le_of_ble_eq_true rfl, Nat.le_of_ble_eq_true rfl⟩), fun _ h => absurd h List.not_mem_nil⟩⟩)
    (fun _ h => absurd h List.not_mem_nil)
    (zmm_all (fun _ h => absurd h List.not_mem_nil)) (fun _ h => absurd h List.not_mem_nil) (zpr_all hp_X7_plan) (fun as σ res h => by
      unfold F_X7_plan at h
      split at h
      · rename_i x1
        cases hr : f_X7_plan N σ x1 with
        | none => rw [hr] at h; cases h
        | some r =>
          rw [hr] at h
          cases h
          exact ⟨Nat.le_of_ble_eq_true rfl, t_X7_plan σ x1 r hr⟩
      · cases h)
noncomputable def pr_X2_faultOfLane : List (Nat × Instr × Nat) := [(0, .aload_n 0, 1), (1, .invokevirtual 22, 3), (4, .ifCond .ne 11, 3), (7, .aload_n 0, 1), (8, .getfield 11, 3), (11, .iload_n 1, 1), (12, .if_icmp .ne 7, 3), (15, .iconst 0, 1), (16, .goto 4, 3), (19, .iconst 3, 1), (20, .ireturn, 1)]
set_option maxRecDepth 100000 in
theorem hp_X2_faultOfLane : pr_X2_faultOfLane.all (fun x => decide (decode cX2_faultOfLane x.1 = .ok x.2)) = true := by decide +kernel
noncomputable def f_X2_faultOfLane_b20 (N : Nat) (σ : yS) (s0 : Int) : Option (Int × yS) :=
  some (s0, σ)
noncomputable def f_X2_faultOfLane_b15 (N : Nat) (σ : yS) : Option (Int × yS) :=
  f_X2_faultOfLane_b20 N σ 0
noncomputable def f_X2_faultOfLane (N : Nat) (σ : yS) (x0 : Nat) (x1 : Int) : Option (Int × yS) :=
  match f_X2_isNothing N σ x0 with
  | none => none
  | some r1 => bif ycP .ne r1.1 0 then
      f_X2_faultOfLane_b15 N r1.2
    else
      bif ycP .ne (r1.2.1 x0 0) x1 then
        f_X2_faultOfLane_b20 N r1.2 3
      else
        f_X2_faultOfLane_b15 N r1.2
noncomputable def F_X2_faultOfLane (N : Nat) : yF := fun as σ => match as with
  | [.inr (.inl 2, x0), .inl (.inl x1)] => (f_X2_faultOfLane N σ x0 x1).map (fun r => (some (.inl (.inl r.1)), r.2))
  | _ => none
theorem e_X2_faultOfLane {N : Nat} {σ : yS} {x0 : Nat} {x1 : Int} {r : Int × yS} (h : f_X2_faultOfLane N σ x0 x1 = some r) : F_X2_faultOfLane N [.inr (.inl 2, x0), .inl (.inl x1)] σ = some (some (.inl (.inl r.1)), r.2) := by
  show (f_X2_faultOfLane N σ x0 x1).map (fun r => ((some (.inl (.inl r.1)), r.2) : yR)) = _
  rw [h]
  rfl
noncomputable def tb_X2_faultOfLane (N : Nat) : yTb := ([(11, 2, 0, 0)], [], [], [(22, 1, 2, F_X2_isNothing N)], [], [], [])
abbrev G_X2_faultOfLane (N : Nat) (X : zXT) (sh : List yH) (l : Launch) (rm : Room) : yC → yR → Prop := yGoes X vwCl yct sh l rm cX2_faultOfLane 2 wsX2_faultOfLane RX2 (tb_X2_faultOfLane N) pr_X2_faultOfLane 1
set_option maxRecDepth 100000 in
set_option maxHeartbeats 4000000 in
theorem t_X2_faultOfLane_b20 {N : Nat} {X : zXT} {sh : List yH} {l : Launch} {rm : Room} (σ : yS) (s0 : Int) (res : Int × yS) (h : f_X2_faultOfLane_b20 N σ s0 = some res) : G_X2_faultOfLane N X sh l rm (20, [], [.inl (.inl s0)], σ) (some (.inl (.inl res.1)), res.2) := by
  unfold f_X2_faultOfLane_b20 at h
  have h := Option.some.inj h
  subst h
  dsimp only
  exact yG_r rfl rfl
set_option maxRecDepth 100000 in
set_option maxHeartbeats 4000000 in
theorem t_X2_faultOfLane_b15 {N : Nat} {X : zXT} {sh : List yH} {l : Launch} {rm : Room} (σ : yS) (res : Int × yS) (h : f_X2_faultOfLane_b15 N σ = some res) : G_X2_faultOfLane N X sh l rm (15, [], [], σ) (some (.inl (.inl res.1)), res.2) := by
  unfold f_X2_faultOfLane_b15 at h
  refine yG_n (n := 2) (C' := (20, [], [.inl (.inl 0)], σ)) rfl ?_
  exact t_X2_faultOfLane_b20 σ 0 res h
set_option maxRecDepth 100000 in
set_option maxHeartbeats 4000000 in
theorem t_X2_faultOfLane {N : Nat} {X : zXT} {sh : List yH} {l : Launch} {rm : Room} (σ : yS) (x0 : Nat) (x1 : Int) (res : Int × yS) (h : f_X2_faultOfLane N σ x0 x1 = some res) : G_X2_faultOfLane N X sh l rm (0, [(0, .inr (.inl 2, x0)), (1, .inl (.inl x1))], [], σ) (some (.inl (.inl res.1)), res.2) := by
  unfold f_X2_faultOfLane at h
  refine yG_n (n := 1) (C' := (1, [(0, .inr (.inl 2, x0)), (1, .inl (.inl x1))], [.inr (.inl 2, x0)], σ)) rfl ?_
  cases hr1 : f_X2_isNothing N σ x0 with
  | none => rw [hr1] at h; dsimp only at h; cases h
  | some r1 =>
    rw [hr1] at h
    dsimp only at h
    refine yG_c (C1 := (4, [(0, .inr (.inl 2, x0)), (1, .inl (.inl x1))], [.inl (.inl r1.1)], r1.2)) rfl (e_X2_isNothing hr1) rfl ?_
    cases hg2 : ycP .ne r1.1 0 with
    | true =>
      rw [hg2] at h
      dsimp only [cond] at h
      refine yG_t (C' := (15, [(0, .inr (.inl 2, x0)), (1, .inl (.inl x1))], [], r1.2)) rfl hg2 ?_
      exact yG_w [] rfl (t_X2_faultOfLane_b15 r1.2 res h)
    | false =>
      rw [hg2] at h
      dsimp only [cond] at h
      refine yG_f (C' := (7, [(0, .inr (.inl 2, x0)), (1, .inl (.inl x1))], [], r1.2)) rfl hg2 ?_
      refine yG_n (n := 3) (C' := (12, [(0, .inr (.inl 2, x0)), (1, .inl (.inl x1))], [.inl (.inl x1), .inl (.inl (r1.2.1 x0 0))], r1.2)) rfl ?_
      cases hg3 : ycP .ne (r1.2.1 x0 0) x1 with
      | true =>
        rw [hg3] at h
        dsimp only [cond] at h
        refine yG_t (C' := (19, [(0, .inr (.inl 2, x0)), (1, .inl (.inl x1))], [], r1.2)) rfl hg3 ?_
        refine yG_n (n := 1) (C' := (20, [(0, .inr (.inl 2, x0)), (1, .inl (.inl x1))], [.inl (.inl 3)], r1.2)) rfl ?_
        exact yG_w [] rfl (t_X2_faultOfLane_b20 r1.2 3 res h)
      | false =>
        rw [hg3] at h
        dsimp only [cond] at h
        refine yG_f (C' := (15, [(0, .inr (.inl 2, x0)), (1, .inl (.inl x1))], [], r1.2)) rfl hg3 ?_
        exact yG_w [] rfl (t_X2_faultOfLane_b15 r1.2 res h)
set_option maxRecDepth 100000 in
set_option maxHeartbeats 4000000 in
theorem m_X2_faultOfLane {N : Nat} {X : zXT} (hX : zXok X) (hN : zXn X) (l : Launch) {sh : List yH} : yMet X vwCl yct sh l yX2_faultOfLane wsX2_faultOfLane { frames := 2, cells := 0, slots := 0, locals := 84 } (F_X2_faultOfLane N) :=
  ymeth (tb := tb_X2_faultOfLane N) (pr := pr_X2_faultOfLane) (rt := 1) (own := RX2) hX (by decide +kernel) rfl rfl ⟨Nat.le_of_ble_eq_true rfl, Nat.le_of_ble_eq_true rfl⟩
    (zfl_all (List.forall_mem_cons.mpr ⟨zfl_X2 (fun w h => List.mem_cons_of_mem _ (List.mem_append_right _ h)) (List.mem_of_getElem? (i := 1) rfl) (by decide) (by decide), fun _ h => absurd h List.not_mem_nil⟩))
    (zco_all (fun _ h => absurd h List.not_mem_nil)) (zlc_all (fun _ h => absurd h List.not_mem_nil))
    (List.forall_mem_cons.mpr ⟨ycal_V hX (m_X2_isNothing hX hN l) rfl (fun s args hts => cwV 0 hts gX2_faultOfLane_X2_isNothing rfl rfl rfl (by decide +kernel) ⟨Nat.le_of_ble_eq_true rfl, Nat.le_of_ble_eq_true rfl⟩), fun _ h => absurd h List.not_mem_nil⟩)
    (fun _ h => absurd h List.not_mem_nil)
    (zmm_all (fun _ h => absurd h List.not_mem_nil)) (fun _ h => absurd h List.not_mem_nil) (zpr_all hp_X2_faultOfLane) (fun as σ res h => by
      unfold F_X2_faultOfLane at h
      split at h
      · rename_i x0 x1
        cases hr : f_X2_faultOfLane N σ x0 x1 with
        | none => rw [hr] at h; cases h
        | some r =>
          rw [hr] at h
          cases h
          exact ⟨Nat.le_of_ble_eq_true rfl, t_X2_faultOfLane σ x0 x1 r hr⟩
      · cases h)
noncomputable def pr_X7_vows : List (Nat × Instr × Nat) := [(0, .aload_n 0, 1), (1, .getfield 10, 3), (4, .iload_n 1, 1), (5, .invokevirtual 118, 3), (8, .ifCond .eq 29, 3), (11, .iload_n 2, 1), (12, .invokestatic 174, 3), (15, .ifCond .eq 22, 3), (18, .iload_n 3, 1), (19, .invokestatic 181, 3), (22, .ifCond .eq 15, 3), (25, .aload_n 0, 1), (26, .getfield 10, 3), (29, .iload 4, 2), (31, .invokevirtual 150, 3), (34, .ifCond .ne 5, 3), (37, .iconst (-1), 1), (38, .ireturn, 1), (39, .aload_n 0, 1), (40, .getfield 10, 3), (43, .getfield 92, 3), (46, .iload_n 1, 1), (47, .iload_n 2, 1), (48, .iload_n 3, 1), (49, .iload 4, 2), (51, .invokevirtual 184, 3), (54, .ifCond .eq 16, 3), (57, .aload_n 0, 1), (58, .getfield 10, 3), (61, .getfield 92, 3), (64, .getfield 96, 3), (67, .goto 5, 3), (70, .bipush (-3), 2), (72, .ireturn, 1)]
set_option maxRecDepth 100000 in
theorem hp_X7_vows : pr_X7_vows.all (fun x => decide (decode cX7_vows x.1 = .ok x.2)) = true := by decide +kernel
noncomputable def f_X7_vows_b37 (N : Nat) (σ : yS) : Option (Int × yS) :=
  some ((-1), σ)
noncomputable def f_X7_vows_b72 (N : Nat) (σ : yS) (s0 : Int) : Option (Int × yS) :=
  some (s0, σ)
noncomputable def f_X7_vows (N : Nat) (σ : yS) (x1 : Int) (x2 : Int) (x3 : Int) (x4 : Int) : Option (Int × yS) :=
  match f_X4_isHouse N σ 17 x1 with
  | none => none
  | some r1 => bif ycP .eq r1.1 0 then
      f_X7_vows_b37 N r1.2
    else
      match f_X7_isKind N r1.2 x2 with
      | none => none
      | some r2 => bif ycP .eq r2.1 0 then
          f_X7_vows_b37 N r2.2
        else
          match f_X7_isDepth N r2.2 x3 with
          | none => none
          | some r3 => bif ycP .eq r3.1 0 then
              f_X7_vows_b37 N r3.2
            else
              match f_X4_isDeed N r3.2 17 x4 with
              | none => none
              | some r4 => bif ycP .ne r4.1 0 then
                  match f_X5_append N r4.2 (r4.2.2 17 11) x1 x2 x3 x4 with
                  | none => none
                  | some r5 => bif ycP .eq r5.1 0 then
                      f_X7_vows_b72 N r5.2 ((-3))
                    else
                      f_X7_vows_b72 N r5.2 (r5.2.1 (r5.2.2 17 11) 0)
                else
                  f_X7_vows_b37 N r4.2
noncomputable def F_X7_vows (N : Nat) : yF := fun as σ => match as with
  | [.inr (.inl 7, 0), .inl (.inl x1), .inl (.inl x2), .inl (.inl x3), .inl (.inl x4)] => (f_X7_vows N σ x1 x2 x3 x4).map (fun r => (some (.inl (.inl r.1)), r.2))
  | _ => none
theorem e_X7_vows {N : Nat} {σ : yS} {x1 : Int} {x2 : Int} {x3 : Int} {x4 : Int} {r : Int × yS} (h : f_X7_vows N σ x1 x2 x3 x4 = some r) : F_X7_vows N [.inr (.inl 7, 0), .inl (.inl x1), .inl (.inl x2), .inl (.inl x3), .inl (.inl x4)] σ = some (some (.inl (.inl r.1)), r.2) := by
  show (f_X7_vows N σ x1 x2 x3 x4).map (fun r => ((some (.inl (.inl r.1)), r.2) : yR)) = _
  rw [h]
  rfl
noncomputable def tb_X7_vows (N : Nat) : yTb := ([(10, 7, 0, 3), (92, 4, 11, 2), (96, 5, 0, 0)], [], [], [(118, 2, 4, F_X4_isHouse N), (150, 2, 4, F_X4_isDeed N), (184, 5, 5, F_X5_append N)], [(174, 1, F_X7_isKind N), (181, 1, F_X7_isDepth N)], [], [])
abbrev G_X7_vows (N : Nat) (X : zXT) (sh : List yH) (l : Launch) (rm : Room) : yC → yR → Prop := yGoes X vwCl yct sh l rm cX7_vows 5 wsX7_vows RX7 (tb_X7_vows N) pr_X7_vows 1
set_option maxRecDepth 100000 in
set_option maxHeartbeats 4000000 in
theorem t_X7_vows_b37 {N : Nat} {X : zXT} {sh : List yH} {l : Launch} {rm : Room} (σ : yS) (res : Int × yS) (h : f_X7_vows_b37 N σ = some res) : G_X7_vows N X sh l rm (37, [], [], σ) (some (.inl (.inl res.1)), res.2) := by
  unfold f_X7_vows_b37 at h
  refine yG_n (n := 1) (C' := (38, [], [.inl (.inl ((-1)))], σ)) rfl ?_
  have h := Option.some.inj h
  subst h
  dsimp only
  exact yG_r rfl rfl
set_option maxRecDepth 100000 in
set_option maxHeartbeats 4000000 in
theorem t_X7_vows_b72 {N : Nat} {X : zXT} {sh : List yH} {l : Launch} {rm : Room} (σ : yS) (s0 : Int) (res : Int × yS) (h : f_X7_vows_b72 N σ s0 = some res) : G_X7_vows N X sh l rm (72, [], [.inl (.inl s0)], σ) (some (.inl (.inl res.1)), res.2) := by
  unfold f_X7_vows_b72 at h
  have h := Option.some.inj h
  subst h
  dsimp only
  exact yG_r rfl rfl
set_option maxRecDepth 100000 in
set_option maxHeartbeats 4000000 in
theorem t_X7_vows {N : Nat} {X : zXT} {sh : List yH} {l : Launch} {rm : Room} (σ : yS) (x1 : Int) (x2 : Int) (x3 : Int) (x4 : Int) (res : Int × yS) (h : f_X7_vows N σ x1 x2 x3 x4 = some res) : G_X7_vows N X sh l rm (0, [(0, .inr (.inl 7, 0)), (1, .inl (.inl x1)), (2, .inl (.inl x2)), (3, .inl (.inl x3)), (4, .inl (.inl x4))], [], σ) (some (.inl (.inl res.1)), res.2) := by
  unfold f_X7_vows at h
  refine yG_n (n := 3) (C' := (5, [(0, .inr (.inl 7, 0)), (1, .inl (.inl x1)), (2, .inl (.inl x2)), (3, .inl (.inl x3)), (4, .inl (.inl x4))], [.inl (.inl x1), .inr (.inl 4, 17)], σ)) rfl ?_
  cases hr1 : f_X4_isHouse N σ 17 x1 with
  | none => rw [hr1] at h; dsimp only at h; cases h
  | some r1 =>
    rw [hr1] at h
    dsimp only at h
    refine yG_c (C1 := (8, [(0, .inr (.inl 7, 0)), (1, .inl (.inl x1)), (2, .inl (.inl x2)), (3, .inl (.inl x3)), (4, .inl (.inl x4))], [.inl (.inl r1.1)], r1.2)) rfl (e_X4_isHouse hr1) rfl ?_
    cases hg2 : ycP .eq r1.1 0 with
    | true =>
      rw [hg2] at h
      dsimp only [cond] at h
      refine yG_t (C' := (37, [(0, .inr (.inl 7, 0)), (1, .inl (.inl x1)), (2, .inl (.inl x2)), (3, .inl (.inl x3)), (4, .inl (.inl x4))], [], r1.2)) rfl hg2 ?_
      exact yG_w [] rfl (t_X7_vows_b37 r1.2 res h)
    | false =>
      rw [hg2] at h
      dsimp only [cond] at h
      refine yG_f (C' := (11, [(0, .inr (.inl 7, 0)), (1, .inl (.inl x1)), (2, .inl (.inl x2)), (3, .inl (.inl x3)), (4, .inl (.inl x4))], [], r1.2)) rfl hg2 ?_
      refine yG_n (n := 1) (C' := (12, [(0, .inr (.inl 7, 0)), (1, .inl (.inl x1)), (2, .inl (.inl x2)), (3, .inl (.inl x3)), (4, .inl (.inl x4))], [.inl (.inl x2)], r1.2)) rfl ?_
      cases hr3 : f_X7_isKind N r1.2 x2 with
      | none => rw [hr3] at h; dsimp only at h; cases h
      | some r2 =>
        rw [hr3] at h
        dsimp only at h
        refine yG_c (C1 := (15, [(0, .inr (.inl 7, 0)), (1, .inl (.inl x1)), (2, .inl (.inl x2)), (3, .inl (.inl x3)), (4, .inl (.inl x4))], [.inl (.inl r2.1)], r2.2)) rfl (e_X7_isKind hr3) rfl ?_
        cases hg4 : ycP .eq r2.1 0 with
        | true =>
          rw [hg4] at h
          dsimp only [cond] at h
          refine yG_t (C' := (37, [(0, .inr (.inl 7, 0)), (1, .inl (.inl x1)), (2, .inl (.inl x2)), (3, .inl (.inl x3)), (4, .inl (.inl x4))], [], r2.2)) rfl hg4 ?_
          exact yG_w [] rfl (t_X7_vows_b37 r2.2 res h)
        | false =>
          rw [hg4] at h
          dsimp only [cond] at h
          refine yG_f (C' := (18, [(0, .inr (.inl 7, 0)), (1, .inl (.inl x1)), (2, .inl (.inl x2)), (3, .inl (.inl x3)), (4, .inl (.inl x4))], [], r2.2)) rfl hg4 ?_
          refine yG_n (n := 1) (C' := (19, [(0, .inr (.inl 7, 0)), (1, .inl (.inl x1)), (2, .inl (.inl x2)), (3, .inl (.inl x3)), (4, .inl (.inl x4))], [.inl (.inl x3)], r2.2)) rfl ?_
          cases hr5 : f_X7_isDepth N r2.2 x3 with
          | none => rw [hr5] at h; dsimp only at h; cases h
          | some r3 =>
            rw [hr5] at h
            dsimp only at h
            refine yG_c (C1 := (22, [(0, .inr (.inl 7, 0)), (1, .inl (.inl x1)), (2, .inl (.inl x2)), (3, .inl (.inl x3)), (4, .inl (.inl x4))], [.inl (.inl r3.1)], r3.2)) rfl (e_X7_isDepth hr5) rfl ?_
            cases hg6 : ycP .eq r3.1 0 with
            | true =>
              rw [hg6] at h
              dsimp only [cond] at h
              refine yG_t (C' := (37, [(0, .inr (.inl 7, 0)), (1, .inl (.inl x1)), (2, .inl (.inl x2)), (3, .inl (.inl x3)), (4, .inl (.inl x4))], [], r3.2)) rfl hg6 ?_
              exact yG_w [] rfl (t_X7_vows_b37 r3.2 res h)
            | false =>
              rw [hg6] at h
              dsimp only [cond] at h
              refine yG_f (C' := (25, [(0, .inr (.inl 7, 0)), (1, .inl (.inl x1)), (2, .inl (.inl x2)), (3, .inl (.inl x3)), (4, .inl (.inl x4))], [], r3.2)) rfl hg6 ?_
              refine yG_n (n := 3) (C' := (31, [(0, .inr (.inl 7, 0)), (1, .inl (.inl x1)), (2, .inl (.inl x2)), (3, .inl (.inl x3)), (4, .inl (.inl x4))], [.inl (.inl x4), .inr (.inl 4, 17)], r3.2)) rfl ?_
              cases hr7 : f_X4_isDeed N r3.2 17 x4 with
              | none => rw [hr7] at h; dsimp only at h; cases h
              | some r4 =>
                rw [hr7] at h
                dsimp only at h
                refine yG_c (C1 := (34, [(0, .inr (.inl 7, 0)), (1, .inl (.inl x1)), (2, .inl (.inl x2)), (3, .inl (.inl x3)), (4, .inl (.inl x4))], [.inl (.inl r4.1)], r4.2)) rfl (e_X4_isDeed hr7) rfl ?_
                cases hg8 : ycP .ne r4.1 0 with
                | true =>
                  rw [hg8] at h
                  dsimp only [cond] at h
                  refine yG_t (C' := (39, [(0, .inr (.inl 7, 0)), (1, .inl (.inl x1)), (2, .inl (.inl x2)), (3, .inl (.inl x3)), (4, .inl (.inl x4))], [], r4.2)) rfl hg8 ?_
                  refine yG_n (n := 7) (C' := (51, [(0, .inr (.inl 7, 0)), (1, .inl (.inl x1)), (2, .inl (.inl x2)), (3, .inl (.inl x3)), (4, .inl (.inl x4))], [.inl (.inl x4), .inl (.inl x3), .inl (.inl x2), .inl (.inl x1), .inr (.inl 5, r4.2.2 17 11)], r4.2)) rfl ?_
                  cases hr9 : f_X5_append N r4.2 (r4.2.2 17 11) x1 x2 x3 x4 with
                  | none => rw [hr9] at h; dsimp only at h; cases h
                  | some r5 =>
                    rw [hr9] at h
                    dsimp only at h
                    refine yG_c (C1 := (54, [(0, .inr (.inl 7, 0)), (1, .inl (.inl x1)), (2, .inl (.inl x2)), (3, .inl (.inl x3)), (4, .inl (.inl x4))], [.inl (.inl r5.1)], r5.2)) rfl (e_X5_append hr9) rfl ?_
                    cases hg10 : ycP .eq r5.1 0 with
                    | true =>
                      rw [hg10] at h
                      dsimp only [cond] at h
                      refine yG_t (C' := (70, [(0, .inr (.inl 7, 0)), (1, .inl (.inl x1)), (2, .inl (.inl x2)), (3, .inl (.inl x3)), (4, .inl (.inl x4))], [], r5.2)) rfl hg10 ?_
                      refine yG_n (n := 1) (C' := (72, [(0, .inr (.inl 7, 0)), (1, .inl (.inl x1)), (2, .inl (.inl x2)), (3, .inl (.inl x3)), (4, .inl (.inl x4))], [.inl (.inl ((-3)))], r5.2)) rfl ?_
                      exact yG_w [] rfl (t_X7_vows_b72 r5.2 ((-3)) res h)
                    | false =>
                      rw [hg10] at h
                      dsimp only [cond] at h
                      refine yG_f (C' := (57, [(0, .inr (.inl 7, 0)), (1, .inl (.inl x1)), (2, .inl (.inl x2)), (3, .inl (.inl x3)), (4, .inl (.inl x4))], [], r5.2)) rfl hg10 ?_
                      refine yG_n (n := 5) (C' := (72, [(0, .inr (.inl 7, 0)), (1, .inl (.inl x1)), (2, .inl (.inl x2)), (3, .inl (.inl x3)), (4, .inl (.inl x4))], [.inl (.inl (r5.2.1 (r5.2.2 17 11) 0))], r5.2)) rfl ?_
                      exact yG_w [] rfl (t_X7_vows_b72 r5.2 (r5.2.1 (r5.2.2 17 11) 0) res h)
                | false =>
                  rw [hg8] at h
                  dsimp only [cond] at h
                  refine yG_f (C' := (37, [(0, .inr (.inl 7, 0)), (1, .inl (.inl x1)), (2, .inl (.inl x2)), (3, .inl (.inl x3)), (4, .inl (.inl x4))], [], r4.2)) rfl hg8 ?_
                  exact yG_w [] rfl (t_X7_vows_b37 r4.2 res h)
set_option maxRecDepth 100000 in
set_option maxHeartbeats 4000000 in
theorem m_X7_vows {N : Nat} {X : zXT} (hX : zXok X) (hN : zXn X) (l : Launch) {sh : List yH} : yMet X vwCl yct sh l yX7_vows wsX7_vows { frames := 3, cells := 0, slots := 0, locals := 107 } (F_X7_vows N) :=
  ymeth (tb := tb_X7_vows N) (pr := pr_X7_vows) (rt := 1) (own := RX7) hX (by decide +kernel) rfl rfl ⟨Nat.le_of_ble_eq_true rfl, Nat.le_of_ble_eq_true rfl⟩
    (zfl_all (List.forall_mem_cons.mpr ⟨zfl_X7 (fun w h => List.mem_cons_of_mem _ (List.mem_append_left _ (List.mem_append_left _ (List.mem_append_right _ h)))) (List.mem_of_getElem? (i := 1) rfl) (by decide) (by decide), List.forall_mem_cons.mpr ⟨zfl_X4 (fun w h => List.mem_cons_of_mem _ (List.mem_append_left _ (List.mem_append_right _ h))) (List.mem_of_getElem? (i := 2) rfl) (by decide) (by decide), List.forall_mem_cons.mpr ⟨zfl_X5 (fun w h => List.mem_cons_of_mem _ (List.mem_append_right _ h)) (List.mem_of_getElem? (i := 3) rfl) (by decide) (by decide), fun _ h => absurd h List.not_mem_nil⟩⟩⟩))
    (zco_all (fun _ h => absurd h List.not_mem_nil)) (zlc_all (fun _ h => absurd h List.not_mem_nil))
    (List.forall_mem_cons.mpr ⟨ycal_V hX (m_X4_isHouse hX hN l) rfl (fun s args hts => cwV 1 hts gX7_vows_X4_isHouse rfl rfl rfl (by decide +kernel) ⟨Nat.le_of_ble_eq_true rfl, Nat.le_of_ble_eq_true rfl⟩), List.forall_mem_cons.mpr ⟨ycal_V hX (m_X4_isDeed hX hN l) rfl (fun s args hts => cwV 1 hts gX7_vows_X4_isDeed rfl rfl rfl (by decide +kernel) ⟨Nat.le_of_ble_eq_true rfl, Nat.le_of_ble_eq_true rfl⟩), List.forall_mem_cons.mpr ⟨ycal_V hX (m_X5_append hX hN l) rfl (fun s args hts => cwV 4 hts gX7_vows_X5_append rfl rfl rfl (by decide +kernel) ⟨Nat.le_of_ble_eq_true rfl, Nat.le_of_ble_eq_true rfl⟩), fun _ h => absurd h List.not_mem_nil⟩⟩⟩)
    (List.forall_mem_cons.mpr ⟨ycal_S hX (m_X7_isKind hX hN l) (fun s args hts => va_cwS 1 hts gX7_vows_X7_isKind rfl rfl rfl (by decide +kernel) ⟨Nat.le_of_ble_eq_true rfl, Nat.le_of_ble_eq_true rfl⟩), List.forall_mem_cons.mpr ⟨ycal_S hX (m_X7_isDepth hX hN l) (fun s args hts => va_cwS 1 hts gX7_vows_X7_isDepth rfl rfl rfl (by decide +kernel) ⟨Nat.le_of_ble_eq_true rfl, Nat.le_of_ble_eq_true rfl⟩), fun _ h => absurd h List.not_mem_nil⟩⟩)
    (zmm_all (fun _ h => absurd h List.not_mem_nil)) (fun _ h => absurd h List.not_mem_nil) (zpr_all hp_X7_vows) (fun as σ res h => by
      unfold F_X7_vows at h
      split at h
      · rename_i x1 x2 x3 x4
        cases hr : f_X7_vows N σ x1 x2 x3 x4 with
        | none => rw [hr] at h; cases h
        | some r =>
          rw [hr] at h
          cases h
          exact ⟨Nat.le_of_ble_eq_true rfl, t_X7_vows σ x1 x2 x3 x4 r hr⟩
      · cases h)
end
section
noncomputable def pr_X7_vowFromCells : List (Nat × Instr × Nat) := [(0, .aload_n 0, 1), (1, .aload_n 1, 1), (2, .iload_n 2, 1), (3, .iaload, 1), (4, .aload_n 1, 1), (5, .iload_n 2, 1), (6, .iconst 1, 1), (7, .iadd, 1), (8, .iaload, 1), (9, .aload_n 1, 1), (10, .iload_n 2, 1), (11, .iconst 2, 1), (12, .iadd, 1), (13, .iaload, 1), (14, .aload_n 1, 1), (15, .iload_n 2, 1), (16, .iconst 3, 1), (17, .iadd, 1), (18, .iaload, 1), (19, .invokevirtual 304, 3), (22, .ireturn, 1)]
set_option maxRecDepth 100000 in
theorem hp_X7_vowFromCells : pr_X7_vowFromCells.all (fun x => decide (decode cX7_vowFromCells x.1 = .ok x.2)) = true := by decide +kernel
noncomputable def f_X7_vowFromCells (N : Nat) (σ : yS) (x1 : Nat) (x2 : Int) : Option (Int × yS) :=
  bif yin x2 40 then
    bif yin (yad x2 1) 40 then
      bif yin (yad x2 2) 40 then
        bif yin (yad x2 3) 40 then
          match f_X7_vows N σ (σ.1 x1 x2.toNat) (σ.1 x1 (yad x2 1).toNat) (σ.1 x1 (yad x2 2).toNat) (σ.1 x1 (yad x2 3).toNat) with
          | none => none
          | some r1 => some (r1.1, r1.2)
        else none
      else none
    else none
  else none
noncomputable def F_X7_vowFromCells (N : Nat) : yF := fun as σ => match as with
  | [.inr (.inl 7, 0), .inr (.inr (0, 40), x1), .inl (.inl x2)] => (f_X7_vowFromCells N σ x1 x2).map (fun r => (some (.inl (.inl r.1)), r.2))
  | _ => none
theorem e_X7_vowFromCells {N : Nat} {σ : yS} {x1 : Nat} {x2 : Int} {r : Int × yS} (h : f_X7_vowFromCells N σ x1 x2 = some r) : F_X7_vowFromCells N [.inr (.inl 7, 0), .inr (.inr (0, 40), x1), .inl (.inl x2)] σ = some (some (.inl (.inl r.1)), r.2) := by
  show (f_X7_vowFromCells N σ x1 x2).map (fun r => ((some (.inl (.inl r.1)), r.2) : yR)) = _
  rw [h]
  rfl
noncomputable def tb_X7_vowFromCells (N : Nat) : yTb := ([], [], [], [(304, 5, 7, F_X7_vows N)], [], [], [])
abbrev G_X7_vowFromCells (N : Nat) (X : zXT) (sh : List yH) (l : Launch) (rm : Room) : yC → yR → Prop := yGoes X vwCl yct sh l rm cX7_vowFromCells 3 wsX7_vowFromCells RX7 (tb_X7_vowFromCells N) pr_X7_vowFromCells 1
set_option maxRecDepth 100000 in
set_option maxHeartbeats 4000000 in
theorem t_X7_vowFromCells {N : Nat} {X : zXT} {sh : List yH} {l : Launch} {rm : Room} (σ : yS) (x1 : Nat) (x2 : Int) (res : Int × yS) (h : f_X7_vowFromCells N σ x1 x2 = some res) : G_X7_vowFromCells N X sh l rm (0, [(0, .inr (.inl 7, 0)), (1, .inr (.inr (0, 40), x1)), (2, .inl (.inl x2))], [], σ) (some (.inl (.inl res.1)), res.2) := by
  unfold f_X7_vowFromCells at h
  refine yG_n (n := 3) (C' := (3, [(0, .inr (.inl 7, 0)), (1, .inr (.inr (0, 40), x1)), (2, .inl (.inl x2))], [.inl (.inl x2), .inr (.inr (0, 40), x1), .inr (.inl 7, 0)], σ)) rfl ?_
  cases hg1 : yin x2 40 with
  | false => rw [hg1] at h; dsimp only [cond] at h; cases h
  | true =>
    rw [hg1] at h
    dsimp only [cond] at h
    refine yG_t (C' := (4, [(0, .inr (.inl 7, 0)), (1, .inr (.inr (0, 40), x1)), (2, .inl (.inl x2))], [.inl (.inl (σ.1 x1 x2.toNat)), .inr (.inl 7, 0)], σ)) rfl hg1 ?_
    refine yG_n (n := 4) (C' := (8, [(0, .inr (.inl 7, 0)), (1, .inr (.inr (0, 40), x1)), (2, .inl (.inl x2))], [.inl (.inl (yad x2 1)), .inr (.inr (0, 40), x1), .inl (.inl (σ.1 x1 x2.toNat)), .inr (.inl 7, 0)], σ)) rfl ?_
    cases hg2 : yin (yad x2 1) 40 with
    | false => rw [hg2] at h; dsimp only [cond] at h; cases h
    | true =>
      rw [hg2] at h
      dsimp only [cond] at h
      refine yG_t (C' := (9, [(0, .inr (.inl 7, 0)), (1, .inr (.inr (0, 40), x1)), (2, .inl (.inl x2))], [.inl (.inl (σ.1 x1 (yad x2 1).toNat)), .inl (.inl (σ.1 x1 x2.toNat)), .inr (.inl 7, 0)], σ)) rfl hg2 ?_
      refine yG_n (n := 4) (C' := (13, [(0, .inr (.inl 7, 0)), (1, .inr (.inr (0, 40), x1)), (2, .inl (.inl x2))], [.inl (.inl (yad x2 2)), .inr (.inr (0, 40), x1), .inl (.inl (σ.1 x1 (yad x2 1).toNat)), .inl (.inl (σ.1 x1 x2.toNat)), .inr (.inl 7, 0)], σ)) rfl ?_
      cases hg3 : yin (yad x2 2) 40 with
      | false => rw [hg3] at h; dsimp only [cond] at h; cases h
      | true =>
        rw [hg3] at h
        dsimp only [cond] at h
        refine yG_t (C' := (14, [(0, .inr (.inl 7, 0)), (1, .inr (.inr (0, 40), x1)), (2, .inl (.inl x2))], [.inl (.inl (σ.1 x1 (yad x2 2).toNat)), .inl (.inl (σ.1 x1 (yad x2 1).toNat)), .inl (.inl (σ.1 x1 x2.toNat)), .inr (.inl 7, 0)], σ)) rfl hg3 ?_
        refine yG_n (n := 4) (C' := (18, [(0, .inr (.inl 7, 0)), (1, .inr (.inr (0, 40), x1)), (2, .inl (.inl x2))], [.inl (.inl (yad x2 3)), .inr (.inr (0, 40), x1), .inl (.inl (σ.1 x1 (yad x2 2).toNat)), .inl (.inl (σ.1 x1 (yad x2 1).toNat)), .inl (.inl (σ.1 x1 x2.toNat)), .inr (.inl 7, 0)], σ)) rfl ?_
        cases hg4 : yin (yad x2 3) 40 with
        | false => rw [hg4] at h; dsimp only [cond] at h; cases h
        | true =>
          rw [hg4] at h
          dsimp only [cond] at h
          refine yG_t (C' := (19, [(0, .inr (.inl 7, 0)), (1, .inr (.inr (0, 40), x1)), (2, .inl (.inl x2))], [.inl (.inl (σ.1 x1 (yad x2 3).toNat)), .inl (.inl (σ.1 x1 (yad x2 2).toNat)), .inl (.inl (σ.1 x1 (yad x2 1).toNat)), .inl (.inl (σ.1 x1 x2.toNat)), .inr (.inl 7, 0)], σ)) rfl hg4 ?_
          cases hr5 : f_X7_vows N σ (σ.1 x1 x2.toNat) (σ.1 x1 (yad x2 1).toNat) (σ.1 x1 (yad x2 2).toNat) (σ.1 x1 (yad x2 3).toNat) with
          | none => rw [hr5] at h; dsimp only at h; cases h
          | some r1 =>
            rw [hr5] at h
            dsimp only at h
            refine yG_c (C1 := (22, [(0, .inr (.inl 7, 0)), (1, .inr (.inr (0, 40), x1)), (2, .inl (.inl x2))], [.inl (.inl r1.1)], r1.2)) rfl (e_X7_vows hr5) rfl ?_
            have h := Option.some.inj h
            subst h
            dsimp only
            exact yG_r rfl rfl
set_option maxRecDepth 100000 in
set_option maxHeartbeats 4000000 in
theorem m_X7_vowFromCells {N : Nat} {X : zXT} (hX : zXok X) (hN : zXn X) (l : Launch) {sh : List yH} : yMet X vwCl yct sh l yX7_vowFromCells wsX7_vowFromCells { frames := 4, cells := 0, slots := 0, locals := 131 } (F_X7_vowFromCells N) :=
  ymeth (tb := tb_X7_vowFromCells N) (pr := pr_X7_vowFromCells) (rt := 1) (own := RX7) hX (by decide +kernel) rfl rfl ⟨Nat.le_of_ble_eq_true rfl, Nat.le_of_ble_eq_true rfl⟩
    (zfl_all (fun _ h => absurd h List.not_mem_nil))
    (zco_all (fun _ h => absurd h List.not_mem_nil)) (zlc_all (fun _ h => absurd h List.not_mem_nil))
    (List.forall_mem_cons.mpr ⟨ycal_V hX (m_X7_vows hX hN l) rfl (fun s args hts => cwV 4 hts gX7_vowFromCells_X7_vows rfl rfl rfl (by decide +kernel) ⟨Nat.le_of_ble_eq_true rfl, Nat.le_of_ble_eq_true rfl⟩), fun _ h => absurd h List.not_mem_nil⟩)
    (fun _ h => absurd h List.not_mem_nil)
    (zmm_all (fun _ h => absurd h List.not_mem_nil)) (fun _ h => absurd h List.not_mem_nil) (zpr_all hp_X7_vowFromCells) (fun as σ res h => by
      unfold F_X7_vowFromCells at h
      split at h
      · rename_i x1 x2
        cases hr : f_X7_vowFromCells N σ x1 x2 with
        | none => rw [hr] at h; cases h
        | some r =>
          rw [hr] at h
          cases h
          exact ⟨Nat.le_of_ble_eq_true rfl, t_X7_vowFromCells σ x1 x2 r hr⟩
      · cases h)
noncomputable def pr_X7_read : List (Nat × Instr × Nat) := [(0, .iload_n 1, 1), (1, .invokestatic 262, 3), (4, .ifCond .eq 21, 3), (7, .iload_n 2, 1), (8, .invokestatic 265, 3), (11, .ifCond .eq 14, 3), (14, .iload 4, 2), (16, .iconst 0, 1), (17, .bipush 10, 2), (19, .invokestatic 49, 3), (22, .ifCond .ne 5, 3), (25, .iconst (-1), 1), (26, .ireturn, 1), (27, .aload_n 0, 1), (28, .getfield 44, 3), (31, .iload_n 1, 1), (32, .aaload, 1), (33, .astore 5, 2), (35, .aload_n 0, 1), (36, .getfield 10, 3), (39, .getfield 92, 3), (42, .getfield 96, 3), (45, .istore 6, 2), (47, .aload 5, 2), (49, .iload_n 2, 1), (50, .invokevirtual 277, 3), (53, .istore 7, 2), (55, .iconst 0, 1), (56, .istore 8, 2), (58, .iconst 0, 1), (59, .istore 9, 2), (61, .iload 9, 2), (63, .iload 4, 2), (65, .if_icmp .ge 72, 3), (68, .iload 7, 2), (70, .ifCond .ne 67, 3), (73, .iload_n 3, 1), (74, .iconst 4, 1), (75, .iload 9, 2), (77, .imul, 1), (78, .iadd, 1), (79, .istore 10, 2), (81, .aload 5, 2), (83, .iload 10, 2), (85, .iconst 4, 1), (86, .invokevirtual 271, 3), (89, .istore 7, 2), (91, .iload 7, 2), (93, .ifCond .ne 38, 3), (96, .aload_n 0, 1), (97, .aload 5, 2), (99, .getfield 280, 3), (102, .iload 10, 2), (104, .invokevirtual 283, 3), (107, .ifCond .ge 21, 3), (110, .aload_n 0, 1), (111, .getfield 10, 3), (114, .getfield 92, 3), (117, .iload 6, 2), (119, .putfield 96, 3), (122, .bipush (-20), 2), (124, .iload 9, 2), (126, .isub, 1), (127, .ireturn, 1), (128, .iinc 8 1, 3), (131, .iinc 9 1, 3), (134, .goto (-73), 3), (137, .aload_n 0, 1), (138, .iload 7, 2), (140, .putfield 287, 3), (143, .iload 8, 2), (145, .ireturn, 1)]
set_option maxRecDepth 100000 in
theorem hp_X7_read : pr_X7_read.all (fun x => decide (decode cX7_read x.1 = .ok x.2)) = true := by decide +kernel
noncomputable def f_X7_read_b25 (N : Nat) (σ : yS) : Option (Int × yS) :=
  some ((-1), σ)
noncomputable def f_X7_read_b137 (N : Nat) (σ : yS) (x7 : Int) (x8 : Int) : Option (Int × yS) :=
  some (x8, yw σ 0 8 x7)
noncomputable def f_X7_read_b131 (N : Nat) (k61 : yS → Int → Int → Nat → Int → Int → Int → Int → Option (Int × yS)) (σ : yS) (x3 : Int) (x4 : Int) (x5 : Nat) (x6 : Int) (x7 : Int) (x8 : Int) (x9 : Int) : Option (Int × yS) :=
  k61 σ x3 x4 x5 x6 x7 x8 (yad x9 1)
noncomputable def f_X7_read_b61 (N : Nat) : Nat → yS → Int → Int → Nat → Int → Int → Int → Int → Option (Int × yS) := yfix (fun _ _ _ _ _ _ _ _ => none) (fun ih σ x3 x4 x5 x6 x7 x8 x9 =>
    bif ycP .ge x9 x4 then
      f_X7_read_b137 N σ x7 x8
    else
      bif ycP .ne x7 0 then
        f_X7_read_b137 N σ x7 x8
      else
        match f_X2_faultOfCells N σ x5 (yad x3 (ymu 4 x9)) 4 with
        | none => none
        | some r5 => bif ycP .ne r5.1 0 then
            f_X7_read_b131 N ih r5.2 x3 x4 x5 x6 r5.1 x8 x9
          else
            match f_X7_vowFromCells N r5.2 (x5 + 1) (yad x3 (ymu 4 x9)) with
            | none => none
            | some r6 => bif ycP .ge r6.1 0 then
                f_X7_read_b131 N ih r6.2 x3 x4 x5 x6 r5.1 (yad x8 1) x9
              else
                some (ysu ((-20)) x9, yw r6.2 (r6.2.2 17 11) 0 x6))
theorem q_X7_read_b61 (N : Nat) (n : Nat) (σ : yS) (x3 : Int) (x4 : Int) (x5 : Nat) (x6 : Int) (x7 : Int) (x8 : Int) (x9 : Int) : f_X7_read_b61 N (n + 1) σ x3 x4 x5 x6 x7 x8 x9 =
    (bif ycP .ge x9 x4 then
      f_X7_read_b137 N σ x7 x8
    else
      bif ycP .ne x7 0 then
        f_X7_read_b137 N σ x7 x8
      else
        match f_X2_faultOfCells N σ x5 (yad x3 (ymu 4 x9)) 4 with
        | none => none
        | some r5 => bif ycP .ne r5.1 0 then
            f_X7_read_b131 N (f_X7_read_b61 N n) r5.2 x3 x4 x5 x6 r5.1 x8 x9
          else
            match f_X7_vowFromCells N r5.2 (x5 + 1) (yad x3 (ymu 4 x9)) with
            | none => none
            | some r6 => bif ycP .ge r6.1 0 then
                f_X7_read_b131 N (f_X7_read_b61 N n) r6.2 x3 x4 x5 x6 r5.1 (yad x8 1) x9
              else
                some (ysu ((-20)) x9, yw r6.2 (r6.2.2 17 11) 0 x6)) := rfl
noncomputable def f_X7_read (N : Nat) (σ : yS) (x1 : Int) (x2 : Int) (x3 : Int) (x4 : Int) : Option (Int × yS) :=
  match f_X7_isSheet N σ x1 with
  | none => none
  | some r1 => bif ycP .eq r1.1 0 then
      f_X7_read_b25 N r1.2
    else
      match f_X7_isLane N r1.2 x2 with
      | none => none
      | some r2 => bif ycP .eq r2.1 0 then
          f_X7_read_b25 N r2.2
        else
          match f_X7_within N r2.2 x4 0 10 with
          | none => none
          | some r3 => bif ycP .ne r3.1 0 then
              bif yin x1 4 then
                match f_X2_faultOfLane N r3.2 (r3.2.2 8 x1.toNat) x2 with
                | none => none
                | some r4 => f_X7_read_b61 N N r4.2 x3 x4 (r3.2.2 8 x1.toNat) (r3.2.1 (r3.2.2 17 11) 0) r4.1 0 0
              else none
            else
              f_X7_read_b25 N r3.2
noncomputable def F_X7_read (N : Nat) : yF := fun as σ => match as with
  | [.inr (.inl 7, 0), .inl (.inl x1), .inl (.inl x2), .inl (.inl x3), .inl (.inl x4)] => (f_X7_read N σ x1 x2 x3 x4).map (fun r => (some (.inl (.inl r.1)), r.2))
  | _ => none
theorem e_X7_read {N : Nat} {σ : yS} {x1 : Int} {x2 : Int} {x3 : Int} {x4 : Int} {r : Int × yS} (h : f_X7_read N σ x1 x2 x3 x4 = some r) : F_X7_read N [.inr (.inl 7, 0), .inl (.inl x1), .inl (.inl x2), .inl (.inl x3), .inl (.inl x4)] σ = some (some (.inl (.inl r.1)), r.2) := by
  show (f_X7_read N σ x1 x2 x3 x4).map (fun r => ((some (.inl (.inl r.1)), r.2) : yR)) = _
  rw [h]
  rfl
noncomputable def tb_X7_read (N : Nat) : yTb := ([(10, 7, 0, 3), (44, 7, 6, 3), (92, 4, 11, 2), (96, 5, 0, 0), (280, 2, 2, 3), (287, 7, 8, 0)], [], [], [(271, 3, 2, F_X2_faultOfCells N), (277, 2, 2, F_X2_faultOfLane N), (283, 3, 7, F_X7_vowFromCells N)], [(49, 3, F_X7_within N), (262, 1, F_X7_isSheet N), (265, 1, F_X7_isLane N)], [], [])
abbrev G_X7_read (N : Nat) (X : zXT) (sh : List yH) (l : Launch) (rm : Room) : yC → yR → Prop := yGoes X vwCl yct sh l rm cX7_read 11 wsX7_read RX7 (tb_X7_read N) pr_X7_read 1
set_option maxRecDepth 100000 in
set_option maxHeartbeats 4000000 in
theorem t_X7_read_b25 {N : Nat} {X : zXT} {sh : List yH} {l : Launch} {rm : Room} (σ : yS) (res : Int × yS) (h : f_X7_read_b25 N σ = some res) : G_X7_read N X sh l rm (25, [], [], σ) (some (.inl (.inl res.1)), res.2) := by
  unfold f_X7_read_b25 at h
  refine yG_n (n := 1) (C' := (26, [], [.inl (.inl ((-1)))], σ)) rfl ?_
  have h := Option.some.inj h
  subst h
  dsimp only
  exact yG_r rfl rfl
set_option maxRecDepth 100000 in
set_option maxHeartbeats 4000000 in
theorem t_X7_read_b137 {N : Nat} {X : zXT} {sh : List yH} {l : Launch} {rm : Room} (σ : yS) (x7 : Int) (x8 : Int) (res : Int × yS) (h : f_X7_read_b137 N σ x7 x8 = some res) : G_X7_read N X sh l rm (137, [(0, .inr (.inl 7, 0)), (7, .inl (.inl x7)), (8, .inl (.inl x8))], [], σ) (some (.inl (.inl res.1)), res.2) := by
  unfold f_X7_read_b137 at h
  refine yG_n (n := 4) (C' := (145, [(0, .inr (.inl 7, 0)), (7, .inl (.inl x7)), (8, .inl (.inl x8))], [.inl (.inl x8)], yw σ 0 8 x7)) rfl ?_
  have h := Option.some.inj h
  subst h
  dsimp only
  exact yG_r rfl rfl
set_option maxRecDepth 100000 in
set_option maxHeartbeats 4000000 in
theorem t_X7_read_b131 {N : Nat} {X : zXT} {sh : List yH} {l : Launch} {rm : Room} (k61 : yS → Int → Int → Nat → Int → Int → Int → Int → Option (Int × yS)) (hk61 : ∀ (σ : yS) (x3 : Int) (x4 : Int) (x5 : Nat) (x6 : Int) (x7 : Int) (x8 : Int) (x9 : Int) (res : Int × yS), k61 σ x3 x4 x5 x6 x7 x8 x9 = some res → G_X7_read N X sh l rm (61, [(0, .inr (.inl 7, 0)), (3, .inl (.inl x3)), (4, .inl (.inl x4)), (5, .inr (.inl 2, x5)), (6, .inl (.inl x6)), (7, .inl (.inl x7)), (8, .inl (.inl x8)), (9, .inl (.inl x9))], [], σ) (some (.inl (.inl res.1)), res.2)) (σ : yS) (x3 : Int) (x4 : Int) (x5 : Nat) (x6 : Int) (x7 : Int) (x8 : Int) (x9 : Int) (res : Int × yS) (h : f_X7_read_b131 N k61 σ x3 x4 x5 x6 x7 x8 x9 = some res) : G_X7_read N X sh l rm (131, [(0, .inr (.inl 7, 0)), (3, .inl (.inl x3)), (4, .inl (.inl x4)), (5, .inr (.inl 2, x5)), (6, .inl (.inl x6)), (7, .inl (.inl x7)), (8, .inl (.inl x8)), (9, .inl (.inl x9))], [], σ) (some (.inl (.inl res.1)), res.2) := by
  unfold f_X7_read_b131 at h
  refine yG_n (n := 2) (C' := (61, [(9, .inl (.inl (yad x9 1))), (0, .inr (.inl 7, 0)), (3, .inl (.inl x3)), (4, .inl (.inl x4)), (5, .inr (.inl 2, x5)), (6, .inl (.inl x6)), (7, .inl (.inl x7)), (8, .inl (.inl x8))], [], σ)) rfl ?_
  exact yG_w [1, 2, 3, 4, 5, 6, 7, 0] rfl (hk61 σ x3 x4 x5 x6 x7 x8 (yad x9 1) res h)
set_option maxRecDepth 100000 in
set_option maxHeartbeats 4000000 in
theorem t_X7_read_b61 {N : Nat} {X : zXT} {sh : List yH} {l : Launch} {rm : Room} : ∀ (n : Nat) (σ : yS) (x3 : Int) (x4 : Int) (x5 : Nat) (x6 : Int) (x7 : Int) (x8 : Int) (x9 : Int) (res : Int × yS), f_X7_read_b61 N n σ x3 x4 x5 x6 x7 x8 x9 = some res → G_X7_read N X sh l rm (61, [(0, .inr (.inl 7, 0)), (3, .inl (.inl x3)), (4, .inl (.inl x4)), (5, .inr (.inl 2, x5)), (6, .inl (.inl x6)), (7, .inl (.inl x7)), (8, .inl (.inl x8)), (9, .inl (.inl x9))], [], σ) (some (.inl (.inl res.1)), res.2) := by
  intro n
  induction n with
  | zero => intro σ x3 x4 x5 x6 x7 x8 x9 res h; exact (yno h).elim
  | succ n ih =>
    intro σ x3 x4 x5 x6 x7 x8 x9 res h
    rw [q_X7_read_b61] at h
    refine yG_n (n := 2) (C' := (65, [(0, .inr (.inl 7, 0)), (3, .inl (.inl x3)), (4, .inl (.inl x4)), (5, .inr (.inl 2, x5)), (6, .inl (.inl x6)), (7, .inl (.inl x7)), (8, .inl (.inl x8)), (9, .inl (.inl x9))], [.inl (.inl x4), .inl (.inl x9)], σ)) rfl ?_
    cases hg1 : ycP .ge x9 x4 with
    | true =>
      rw [hg1] at h
      dsimp only [cond] at h
      refine yG_t (C' := (137, [(0, .inr (.inl 7, 0)), (3, .inl (.inl x3)), (4, .inl (.inl x4)), (5, .inr (.inl 2, x5)), (6, .inl (.inl x6)), (7, .inl (.inl x7)), (8, .inl (.inl x8)), (9, .inl (.inl x9))], [], σ)) rfl hg1 ?_
      exact yG_w [0, 5, 6] rfl (t_X7_read_b137 σ x7 x8 res h)
    | false =>
      rw [hg1] at h
      dsimp only [cond] at h
      refine yG_f (C' := (68, [(0, .inr (.inl 7, 0)), (3, .inl (.inl x3)), (4, .inl (.inl x4)), (5, .inr (.inl 2, x5)), (6, .inl (.inl x6)), (7, .inl (.inl x7)), (8, .inl (.inl x8)), (9, .inl (.inl x9))], [], σ)) rfl hg1 ?_
      refine yG_n (n := 1) (C' := (70, [(0, .inr (.inl 7, 0)), (3, .inl (.inl x3)), (4, .inl (.inl x4)), (5, .inr (.inl 2, x5)), (6, .inl (.inl x6)), (7, .inl (.inl x7)), (8, .inl (.inl x8)), (9, .inl (.inl x9))], [.inl (.inl x7)], σ)) rfl ?_
      cases hg2 : ycP .ne x7 0 with
      | true =>
        rw [hg2] at h
        dsimp only [cond] at h
        refine yG_t (C' := (137, [(0, .inr (.inl 7, 0)), (3, .inl (.inl x3)), (4, .inl (.inl x4)), (5, .inr (.inl 2, x5)), (6, .inl (.inl x6)), (7, .inl (.inl x7)), (8, .inl (.inl x8)), (9, .inl (.inl x9))], [], σ)) rfl hg2 ?_
        exact yG_w [0, 5, 6] rfl (t_X7_read_b137 σ x7 x8 res h)
      | false =>
        rw [hg2] at h
        dsimp only [cond] at h
        refine yG_f (C' := (73, [(0, .inr (.inl 7, 0)), (3, .inl (.inl x3)), (4, .inl (.inl x4)), (5, .inr (.inl 2, x5)), (6, .inl (.inl x6)), (7, .inl (.inl x7)), (8, .inl (.inl x8)), (9, .inl (.inl x9))], [], σ)) rfl hg2 ?_
        refine yG_n (n := 9) (C' := (86, [(10, .inl (.inl (yad x3 (ymu 4 x9)))), (0, .inr (.inl 7, 0)), (3, .inl (.inl x3)), (4, .inl (.inl x4)), (5, .inr (.inl 2, x5)), (6, .inl (.inl x6)), (7, .inl (.inl x7)), (8, .inl (.inl x8)), (9, .inl (.inl x9))], [.inl (.inl 4), .inl (.inl (yad x3 (ymu 4 x9))), .inr (.inl 2, x5)], σ)) rfl ?_
        cases hr3 : f_X2_faultOfCells N σ x5 (yad x3 (ymu 4 x9)) 4 with
        | none => rw [hr3] at h; dsimp only at h; cases h
        | some r5 =>
          rw [hr3] at h
          dsimp only at h
          refine yG_c (C1 := (89, [(10, .inl (.inl (yad x3 (ymu 4 x9)))), (0, .inr (.inl 7, 0)), (3, .inl (.inl x3)), (4, .inl (.inl x4)), (5, .inr (.inl 2, x5)), (6, .inl (.inl x6)), (7, .inl (.inl x7)), (8, .inl (.inl x8)), (9, .inl (.inl x9))], [.inl (.inl r5.1)], r5.2)) rfl (e_X2_faultOfCells hr3) rfl ?_
          refine yG_n (n := 2) (C' := (93, [(7, .inl (.inl r5.1)), (10, .inl (.inl (yad x3 (ymu 4 x9)))), (0, .inr (.inl 7, 0)), (3, .inl (.inl x3)), (4, .inl (.inl x4)), (5, .inr (.inl 2, x5)), (6, .inl (.inl x6)), (8, .inl (.inl x8)), (9, .inl (.inl x9))], [.inl (.inl r5.1)], r5.2)) rfl ?_
          cases hg4 : ycP .ne r5.1 0 with
          | true =>
            rw [hg4] at h
            dsimp only [cond] at h
            refine yG_t (C' := (131, [(7, .inl (.inl r5.1)), (10, .inl (.inl (yad x3 (ymu 4 x9)))), (0, .inr (.inl 7, 0)), (3, .inl (.inl x3)), (4, .inl (.inl x4)), (5, .inr (.inl 2, x5)), (6, .inl (.inl x6)), (8, .inl (.inl x8)), (9, .inl (.inl x9))], [], r5.2)) rfl hg4 ?_
            exact yG_w [2, 3, 4, 5, 6, 0, 7, 8] rfl (t_X7_read_b131 (f_X7_read_b61 N n) ih r5.2 x3 x4 x5 x6 r5.1 x8 x9 res h)
          | false =>
            rw [hg4] at h
            dsimp only [cond] at h
            refine yG_f (C' := (96, [(7, .inl (.inl r5.1)), (10, .inl (.inl (yad x3 (ymu 4 x9)))), (0, .inr (.inl 7, 0)), (3, .inl (.inl x3)), (4, .inl (.inl x4)), (5, .inr (.inl 2, x5)), (6, .inl (.inl x6)), (8, .inl (.inl x8)), (9, .inl (.inl x9))], [], r5.2)) rfl hg4 ?_
            refine yG_n (n := 4) (C' := (104, [(7, .inl (.inl r5.1)), (10, .inl (.inl (yad x3 (ymu 4 x9)))), (0, .inr (.inl 7, 0)), (3, .inl (.inl x3)), (4, .inl (.inl x4)), (5, .inr (.inl 2, x5)), (6, .inl (.inl x6)), (8, .inl (.inl x8)), (9, .inl (.inl x9))], [.inl (.inl (yad x3 (ymu 4 x9))), .inr (.inr (0, 40), x5 + 1), .inr (.inl 7, 0)], r5.2)) rfl ?_
            cases hr5 : f_X7_vowFromCells N r5.2 (x5 + 1) (yad x3 (ymu 4 x9)) with
            | none => rw [hr5] at h; dsimp only at h; cases h
            | some r6 =>
              rw [hr5] at h
              dsimp only at h
              refine yG_c (C1 := (107, [(7, .inl (.inl r5.1)), (10, .inl (.inl (yad x3 (ymu 4 x9)))), (0, .inr (.inl 7, 0)), (3, .inl (.inl x3)), (4, .inl (.inl x4)), (5, .inr (.inl 2, x5)), (6, .inl (.inl x6)), (8, .inl (.inl x8)), (9, .inl (.inl x9))], [.inl (.inl r6.1)], r6.2)) rfl (e_X7_vowFromCells hr5) rfl ?_
              cases hg6 : ycP .ge r6.1 0 with
              | true =>
                rw [hg6] at h
                dsimp only [cond] at h
                refine yG_t (C' := (128, [(7, .inl (.inl r5.1)), (10, .inl (.inl (yad x3 (ymu 4 x9)))), (0, .inr (.inl 7, 0)), (3, .inl (.inl x3)), (4, .inl (.inl x4)), (5, .inr (.inl 2, x5)), (6, .inl (.inl x6)), (8, .inl (.inl x8)), (9, .inl (.inl x9))], [], r6.2)) rfl hg6 ?_
                refine yG_n (n := 1) (C' := (131, [(8, .inl (.inl (yad x8 1))), (7, .inl (.inl r5.1)), (10, .inl (.inl (yad x3 (ymu 4 x9)))), (0, .inr (.inl 7, 0)), (3, .inl (.inl x3)), (4, .inl (.inl x4)), (5, .inr (.inl 2, x5)), (6, .inl (.inl x6)), (9, .inl (.inl x9))], [], r6.2)) rfl ?_
                exact yG_w [3, 4, 5, 6, 7, 1, 0, 8] rfl (t_X7_read_b131 (f_X7_read_b61 N n) ih r6.2 x3 x4 x5 x6 r5.1 (yad x8 1) x9 res h)
              | false =>
                rw [hg6] at h
                dsimp only [cond] at h
                refine yG_f (C' := (110, [(7, .inl (.inl r5.1)), (10, .inl (.inl (yad x3 (ymu 4 x9)))), (0, .inr (.inl 7, 0)), (3, .inl (.inl x3)), (4, .inl (.inl x4)), (5, .inr (.inl 2, x5)), (6, .inl (.inl x6)), (8, .inl (.inl x8)), (9, .inl (.inl x9))], [], r6.2)) rfl hg6 ?_
                refine yG_n (n := 8) (C' := (127, [(7, .inl (.inl r5.1)), (10, .inl (.inl (yad x3 (ymu 4 x9)))), (0, .inr (.inl 7, 0)), (3, .inl (.inl x3)), (4, .inl (.inl x4)), (5, .inr (.inl 2, x5)), (6, .inl (.inl x6)), (8, .inl (.inl x8)), (9, .inl (.inl x9))], [.inl (.inl (ysu ((-20)) x9))], yw r6.2 (r6.2.2 17 11) 0 x6)) rfl ?_
                have h := Option.some.inj h
                subst h
                dsimp only
                exact yG_r rfl rfl
set_option maxRecDepth 100000 in
set_option maxHeartbeats 4000000 in
theorem t_X7_read {N : Nat} {X : zXT} {sh : List yH} {l : Launch} {rm : Room} (σ : yS) (x1 : Int) (x2 : Int) (x3 : Int) (x4 : Int) (res : Int × yS) (h : f_X7_read N σ x1 x2 x3 x4 = some res) : G_X7_read N X sh l rm (0, [(0, .inr (.inl 7, 0)), (1, .inl (.inl x1)), (2, .inl (.inl x2)), (3, .inl (.inl x3)), (4, .inl (.inl x4))], [], σ) (some (.inl (.inl res.1)), res.2) := by
  unfold f_X7_read at h
  refine yG_n (n := 1) (C' := (1, [(0, .inr (.inl 7, 0)), (1, .inl (.inl x1)), (2, .inl (.inl x2)), (3, .inl (.inl x3)), (4, .inl (.inl x4))], [.inl (.inl x1)], σ)) rfl ?_
  cases hr7 : f_X7_isSheet N σ x1 with
  | none => rw [hr7] at h; dsimp only at h; cases h
  | some r1 =>
    rw [hr7] at h
    dsimp only at h
    refine yG_c (C1 := (4, [(0, .inr (.inl 7, 0)), (1, .inl (.inl x1)), (2, .inl (.inl x2)), (3, .inl (.inl x3)), (4, .inl (.inl x4))], [.inl (.inl r1.1)], r1.2)) rfl (e_X7_isSheet hr7) rfl ?_
    cases hg8 : ycP .eq r1.1 0 with
    | true =>
      rw [hg8] at h
      dsimp only [cond] at h
      refine yG_t (C' := (25, [(0, .inr (.inl 7, 0)), (1, .inl (.inl x1)), (2, .inl (.inl x2)), (3, .inl (.inl x3)), (4, .inl (.inl x4))], [], r1.2)) rfl hg8 ?_
      exact yG_w [] rfl (t_X7_read_b25 r1.2 res h)
    | false =>
      rw [hg8] at h
      dsimp only [cond] at h
      refine yG_f (C' := (7, [(0, .inr (.inl 7, 0)), (1, .inl (.inl x1)), (2, .inl (.inl x2)), (3, .inl (.inl x3)), (4, .inl (.inl x4))], [], r1.2)) rfl hg8 ?_
      refine yG_n (n := 1) (C' := (8, [(0, .inr (.inl 7, 0)), (1, .inl (.inl x1)), (2, .inl (.inl x2)), (3, .inl (.inl x3)), (4, .inl (.inl x4))], [.inl (.inl x2)], r1.2)) rfl ?_
      cases hr9 : f_X7_isLane N r1.2 x2 with
      | none => rw [hr9] at h; dsimp only at h; cases h
      | some r2 =>
        rw [hr9] at h
        dsimp only at h
        refine yG_c (C1 := (11, [(0, .inr (.inl 7, 0)), (1, .inl (.inl x1)), (2, .inl (.inl x2)), (3, .inl (.inl x3)), (4, .inl (.inl x4))], [.inl (.inl r2.1)], r2.2)) rfl (e_X7_isLane hr9) rfl ?_
        cases hg10 : ycP .eq r2.1 0 with
        | true =>
          rw [hg10] at h
          dsimp only [cond] at h
          refine yG_t (C' := (25, [(0, .inr (.inl 7, 0)), (1, .inl (.inl x1)), (2, .inl (.inl x2)), (3, .inl (.inl x3)), (4, .inl (.inl x4))], [], r2.2)) rfl hg10 ?_
          exact yG_w [] rfl (t_X7_read_b25 r2.2 res h)
        | false =>
          rw [hg10] at h
          dsimp only [cond] at h
          refine yG_f (C' := (14, [(0, .inr (.inl 7, 0)), (1, .inl (.inl x1)), (2, .inl (.inl x2)), (3, .inl (.inl x3)), (4, .inl (.inl x4))], [], r2.2)) rfl hg10 ?_
          refine yG_n (n := 3) (C' := (19, [(0, .inr (.inl 7, 0)), (1, .inl (.inl x1)), (2, .inl (.inl x2)), (3, .inl (.inl x3)), (4, .inl (.inl x4))], [.inl (.inl 10), .inl (.inl 0), .inl (.inl x4)], r2.2)) rfl ?_
          cases hr11 : f_X7_within N r2.2 x4 0 10 with
          | none => rw [hr11] at h; dsimp only at h; cases h
          | some r3 =>
            rw [hr11] at h
            dsimp only at h
            refine yG_c (C1 := (22, [(0, .inr (.inl 7, 0)), (1, .inl (.inl x1)), (2, .inl (.inl x2)), (3, .inl (.inl x3)), (4, .inl (.inl x4))], [.inl (.inl r3.1)], r3.2)) rfl (e_X7_within hr11) rfl ?_
            cases hg12 : ycP .ne r3.1 0 with
            | true =>
              rw [hg12] at h
              dsimp only [cond] at h
              refine yG_t (C' := (27, [(0, .inr (.inl 7, 0)), (1, .inl (.inl x1)), (2, .inl (.inl x2)), (3, .inl (.inl x3)), (4, .inl (.inl x4))], [], r3.2)) rfl hg12 ?_
              refine yG_n (n := 3) (C' := (32, [(0, .inr (.inl 7, 0)), (1, .inl (.inl x1)), (2, .inl (.inl x2)), (3, .inl (.inl x3)), (4, .inl (.inl x4))], [.inl (.inl x1), .inr (.inr (3, 4), 8)], r3.2)) rfl ?_
              cases hg13 : yin x1 4 with
              | false => rw [hg13] at h; dsimp only [cond] at h; cases h
              | true =>
                rw [hg13] at h
                dsimp only [cond] at h
                refine yG_t (C' := (33, [(0, .inr (.inl 7, 0)), (1, .inl (.inl x1)), (2, .inl (.inl x2)), (3, .inl (.inl x3)), (4, .inl (.inl x4))], [.inr (.inl 2, r3.2.2 8 x1.toNat)], r3.2)) rfl hg13 ?_
                refine yG_n (n := 8) (C' := (50, [(6, .inl (.inl (r3.2.1 (r3.2.2 17 11) 0))), (5, .inr (.inl 2, r3.2.2 8 x1.toNat)), (0, .inr (.inl 7, 0)), (1, .inl (.inl x1)), (2, .inl (.inl x2)), (3, .inl (.inl x3)), (4, .inl (.inl x4))], [.inl (.inl x2), .inr (.inl 2, r3.2.2 8 x1.toNat)], r3.2)) rfl ?_
                cases hr14 : f_X2_faultOfLane N r3.2 (r3.2.2 8 x1.toNat) x2 with
                | none => rw [hr14] at h; dsimp only at h; cases h
                | some r4 =>
                  rw [hr14] at h
                  dsimp only at h
                  refine yG_c (C1 := (53, [(6, .inl (.inl (r3.2.1 (r3.2.2 17 11) 0))), (5, .inr (.inl 2, r3.2.2 8 x1.toNat)), (0, .inr (.inl 7, 0)), (1, .inl (.inl x1)), (2, .inl (.inl x2)), (3, .inl (.inl x3)), (4, .inl (.inl x4))], [.inl (.inl r4.1)], r4.2)) rfl (e_X2_faultOfLane hr14) rfl ?_
                  refine yG_n (n := 5) (C' := (61, [(9, .inl (.inl 0)), (8, .inl (.inl 0)), (7, .inl (.inl r4.1)), (6, .inl (.inl (r3.2.1 (r3.2.2 17 11) 0))), (5, .inr (.inl 2, r3.2.2 8 x1.toNat)), (0, .inr (.inl 7, 0)), (1, .inl (.inl x1)), (2, .inl (.inl x2)), (3, .inl (.inl x3)), (4, .inl (.inl x4))], [], r4.2)) rfl ?_
                  exact yG_w [5, 8, 9, 4, 3, 2, 1, 0] rfl (t_X7_read_b61 N r4.2 x3 x4 (r3.2.2 8 x1.toNat) (r3.2.1 (r3.2.2 17 11) 0) r4.1 0 0 res h)
            | false =>
              rw [hg12] at h
              dsimp only [cond] at h
              refine yG_f (C' := (25, [(0, .inr (.inl 7, 0)), (1, .inl (.inl x1)), (2, .inl (.inl x2)), (3, .inl (.inl x3)), (4, .inl (.inl x4))], [], r3.2)) rfl hg12 ?_
              exact yG_w [] rfl (t_X7_read_b25 r3.2 res h)
set_option maxRecDepth 100000 in
set_option maxHeartbeats 4000000 in
theorem m_X7_read {N : Nat} {X : zXT} (hX : zXok X) (hN : zXn X) (l : Launch) {sh : List yH} : yMet X vwCl yct sh l yX7_read wsX7_read { frames := 5, cells := 0, slots := 0, locals := 153 } (F_X7_read N) :=
  ymeth (tb := tb_X7_read N) (pr := pr_X7_read) (rt := 1) (own := RX7) hX (by decide +kernel) rfl rfl ⟨Nat.le_of_ble_eq_true rfl, Nat.le_of_ble_eq_true rfl⟩
    (zfl_all (List.forall_mem_cons.mpr ⟨zfl_X7 (fun w h => List.mem_cons_of_mem _ (List.mem_append_left _ (List.mem_append_left _ (List.mem_append_left _ (List.mem_append_right _ h))))) (List.mem_of_getElem? (i := 2) rfl) (by decide) (by decide), List.forall_mem_cons.mpr ⟨zfl_X7 (fun w h => List.mem_cons_of_mem _ (List.mem_append_left _ (List.mem_append_left _ (List.mem_append_left _ (List.mem_append_right _ h))))) (List.mem_of_getElem? (i := 1) rfl) (by decide) (by decide), List.forall_mem_cons.mpr ⟨zfl_X4 (fun w h => List.mem_cons_of_mem _ (List.mem_append_left _ (List.mem_append_left _ (List.mem_append_right _ h)))) (List.mem_of_getElem? (i := 3) rfl) (by decide) (by decide), List.forall_mem_cons.mpr ⟨zfl_X5 (fun w h => List.mem_cons_of_mem _ (List.mem_append_left _ (List.mem_append_right _ h))) (List.mem_of_getElem? (i := 4) rfl) (by decide) (by decide), List.forall_mem_cons.mpr ⟨zfl_X2 (fun w h => List.mem_cons_of_mem _ (List.mem_append_right _ h)) (List.mem_of_getElem? (i := 5) rfl) (by decide) (by decide), List.forall_mem_cons.mpr ⟨zfl_X7 (fun w h => List.mem_cons_of_mem _ (List.mem_append_left _ (List.mem_append_left _ (List.mem_append_left _ (List.mem_append_right _ h))))) (List.mem_of_getElem? (i := 6) rfl) (by decide) (by decide), fun _ h => absurd h List.not_mem_nil⟩⟩⟩⟩⟩⟩))
    (zco_all (fun _ h => absurd h List.not_mem_nil)) (zlc_all (fun _ h => absurd h List.not_mem_nil))
    (List.forall_mem_cons.mpr ⟨ycal_V hX (m_X2_faultOfCells hX hN l) rfl (fun s args hts => cwV 2 hts gX7_read_X2_faultOfCells rfl rfl rfl (by decide +kernel) ⟨Nat.le_of_ble_eq_true rfl, Nat.le_of_ble_eq_true rfl⟩), List.forall_mem_cons.mpr ⟨ycal_V hX (m_X2_faultOfLane hX hN l) rfl (fun s args hts => cwV 1 hts gX7_read_X2_faultOfLane rfl rfl rfl (by decide +kernel) ⟨Nat.le_of_ble_eq_true rfl, Nat.le_of_ble_eq_true rfl⟩), List.forall_mem_cons.mpr ⟨ycal_V hX (m_X7_vowFromCells hX hN l) rfl (fun s args hts => cwV 2 hts gX7_read_X7_vowFromCells rfl rfl rfl (by decide +kernel) ⟨Nat.le_of_ble_eq_true rfl, Nat.le_of_ble_eq_true rfl⟩), fun _ h => absurd h List.not_mem_nil⟩⟩⟩)
    (List.forall_mem_cons.mpr ⟨ycal_S hX (m_X7_within hX hN l) (fun s args hts => va_cwS 3 hts gX7_read_X7_within rfl rfl rfl (by decide +kernel) ⟨Nat.le_of_ble_eq_true rfl, Nat.le_of_ble_eq_true rfl⟩), List.forall_mem_cons.mpr ⟨ycal_S hX (m_X7_isSheet hX hN l) (fun s args hts => va_cwS 1 hts gX7_read_X7_isSheet rfl rfl rfl (by decide +kernel) ⟨Nat.le_of_ble_eq_true rfl, Nat.le_of_ble_eq_true rfl⟩), List.forall_mem_cons.mpr ⟨ycal_S hX (m_X7_isLane hX hN l) (fun s args hts => va_cwS 1 hts gX7_read_X7_isLane rfl rfl rfl (by decide +kernel) ⟨Nat.le_of_ble_eq_true rfl, Nat.le_of_ble_eq_true rfl⟩), fun _ h => absurd h List.not_mem_nil⟩⟩⟩)
    (zmm_all (fun _ h => absurd h List.not_mem_nil)) (fun _ h => absurd h List.not_mem_nil) (zpr_all hp_X7_read) (fun as σ res h => by
      unfold F_X7_read at h
      split at h
      · rename_i x1 x2 x3 x4
        cases hr : f_X7_read N σ x1 x2 x3 x4 with
        | none => rw [hr] at h; cases h
        | some r =>
          rw [hr] at h
          cases h
          exact ⟨Nat.le_of_ble_eq_true rfl, t_X7_read σ x1 x2 x3 x4 r hr⟩
      · cases h)
noncomputable def pr_X7_rest : List (Nat × Instr × Nat) := [(0, .aload_n 0, 1), (1, .getfield 16, 3), (4, .aload_n 0, 1), (5, .getfield 10, 3), (8, .invokevirtual 73, 3), (11, .iconst 0, 1), (12, .istore_n 1, 1), (13, .iload_n 1, 1), (14, .bipush 60, 2), (16, .if_icmp .gt 32, 3), (19, .aload_n 0, 1), (20, .getfield 16, 3), (23, .getfield 92, 3), (26, .getfield 96, 3), (29, .ifCond .ne 5, 3), (32, .iload_n 1, 1), (33, .ireturn, 1), (34, .aload_n 0, 1), (35, .getfield 16, 3), (38, .invokevirtual 203, 3), (41, .pop, 1), (42, .iinc 1 1, 3), (45, .goto (-32), 3), (48, .bipush (-4), 2), (50, .ireturn, 1)]
set_option maxRecDepth 100000 in
theorem hp_X7_rest : pr_X7_rest.all (fun x => decide (decode cX7_rest x.1 = .ok x.2)) = true := by decide +kernel
noncomputable def f_X7_rest_b13 (N : Nat) : Nat → yS → Int → Option (Int × yS) := yfix (fun _ _ => none) (fun ih σ x1 =>
    bif ycP .gt x1 60 then
      some ((-4), σ)
    else
      bif ycP .ne (σ.1 (σ.2 38 11) 0) 0 then
        match f_X4_passDay N σ 38 with
        | none => none
        | some r2 => ih r2.2 (yad x1 1)
      else
        some (x1, σ))
theorem q_X7_rest_b13 (N : Nat) (n : Nat) (σ : yS) (x1 : Int) : f_X7_rest_b13 N (n + 1) σ x1 =
    (bif ycP .gt x1 60 then
      some ((-4), σ)
    else
      bif ycP .ne (σ.1 (σ.2 38 11) 0) 0 then
        match f_X4_passDay N σ 38 with
        | none => none
        | some r2 => (f_X7_rest_b13 N n) r2.2 (yad x1 1)
      else
        some (x1, σ)) := rfl
noncomputable def f_X7_rest (N : Nat) (σ : yS) : Option (Int × yS) :=
  match f_X4_copyFrom N σ 38 17 with
  | none => none
  | some r1 => f_X7_rest_b13 N N r1.2 0
noncomputable def F_X7_rest (N : Nat) : yF := fun as σ => match as with
  | [.inr (.inl 7, 0)] => (f_X7_rest N σ).map (fun r => (some (.inl (.inl r.1)), r.2))
  | _ => none
theorem e_X7_rest {N : Nat} {σ : yS} {r : Int × yS} (h : f_X7_rest N σ = some r) : F_X7_rest N [.inr (.inl 7, 0)] σ = some (some (.inl (.inl r.1)), r.2) := by
  show (f_X7_rest N σ).map (fun r => ((some (.inl (.inl r.1)), r.2) : yR)) = _
  rw [h]
  rfl
noncomputable def tb_X7_rest (N : Nat) : yTb := ([(10, 7, 0, 3), (16, 7, 1, 3), (92, 4, 11, 2), (96, 5, 0, 0)], [], [], [(73, 2, 4, F_X4_copyFrom N), (203, 1, 4, F_X4_passDay N)], [], [], [])
abbrev G_X7_rest (N : Nat) (X : zXT) (sh : List yH) (l : Launch) (rm : Room) : yC → yR → Prop := yGoes X vwCl yct sh l rm cX7_rest 2 wsX7_rest RX7 (tb_X7_rest N) pr_X7_rest 1
set_option maxRecDepth 100000 in
set_option maxHeartbeats 4000000 in
theorem t_X7_rest_b13 {N : Nat} {X : zXT} {sh : List yH} {l : Launch} {rm : Room} : ∀ (n : Nat) (σ : yS) (x1 : Int) (res : Int × yS), f_X7_rest_b13 N n σ x1 = some res → G_X7_rest N X sh l rm (13, [(0, .inr (.inl 7, 0)), (1, .inl (.inl x1))], [], σ) (some (.inl (.inl res.1)), res.2) := by
  intro n
  induction n with
  | zero => intro σ x1 res h; exact (yno h).elim
  | succ n ih =>
    intro σ x1 res h
    rw [q_X7_rest_b13] at h
    refine yG_n (n := 2) (C' := (16, [(0, .inr (.inl 7, 0)), (1, .inl (.inl x1))], [.inl (.inl 60), .inl (.inl x1)], σ)) rfl ?_
    cases hg1 : ycP .gt x1 60 with
    | true =>
      rw [hg1] at h
      dsimp only [cond] at h
      refine yG_t (C' := (48, [(0, .inr (.inl 7, 0)), (1, .inl (.inl x1))], [], σ)) rfl hg1 ?_
      refine yG_n (n := 1) (C' := (50, [(0, .inr (.inl 7, 0)), (1, .inl (.inl x1))], [.inl (.inl ((-4)))], σ)) rfl ?_
      have h := Option.some.inj h
      subst h
      dsimp only
      exact yG_r rfl rfl
    | false =>
      rw [hg1] at h
      dsimp only [cond] at h
      refine yG_f (C' := (19, [(0, .inr (.inl 7, 0)), (1, .inl (.inl x1))], [], σ)) rfl hg1 ?_
      refine yG_n (n := 4) (C' := (29, [(0, .inr (.inl 7, 0)), (1, .inl (.inl x1))], [.inl (.inl (σ.1 (σ.2 38 11) 0))], σ)) rfl ?_
      cases hg2 : ycP .ne (σ.1 (σ.2 38 11) 0) 0 with
      | true =>
        rw [hg2] at h
        dsimp only [cond] at h
        refine yG_t (C' := (34, [(0, .inr (.inl 7, 0)), (1, .inl (.inl x1))], [], σ)) rfl hg2 ?_
        refine yG_n (n := 2) (C' := (38, [(0, .inr (.inl 7, 0)), (1, .inl (.inl x1))], [.inr (.inl 4, 38)], σ)) rfl ?_
        cases hr3 : f_X4_passDay N σ 38 with
        | none => rw [hr3] at h; dsimp only at h; cases h
        | some r2 =>
          rw [hr3] at h
          dsimp only at h
          refine yG_c (C1 := (41, [(0, .inr (.inl 7, 0)), (1, .inl (.inl x1))], [.inl (.inl r2.1)], r2.2)) rfl (e_X4_passDay hr3) rfl ?_
          refine yG_n (n := 3) (C' := (13, [(1, .inl (.inl (yad x1 1))), (0, .inr (.inl 7, 0))], [], r2.2)) rfl ?_
          exact yG_w [1, 0] rfl (ih r2.2 (yad x1 1) res h)
      | false =>
        rw [hg2] at h
        dsimp only [cond] at h
        refine yG_f (C' := (32, [(0, .inr (.inl 7, 0)), (1, .inl (.inl x1))], [], σ)) rfl hg2 ?_
        refine yG_n (n := 1) (C' := (33, [(0, .inr (.inl 7, 0)), (1, .inl (.inl x1))], [.inl (.inl x1)], σ)) rfl ?_
        have h := Option.some.inj h
        subst h
        dsimp only
        exact yG_r rfl rfl
set_option maxRecDepth 100000 in
set_option maxHeartbeats 4000000 in
theorem t_X7_rest {N : Nat} {X : zXT} {sh : List yH} {l : Launch} {rm : Room} (σ : yS) (res : Int × yS) (h : f_X7_rest N σ = some res) : G_X7_rest N X sh l rm (0, [(0, .inr (.inl 7, 0))], [], σ) (some (.inl (.inl res.1)), res.2) := by
  unfold f_X7_rest at h
  refine yG_n (n := 4) (C' := (8, [(0, .inr (.inl 7, 0))], [.inr (.inl 4, 17), .inr (.inl 4, 38)], σ)) rfl ?_
  cases hr4 : f_X4_copyFrom N σ 38 17 with
  | none => rw [hr4] at h; dsimp only at h; cases h
  | some r1 =>
    rw [hr4] at h
    dsimp only at h
    refine yG_c (C1 := (11, [(0, .inr (.inl 7, 0))], [], r1.2)) rfl (e_X4_copyFrom hr4) rfl ?_
    refine yG_n (n := 2) (C' := (13, [(1, .inl (.inl 0)), (0, .inr (.inl 7, 0))], [], r1.2)) rfl ?_
    exact yG_w [1, 0] rfl (t_X7_rest_b13 N r1.2 0 res h)
set_option maxRecDepth 100000 in
set_option maxHeartbeats 4000000 in
theorem m_X7_rest {N : Nat} {X : zXT} (hX : zXok X) (hN : zXn X) (l : Launch) {sh : List yH} : yMet X vwCl yct sh l yX7_rest wsX7_rest { frames := 5, cells := 0, slots := 0, locals := 158 } (F_X7_rest N) :=
  ymeth (tb := tb_X7_rest N) (pr := pr_X7_rest) (rt := 1) (own := RX7) hX (by decide +kernel) rfl rfl ⟨Nat.le_of_ble_eq_true rfl, Nat.le_of_ble_eq_true rfl⟩
    (zfl_all (List.forall_mem_cons.mpr ⟨zfl_X7 (fun w h => List.mem_cons_of_mem _ (List.mem_append_left _ (List.mem_append_left _ (List.mem_append_left _ (List.mem_append_right _ h))))) (List.mem_of_getElem? (i := 2) rfl) (by decide) (by decide), List.forall_mem_cons.mpr ⟨zfl_X7 (fun w h => List.mem_cons_of_mem _ (List.mem_append_left _ (List.mem_append_left _ (List.mem_append_left _ (List.mem_append_right _ h))))) (List.mem_of_getElem? (i := 1) rfl) (by decide) (by decide), List.forall_mem_cons.mpr ⟨zfl_X4 (fun w h => List.mem_cons_of_mem _ (List.mem_append_left _ (List.mem_append_left _ (List.mem_append_right _ h)))) (List.mem_of_getElem? (i := 3) rfl) (by decide) (by decide), List.forall_mem_cons.mpr ⟨zfl_X5 (fun w h => List.mem_cons_of_mem _ (List.mem_append_left _ (List.mem_append_right _ h))) (List.mem_of_getElem? (i := 4) rfl) (by decide) (by decide), fun _ h => absurd h List.not_mem_nil⟩⟩⟩⟩))
    (zco_all (fun _ h => absurd h List.not_mem_nil)) (zlc_all (fun _ h => absurd h List.not_mem_nil))
    (List.forall_mem_cons.mpr ⟨ycal_V hX (m_X4_copyFrom hX hN l) rfl (fun s args hts => cwV 1 hts gX7_rest_X4_copyFrom rfl rfl rfl (by decide +kernel) ⟨Nat.le_of_ble_eq_true rfl, Nat.le_of_ble_eq_true rfl⟩), List.forall_mem_cons.mpr ⟨ycal_V hX (m_X4_passDay hX hN l) rfl (fun s args hts => cwV 0 hts gX7_rest_X4_passDay rfl rfl rfl (by decide +kernel) ⟨Nat.le_of_ble_eq_true rfl, Nat.le_of_ble_eq_true rfl⟩), fun _ h => absurd h List.not_mem_nil⟩⟩)
    (fun _ h => absurd h List.not_mem_nil)
    (zmm_all (fun _ h => absurd h List.not_mem_nil)) (fun _ h => absurd h List.not_mem_nil) (zpr_all hp_X7_rest) (fun as σ res h => by
      unfold F_X7_rest at h
      split at h
      · cases hr : f_X7_rest N σ with
        | none => rw [hr] at h; cases h
        | some r =>
          rw [hr] at h
          cases h
          exact ⟨Nat.le_of_ble_eq_true rfl, t_X7_rest σ r hr⟩
      · cases h)
noncomputable def pr_X7_rule : List (Nat × Instr × Nat) := [(0, .iload_n 1, 1), (1, .tableswitch 137 0 8 #[51, 59, 75, 83, 94, 105, 113, 121, 129], 51), (52, .aload_n 0, 1), (53, .getfield 10, 3), (56, .getfield 82, 3), (59, .ireturn, 1), (60, .aload_n 0, 1), (61, .getfield 10, 3), (64, .getfield 85, 3), (67, .ifCond .eq 7, 3), (70, .iconst 1, 1), (71, .goto 4, 3), (74, .iconst 0, 1), (75, .ireturn, 1), (76, .aload_n 0, 1), (77, .getfield 10, 3), (80, .getfield 89, 3), (83, .ireturn, 1), (84, .aload_n 0, 1), (85, .getfield 10, 3), (88, .getfield 92, 3), (91, .getfield 96, 3), (94, .ireturn, 1), (95, .aload_n 0, 1), (96, .getfield 10, 3), (99, .getfield 99, 3), (102, .getfield 103, 3), (105, .ireturn, 1), (106, .aload_n 0, 1), (107, .getfield 10, 3), (110, .getfield 106, 3), (113, .ireturn, 1), (114, .aload_n 0, 1), (115, .getfield 10, 3), (118, .getfield 109, 3), (121, .ireturn, 1), (122, .aload_n 0, 1), (123, .getfield 10, 3), (126, .getfield 112, 3), (129, .ireturn, 1), (130, .aload_n 0, 1), (131, .getfield 10, 3), (134, .getfield 115, 3), (137, .ireturn, 1), (138, .iconst (-1), 1), (139, .ireturn, 1)]
set_option maxRecDepth 100000 in
theorem hp_X7_rule : pr_X7_rule.all (fun x => decide (decode cX7_rule x.1 = .ok x.2)) = true := by decide +kernel
noncomputable def f_X7_rule_b75 (N : Nat) (σ : yS) (s0 : Int) : Option (Int × yS) :=
  some (s0, σ)
noncomputable def f_X7_rule (N : Nat) (σ : yS) (x1 : Int) : Option (Int × yS) :=
  bif zle x1 0 && zle 0 x1 then
    some (σ.1 17 0, σ)
  else
    bif zle x1 1 && zle 1 x1 then
    bif ycP .eq (σ.1 17 1) 0 then
      f_X7_rule_b75 N σ 0
    else
      f_X7_rule_b75 N σ 1
  else
    bif zle x1 2 && zle 2 x1 then
    some (σ.1 17 2, σ)
  else
    bif zle x1 3 && zle 3 x1 then
    some (σ.1 (σ.2 17 11) 0, σ)
  else
    bif zle x1 4 && zle 4 x1 then
    some (σ.1 35 0, σ)
  else
    bif zle x1 5 && zle 5 x1 then
    some (σ.1 17 14, σ)
  else
    bif zle x1 6 && zle 6 x1 then
    some (σ.1 17 15, σ)
  else
    bif zle x1 7 && zle 7 x1 then
    some (σ.1 17 16, σ)
  else
    bif zle x1 8 && zle 8 x1 then
    some (σ.1 17 17, σ)
  else
    some ((-1), σ)
noncomputable def F_X7_rule (N : Nat) : yF := fun as σ => match as with
  | [.inr (.inl 7, 0), .inl (.inl x1)] => (f_X7_rule N σ x1).map (fun r => (some (.inl (.inl r.1)), r.2))
  | _ => none
theorem e_X7_rule {N : Nat} {σ : yS} {x1 : Int} {r : Int × yS} (h : f_X7_rule N σ x1 = some r) : F_X7_rule N [.inr (.inl 7, 0), .inl (.inl x1)] σ = some (some (.inl (.inl r.1)), r.2) := by
  show (f_X7_rule N σ x1).map (fun r => ((some (.inl (.inl r.1)), r.2) : yR)) = _
  rw [h]
  rfl
noncomputable def tb_X7_rule (N : Nat) : yTb := ([(10, 7, 0, 3), (82, 4, 0, 0), (85, 4, 1, 1), (89, 4, 2, 0), (92, 4, 11, 2), (96, 5, 0, 0), (99, 4, 13, 3), (103, 6, 0, 0), (106, 4, 14, 0), (109, 4, 15, 0), (112, 4, 16, 0), (115, 4, 17, 0)], [], [], [], [], [], [])
abbrev G_X7_rule (N : Nat) (X : zXT) (sh : List yH) (l : Launch) (rm : Room) : yC → yR → Prop := yGoes X vwCl yct sh l rm cX7_rule 2 wsX7_rule RX7 (tb_X7_rule N) pr_X7_rule 1
set_option maxRecDepth 100000 in
set_option maxHeartbeats 4000000 in
theorem t_X7_rule_b75 {N : Nat} {X : zXT} {sh : List yH} {l : Launch} {rm : Room} (σ : yS) (s0 : Int) (res : Int × yS) (h : f_X7_rule_b75 N σ s0 = some res) : G_X7_rule N X sh l rm (75, [], [.inl (.inl s0)], σ) (some (.inl (.inl res.1)), res.2) := by
  unfold f_X7_rule_b75 at h
  have h := Option.some.inj h
  subst h
  dsimp only
  exact yG_r rfl rfl
set_option maxRecDepth 100000 in
set_option maxHeartbeats 4000000 in
theorem t_X7_rule {N : Nat} {X : zXT} {sh : List yH} {l : Launch} {rm : Room} (σ : yS) (x1 : Int) (res : Int × yS) (h : f_X7_rule N σ x1 = some res) : G_X7_rule N X sh l rm (0, [(0, .inr (.inl 7, 0)), (1, .inl (.inl x1))], [], σ) (some (.inl (.inl res.1)), res.2) := by
  unfold f_X7_rule at h
  refine yG_n (n := 1) (C' := (1, [(0, .inr (.inl 7, 0)), (1, .inl (.inl x1))], [.inl (.inl x1)], σ)) rfl ?_
  refine yG_n (n := 1) (C' := ((bif zle x1 0 && zle 0 x1 then 52 else (bif zle x1 1 && zle 1 x1 then 60 else (bif zle x1 2 && zle 2 x1 then 76 else (bif zle x1 3 && zle 3 x1 then 84 else (bif zle x1 4 && zle 4 x1 then 95 else (bif zle x1 5 && zle 5 x1 then 106 else (bif zle x1 6 && zle 6 x1 then 114 else (bif zle x1 7 && zle 7 x1 then 122 else (bif zle x1 8 && zle 8 x1 then 130 else 138))))))))), [(0, .inr (.inl 7, 0)), (1, .inl (.inl x1))], [], σ)) rfl ?_
  cases hg1 : (zle x1 0 && zle 0 x1) with
  | true =>
    rw [hg1] at h
    dsimp only [cond] at h
    show G_X7_rule N X sh l rm (52, [(0, .inr (.inl 7, 0)), (1, .inl (.inl x1))], [], σ) ((some (.inl (.inl res.1)), res.2))
    refine yG_n (n := 3) (C' := (59, [(0, .inr (.inl 7, 0)), (1, .inl (.inl x1))], [.inl (.inl (σ.1 17 0))], σ)) rfl ?_
    have h := Option.some.inj h
    subst h
    dsimp only
    exact yG_r rfl rfl
  | false =>
    rw [hg1] at h
    dsimp only [cond] at h
    show G_X7_rule N X sh l rm ((bif zle x1 1 && zle 1 x1 then 60 else (bif zle x1 2 && zle 2 x1 then 76 else (bif zle x1 3 && zle 3 x1 then 84 else (bif zle x1 4 && zle 4 x1 then 95 else (bif zle x1 5 && zle 5 x1 then 106 else (bif zle x1 6 && zle 6 x1 then 114 else (bif zle x1 7 && zle 7 x1 then 122 else (bif zle x1 8 && zle 8 x1 then 130 else 138)))))))), [(0, .inr (.inl 7, 0)), (1, .inl (.inl x1))], [], σ) (some (.inl (.inl res.1)), res.2)
    cases hg2 : (zle x1 1 && zle 1 x1) with
    | true =>
      rw [hg2] at h
      dsimp only [cond] at h
      show G_X7_rule N X sh l rm (60, [(0, .inr (.inl 7, 0)), (1, .inl (.inl x1))], [], σ) ((some (.inl (.inl res.1)), res.2))
      refine yG_n (n := 3) (C' := (67, [(0, .inr (.inl 7, 0)), (1, .inl (.inl x1))], [.inl (.inl (σ.1 17 1))], σ)) rfl ?_
      cases hg3 : ycP .eq (σ.1 17 1) 0 with
      | true =>
        rw [hg3] at h
        dsimp only [cond] at h
        refine yG_t (C' := (74, [(0, .inr (.inl 7, 0)), (1, .inl (.inl x1))], [], σ)) rfl hg3 ?_
        refine yG_n (n := 1) (C' := (75, [(0, .inr (.inl 7, 0)), (1, .inl (.inl x1))], [.inl (.inl 0)], σ)) rfl ?_
        exact yG_w [] rfl (t_X7_rule_b75 σ 0 res h)
      | false =>
        rw [hg3] at h
        dsimp only [cond] at h
        refine yG_f (C' := (70, [(0, .inr (.inl 7, 0)), (1, .inl (.inl x1))], [], σ)) rfl hg3 ?_
        refine yG_n (n := 2) (C' := (75, [(0, .inr (.inl 7, 0)), (1, .inl (.inl x1))], [.inl (.inl 1)], σ)) rfl ?_
        exact yG_w [] rfl (t_X7_rule_b75 σ 1 res h)
    | false =>
      rw [hg2] at h
      dsimp only [cond] at h
      show G_X7_rule N X sh l rm ((bif zle x1 2 && zle 2 x1 then 76 else (bif zle x1 3 && zle 3 x1 then 84 else (bif zle x1 4 && zle 4 x1 then 95 else (bif zle x1 5 && zle 5 x1 then 106 else (bif zle x1 6 && zle 6 x1 then 114 else (bif zle x1 7 && zle 7 x1 then 122 else (bif zle x1 8 && zle 8 x1 then 130 else 138))))))), [(0, .inr (.inl 7, 0)), (1, .inl (.inl x1))], [], σ) (some (.inl (.inl res.1)), res.2)
      cases hg4 : (zle x1 2 && zle 2 x1) with
      | true =>
        rw [hg4] at h
        dsimp only [cond] at h
        show G_X7_rule N X sh l rm (76, [(0, .inr (.inl 7, 0)), (1, .inl (.inl x1))], [], σ) ((some (.inl (.inl res.1)), res.2))
        refine yG_n (n := 3) (C' := (83, [(0, .inr (.inl 7, 0)), (1, .inl (.inl x1))], [.inl (.inl (σ.1 17 2))], σ)) rfl ?_
        have h := Option.some.inj h
        subst h
        dsimp only
        exact yG_r rfl rfl
      | false =>
        rw [hg4] at h
        dsimp only [cond] at h
        show G_X7_rule N X sh l rm ((bif zle x1 3 && zle 3 x1 then 84 else (bif zle x1 4 && zle 4 x1 then 95 else (bif zle x1 5 && zle 5 x1 then 106 else (bif zle x1 6 && zle 6 x1 then 114 else (bif zle x1 7 && zle 7 x1 then 122 else (bif zle x1 8 && zle 8 x1 then 130 else 138)))))), [(0, .inr (.inl 7, 0)), (1, .inl (.inl x1))], [], σ) (some (.inl (.inl res.1)), res.2)
        cases hg5 : (zle x1 3 && zle 3 x1) with
        | true =>
          rw [hg5] at h
          dsimp only [cond] at h
          show G_X7_rule N X sh l rm (84, [(0, .inr (.inl 7, 0)), (1, .inl (.inl x1))], [], σ) ((some (.inl (.inl res.1)), res.2))
          refine yG_n (n := 4) (C' := (94, [(0, .inr (.inl 7, 0)), (1, .inl (.inl x1))], [.inl (.inl (σ.1 (σ.2 17 11) 0))], σ)) rfl ?_
          have h := Option.some.inj h
          subst h
          dsimp only
          exact yG_r rfl rfl
        | false =>
          rw [hg5] at h
          dsimp only [cond] at h
          show G_X7_rule N X sh l rm ((bif zle x1 4 && zle 4 x1 then 95 else (bif zle x1 5 && zle 5 x1 then 106 else (bif zle x1 6 && zle 6 x1 then 114 else (bif zle x1 7 && zle 7 x1 then 122 else (bif zle x1 8 && zle 8 x1 then 130 else 138))))), [(0, .inr (.inl 7, 0)), (1, .inl (.inl x1))], [], σ) (some (.inl (.inl res.1)), res.2)
          cases hg6 : (zle x1 4 && zle 4 x1) with
          | true =>
            rw [hg6] at h
            dsimp only [cond] at h
            show G_X7_rule N X sh l rm (95, [(0, .inr (.inl 7, 0)), (1, .inl (.inl x1))], [], σ) ((some (.inl (.inl res.1)), res.2))
            refine yG_n (n := 4) (C' := (105, [(0, .inr (.inl 7, 0)), (1, .inl (.inl x1))], [.inl (.inl (σ.1 35 0))], σ)) rfl ?_
            have h := Option.some.inj h
            subst h
            dsimp only
            exact yG_r rfl rfl
          | false =>
            rw [hg6] at h
            dsimp only [cond] at h
            show G_X7_rule N X sh l rm ((bif zle x1 5 && zle 5 x1 then 106 else (bif zle x1 6 && zle 6 x1 then 114 else (bif zle x1 7 && zle 7 x1 then 122 else (bif zle x1 8 && zle 8 x1 then 130 else 138)))), [(0, .inr (.inl 7, 0)), (1, .inl (.inl x1))], [], σ) (some (.inl (.inl res.1)), res.2)
            cases hg7 : (zle x1 5 && zle 5 x1) with
            | true =>
              rw [hg7] at h
              dsimp only [cond] at h
              show G_X7_rule N X sh l rm (106, [(0, .inr (.inl 7, 0)), (1, .inl (.inl x1))], [], σ) ((some (.inl (.inl res.1)), res.2))
              refine yG_n (n := 3) (C' := (113, [(0, .inr (.inl 7, 0)), (1, .inl (.inl x1))], [.inl (.inl (σ.1 17 14))], σ)) rfl ?_
              have h := Option.some.inj h
              subst h
              dsimp only
              exact yG_r rfl rfl
            | false =>
              rw [hg7] at h
              dsimp only [cond] at h
              show G_X7_rule N X sh l rm ((bif zle x1 6 && zle 6 x1 then 114 else (bif zle x1 7 && zle 7 x1 then 122 else (bif zle x1 8 && zle 8 x1 then 130 else 138))), [(0, .inr (.inl 7, 0)), (1, .inl (.inl x1))], [], σ) (some (.inl (.inl res.1)), res.2)
              cases hg8 : (zle x1 6 && zle 6 x1) with
              | true =>
                rw [hg8] at h
                dsimp only [cond] at h
                show G_X7_rule N X sh l rm (114, [(0, .inr (.inl 7, 0)), (1, .inl (.inl x1))], [], σ) ((some (.inl (.inl res.1)), res.2))
                refine yG_n (n := 3) (C' := (121, [(0, .inr (.inl 7, 0)), (1, .inl (.inl x1))], [.inl (.inl (σ.1 17 15))], σ)) rfl ?_
                have h := Option.some.inj h
                subst h
                dsimp only
                exact yG_r rfl rfl
              | false =>
                rw [hg8] at h
                dsimp only [cond] at h
                show G_X7_rule N X sh l rm ((bif zle x1 7 && zle 7 x1 then 122 else (bif zle x1 8 && zle 8 x1 then 130 else 138)), [(0, .inr (.inl 7, 0)), (1, .inl (.inl x1))], [], σ) (some (.inl (.inl res.1)), res.2)
                cases hg9 : (zle x1 7 && zle 7 x1) with
                | true =>
                  rw [hg9] at h
                  dsimp only [cond] at h
                  show G_X7_rule N X sh l rm (122, [(0, .inr (.inl 7, 0)), (1, .inl (.inl x1))], [], σ) ((some (.inl (.inl res.1)), res.2))
                  refine yG_n (n := 3) (C' := (129, [(0, .inr (.inl 7, 0)), (1, .inl (.inl x1))], [.inl (.inl (σ.1 17 16))], σ)) rfl ?_
                  have h := Option.some.inj h
                  subst h
                  dsimp only
                  exact yG_r rfl rfl
                | false =>
                  rw [hg9] at h
                  dsimp only [cond] at h
                  show G_X7_rule N X sh l rm ((bif zle x1 8 && zle 8 x1 then 130 else 138), [(0, .inr (.inl 7, 0)), (1, .inl (.inl x1))], [], σ) (some (.inl (.inl res.1)), res.2)
                  cases hg10 : (zle x1 8 && zle 8 x1) with
                  | true =>
                    rw [hg10] at h
                    dsimp only [cond] at h
                    show G_X7_rule N X sh l rm (130, [(0, .inr (.inl 7, 0)), (1, .inl (.inl x1))], [], σ) ((some (.inl (.inl res.1)), res.2))
                    refine yG_n (n := 3) (C' := (137, [(0, .inr (.inl 7, 0)), (1, .inl (.inl x1))], [.inl (.inl (σ.1 17 17))], σ)) rfl ?_
                    have h := Option.some.inj h
                    subst h
                    dsimp only
                    exact yG_r rfl rfl
                  | false =>
                    rw [hg10] at h
                    dsimp only [cond] at h
                    show G_X7_rule N X sh l rm (138, [(0, .inr (.inl 7, 0)), (1, .inl (.inl x1))], [], σ) (some (.inl (.inl res.1)), res.2)
                    refine yG_n (n := 1) (C' := (139, [(0, .inr (.inl 7, 0)), (1, .inl (.inl x1))], [.inl (.inl ((-1)))], σ)) rfl ?_
                    have h := Option.some.inj h
                    subst h
                    dsimp only
                    exact yG_r rfl rfl
set_option maxRecDepth 100000 in
set_option maxHeartbeats 4000000 in
theorem m_X7_rule {N : Nat} {X : zXT} (hX : zXok X) (hN : zXn X) (l : Launch) {sh : List yH} : yMet X vwCl yct sh l yX7_rule wsX7_rule { frames := 1, cells := 0, slots := 0, locals := 64 } (F_X7_rule N) :=
  ymeth (tb := tb_X7_rule N) (pr := pr_X7_rule) (rt := 1) (own := RX7) hX (by decide +kernel) rfl rfl ⟨Nat.le_of_ble_eq_true rfl, Nat.le_of_ble_eq_true rfl⟩
    (zfl_all (List.forall_mem_cons.mpr ⟨zfl_X7 (fun w h => List.mem_cons_of_mem _ (List.mem_append_left _ (List.mem_append_left _ (List.mem_append_left _ (List.mem_append_right _ h))))) (List.mem_of_getElem? (i := 1) rfl) (by decide) (by decide), List.forall_mem_cons.mpr ⟨zfl_X4 (fun w h => List.mem_cons_of_mem _ (List.mem_append_left _ (List.mem_append_left _ (List.mem_append_right _ h)))) (List.mem_of_getElem? (i := 2) rfl) (by decide) (by decide), List.forall_mem_cons.mpr ⟨zfl_X4 (fun w h => List.mem_cons_of_mem _ (List.mem_append_left _ (List.mem_append_left _ (List.mem_append_right _ h)))) (List.mem_of_getElem? (i := 3) rfl) (by decide) (by decide), List.forall_mem_cons.mpr ⟨zfl_X4 (fun w h => List.mem_cons_of_mem _ (List.mem_append_left _ (List.mem_append_left _ (List.mem_append_right _ h)))) (List.mem_of_getElem? (i := 4) rfl) (by decide) (by decide), List.forall_mem_cons.mpr ⟨zfl_X4 (fun w h => List.mem_cons_of_mem _ (List.mem_append_left _ (List.mem_append_left _ (List.mem_append_right _ h)))) (List.mem_of_getElem? (i := 5) rfl) (by decide) (by decide), List.forall_mem_cons.mpr ⟨zfl_X5 (fun w h => List.mem_cons_of_mem _ (List.mem_append_left _ (List.mem_append_right _ h))) (List.mem_of_getElem? (i := 6) rfl) (by decide) (by decide), List.forall_mem_cons.mpr ⟨zfl_X4 (fun w h => List.mem_cons_of_mem _ (List.mem_append_left _ (List.mem_append_left _ (List.mem_append_right _ h)))) (List.mem_of_getElem? (i := 7) rfl) (by decide) (by decide), List.forall_mem_cons.mpr ⟨zfl_X6 (fun w h => List.mem_cons_of_mem _ (List.mem_append_right _ h)) (List.mem_of_getElem? (i := 8) rfl) (by decide) (by decide), List.forall_mem_cons.mpr ⟨zfl_X4 (fun w h => List.mem_cons_of_mem _ (List.mem_append_left _ (List.mem_append_left _ (List.mem_append_right _ h)))) (List.mem_of_getElem? (i := 9) rfl) (by decide) (by decide), List.forall_mem_cons.mpr ⟨zfl_X4 (fun w h => List.mem_cons_of_mem _ (List.mem_append_left _ (List.mem_append_left _ (List.mem_append_right _ h)))) (List.mem_of_getElem? (i := 10) rfl) (by decide) (by decide), List.forall_mem_cons.mpr ⟨zfl_X4 (fun w h => List.mem_cons_of_mem _ (List.mem_append_left _ (List.mem_append_left _ (List.mem_append_right _ h)))) (List.mem_of_getElem? (i := 11) rfl) (by decide) (by decide), List.forall_mem_cons.mpr ⟨zfl_X4 (fun w h => List.mem_cons_of_mem _ (List.mem_append_left _ (List.mem_append_left _ (List.mem_append_right _ h)))) (List.mem_of_getElem? (i := 12) rfl) (by decide) (by decide), fun _ h => absurd h List.not_mem_nil⟩⟩⟩⟩⟩⟩⟩⟩⟩⟩⟩⟩))
    (zco_all (fun _ h => absurd h List.not_mem_nil)) (zlc_all (fun _ h => absurd h List.not_mem_nil))
    (fun _ h => absurd h List.not_mem_nil)
    (fun _ h => absurd h List.not_mem_nil)
    (zmm_all (fun _ h => absurd h List.not_mem_nil)) (fun _ h => absurd h List.not_mem_nil) (zpr_all hp_X7_rule) (fun as σ res h => by
      unfold F_X7_rule at h
      split at h
      · rename_i x1
        cases hr : f_X7_rule N σ x1 with
        | none => rw [hr] at h; cases h
        | some r =>
          rw [hr] at h
          cases h
          exact ⟨Nat.le_of_ble_eq_true rfl, t_X7_rule σ x1 r hr⟩
      · cases h)
noncomputable def pr_X2_renew : List (Nat × Instr × Nat) := [(0, .aload_n 0, 1), (1, .iload_n 1, 1), (2, .putfield 11, 3), (5, .aload_n 0, 1), (6, .iload_n 2, 1), (7, .putfield 19, 3), (10, .iconst 0, 1), (11, .istore_n 3, 1), (12, .iload_n 3, 1), (13, .bipush 40, 2), (15, .if_icmp .ge 16, 3), (18, .aload_n 0, 1), (19, .getfield 15, 3), (22, .iload_n 3, 1), (23, .iconst 0, 1), (24, .iastore, 1), (25, .iinc 3 1, 3), (28, .goto (-16), 3), (31, .return_, 1)]
set_option maxRecDepth 100000 in
theorem hp_X2_renew : pr_X2_renew.all (fun x => decide (decode cX2_renew x.1 = .ok x.2)) = true := by decide +kernel
noncomputable def f_X2_renew_b12 (N : Nat) : Nat → yS → Nat → Int → Option (Int × yS) := yfix (fun _ _ _ => none) (fun ih σ x0 x3 =>
    bif ycP .ge x3 40 then
      some (0, σ)
    else
      bif yin x3 40 then
        ih (yw σ (x0 + 1) x3.toNat 0) x0 (yad x3 1)
      else none)
theorem q_X2_renew_b12 (N : Nat) (n : Nat) (σ : yS) (x0 : Nat) (x3 : Int) : f_X2_renew_b12 N (n + 1) σ x0 x3 =
    (bif ycP .ge x3 40 then
      some (0, σ)
    else
      bif yin x3 40 then
        (f_X2_renew_b12 N n) (yw σ (x0 + 1) x3.toNat 0) x0 (yad x3 1)
      else none) := rfl
noncomputable def f_X2_renew (N : Nat) (σ : yS) (x0 : Nat) (x1 : Int) (x2 : Int) : Option (Int × yS) :=
  f_X2_renew_b12 N N (yw (yw σ x0 0 x1) x0 1 x2) x0 0
noncomputable def F_X2_renew (N : Nat) : yF := fun as σ => match as with
  | [.inr (.inl 2, x0), .inl (.inl x1), .inl (.inl x2)] => (f_X2_renew N σ x0 x1 x2).map (fun r => (none, r.2))
  | _ => none
theorem e_X2_renew {N : Nat} {σ : yS} {x0 : Nat} {x1 : Int} {x2 : Int} {r : Int × yS} (h : f_X2_renew N σ x0 x1 x2 = some r) : F_X2_renew N [.inr (.inl 2, x0), .inl (.inl x1), .inl (.inl x2)] σ = some (none, r.2) := by
  show (f_X2_renew N σ x0 x1 x2).map (fun r => ((none, r.2) : yR)) = _
  rw [h]
  rfl
noncomputable def tb_X2_renew (N : Nat) : yTb := ([(11, 2, 0, 0), (15, 2, 2, 3), (19, 2, 1, 0)], [], [], [], [], [], [])
abbrev G_X2_renew (N : Nat) (X : zXT) (sh : List yH) (l : Launch) (rm : Room) : yC → yR → Prop := yGoes X vwCl yct sh l rm cX2_renew 4 wsX2_renew RX2 (tb_X2_renew N) pr_X2_renew 0
set_option maxRecDepth 100000 in
set_option maxHeartbeats 4000000 in
theorem t_X2_renew_b12 {N : Nat} {X : zXT} {sh : List yH} {l : Launch} {rm : Room} : ∀ (n : Nat) (σ : yS) (x0 : Nat) (x3 : Int) (res : Int × yS), f_X2_renew_b12 N n σ x0 x3 = some res → G_X2_renew N X sh l rm (12, [(0, .inr (.inl 2, x0)), (3, .inl (.inl x3))], [], σ) (none, res.2) := by
  intro n
  induction n with
  | zero => intro σ x0 x3 res h; exact (yno h).elim
  | succ n ih =>
    intro σ x0 x3 res h
    rw [q_X2_renew_b12] at h
    refine yG_n (n := 2) (C' := (15, [(0, .inr (.inl 2, x0)), (3, .inl (.inl x3))], [.inl (.inl 40), .inl (.inl x3)], σ)) rfl ?_
    cases hg1 : ycP .ge x3 40 with
    | true =>
      rw [hg1] at h
      dsimp only [cond] at h
      refine yG_t (C' := (31, [(0, .inr (.inl 2, x0)), (3, .inl (.inl x3))], [], σ)) rfl hg1 ?_
      have h := Option.some.inj h
      subst h
      dsimp only
      exact yG_r rfl rfl
    | false =>
      rw [hg1] at h
      dsimp only [cond] at h
      refine yG_f (C' := (18, [(0, .inr (.inl 2, x0)), (3, .inl (.inl x3))], [], σ)) rfl hg1 ?_
      refine yG_n (n := 4) (C' := (24, [(0, .inr (.inl 2, x0)), (3, .inl (.inl x3))], [.inl (.inl 0), .inl (.inl x3), .inr (.inr (0, 40), x0 + 1)], σ)) rfl ?_
      cases hg2 : yin x3 40 with
      | false => rw [hg2] at h; dsimp only [cond] at h; cases h
      | true =>
        rw [hg2] at h
        dsimp only [cond] at h
        refine yG_t (C' := (25, [(0, .inr (.inl 2, x0)), (3, .inl (.inl x3))], [], yw σ (x0 + 1) x3.toNat 0)) rfl hg2 ?_
        refine yG_n (n := 2) (C' := (12, [(3, .inl (.inl (yad x3 1))), (0, .inr (.inl 2, x0))], [], yw σ (x0 + 1) x3.toNat 0)) rfl ?_
        exact yG_w [1, 0] rfl (ih (yw σ (x0 + 1) x3.toNat 0) x0 (yad x3 1) res h)
set_option maxRecDepth 100000 in
set_option maxHeartbeats 4000000 in
theorem t_X2_renew {N : Nat} {X : zXT} {sh : List yH} {l : Launch} {rm : Room} (σ : yS) (x0 : Nat) (x1 : Int) (x2 : Int) (res : Int × yS) (h : f_X2_renew N σ x0 x1 x2 = some res) : G_X2_renew N X sh l rm (0, [(0, .inr (.inl 2, x0)), (1, .inl (.inl x1)), (2, .inl (.inl x2))], [], σ) (none, res.2) := by
  unfold f_X2_renew at h
  refine yG_n (n := 8) (C' := (12, [(3, .inl (.inl 0)), (0, .inr (.inl 2, x0)), (1, .inl (.inl x1)), (2, .inl (.inl x2))], [], yw (yw σ x0 0 x1) x0 1 x2)) rfl ?_
  exact yG_w [1, 0] rfl (t_X2_renew_b12 N (yw (yw σ x0 0 x1) x0 1 x2) x0 0 res h)
set_option maxRecDepth 100000 in
set_option maxHeartbeats 4000000 in
theorem m_X2_renew {N : Nat} {X : zXT} (hX : zXok X) (hN : zXn X) (l : Launch) {sh : List yH} : yMet X vwCl yct sh l yX2_renew wsX2_renew { frames := 1, cells := 0, slots := 0, locals := 64 } (F_X2_renew N) :=
  ymeth (tb := tb_X2_renew N) (pr := pr_X2_renew) (rt := 0) (own := RX2) hX (by decide +kernel) rfl rfl ⟨Nat.le_of_ble_eq_true rfl, Nat.le_of_ble_eq_true rfl⟩
    (zfl_all (List.forall_mem_cons.mpr ⟨zfl_X2 (fun w h => List.mem_cons_of_mem _ (List.mem_append_right _ h)) (List.mem_of_getElem? (i := 1) rfl) (by decide) (by decide), List.forall_mem_cons.mpr ⟨zfl_X2 (fun w h => List.mem_cons_of_mem _ (List.mem_append_right _ h)) (List.mem_of_getElem? (i := 3) rfl) (by decide) (by decide), List.forall_mem_cons.mpr ⟨zfl_X2 (fun w h => List.mem_cons_of_mem _ (List.mem_append_right _ h)) (List.mem_of_getElem? (i := 2) rfl) (by decide) (by decide), fun _ h => absurd h List.not_mem_nil⟩⟩⟩))
    (zco_all (fun _ h => absurd h List.not_mem_nil)) (zlc_all (fun _ h => absurd h List.not_mem_nil))
    (fun _ h => absurd h List.not_mem_nil)
    (fun _ h => absurd h List.not_mem_nil)
    (zmm_all (fun _ h => absurd h List.not_mem_nil)) (fun _ h => absurd h List.not_mem_nil) (zpr_all hp_X2_renew) (fun as σ res h => by
      unfold F_X2_renew at h
      split at h
      · rename_i x0 x1 x2
        cases hr : f_X2_renew N σ x0 x1 x2 with
        | none => rw [hr] at h; cases h
        | some r =>
          rw [hr] at h
          cases h
          exact ⟨Nat.le_of_ble_eq_true rfl, t_X2_renew σ x0 x1 x2 r hr⟩
      · cases h)
noncomputable def pr_X7_sheet : List (Nat × Instr × Nat) := [(0, .iload_n 1, 1), (1, .invokestatic 262, 3), (4, .ifCond .eq 16, 3), (7, .iload_n 2, 1), (8, .invokestatic 265, 3), (11, .ifCond .eq 9, 3), (14, .iload_n 3, 1), (15, .bipush 40, 2), (17, .if_icmp .le 5, 3), (20, .iconst (-1), 1), (21, .ireturn, 1), (22, .iload_n 3, 1), (23, .ifCond .ge 6, 3), (26, .bipush (-14), 2), (28, .ireturn, 1), (29, .aload_n 0, 1), (30, .getfield 44, 3), (33, .iload_n 1, 1), (34, .aaload, 1), (35, .iload_n 2, 1), (36, .iload_n 3, 1), (37, .invokevirtual 268, 3), (40, .iconst 1, 1), (41, .ireturn, 1)]
set_option maxRecDepth 100000 in
theorem hp_X7_sheet : pr_X7_sheet.all (fun x => decide (decode cX7_sheet x.1 = .ok x.2)) = true := by decide +kernel
noncomputable def f_X7_sheet_b20 (N : Nat) (σ : yS) : Option (Int × yS) :=
  some ((-1), σ)
noncomputable def f_X7_sheet (N : Nat) (σ : yS) (x1 : Int) (x2 : Int) (x3 : Int) : Option (Int × yS) :=
  match f_X7_isSheet N σ x1 with
  | none => none
  | some r1 => bif ycP .eq r1.1 0 then
      f_X7_sheet_b20 N r1.2
    else
      match f_X7_isLane N r1.2 x2 with
      | none => none
      | some r2 => bif ycP .eq r2.1 0 then
          f_X7_sheet_b20 N r2.2
        else
          bif ycP .le x3 40 then
            bif ycP .ge x3 0 then
              bif yin x1 4 then
                match f_X2_renew N r2.2 (r2.2.2 8 x1.toNat) x2 x3 with
                | none => none
                | some r3 => some (1, r3.2)
              else none
            else
              some ((-14), r2.2)
          else
            f_X7_sheet_b20 N r2.2
noncomputable def F_X7_sheet (N : Nat) : yF := fun as σ => match as with
  | [.inr (.inl 7, 0), .inl (.inl x1), .inl (.inl x2), .inl (.inl x3)] => (f_X7_sheet N σ x1 x2 x3).map (fun r => (some (.inl (.inl r.1)), r.2))
  | _ => none
theorem e_X7_sheet {N : Nat} {σ : yS} {x1 : Int} {x2 : Int} {x3 : Int} {r : Int × yS} (h : f_X7_sheet N σ x1 x2 x3 = some r) : F_X7_sheet N [.inr (.inl 7, 0), .inl (.inl x1), .inl (.inl x2), .inl (.inl x3)] σ = some (some (.inl (.inl r.1)), r.2) := by
  show (f_X7_sheet N σ x1 x2 x3).map (fun r => ((some (.inl (.inl r.1)), r.2) : yR)) = _
  rw [h]
  rfl
noncomputable def tb_X7_sheet (N : Nat) : yTb := ([(44, 7, 6, 3)], [], [], [(268, 3, 2, F_X2_renew N)], [(262, 1, F_X7_isSheet N), (265, 1, F_X7_isLane N)], [], [])
abbrev G_X7_sheet (N : Nat) (X : zXT) (sh : List yH) (l : Launch) (rm : Room) : yC → yR → Prop := yGoes X vwCl yct sh l rm cX7_sheet 4 wsX7_sheet RX7 (tb_X7_sheet N) pr_X7_sheet 1
set_option maxRecDepth 100000 in
set_option maxHeartbeats 4000000 in
theorem t_X7_sheet_b20 {N : Nat} {X : zXT} {sh : List yH} {l : Launch} {rm : Room} (σ : yS) (res : Int × yS) (h : f_X7_sheet_b20 N σ = some res) : G_X7_sheet N X sh l rm (20, [], [], σ) (some (.inl (.inl res.1)), res.2) := by
  unfold f_X7_sheet_b20 at h
  refine yG_n (n := 1) (C' := (21, [], [.inl (.inl ((-1)))], σ)) rfl ?_
  have h := Option.some.inj h
  subst h
  dsimp only
  exact yG_r rfl rfl
set_option maxRecDepth 100000 in
set_option maxHeartbeats 4000000 in
theorem t_X7_sheet {N : Nat} {X : zXT} {sh : List yH} {l : Launch} {rm : Room} (σ : yS) (x1 : Int) (x2 : Int) (x3 : Int) (res : Int × yS) (h : f_X7_sheet N σ x1 x2 x3 = some res) : G_X7_sheet N X sh l rm (0, [(0, .inr (.inl 7, 0)), (1, .inl (.inl x1)), (2, .inl (.inl x2)), (3, .inl (.inl x3))], [], σ) (some (.inl (.inl res.1)), res.2) := by
  unfold f_X7_sheet at h
  refine yG_n (n := 1) (C' := (1, [(0, .inr (.inl 7, 0)), (1, .inl (.inl x1)), (2, .inl (.inl x2)), (3, .inl (.inl x3))], [.inl (.inl x1)], σ)) rfl ?_
  cases hr1 : f_X7_isSheet N σ x1 with
  | none => rw [hr1] at h; dsimp only at h; cases h
  | some r1 =>
    rw [hr1] at h
    dsimp only at h
    refine yG_c (C1 := (4, [(0, .inr (.inl 7, 0)), (1, .inl (.inl x1)), (2, .inl (.inl x2)), (3, .inl (.inl x3))], [.inl (.inl r1.1)], r1.2)) rfl (e_X7_isSheet hr1) rfl ?_
    cases hg2 : ycP .eq r1.1 0 with
    | true =>
      rw [hg2] at h
      dsimp only [cond] at h
      refine yG_t (C' := (20, [(0, .inr (.inl 7, 0)), (1, .inl (.inl x1)), (2, .inl (.inl x2)), (3, .inl (.inl x3))], [], r1.2)) rfl hg2 ?_
      exact yG_w [] rfl (t_X7_sheet_b20 r1.2 res h)
    | false =>
      rw [hg2] at h
      dsimp only [cond] at h
      refine yG_f (C' := (7, [(0, .inr (.inl 7, 0)), (1, .inl (.inl x1)), (2, .inl (.inl x2)), (3, .inl (.inl x3))], [], r1.2)) rfl hg2 ?_
      refine yG_n (n := 1) (C' := (8, [(0, .inr (.inl 7, 0)), (1, .inl (.inl x1)), (2, .inl (.inl x2)), (3, .inl (.inl x3))], [.inl (.inl x2)], r1.2)) rfl ?_
      cases hr3 : f_X7_isLane N r1.2 x2 with
      | none => rw [hr3] at h; dsimp only at h; cases h
      | some r2 =>
        rw [hr3] at h
        dsimp only at h
        refine yG_c (C1 := (11, [(0, .inr (.inl 7, 0)), (1, .inl (.inl x1)), (2, .inl (.inl x2)), (3, .inl (.inl x3))], [.inl (.inl r2.1)], r2.2)) rfl (e_X7_isLane hr3) rfl ?_
        cases hg4 : ycP .eq r2.1 0 with
        | true =>
          rw [hg4] at h
          dsimp only [cond] at h
          refine yG_t (C' := (20, [(0, .inr (.inl 7, 0)), (1, .inl (.inl x1)), (2, .inl (.inl x2)), (3, .inl (.inl x3))], [], r2.2)) rfl hg4 ?_
          exact yG_w [] rfl (t_X7_sheet_b20 r2.2 res h)
        | false =>
          rw [hg4] at h
          dsimp only [cond] at h
          refine yG_f (C' := (14, [(0, .inr (.inl 7, 0)), (1, .inl (.inl x1)), (2, .inl (.inl x2)), (3, .inl (.inl x3))], [], r2.2)) rfl hg4 ?_
          refine yG_n (n := 2) (C' := (17, [(0, .inr (.inl 7, 0)), (1, .inl (.inl x1)), (2, .inl (.inl x2)), (3, .inl (.inl x3))], [.inl (.inl 40), .inl (.inl x3)], r2.2)) rfl ?_
          cases hg5 : ycP .le x3 40 with
          | true =>
            rw [hg5] at h
            dsimp only [cond] at h
            refine yG_t (C' := (22, [(0, .inr (.inl 7, 0)), (1, .inl (.inl x1)), (2, .inl (.inl x2)), (3, .inl (.inl x3))], [], r2.2)) rfl hg5 ?_
            refine yG_n (n := 1) (C' := (23, [(0, .inr (.inl 7, 0)), (1, .inl (.inl x1)), (2, .inl (.inl x2)), (3, .inl (.inl x3))], [.inl (.inl x3)], r2.2)) rfl ?_
            cases hg6 : ycP .ge x3 0 with
            | true =>
              rw [hg6] at h
              dsimp only [cond] at h
              refine yG_t (C' := (29, [(0, .inr (.inl 7, 0)), (1, .inl (.inl x1)), (2, .inl (.inl x2)), (3, .inl (.inl x3))], [], r2.2)) rfl hg6 ?_
              refine yG_n (n := 3) (C' := (34, [(0, .inr (.inl 7, 0)), (1, .inl (.inl x1)), (2, .inl (.inl x2)), (3, .inl (.inl x3))], [.inl (.inl x1), .inr (.inr (3, 4), 8)], r2.2)) rfl ?_
              cases hg7 : yin x1 4 with
              | false => rw [hg7] at h; dsimp only [cond] at h; cases h
              | true =>
                rw [hg7] at h
                dsimp only [cond] at h
                refine yG_t (C' := (35, [(0, .inr (.inl 7, 0)), (1, .inl (.inl x1)), (2, .inl (.inl x2)), (3, .inl (.inl x3))], [.inr (.inl 2, r2.2.2 8 x1.toNat)], r2.2)) rfl hg7 ?_
                refine yG_n (n := 2) (C' := (37, [(0, .inr (.inl 7, 0)), (1, .inl (.inl x1)), (2, .inl (.inl x2)), (3, .inl (.inl x3))], [.inl (.inl x3), .inl (.inl x2), .inr (.inl 2, r2.2.2 8 x1.toNat)], r2.2)) rfl ?_
                cases hr8 : f_X2_renew N r2.2 (r2.2.2 8 x1.toNat) x2 x3 with
                | none => rw [hr8] at h; dsimp only at h; cases h
                | some r3 =>
                  rw [hr8] at h
                  dsimp only at h
                  refine yG_c (C1 := (40, [(0, .inr (.inl 7, 0)), (1, .inl (.inl x1)), (2, .inl (.inl x2)), (3, .inl (.inl x3))], [], r3.2)) rfl (e_X2_renew hr8) rfl ?_
                  refine yG_n (n := 1) (C' := (41, [(0, .inr (.inl 7, 0)), (1, .inl (.inl x1)), (2, .inl (.inl x2)), (3, .inl (.inl x3))], [.inl (.inl 1)], r3.2)) rfl ?_
                  have h := Option.some.inj h
                  subst h
                  dsimp only
                  exact yG_r rfl rfl
            | false =>
              rw [hg6] at h
              dsimp only [cond] at h
              refine yG_f (C' := (26, [(0, .inr (.inl 7, 0)), (1, .inl (.inl x1)), (2, .inl (.inl x2)), (3, .inl (.inl x3))], [], r2.2)) rfl hg6 ?_
              refine yG_n (n := 1) (C' := (28, [(0, .inr (.inl 7, 0)), (1, .inl (.inl x1)), (2, .inl (.inl x2)), (3, .inl (.inl x3))], [.inl (.inl ((-14)))], r2.2)) rfl ?_
              have h := Option.some.inj h
              subst h
              dsimp only
              exact yG_r rfl rfl
          | false =>
            rw [hg5] at h
            dsimp only [cond] at h
            refine yG_f (C' := (20, [(0, .inr (.inl 7, 0)), (1, .inl (.inl x1)), (2, .inl (.inl x2)), (3, .inl (.inl x3))], [], r2.2)) rfl hg5 ?_
            exact yG_w [] rfl (t_X7_sheet_b20 r2.2 res h)
set_option maxRecDepth 100000 in
set_option maxHeartbeats 4000000 in
theorem m_X7_sheet {N : Nat} {X : zXT} (hX : zXok X) (hN : zXn X) (l : Launch) {sh : List yH} : yMet X vwCl yct sh l yX7_sheet wsX7_sheet { frames := 3, cells := 0, slots := 0, locals := 106 } (F_X7_sheet N) :=
  ymeth (tb := tb_X7_sheet N) (pr := pr_X7_sheet) (rt := 1) (own := RX7) hX (by decide +kernel) rfl rfl ⟨Nat.le_of_ble_eq_true rfl, Nat.le_of_ble_eq_true rfl⟩
    (zfl_all (List.forall_mem_cons.mpr ⟨zfl_X7 (fun w h => List.mem_cons_of_mem _ (List.mem_append_left _ (List.mem_append_right _ h))) (List.mem_of_getElem? (i := 1) rfl) (by decide) (by decide), fun _ h => absurd h List.not_mem_nil⟩))
    (zco_all (fun _ h => absurd h List.not_mem_nil)) (zlc_all (fun _ h => absurd h List.not_mem_nil))
    (List.forall_mem_cons.mpr ⟨ycal_V hX (m_X2_renew hX hN l) rfl (fun s args hts => cwV 2 hts gX7_sheet_X2_renew rfl rfl rfl (by decide +kernel) ⟨Nat.le_of_ble_eq_true rfl, Nat.le_of_ble_eq_true rfl⟩), fun _ h => absurd h List.not_mem_nil⟩)
    (List.forall_mem_cons.mpr ⟨ycal_S hX (m_X7_isSheet hX hN l) (fun s args hts => va_cwS 1 hts gX7_sheet_X7_isSheet rfl rfl rfl (by decide +kernel) ⟨Nat.le_of_ble_eq_true rfl, Nat.le_of_ble_eq_true rfl⟩), List.forall_mem_cons.mpr ⟨ycal_S hX (m_X7_isLane hX hN l) (fun s args hts => va_cwS 1 hts gX7_sheet_X7_isLane rfl rfl rfl (by decide +kernel) ⟨Nat.le_of_ble_eq_true rfl, Nat.le_of_ble_eq_true rfl⟩), fun _ h => absurd h List.not_mem_nil⟩⟩)
    (zmm_all (fun _ h => absurd h List.not_mem_nil)) (fun _ h => absurd h List.not_mem_nil) (zpr_all hp_X7_sheet) (fun as σ res h => by
      unfold F_X7_sheet at h
      split at h
      · rename_i x1 x2 x3
        cases hr : f_X7_sheet N σ x1 x2 x3 with
        | none => rw [hr] at h; cases h
        | some r =>
          rw [hr] at h
          cases h
          exact ⟨Nat.le_of_ble_eq_true rfl, t_X7_sheet σ x1 x2 x3 r hr⟩
      · cases h)
noncomputable def pr_X4_hasEndless : List (Nat × Instr × Nat) := [(0, .iconst 0, 1), (1, .istore_n 2, 1), (2, .iload_n 2, 1), (3, .aload_n 0, 1), (4, .getfield 40, 3), (7, .getfield 72, 3), (10, .if_icmp .ge 20, 3), (13, .aload_n 0, 1), (14, .iload_n 2, 1), (15, .iload_n 1, 1), (16, .invokevirtual 164, 3), (19, .ifCond .eq 5, 3), (22, .iconst 1, 1), (23, .ireturn, 1), (24, .iinc 2 1, 3), (27, .goto (-25), 3), (30, .iconst 0, 1), (31, .ireturn, 1)]
set_option maxRecDepth 100000 in
theorem hp_X4_hasEndless : pr_X4_hasEndless.all (fun x => decide (decode cX4_hasEndless x.1 = .ok x.2)) = true := by decide +kernel
noncomputable def f_X4_hasEndless_b2 (N : Nat) : Nat → yS → Nat → Int → Int → Option (Int × yS) := yfix (fun _ _ _ _ => none) (fun ih σ x0 x1 x2 =>
    bif ycP .ge x2 (σ.1 (σ.2 x0 11) 0) then
      some (0, σ)
    else
      match f_X4_isEndless N σ x0 x2 x1 with
      | none => none
      | some r1 => bif ycP .eq r1.1 0 then
          ih r1.2 x0 x1 (yad x2 1)
        else
          some (1, r1.2))
theorem q_X4_hasEndless_b2 (N : Nat) (n : Nat) (σ : yS) (x0 : Nat) (x1 : Int) (x2 : Int) : f_X4_hasEndless_b2 N (n + 1) σ x0 x1 x2 =
    (bif ycP .ge x2 (σ.1 (σ.2 x0 11) 0) then
      some (0, σ)
    else
      match f_X4_isEndless N σ x0 x2 x1 with
      | none => none
      | some r1 => bif ycP .eq r1.1 0 then
          (f_X4_hasEndless_b2 N n) r1.2 x0 x1 (yad x2 1)
        else
          some (1, r1.2)) := rfl
noncomputable def f_X4_hasEndless (N : Nat) (σ : yS) (x0 : Nat) (x1 : Int) : Option (Int × yS) :=
  f_X4_hasEndless_b2 N N σ x0 x1 0
noncomputable def F_X4_hasEndless (N : Nat) : yF := fun as σ => match as with
  | [.inr (.inl 4, x0), .inl (.inl x1)] => (f_X4_hasEndless N σ x0 x1).map (fun r => (some (.inl (.inl r.1)), r.2))
  | _ => none
theorem e_X4_hasEndless {N : Nat} {σ : yS} {x0 : Nat} {x1 : Int} {r : Int × yS} (h : f_X4_hasEndless N σ x0 x1 = some r) : F_X4_hasEndless N [.inr (.inl 4, x0), .inl (.inl x1)] σ = some (some (.inl (.inl r.1)), r.2) := by
  show (f_X4_hasEndless N σ x0 x1).map (fun r => ((some (.inl (.inl r.1)), r.2) : yR)) = _
  rw [h]
  rfl
noncomputable def tb_X4_hasEndless (N : Nat) : yTb := ([(40, 4, 11, 2), (72, 5, 0, 0)], [], [], [(164, 3, 4, F_X4_isEndless N)], [], [], [])
abbrev G_X4_hasEndless (N : Nat) (X : zXT) (sh : List yH) (l : Launch) (rm : Room) : yC → yR → Prop := yGoes X vwCl yct sh l rm cX4_hasEndless 3 wsX4_hasEndless RX4 (tb_X4_hasEndless N) pr_X4_hasEndless 2
set_option maxRecDepth 100000 in
set_option maxHeartbeats 4000000 in
theorem t_X4_hasEndless_b2 {N : Nat} {X : zXT} {sh : List yH} {l : Launch} {rm : Room} : ∀ (n : Nat) (σ : yS) (x0 : Nat) (x1 : Int) (x2 : Int) (res : Int × yS), f_X4_hasEndless_b2 N n σ x0 x1 x2 = some res → G_X4_hasEndless N X sh l rm (2, [(0, .inr (.inl 4, x0)), (1, .inl (.inl x1)), (2, .inl (.inl x2))], [], σ) (some (.inl (.inl res.1)), res.2) := by
  intro n
  induction n with
  | zero => intro σ x0 x1 x2 res h; exact (yno h).elim
  | succ n ih =>
    intro σ x0 x1 x2 res h
    rw [q_X4_hasEndless_b2] at h
    refine yG_n (n := 4) (C' := (10, [(0, .inr (.inl 4, x0)), (1, .inl (.inl x1)), (2, .inl (.inl x2))], [.inl (.inl (σ.1 (σ.2 x0 11) 0)), .inl (.inl x2)], σ)) rfl ?_
    cases hg1 : ycP .ge x2 (σ.1 (σ.2 x0 11) 0) with
    | true =>
      rw [hg1] at h
      dsimp only [cond] at h
      refine yG_t (C' := (30, [(0, .inr (.inl 4, x0)), (1, .inl (.inl x1)), (2, .inl (.inl x2))], [], σ)) rfl hg1 ?_
      refine yG_n (n := 1) (C' := (31, [(0, .inr (.inl 4, x0)), (1, .inl (.inl x1)), (2, .inl (.inl x2))], [.inl (.inl 0)], σ)) rfl ?_
      have h := Option.some.inj h
      subst h
      dsimp only
      exact yG_r rfl rfl
    | false =>
      rw [hg1] at h
      dsimp only [cond] at h
      refine yG_f (C' := (13, [(0, .inr (.inl 4, x0)), (1, .inl (.inl x1)), (2, .inl (.inl x2))], [], σ)) rfl hg1 ?_
      refine yG_n (n := 3) (C' := (16, [(0, .inr (.inl 4, x0)), (1, .inl (.inl x1)), (2, .inl (.inl x2))], [.inl (.inl x1), .inl (.inl x2), .inr (.inl 4, x0)], σ)) rfl ?_
      cases hr2 : f_X4_isEndless N σ x0 x2 x1 with
      | none => rw [hr2] at h; dsimp only at h; cases h
      | some r1 =>
        rw [hr2] at h
        dsimp only at h
        refine yG_c (C1 := (19, [(0, .inr (.inl 4, x0)), (1, .inl (.inl x1)), (2, .inl (.inl x2))], [.inl (.inl r1.1)], r1.2)) rfl (e_X4_isEndless hr2) rfl ?_
        cases hg3 : ycP .eq r1.1 0 with
        | true =>
          rw [hg3] at h
          dsimp only [cond] at h
          refine yG_t (C' := (24, [(0, .inr (.inl 4, x0)), (1, .inl (.inl x1)), (2, .inl (.inl x2))], [], r1.2)) rfl hg3 ?_
          refine yG_n (n := 2) (C' := (2, [(2, .inl (.inl (yad x2 1))), (0, .inr (.inl 4, x0)), (1, .inl (.inl x1))], [], r1.2)) rfl ?_
          exact yG_w [1, 2, 0] rfl (ih r1.2 x0 x1 (yad x2 1) res h)
        | false =>
          rw [hg3] at h
          dsimp only [cond] at h
          refine yG_f (C' := (22, [(0, .inr (.inl 4, x0)), (1, .inl (.inl x1)), (2, .inl (.inl x2))], [], r1.2)) rfl hg3 ?_
          refine yG_n (n := 1) (C' := (23, [(0, .inr (.inl 4, x0)), (1, .inl (.inl x1)), (2, .inl (.inl x2))], [.inl (.inl 1)], r1.2)) rfl ?_
          have h := Option.some.inj h
          subst h
          dsimp only
          exact yG_r rfl rfl
set_option maxRecDepth 100000 in
set_option maxHeartbeats 4000000 in
theorem t_X4_hasEndless {N : Nat} {X : zXT} {sh : List yH} {l : Launch} {rm : Room} (σ : yS) (x0 : Nat) (x1 : Int) (res : Int × yS) (h : f_X4_hasEndless N σ x0 x1 = some res) : G_X4_hasEndless N X sh l rm (0, [(0, .inr (.inl 4, x0)), (1, .inl (.inl x1))], [], σ) (some (.inl (.inl res.1)), res.2) := by
  unfold f_X4_hasEndless at h
  refine yG_n (n := 2) (C' := (2, [(2, .inl (.inl 0)), (0, .inr (.inl 4, x0)), (1, .inl (.inl x1))], [], σ)) rfl ?_
  exact yG_w [1, 2, 0] rfl (t_X4_hasEndless_b2 N σ x0 x1 0 res h)
set_option maxRecDepth 100000 in
set_option maxHeartbeats 4000000 in
theorem m_X4_hasEndless {N : Nat} {X : zXT} (hX : zXok X) (hN : zXn X) (l : Launch) {sh : List yH} : yMet X vwCl yct sh l yX4_hasEndless wsX4_hasEndless { frames := 4, cells := 0, slots := 0, locals := 137 } (F_X4_hasEndless N) :=
  ymeth (tb := tb_X4_hasEndless N) (pr := pr_X4_hasEndless) (rt := 2) (own := RX4) hX (by decide +kernel) rfl rfl ⟨Nat.le_of_ble_eq_true rfl, Nat.le_of_ble_eq_true rfl⟩
    (zfl_all (List.forall_mem_cons.mpr ⟨zfl_X4 (fun w h => List.mem_cons_of_mem _ (List.mem_append_left _ (List.mem_append_right _ h))) (List.mem_of_getElem? (i := 1) rfl) (by decide) (by decide), List.forall_mem_cons.mpr ⟨zfl_X5 (fun w h => List.mem_cons_of_mem _ (List.mem_append_right _ h)) (List.mem_of_getElem? (i := 2) rfl) (by decide) (by decide), fun _ h => absurd h List.not_mem_nil⟩⟩))
    (zco_all (fun _ h => absurd h List.not_mem_nil)) (zlc_all (fun _ h => absurd h List.not_mem_nil))
    (List.forall_mem_cons.mpr ⟨ycal_V hX (m_X4_isEndless hX hN l) rfl (fun s args hts => cwV 2 hts gX4_hasEndless_X4_isEndless rfl rfl rfl (by decide +kernel) ⟨Nat.le_of_ble_eq_true rfl, Nat.le_of_ble_eq_true rfl⟩), fun _ h => absurd h List.not_mem_nil⟩)
    (fun _ h => absurd h List.not_mem_nil)
    (zmm_all (fun _ h => absurd h List.not_mem_nil)) (fun _ h => absurd h List.not_mem_nil) (zpr_all hp_X4_hasEndless) (fun as σ res h => by
      unfold F_X4_hasEndless at h
      split at h
      · rename_i x0 x1
        cases hr : f_X4_hasEndless N σ x0 x1 with
        | none => rw [hr] at h; cases h
        | some r =>
          rw [hr] at h
          cases h
          exact ⟨Nat.le_of_ble_eq_true rfl, t_X4_hasEndless σ x0 x1 r hr⟩
      · cases h)
noncomputable def pr_X7_stop : List (Nat × Instr × Nat) := [(0, .iload_n 1, 1), (1, .iconst 0, 1), (2, .iconst 1, 1), (3, .invokestatic 49, 3), (6, .ifCond .ne 5, 3), (9, .iconst (-1), 1), (10, .ireturn, 1), (11, .iconst 1, 1), (12, .aload_n 0, 1), (13, .getfield 10, 3), (16, .getfield 82, 3), (19, .ishl, 1), (20, .iconst 1, 1), (21, .isub, 1), (22, .aload_n 0, 1), (23, .getfield 10, 3), (26, .getfield 128, 3), (29, .iconst (-1), 1), (30, .ixor, 1), (31, .iand, 1), (32, .istore_n 2, 1), (33, .bipush 8, 2), (35, .istore_n 3, 1), (36, .iconst 0, 1), (37, .istore 4, 2), (39, .iload 4, 2), (41, .iconst 1, 1), (42, .aload_n 0, 1), (43, .getfield 10, 3), (46, .getfield 82, 3), (49, .ishl, 1), (50, .if_icmp .ge 72, 3), (53, .iload 4, 2), (55, .aload_n 0, 1), (56, .getfield 10, 3), (59, .getfield 128, 3), (62, .iand, 1), (63, .ifCond .ne 16, 3), (66, .iload 4, 2), (68, .invokestatic 194, 3), (71, .iload_n 3, 1), (72, .if_icmp .ge 7, 3), (75, .iconst 1, 1), (76, .goto 4, 3), (79, .iconst 0, 1), (80, .istore 5, 2), (82, .iload 5, 2), (84, .ifCond .eq 32, 3), (87, .aload_n 0, 1), (88, .getfield 10, 3), (91, .aload_n 0, 1), (92, .getfield 10, 3), (95, .getfield 128, 3), (98, .iload 4, 2), (100, .ior, 1), (101, .invokevirtual 228, 3), (104, .ifCond .ne 12, 3), (107, .iload 4, 2), (109, .istore_n 2, 1), (110, .iload 4, 2), (112, .invokestatic 194, 3), (115, .istore_n 3, 1), (116, .iinc 4 1, 3), (119, .goto (-80), 3), (122, .iload_n 1, 1), (123, .ifCond .ne 10, 3), (126, .iload_n 2, 1), (127, .invokestatic 194, 3), (130, .goto 4, 3), (133, .iload_n 2, 1), (134, .ireturn, 1)]
set_option maxRecDepth 100000 in
theorem hp_X7_stop : pr_X7_stop.all (fun x => decide (decode cX7_stop x.1 = .ok x.2)) = true := by decide +kernel
noncomputable def f_X7_stop_b134 (N : Nat) (σ : yS) (s0 : Int) : Option (Int × yS) :=
  some (s0, σ)
noncomputable def f_X7_stop_b116 (N : Nat) (k39 : yS → Int → Int → Int → Int → Option (Int × yS)) (σ : yS) (x1 : Int) (x2 : Int) (x3 : Int) (x4 : Int) : Option (Int × yS) :=
  k39 σ x1 x2 x3 (yad x4 1)
noncomputable def f_X7_stop_b80 (N : Nat) (k39 : yS → Int → Int → Int → Int → Option (Int × yS)) (σ : yS) (x1 : Int) (x2 : Int) (x3 : Int) (x4 : Int) (s0 : Int) : Option (Int × yS) :=
  bif ycP .eq s0 0 then
    f_X7_stop_b116 N k39 σ x1 x2 x3 x4
  else
    match f_X4_hasEndless N σ 17 (yor (σ.1 17 6) x4) with
    | none => none
    | some r3 => bif ycP .ne r3.1 0 then
        f_X7_stop_b116 N k39 r3.2 x1 x2 x3 x4
      else
        match f_J6_bitCount_0f7a4 N r3.2 x4 with
        | none => none
        | some r4 => f_X7_stop_b116 N k39 r4.2 x1 x4 r4.1 x4
noncomputable def f_X7_stop_b79 (N : Nat) (k39 : yS → Int → Int → Int → Int → Option (Int × yS)) (σ : yS) (x1 : Int) (x2 : Int) (x3 : Int) (x4 : Int) : Option (Int × yS) :=
  f_X7_stop_b80 N k39 σ x1 x2 x3 x4 0
noncomputable def f_X7_stop_b39 (N : Nat) : Nat → yS → Int → Int → Int → Int → Option (Int × yS) := yfix (fun _ _ _ _ _ => none) (fun ih σ x1 x2 x3 x4 =>
    bif ycP .ge x4 (ysl 1 (σ.1 17 0)) then
      bif ycP .ne x1 0 then
        f_X7_stop_b134 N σ x2
      else
        match f_J6_bitCount_0f7a4 N σ x2 with
        | none => none
        | some r2 => f_X7_stop_b134 N r2.2 r2.1
    else
      bif ycP .ne (yan x4 (σ.1 17 6)) 0 then
        f_X7_stop_b79 N ih σ x1 x2 x3 x4
      else
        match f_J6_bitCount_0f7a4 N σ x4 with
        | none => none
        | some r5 => bif ycP .ge r5.1 x3 then
            f_X7_stop_b79 N ih r5.2 x1 x2 x3 x4
          else
            f_X7_stop_b80 N ih r5.2 x1 x2 x3 x4 1)
theorem q_X7_stop_b39 (N : Nat) (n : Nat) (σ : yS) (x1 : Int) (x2 : Int) (x3 : Int) (x4 : Int) : f_X7_stop_b39 N (n + 1) σ x1 x2 x3 x4 =
    (bif ycP .ge x4 (ysl 1 (σ.1 17 0)) then
      bif ycP .ne x1 0 then
        f_X7_stop_b134 N σ x2
      else
        match f_J6_bitCount_0f7a4 N σ x2 with
        | none => none
        | some r2 => f_X7_stop_b134 N r2.2 r2.1
    else
      bif ycP .ne (yan x4 (σ.1 17 6)) 0 then
        f_X7_stop_b79 N (f_X7_stop_b39 N n) σ x1 x2 x3 x4
      else
        match f_J6_bitCount_0f7a4 N σ x4 with
        | none => none
        | some r5 => bif ycP .ge r5.1 x3 then
            f_X7_stop_b79 N (f_X7_stop_b39 N n) r5.2 x1 x2 x3 x4
          else
            f_X7_stop_b80 N (f_X7_stop_b39 N n) r5.2 x1 x2 x3 x4 1) := rfl
noncomputable def f_X7_stop (N : Nat) (σ : yS) (x1 : Int) : Option (Int × yS) :=
  match f_X7_within N σ x1 0 1 with
  | none => none
  | some r1 => bif ycP .ne r1.1 0 then
      f_X7_stop_b39 N N r1.2 x1 (yan (ysu (ysl 1 (r1.2.1 17 0)) 1) (yxo (r1.2.1 17 6) ((-1)))) 8 0
    else
      some ((-1), r1.2)
noncomputable def F_X7_stop (N : Nat) : yF := fun as σ => match as with
  | [.inr (.inl 7, 0), .inl (.inl x1)] => (f_X7_stop N σ x1).map (fun r => (some (.inl (.inl r.1)), r.2))
  | _ => none
theorem e_X7_stop {N : Nat} {σ : yS} {x1 : Int} {r : Int × yS} (h : f_X7_stop N σ x1 = some r) : F_X7_stop N [.inr (.inl 7, 0), .inl (.inl x1)] σ = some (some (.inl (.inl r.1)), r.2) := by
  show (f_X7_stop N σ x1).map (fun r => ((some (.inl (.inl r.1)), r.2) : yR)) = _
  rw [h]
  rfl
noncomputable def tb_X7_stop (N : Nat) : yTb := ([(10, 7, 0, 3), (82, 4, 0, 0), (128, 4, 6, 0)], [], [], [(228, 2, 4, F_X4_hasEndless N)], [(49, 3, F_X7_within N), (194, 1, F_J6_bitCount_0f7a4 N)], [], [])
abbrev G_X7_stop (N : Nat) (X : zXT) (sh : List yH) (l : Launch) (rm : Room) : yC → yR → Prop := yGoes X vwCl yct sh l rm cX7_stop 6 wsX7_stop RX7 (tb_X7_stop N) pr_X7_stop 1
set_option maxRecDepth 100000 in
set_option maxHeartbeats 4000000 in
theorem t_X7_stop_b134 {N : Nat} {X : zXT} {sh : List yH} {l : Launch} {rm : Room} (σ : yS) (s0 : Int) (res : Int × yS) (h : f_X7_stop_b134 N σ s0 = some res) : G_X7_stop N X sh l rm (134, [], [.inl (.inl s0)], σ) (some (.inl (.inl res.1)), res.2) := by
  unfold f_X7_stop_b134 at h
  have h := Option.some.inj h
  subst h
  dsimp only
  exact yG_r rfl rfl
set_option maxRecDepth 100000 in
set_option maxHeartbeats 4000000 in
theorem t_X7_stop_b116 {N : Nat} {X : zXT} {sh : List yH} {l : Launch} {rm : Room} (k39 : yS → Int → Int → Int → Int → Option (Int × yS)) (hk39 : ∀ (σ : yS) (x1 : Int) (x2 : Int) (x3 : Int) (x4 : Int) (res : Int × yS), k39 σ x1 x2 x3 x4 = some res → G_X7_stop N X sh l rm (39, [(0, .inr (.inl 7, 0)), (1, .inl (.inl x1)), (2, .inl (.inl x2)), (3, .inl (.inl x3)), (4, .inl (.inl x4))], [], σ) (some (.inl (.inl res.1)), res.2)) (σ : yS) (x1 : Int) (x2 : Int) (x3 : Int) (x4 : Int) (res : Int × yS) (h : f_X7_stop_b116 N k39 σ x1 x2 x3 x4 = some res) : G_X7_stop N X sh l rm (116, [(0, .inr (.inl 7, 0)), (1, .inl (.inl x1)), (2, .inl (.inl x2)), (3, .inl (.inl x3)), (4, .inl (.inl x4))], [], σ) (some (.inl (.inl res.1)), res.2) := by
  unfold f_X7_stop_b116 at h
  refine yG_n (n := 2) (C' := (39, [(4, .inl (.inl (yad x4 1))), (0, .inr (.inl 7, 0)), (1, .inl (.inl x1)), (2, .inl (.inl x2)), (3, .inl (.inl x3))], [], σ)) rfl ?_
  exact yG_w [1, 2, 3, 4, 0] rfl (hk39 σ x1 x2 x3 (yad x4 1) res h)
set_option maxRecDepth 100000 in
set_option maxHeartbeats 4000000 in
theorem t_X7_stop_b80 {N : Nat} {X : zXT} {sh : List yH} {l : Launch} {rm : Room} (k39 : yS → Int → Int → Int → Int → Option (Int × yS)) (hk39 : ∀ (σ : yS) (x1 : Int) (x2 : Int) (x3 : Int) (x4 : Int) (res : Int × yS), k39 σ x1 x2 x3 x4 = some res → G_X7_stop N X sh l rm (39, [(0, .inr (.inl 7, 0)), (1, .inl (.inl x1)), (2, .inl (.inl x2)), (3, .inl (.inl x3)), (4, .inl (.inl x4))], [], σ) (some (.inl (.inl res.1)), res.2)) (σ : yS) (x1 : Int) (x2 : Int) (x3 : Int) (x4 : Int) (s0 : Int) (res : Int × yS) (h : f_X7_stop_b80 N k39 σ x1 x2 x3 x4 s0 = some res) : G_X7_stop N X sh l rm (80, [(0, .inr (.inl 7, 0)), (1, .inl (.inl x1)), (2, .inl (.inl x2)), (3, .inl (.inl x3)), (4, .inl (.inl x4))], [.inl (.inl s0)], σ) (some (.inl (.inl res.1)), res.2) := by
  unfold f_X7_stop_b80 at h
  refine yG_n (n := 2) (C' := (84, [(5, .inl (.inl s0)), (0, .inr (.inl 7, 0)), (1, .inl (.inl x1)), (2, .inl (.inl x2)), (3, .inl (.inl x3)), (4, .inl (.inl x4))], [.inl (.inl s0)], σ)) rfl ?_
  cases hg1 : ycP .eq s0 0 with
  | true =>
    rw [hg1] at h
    dsimp only [cond] at h
    refine yG_t (C' := (116, [(5, .inl (.inl s0)), (0, .inr (.inl 7, 0)), (1, .inl (.inl x1)), (2, .inl (.inl x2)), (3, .inl (.inl x3)), (4, .inl (.inl x4))], [], σ)) rfl hg1 ?_
    exact yG_w [1, 2, 3, 4, 5] rfl (t_X7_stop_b116 k39 hk39 σ x1 x2 x3 x4 res h)
  | false =>
    rw [hg1] at h
    dsimp only [cond] at h
    refine yG_f (C' := (87, [(5, .inl (.inl s0)), (0, .inr (.inl 7, 0)), (1, .inl (.inl x1)), (2, .inl (.inl x2)), (3, .inl (.inl x3)), (4, .inl (.inl x4))], [], σ)) rfl hg1 ?_
    refine yG_n (n := 7) (C' := (101, [(5, .inl (.inl s0)), (0, .inr (.inl 7, 0)), (1, .inl (.inl x1)), (2, .inl (.inl x2)), (3, .inl (.inl x3)), (4, .inl (.inl x4))], [.inl (.inl (yor (σ.1 17 6) x4)), .inr (.inl 4, 17)], σ)) rfl ?_
    cases hr2 : f_X4_hasEndless N σ 17 (yor (σ.1 17 6) x4) with
    | none => rw [hr2] at h; dsimp only at h; cases h
    | some r3 =>
      rw [hr2] at h
      dsimp only at h
      refine yG_c (C1 := (104, [(5, .inl (.inl s0)), (0, .inr (.inl 7, 0)), (1, .inl (.inl x1)), (2, .inl (.inl x2)), (3, .inl (.inl x3)), (4, .inl (.inl x4))], [.inl (.inl r3.1)], r3.2)) rfl (e_X4_hasEndless hr2) rfl ?_
      cases hg3 : ycP .ne r3.1 0 with
      | true =>
        rw [hg3] at h
        dsimp only [cond] at h
        refine yG_t (C' := (116, [(5, .inl (.inl s0)), (0, .inr (.inl 7, 0)), (1, .inl (.inl x1)), (2, .inl (.inl x2)), (3, .inl (.inl x3)), (4, .inl (.inl x4))], [], r3.2)) rfl hg3 ?_
        exact yG_w [1, 2, 3, 4, 5] rfl (t_X7_stop_b116 k39 hk39 r3.2 x1 x2 x3 x4 res h)
      | false =>
        rw [hg3] at h
        dsimp only [cond] at h
        refine yG_f (C' := (107, [(5, .inl (.inl s0)), (0, .inr (.inl 7, 0)), (1, .inl (.inl x1)), (2, .inl (.inl x2)), (3, .inl (.inl x3)), (4, .inl (.inl x4))], [], r3.2)) rfl hg3 ?_
        refine yG_n (n := 3) (C' := (112, [(2, .inl (.inl x4)), (5, .inl (.inl s0)), (0, .inr (.inl 7, 0)), (1, .inl (.inl x1)), (3, .inl (.inl x3)), (4, .inl (.inl x4))], [.inl (.inl x4)], r3.2)) rfl ?_
        cases hr4 : f_J6_bitCount_0f7a4 N r3.2 x4 with
        | none => rw [hr4] at h; dsimp only at h; cases h
        | some r4 =>
          rw [hr4] at h
          dsimp only at h
          refine yG_c (C1 := (115, [(2, .inl (.inl x4)), (5, .inl (.inl s0)), (0, .inr (.inl 7, 0)), (1, .inl (.inl x1)), (3, .inl (.inl x3)), (4, .inl (.inl x4))], [.inl (.inl r4.1)], r4.2)) rfl (e_J6_bitCount_0f7a4 hr4) rfl ?_
          refine yG_n (n := 1) (C' := (116, [(3, .inl (.inl r4.1)), (2, .inl (.inl x4)), (5, .inl (.inl s0)), (0, .inr (.inl 7, 0)), (1, .inl (.inl x1)), (4, .inl (.inl x4))], [], r4.2)) rfl ?_
          exact yG_w [3, 4, 1, 0, 5] rfl (t_X7_stop_b116 k39 hk39 r4.2 x1 x4 r4.1 x4 res h)
set_option maxRecDepth 100000 in
set_option maxHeartbeats 4000000 in
theorem t_X7_stop_b79 {N : Nat} {X : zXT} {sh : List yH} {l : Launch} {rm : Room} (k39 : yS → Int → Int → Int → Int → Option (Int × yS)) (hk39 : ∀ (σ : yS) (x1 : Int) (x2 : Int) (x3 : Int) (x4 : Int) (res : Int × yS), k39 σ x1 x2 x3 x4 = some res → G_X7_stop N X sh l rm (39, [(0, .inr (.inl 7, 0)), (1, .inl (.inl x1)), (2, .inl (.inl x2)), (3, .inl (.inl x3)), (4, .inl (.inl x4))], [], σ) (some (.inl (.inl res.1)), res.2)) (σ : yS) (x1 : Int) (x2 : Int) (x3 : Int) (x4 : Int) (res : Int × yS) (h : f_X7_stop_b79 N k39 σ x1 x2 x3 x4 = some res) : G_X7_stop N X sh l rm (79, [(0, .inr (.inl 7, 0)), (1, .inl (.inl x1)), (2, .inl (.inl x2)), (3, .inl (.inl x3)), (4, .inl (.inl x4))], [], σ) (some (.inl (.inl res.1)), res.2) := by
  unfold f_X7_stop_b79 at h
  refine yG_n (n := 1) (C' := (80, [(0, .inr (.inl 7, 0)), (1, .inl (.inl x1)), (2, .inl (.inl x2)), (3, .inl (.inl x3)), (4, .inl (.inl x4))], [.inl (.inl 0)], σ)) rfl ?_
  exact t_X7_stop_b80 k39 hk39 σ x1 x2 x3 x4 0 res h
set_option maxRecDepth 100000 in
set_option maxHeartbeats 4000000 in
theorem t_X7_stop_b39 {N : Nat} {X : zXT} {sh : List yH} {l : Launch} {rm : Room} : ∀ (n : Nat) (σ : yS) (x1 : Int) (x2 : Int) (x3 : Int) (x4 : Int) (res : Int × yS), f_X7_stop_b39 N n σ x1 x2 x3 x4 = some res → G_X7_stop N X sh l rm (39, [(0, .inr (.inl 7, 0)), (1, .inl (.inl x1)), (2, .inl (.inl x2)), (3, .inl (.inl x3)), (4, .inl (.inl x4))], [], σ) (some (.inl (.inl res.1)), res.2) := by
  intro n
  induction n with
  | zero => intro σ x1 x2 x3 x4 res h; exact (yno h).elim
  | succ n ih =>
    intro σ x1 x2 x3 x4 res h
    rw [q_X7_stop_b39] at h
    refine yG_n (n := 6) (C' := (50, [(0, .inr (.inl 7, 0)), (1, .inl (.inl x1)), (2, .inl (.inl x2)), (3, .inl (.inl x3)), (4, .inl (.inl x4))], [.inl (.inl (ysl 1 (σ.1 17 0))), .inl (.inl x4)], σ)) rfl ?_
    cases hg5 : ycP .ge x4 (ysl 1 (σ.1 17 0)) with
    | true =>
      rw [hg5] at h
      dsimp only [cond] at h
      refine yG_t (C' := (122, [(0, .inr (.inl 7, 0)), (1, .inl (.inl x1)), (2, .inl (.inl x2)), (3, .inl (.inl x3)), (4, .inl (.inl x4))], [], σ)) rfl hg5 ?_
      refine yG_n (n := 1) (C' := (123, [(0, .inr (.inl 7, 0)), (1, .inl (.inl x1)), (2, .inl (.inl x2)), (3, .inl (.inl x3)), (4, .inl (.inl x4))], [.inl (.inl x1)], σ)) rfl ?_
      cases hg6 : ycP .ne x1 0 with
      | true =>
        rw [hg6] at h
        dsimp only [cond] at h
        refine yG_t (C' := (133, [(0, .inr (.inl 7, 0)), (1, .inl (.inl x1)), (2, .inl (.inl x2)), (3, .inl (.inl x3)), (4, .inl (.inl x4))], [], σ)) rfl hg6 ?_
        refine yG_n (n := 1) (C' := (134, [(0, .inr (.inl 7, 0)), (1, .inl (.inl x1)), (2, .inl (.inl x2)), (3, .inl (.inl x3)), (4, .inl (.inl x4))], [.inl (.inl x2)], σ)) rfl ?_
        exact yG_w [] rfl (t_X7_stop_b134 σ x2 res h)
      | false =>
        rw [hg6] at h
        dsimp only [cond] at h
        refine yG_f (C' := (126, [(0, .inr (.inl 7, 0)), (1, .inl (.inl x1)), (2, .inl (.inl x2)), (3, .inl (.inl x3)), (4, .inl (.inl x4))], [], σ)) rfl hg6 ?_
        refine yG_n (n := 1) (C' := (127, [(0, .inr (.inl 7, 0)), (1, .inl (.inl x1)), (2, .inl (.inl x2)), (3, .inl (.inl x3)), (4, .inl (.inl x4))], [.inl (.inl x2)], σ)) rfl ?_
        cases hr7 : f_J6_bitCount_0f7a4 N σ x2 with
        | none => rw [hr7] at h; dsimp only at h; cases h
        | some r2 =>
          rw [hr7] at h
          dsimp only at h
          refine yG_c (C1 := (130, [(0, .inr (.inl 7, 0)), (1, .inl (.inl x1)), (2, .inl (.inl x2)), (3, .inl (.inl x3)), (4, .inl (.inl x4))], [.inl (.inl r2.1)], r2.2)) rfl (e_J6_bitCount_0f7a4 hr7) rfl ?_
          refine yG_n (n := 1) (C' := (134, [(0, .inr (.inl 7, 0)), (1, .inl (.inl x1)), (2, .inl (.inl x2)), (3, .inl (.inl x3)), (4, .inl (.inl x4))], [.inl (.inl r2.1)], r2.2)) rfl ?_
          exact yG_w [] rfl (t_X7_stop_b134 r2.2 r2.1 res h)
    | false =>
      rw [hg5] at h
      dsimp only [cond] at h
      refine yG_f (C' := (53, [(0, .inr (.inl 7, 0)), (1, .inl (.inl x1)), (2, .inl (.inl x2)), (3, .inl (.inl x3)), (4, .inl (.inl x4))], [], σ)) rfl hg5 ?_
      refine yG_n (n := 5) (C' := (63, [(0, .inr (.inl 7, 0)), (1, .inl (.inl x1)), (2, .inl (.inl x2)), (3, .inl (.inl x3)), (4, .inl (.inl x4))], [.inl (.inl (yan x4 (σ.1 17 6)))], σ)) rfl ?_
      cases hg8 : ycP .ne (yan x4 (σ.1 17 6)) 0 with
      | true =>
        rw [hg8] at h
        dsimp only [cond] at h
        refine yG_t (C' := (79, [(0, .inr (.inl 7, 0)), (1, .inl (.inl x1)), (2, .inl (.inl x2)), (3, .inl (.inl x3)), (4, .inl (.inl x4))], [], σ)) rfl hg8 ?_
        exact t_X7_stop_b79 (f_X7_stop_b39 N n) ih σ x1 x2 x3 x4 res h
      | false =>
        rw [hg8] at h
        dsimp only [cond] at h
        refine yG_f (C' := (66, [(0, .inr (.inl 7, 0)), (1, .inl (.inl x1)), (2, .inl (.inl x2)), (3, .inl (.inl x3)), (4, .inl (.inl x4))], [], σ)) rfl hg8 ?_
        refine yG_n (n := 1) (C' := (68, [(0, .inr (.inl 7, 0)), (1, .inl (.inl x1)), (2, .inl (.inl x2)), (3, .inl (.inl x3)), (4, .inl (.inl x4))], [.inl (.inl x4)], σ)) rfl ?_
        cases hr9 : f_J6_bitCount_0f7a4 N σ x4 with
        | none => rw [hr9] at h; dsimp only at h; cases h
        | some r5 =>
          rw [hr9] at h
          dsimp only at h
          refine yG_c (C1 := (71, [(0, .inr (.inl 7, 0)), (1, .inl (.inl x1)), (2, .inl (.inl x2)), (3, .inl (.inl x3)), (4, .inl (.inl x4))], [.inl (.inl r5.1)], r5.2)) rfl (e_J6_bitCount_0f7a4 hr9) rfl ?_
          refine yG_n (n := 1) (C' := (72, [(0, .inr (.inl 7, 0)), (1, .inl (.inl x1)), (2, .inl (.inl x2)), (3, .inl (.inl x3)), (4, .inl (.inl x4))], [.inl (.inl x3), .inl (.inl r5.1)], r5.2)) rfl ?_
          cases hg10 : ycP .ge r5.1 x3 with
          | true =>
            rw [hg10] at h
            dsimp only [cond] at h
            refine yG_t (C' := (79, [(0, .inr (.inl 7, 0)), (1, .inl (.inl x1)), (2, .inl (.inl x2)), (3, .inl (.inl x3)), (4, .inl (.inl x4))], [], r5.2)) rfl hg10 ?_
            exact t_X7_stop_b79 (f_X7_stop_b39 N n) ih r5.2 x1 x2 x3 x4 res h
          | false =>
            rw [hg10] at h
            dsimp only [cond] at h
            refine yG_f (C' := (75, [(0, .inr (.inl 7, 0)), (1, .inl (.inl x1)), (2, .inl (.inl x2)), (3, .inl (.inl x3)), (4, .inl (.inl x4))], [], r5.2)) rfl hg10 ?_
            refine yG_n (n := 2) (C' := (80, [(0, .inr (.inl 7, 0)), (1, .inl (.inl x1)), (2, .inl (.inl x2)), (3, .inl (.inl x3)), (4, .inl (.inl x4))], [.inl (.inl 1)], r5.2)) rfl ?_
            exact t_X7_stop_b80 (f_X7_stop_b39 N n) ih r5.2 x1 x2 x3 x4 1 res h
set_option maxRecDepth 100000 in
set_option maxHeartbeats 4000000 in
theorem t_X7_stop {N : Nat} {X : zXT} {sh : List yH} {l : Launch} {rm : Room} (σ : yS) (x1 : Int) (res : Int × yS) (h : f_X7_stop N σ x1 = some res) : G_X7_stop N X sh l rm (0, [(0, .inr (.inl 7, 0)), (1, .inl (.inl x1))], [], σ) (some (.inl (.inl res.1)), res.2) := by
  unfold f_X7_stop at h
  refine yG_n (n := 3) (C' := (3, [(0, .inr (.inl 7, 0)), (1, .inl (.inl x1))], [.inl (.inl 1), .inl (.inl 0), .inl (.inl x1)], σ)) rfl ?_
  cases hr11 : f_X7_within N σ x1 0 1 with
  | none => rw [hr11] at h; dsimp only at h; cases h
  | some r1 =>
    rw [hr11] at h
    dsimp only at h
    refine yG_c (C1 := (6, [(0, .inr (.inl 7, 0)), (1, .inl (.inl x1))], [.inl (.inl r1.1)], r1.2)) rfl (e_X7_within hr11) rfl ?_
    cases hg12 : ycP .ne r1.1 0 with
    | true =>
      rw [hg12] at h
      dsimp only [cond] at h
      refine yG_t (C' := (11, [(0, .inr (.inl 7, 0)), (1, .inl (.inl x1))], [], r1.2)) rfl hg12 ?_
      refine yG_n (n := 18) (C' := (39, [(4, .inl (.inl 0)), (3, .inl (.inl 8)), (2, .inl (.inl (yan (ysu (ysl 1 (r1.2.1 17 0)) 1) (yxo (r1.2.1 17 6) ((-1)))))), (0, .inr (.inl 7, 0)), (1, .inl (.inl x1))], [], r1.2)) rfl ?_
      exact yG_w [3, 4, 2, 1, 0] rfl (t_X7_stop_b39 N r1.2 x1 (yan (ysu (ysl 1 (r1.2.1 17 0)) 1) (yxo (r1.2.1 17 6) ((-1)))) 8 0 res h)
    | false =>
      rw [hg12] at h
      dsimp only [cond] at h
      refine yG_f (C' := (9, [(0, .inr (.inl 7, 0)), (1, .inl (.inl x1))], [], r1.2)) rfl hg12 ?_
      refine yG_n (n := 1) (C' := (10, [(0, .inr (.inl 7, 0)), (1, .inl (.inl x1))], [.inl (.inl ((-1)))], r1.2)) rfl ?_
      have h := Option.some.inj h
      subst h
      dsimp only
      exact yG_r rfl rfl
set_option maxRecDepth 100000 in
set_option maxHeartbeats 4000000 in
theorem m_X7_stop {N : Nat} {X : zXT} (hX : zXok X) (hN : zXn X) (l : Launch) {sh : List yH} : yMet X vwCl yct sh l yX7_stop wsX7_stop { frames := 5, cells := 0, slots := 0, locals := 159 } (F_X7_stop N) :=
  ymeth (tb := tb_X7_stop N) (pr := pr_X7_stop) (rt := 1) (own := RX7) hX (by decide +kernel) rfl rfl ⟨Nat.le_of_ble_eq_true rfl, Nat.le_of_ble_eq_true rfl⟩
    (zfl_all (List.forall_mem_cons.mpr ⟨zfl_X7 (fun w h => List.mem_cons_of_mem _ (List.mem_append_left _ (List.mem_append_left _ (List.mem_append_right _ h)))) (List.mem_of_getElem? (i := 1) rfl) (by decide) (by decide), List.forall_mem_cons.mpr ⟨zfl_X4 (fun w h => List.mem_cons_of_mem _ (List.mem_append_left _ (List.mem_append_right _ h))) (List.mem_of_getElem? (i := 2) rfl) (by decide) (by decide), List.forall_mem_cons.mpr ⟨zfl_X4 (fun w h => List.mem_cons_of_mem _ (List.mem_append_left _ (List.mem_append_right _ h))) (List.mem_of_getElem? (i := 3) rfl) (by decide) (by decide), fun _ h => absurd h List.not_mem_nil⟩⟩⟩))
    (zco_all (fun _ h => absurd h List.not_mem_nil)) (zlc_all (fun _ h => absurd h List.not_mem_nil))
    (List.forall_mem_cons.mpr ⟨ycal_V hX (m_X4_hasEndless hX hN l) rfl (fun s args hts => cwV 1 hts gX7_stop_X4_hasEndless rfl rfl rfl (by decide +kernel) ⟨Nat.le_of_ble_eq_true rfl, Nat.le_of_ble_eq_true rfl⟩), fun _ h => absurd h List.not_mem_nil⟩)
    (List.forall_mem_cons.mpr ⟨ycal_S hX (m_X7_within hX hN l) (fun s args hts => va_cwS 3 hts gX7_stop_X7_within rfl rfl rfl (by decide +kernel) ⟨Nat.le_of_ble_eq_true rfl, Nat.le_of_ble_eq_true rfl⟩), List.forall_mem_cons.mpr ⟨ycal_S hX (m_J6_bitCount_0f7a4 hX hN l) (fun s args hts => va_cwS 1 hts gX7_stop_J6_bitCount_0f7a4 rfl rfl rfl (by decide +kernel) ⟨Nat.le_of_ble_eq_true rfl, Nat.le_of_ble_eq_true rfl⟩), fun _ h => absurd h List.not_mem_nil⟩⟩)
    (zmm_all (fun _ h => absurd h List.not_mem_nil)) (fun _ h => absurd h List.not_mem_nil) (zpr_all hp_X7_stop) (fun as σ res h => by
      unfold F_X7_stop at h
      split at h
      · rename_i x1
        cases hr : f_X7_stop N σ x1 with
        | none => rw [hr] at h; cases h
        | some r =>
          rw [hr] at h
          cases h
          exact ⟨Nat.le_of_ble_eq_true rfl, t_X7_stop σ x1 r hr⟩
      · cases h)
end
