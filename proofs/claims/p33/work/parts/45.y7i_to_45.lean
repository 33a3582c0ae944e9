section
noncomputable def pr_X4_makeNew : List (Nat × Instr × Nat) := [(0, .aload_n 0, 1), (1, .iconst 3, 1), (2, .putfield 9, 3), (5, .aload_n 0, 1), (6, .iconst 0, 1), (7, .putfield 61, 3), (10, .aload_n 0, 1), (11, .iconst 0, 1), (12, .putfield 58, 3), (15, .aload_n 0, 1), (16, .iconst 0, 1), (17, .putfield 65, 3), (20, .iconst 0, 1), (21, .istore_n 1, 1), (22, .iload_n 1, 1), (23, .bipush 7, 2), (25, .if_icmp .ge 31, 3), (28, .aload_n 0, 1), (29, .getfield 19, 3), (32, .iload_n 1, 1), (33, .iconst 0, 1), (34, .iastore, 1), (35, .aload_n 0, 1), (36, .getfield 22, 3), (39, .iload_n 1, 1), (40, .iconst 0, 1), (41, .iastore, 1), (42, .aload_n 0, 1), (43, .iload_n 1, 1), (44, .iconst 0, 1), (45, .iconst 0, 1), (46, .iconst 0, 1), (47, .invokevirtual 68, 3), (50, .iinc 1 1, 3), (53, .goto (-31), 3), (56, .iconst 0, 1), (57, .istore_n 1, 1), (58, .iload_n 1, 1), (59, .bipush 35, 2), (61, .if_icmp .ge 16, 3), (64, .aload_n 0, 1), (65, .getfield 34, 3), (68, .iload_n 1, 1), (69, .iconst 0, 1), (70, .iastore, 1), (71, .iinc 1 1, 3), (74, .goto (-16), 3), (77, .aload_n 0, 1), (78, .getfield 40, 3), (81, .iconst 0, 1), (82, .putfield 72, 3), (85, .aload_n 0, 1), (86, .getfield 50, 3), (89, .iconst 0, 1), (90, .putfield 75, 3), (93, .aload_n 0, 1), (94, .iconst 0, 1), (95, .putfield 76, 3), (98, .aload_n 0, 1), (99, .iconst 0, 1), (100, .putfield 79, 3), (103, .aload_n 0, 1), (104, .iconst 0, 1), (105, .putfield 82, 3), (108, .aload_n 0, 1), (109, .iconst 0, 1), (110, .putfield 85, 3), (113, .return_, 1)]
set_option maxRecDepth 100000 in
theorem hp_X4_makeNew : pr_X4_makeNew.all (fun x => decide (decode cX4_makeNew x.1 = .ok x.2)) = true := by decide +kernel
noncomputable def f_X4_makeNew_b58 (N : Nat) : Nat → yS → Nat → Int → Option (Int × yS) := yfix (fun _ _ _ => none) (fun ih σ x0 x1 =>
    bif ycP .ge x1 35 then
      some (0, yw (yw (yw (yw (yw (yw σ (σ.2 x0 11) 0 0) (x0 + 18) 0 0) x0 14 0) x0 15 0) x0 16 0) x0 17 0)
    else
      bif yin x1 35 then
        ih (yw σ (x0 + 7) x1.toNat 0) x0 (yad x1 1)
      else none)
theorem q_X4_makeNew_b58 (N : Nat) (n : Nat) (σ : yS) (x0 : Nat) (x1 : Int) : f_X4_makeNew_b58 N (n + 1) σ x0 x1 =
    (bif ycP .ge x1 35 then
      some (0, yw (yw (yw (yw (yw (yw σ (σ.2 x0 11) 0 0) (x0 + 18) 0 0) x0 14 0) x0 15 0) x0 16 0) x0 17 0)
    else
      bif yin x1 35 then
        (f_X4_makeNew_b58 N n) (yw σ (x0 + 7) x1.toNat 0) x0 (yad x1 1)
      else none) := rfl
noncomputable def f_X4_makeNew_b22 (N : Nat) : Nat → yS → Nat → Int → Option (Int × yS) := yfix (fun _ _ _ => none) (fun ih σ x0 x1 =>
    bif ycP .ge x1 7 then
      f_X4_makeNew_b58 N N σ x0 0
    else
      bif yin x1 7 then
        match f_X4_setHabit N (yw (yw σ (x0 + 2) x1.toNat 0) (x0 + 3) x1.toNat 0) x0 x1 0 0 0 with
        | none => none
        | some r1 => ih r1.2 x0 (yad x1 1)
      else none)
theorem q_X4_makeNew_b22 (N : Nat) (n : Nat) (σ : yS) (x0 : Nat) (x1 : Int) : f_X4_makeNew_b22 N (n + 1) σ x0 x1 =
    (bif ycP .ge x1 7 then
      f_X4_makeNew_b58 N N σ x0 0
    else
      bif yin x1 7 then
        match f_X4_setHabit N (yw (yw σ (x0 + 2) x1.toNat 0) (x0 + 3) x1.toNat 0) x0 x1 0 0 0 with
        | none => none
        | some r1 => (f_X4_makeNew_b22 N n) r1.2 x0 (yad x1 1)
      else none) := rfl
noncomputable def f_X4_makeNew (N : Nat) (σ : yS) (x0 : Nat) : Option (Int × yS) :=
  f_X4_makeNew_b22 N N (yw (yw (yw (yw σ x0 0 3) x0 1 0) x0 2 0) x0 6 0) x0 0
noncomputable def F_X4_makeNew (N : Nat) : yF := fun as σ => match as with
  | [.inr (.inl 4, x0)] => (f_X4_makeNew N σ x0).map (fun r => (none, r.2))
  | _ => none
theorem e_X4_makeNew {N : Nat} {σ : yS} {x0 : Nat} {r : Int × yS} (h : f_X4_makeNew N σ x0 = some r) : F_X4_makeNew N [.inr (.inl 4, x0)] σ = some (none, r.2) := by
  show (f_X4_makeNew N σ x0).map (fun r => ((none, r.2) : yR)) = _
  rw [h]
  rfl
noncomputable def tb_X4_makeNew (N : Nat) : yTb := ([(9, 4, 0, 0), (19, 4, 4, 3), (22, 4, 5, 3), (34, 4, 10, 3), (40, 4, 11, 2), (50, 4, 13, 3), (58, 4, 2, 0), (61, 4, 1, 1), (65, 4, 6, 0), (72, 5, 0, 0), (75, 6, 0, 0), (76, 4, 14, 0), (79, 4, 15, 0), (82, 4, 16, 0), (85, 4, 17, 0)], [], [], [(68, 5, 4, F_X4_setHabit N)], [], [], [])
abbrev G_X4_makeNew (N : Nat) (X : zXT) (sh : List yH) (l : Launch) (rm : Room) : yC → yR → Prop := yGoes X vwCl yct sh l rm cX4_makeNew 2 wsX4_makeNew RX4 (tb_X4_makeNew N) pr_X4_makeNew 0
set_option maxRecDepth 100000 in
set_option maxHeartbeats 4000000 in
theorem t_X4_makeNew_b58 {N : Nat} {X : zXT} {sh : List yH} {l : Launch} {rm : Room} : ∀ (n : Nat) (σ : yS) (x0 : Nat) (x1 : Int) (res : Int × yS), f_X4_makeNew_b58 N n σ x0 x1 = some res → G_X4_makeNew N X sh l rm (58, [(0, .inr (.inl 4, x0)), (1, .inl (.inl x1))], [], σ) (none, res.2) := by
  intro n
  induction n with
  | zero => intro σ x0 x1 res h; exact (yno h).elim
  | succ n ih =>
    intro σ x0 x1 res h
    rw [q_X4_makeNew_b58] at h
    refine yG_n (n := 2) (C' := (61, [(0, .inr (.inl 4, x0)), (1, .inl (.inl x1))], [.inl (.inl 35), .inl (.inl x1)], σ)) rfl ?_
    cases hg1 : ycP .ge x1 35 with
    | true =>
      rw [hg1] at h
      dsimp only [cond] at h
      refine yG_t (C' := (77, [(0, .inr (.inl 4, x0)), (1, .inl (.inl x1))], [], σ)) rfl hg1 ?_
      refine yG_n (n := 20) (C' := (113, [(0, .inr (.inl 4, x0)), (1, .inl (.inl x1))], [], yw (yw (yw (yw (yw (yw σ (σ.2 x0 11) 0 0) (x0 + 18) 0 0) x0 14 0) x0 15 0) x0 16 0) x0 17 0)) rfl ?_
      have h := Option.some.inj h
      subst h
      dsimp only
      exact yG_r rfl rfl
    | false =>
      rw [hg1] at h
      dsimp only [cond] at h
      refine yG_f (C' := (64, [(0, .inr (.inl 4, x0)), (1, .inl (.inl x1))], [], σ)) rfl hg1 ?_
      refine yG_n (n := 4) (C' := (70, [(0, .inr (.inl 4, x0)), (1, .inl (.inl x1))], [.inl (.inl 0), .inl (.inl x1), .inr (.inr (0, 35), x0 + 7)], σ)) rfl ?_
      cases hg2 : yin x1 35 with
      | false => rw [hg2] at h; dsimp only [cond] at h; cases h
      | true =>
        rw [hg2] at h
        dsimp only [cond] at h
        refine yG_t (C' := (71, [(0, .inr (.inl 4, x0)), (1, .inl (.inl x1))], [], yw σ (x0 + 7) x1.toNat 0)) rfl hg2 ?_
        refine yG_n (n := 2) (C' := (58, [(1, .inl (.inl (yad x1 1))), (0, .inr (.inl 4, x0))], [], yw σ (x0 + 7) x1.toNat 0)) rfl ?_
        exact yG_w [1, 0] rfl (ih (yw σ (x0 + 7) x1.toNat 0) x0 (yad x1 1) res h)
set_option maxRecDepth 100000 in
set_option maxHeartbeats 4000000 in
theorem t_X4_makeNew_b22 {N : Nat} {X : zXT} {sh : List yH} {l : Launch} {rm : Room} : ∀ (n : Nat) (σ : yS) (x0 : Nat) (x1 : Int) (res : Int × yS), f_X4_makeNew_b22 N n σ x0 x1 = some res → G_X4_makeNew N X sh l rm (22, [(0, .inr (.inl 4, x0)), (1, .inl (.inl x1))], [], σ) (none, res.2) := by
  intro n
  induction n with
  | zero => intro σ x0 x1 res h; exact (yno h).elim
  | succ n ih =>
    intro σ x0 x1 res h
    rw [q_X4_makeNew_b22] at h
    refine yG_n (n := 2) (C' := (25, [(0, .inr (.inl 4, x0)), (1, .inl (.inl x1))], [.inl (.inl 7), .inl (.inl x1)], σ)) rfl ?_
    cases hg3 : ycP .ge x1 7 with
    | true =>
      rw [hg3] at h
      dsimp only [cond] at h
      refine yG_t (C' := (56, [(0, .inr (.inl 4, x0)), (1, .inl (.inl x1))], [], σ)) rfl hg3 ?_
      refine yG_n (n := 2) (C' := (58, [(1, .inl (.inl 0)), (0, .inr (.inl 4, x0))], [], σ)) rfl ?_
      exact yG_w [1, 0] rfl (t_X4_makeNew_b58 N σ x0 0 res h)
    | false =>
      rw [hg3] at h
      dsimp only [cond] at h
      refine yG_f (C' := (28, [(0, .inr (.inl 4, x0)), (1, .inl (.inl x1))], [], σ)) rfl hg3 ?_
      refine yG_n (n := 4) (C' := (34, [(0, .inr (.inl 4, x0)), (1, .inl (.inl x1))], [.inl (.inl 0), .inl (.inl x1), .inr (.inr (0, 7), x0 + 2)], σ)) rfl ?_
      cases hg4 : yin x1 7 with
      | false => rw [hg4] at h; dsimp only [cond] at h; cases h
      | true =>
        rw [hg4] at h
        dsimp only [cond] at h
        refine yG_t (C' := (35, [(0, .inr (.inl 4, x0)), (1, .inl (.inl x1))], [], yw σ (x0 + 2) x1.toNat 0)) rfl hg4 ?_
        refine yG_n (n := 4) (C' := (41, [(0, .inr (.inl 4, x0)), (1, .inl (.inl x1))], [.inl (.inl 0), .inl (.inl x1), .inr (.inr (0, 7), x0 + 3)], yw σ (x0 + 2) x1.toNat 0)) rfl ?_
        refine yG_t (C' := (42, [(0, .inr (.inl 4, x0)), (1, .inl (.inl x1))], [], yw (yw σ (x0 + 2) x1.toNat 0) (x0 + 3) x1.toNat 0)) rfl hg4 ?_
        refine yG_n (n := 5) (C' := (47, [(0, .inr (.inl 4, x0)), (1, .inl (.inl x1))], [.inl (.inl 0), .inl (.inl 0), .inl (.inl 0), .inl (.inl x1), .inr (.inl 4, x0)], yw (yw σ (x0 + 2) x1.toNat 0) (x0 + 3) x1.toNat 0)) rfl ?_
        cases hr5 : f_X4_setHabit N (yw (yw σ (x0 + 2) x1.toNat 0) (x0 + 3) x1.toNat 0) x0 x1 0 0 0 with
        | none => rw [hr5] at h; dsimp only at h; cases h
        | some r1 =>
          rw [hr5] at h
          dsimp only at h
          refine yG_c (C1 := (50, [(0, .inr (.inl 4, x0)), (1, .inl (.inl x1))], [], r1.2)) rfl (e_X4_setHabit hr5) rfl ?_
          refine yG_n (n := 2) (C' := (22, [(1, .inl (.inl (yad x1 1))), (0, .inr (.inl 4, x0))], [], r1.2)) rfl ?_
          exact yG_w [1, 0] rfl (ih r1.2 x0 (yad x1 1) res h)
set_option maxRecDepth 100000 in
set_option maxHeartbeats 4000000 in
theorem t_X4_makeNew {N : Nat} {X : zXT} {sh : List yH} {l : Launch} {rm : Room} (σ : yS) (x0 : Nat) (res : Int × yS) (h : f_X4_makeNew N σ x0 = some res) : G_X4_makeNew N X sh l rm (0, [(0, .inr (.inl 4, x0))], [], σ) (none, res.2) := by
  unfold f_X4_makeNew at h
  refine yG_n (n := 14) (C' := (22, [(1, .inl (.inl 0)), (0, .inr (.inl 4, x0))], [], yw (yw (yw (yw σ x0 0 3) x0 1 0) x0 2 0) x0 6 0)) rfl ?_
  exact yG_w [1, 0] rfl (t_X4_makeNew_b22 N (yw (yw (yw (yw σ x0 0 3) x0 1 0) x0 2 0) x0 6 0) x0 0 res h)
set_option maxRecDepth 100000 in
set_option maxHeartbeats 4000000 in
theorem m_X4_makeNew {N : Nat} {X : zXT} (hX : zXok X) (hN : zXn X) (l : Launch) {sh : List yH} : yMet X vwCl yct sh l yX4_makeNew wsX4_makeNew { frames := 2, cells := 0, slots := 0, locals := 88 } (F_X4_makeNew N) :=
  ymeth (tb := tb_X4_makeNew N) (pr := pr_X4_makeNew) (rt := 0) (own := RX4) hX (by decide +kernel) rfl rfl ⟨Nat.le_of_ble_eq_true rfl, Nat.le_of_ble_eq_true rfl⟩
    (zfl_all (List.forall_mem_cons.mpr ⟨zfl_X4 (fun w h => List.mem_cons_of_mem _ (List.mem_append_left _ (List.mem_append_left _ (List.mem_append_right _ h)))) (List.mem_of_getElem? (i := 1) rfl) (by decide) (by decide), List.forall_mem_cons.mpr ⟨zfl_X4 (fun w h => List.mem_cons_of_mem _ (List.mem_append_left _ (List.mem_append_left _ (List.mem_append_right _ h)))) (List.mem_of_getElem? (i := 5) rfl) (by decide) (by decide), List.forall_mem_cons.mpr ⟨zfl_X4 (fun w h => List.mem_cons_of_mem _ (List.mem_append_left _ (List.mem_append_left _ (List.mem_append_right _ h)))) (List.mem_of_getElem? (i := 6) rfl) (by decide) (by decide), List.forall_mem_cons.mpr ⟨zfl_X4 (fun w h => List.mem_cons_of_mem _ (List.mem_append_left _ (List.mem_append_left _ (List.mem_append_right _ h)))) (List.mem_of_getElem? (i := 7) rfl) (by decide) (by decide), List.forall_mem_cons.mpr ⟨zfl_X4 (fun w h => List.mem_cons_of_mem _ (List.mem_append_left _ (List.mem_append_left _ (List.mem_append_right _ h)))) (List.mem_of_getElem? (i := 8) rfl) (by decide) (by decide), List.forall_mem_cons.mpr ⟨zfl_X4 (fun w h => List.mem_cons_of_mem _ (List.mem_append_left _ (List.mem_append_left _ (List.mem_append_right _ h)))) (List.mem_of_getElem? (i := 10) rfl) (by decide) (by decide), List.forall_mem_cons.mpr ⟨zfl_X4 (fun w h => List.mem_cons_of_mem _ (List.mem_append_left _ (List.mem_append_left _ (List.mem_append_right _ h)))) (List.mem_of_getElem? (i := 3) rfl) (by decide) (by decide), List.forall_mem_cons.mpr ⟨zfl_X4 (fun w h => List.mem_cons_of_mem _ (List.mem_append_left _ (List.mem_append_left _ (List.mem_append_right _ h)))) (List.mem_of_getElem? (i := 2) rfl) (by decide) (by decide), List.forall_mem_cons.mpr ⟨zfl_X4 (fun w h => List.mem_cons_of_mem _ (List.mem_append_left _ (List.mem_append_left _ (List.mem_append_right _ h)))) (List.mem_of_getElem? (i := 4) rfl) (by decide) (by decide), List.forall_mem_cons.mpr ⟨zfl_X5 (fun w h => List.mem_cons_of_mem _ (List.mem_append_left _ (List.mem_append_right _ h))) (List.mem_of_getElem? (i := 9) rfl) (by decide) (by decide), List.forall_mem_cons.mpr ⟨zfl_X6 (fun w h => List.mem_cons_of_mem _ (List.mem_append_right _ h)) (List.mem_of_getElem? (i := 11) rfl) (by decide) (by decide), List.forall_mem_cons.mpr ⟨zfl_X4 (fun w h => List.mem_cons_of_mem _ (List.mem_append_left _ (List.mem_append_left _ (List.mem_append_right _ h)))) (List.mem_of_getElem? (i := 12) rfl) (by decide) (by decide), List.forall_mem_cons.mpr ⟨zfl_X4 (fun w h => List.mem_cons_of_mem _ (List.mem_append_left _ (List.mem_append_left _ (List.mem_append_right _ h)))) (List.mem_of_getElem? (i := 13) rfl) (by decide) (by decide), List.forall_mem_cons.mpr ⟨zfl_X4 (fun w h => List.mem_cons_of_mem _ (List.mem_append_left _ (List.mem_append_left _ (List.mem_append_right _ h)))) (List.mem_of_getElem? (i := 14) rfl) (by decide) (by decide), List.forall_mem_cons.mpr ⟨zfl_X4 (fun w h => List.mem_cons_of_mem _ (List.mem_append_left _ (List.mem_append_left _ (List.mem_append_right _ h)))) (List.mem_of_getElem? (i := 15) rfl) (by decide) (by decide), fun _ h => absurd h List.not_mem_nil⟩⟩⟩⟩⟩⟩⟩⟩⟩⟩⟩⟩⟩⟩⟩))
    (zco_all (fun _ h => absurd h List.not_mem_nil)) (zlc_all (fun _ h => absurd h List.not_mem_nil))
    (List.forall_mem_cons.mpr ⟨ycal_V hX (m_X4_setHabit hX hN l) rfl (fun s args hts => cwV 4 hts gX4_makeNew_X4_setHabit rfl rfl rfl (by decide +kernel) ⟨Nat.le_of_ble_eq_true rfl, Nat.le_of_ble_eq_true rfl⟩), fun _ h => absurd h List.not_mem_nil⟩)
    (fun _ h => absurd h List.not_mem_nil)
    (zmm_all (fun _ h => absurd h List.not_mem_nil)) (fun _ h => absurd h List.not_mem_nil) (zpr_all hp_X4_makeNew) (fun as σ res h => by
      unfold F_X4_makeNew at h
      split at h
      · rename_i x0
        cases hr : f_X4_makeNew N σ x0 with
        | none => rw [hr] at h; cases h
        | some r =>
          rw [hr] at h
          cases h
          exact ⟨Nat.le_of_ble_eq_true rfl, t_X4_makeNew σ x0 r hr⟩
      · cases h)
noncomputable def pr_X1_sortOf : List (Nat × Instr × Nat) := [(0, .bipush 97, 2), (2, .iload_n 0, 1), (3, .if_icmp .gt 11, 3), (6, .iload_n 0, 1), (7, .bipush 122, 2), (9, .if_icmp .gt 5, 3), (12, .iconst 1, 1), (13, .ireturn, 1), (14, .bipush 48, 2), (16, .iload_n 0, 1), (17, .if_icmp .gt 11, 3), (20, .iload_n 0, 1), (21, .bipush 57, 2), (23, .if_icmp .gt 5, 3), (26, .iconst 2, 1), (27, .ireturn, 1), (28, .iload_n 0, 1), (29, .bipush 59, 2), (31, .if_icmp .ne 7, 3), (34, .iconst 3, 1), (35, .goto 4, 3), (38, .iconst 4, 1), (39, .ireturn, 1)]
set_option maxRecDepth 100000 in
theorem hp_X1_sortOf : pr_X1_sortOf.all (fun x => decide (decode cX1_sortOf x.1 = .ok x.2)) = true := by decide +kernel
noncomputable def f_X1_sortOf_b39 (N : Nat) (σ : yS) (s0 : Int) : Option (Int × yS) :=
  some (s0, σ)
noncomputable def f_X1_sortOf_b28 (N : Nat) (σ : yS) (x0 : Int) : Option (Int × yS) :=
  bif ycP .ne x0 59 then
    f_X1_sortOf_b39 N σ 4
  else
    f_X1_sortOf_b39 N σ 3
noncomputable def f_X1_sortOf_b14 (N : Nat) (σ : yS) (x0 : Int) : Option (Int × yS) :=
  bif ycP .gt 48 x0 then
    f_X1_sortOf_b28 N σ x0
  else
    bif ycP .gt x0 57 then
      f_X1_sortOf_b28 N σ x0
    else
      some (2, σ)
noncomputable def f_X1_sortOf (N : Nat) (σ : yS) (x0 : Int) : Option (Int × yS) :=
  bif ycP .gt 97 x0 then
    f_X1_sortOf_b14 N σ x0
  else
    bif ycP .gt x0 122 then
      f_X1_sortOf_b14 N σ x0
    else
      some (1, σ)
noncomputable def F_X1_sortOf (N : Nat) : yF := fun as σ => match as with
  | [.inl (.inl x0)] => (f_X1_sortOf N σ x0).map (fun r => (some (.inl (.inl r.1)), r.2))
  | _ => none
theorem e_X1_sortOf {N : Nat} {σ : yS} {x0 : Int} {r : Int × yS} (h : f_X1_sortOf N σ x0 = some r) : F_X1_sortOf N [.inl (.inl x0)] σ = some (some (.inl (.inl r.1)), r.2) := by
  show (f_X1_sortOf N σ x0).map (fun r => ((some (.inl (.inl r.1)), r.2) : yR)) = _
  rw [h]
  rfl
noncomputable def tb_X1_sortOf (N : Nat) : yTb := ([], [], [], [], [], [], [])
abbrev G_X1_sortOf (N : Nat) (X : zXT) (sh : List yH) (l : Launch) (rm : Room) : yC → yR → Prop := yGoes X vwCl yct sh l rm cX1_sortOf 1 wsX1_sortOf RX1 (tb_X1_sortOf N) pr_X1_sortOf 1
set_option maxRecDepth 100000 in
set_option maxHeartbeats 4000000 in
theorem t_X1_sortOf_b39 {N : Nat} {X : zXT} {sh : List yH} {l : Launch} {rm : Room} (σ : yS) (s0 : Int) (res : Int × yS) (h : f_X1_sortOf_b39 N σ s0 = some res) : G_X1_sortOf N X sh l rm (39, [], [.inl (.inl s0)], σ) (some (.inl (.inl res.1)), res.2) := by
  unfold f_X1_sortOf_b39 at h
  have h := Option.some.inj h
  subst h
  dsimp only
  exact yG_r rfl rfl
set_option maxRecDepth 100000 in
set_option maxHeartbeats 4000000 in
theorem t_X1_sortOf_b28 {N : Nat} {X : zXT} {sh : List yH} {l : Launch} {rm : Room} (σ : yS) (x0 : Int) (res : Int × yS) (h : f_X1_sortOf_b28 N σ x0 = some res) : G_X1_sortOf N X sh l rm (28, [(0, .inl (.inl x0))], [], σ) (some (.inl (.inl res.1)), res.2) := by
  unfold f_X1_sortOf_b28 at h
  refine yG_n (n := 2) (C' := (31, [(0, .inl (.inl x0))], [.inl (.inl 59), .inl (.inl x0)], σ)) rfl ?_
  cases hg1 : ycP .ne x0 59 with
  | true =>
    rw [hg1] at h
    dsimp only [cond] at h
    refine yG_t (C' := (38, [(0, .inl (.inl x0))], [], σ)) rfl hg1 ?_
    refine yG_n (n := 1) (C' := (39, [(0, .inl (.inl x0))], [.inl (.inl 4)], σ)) rfl ?_
    exact yG_w [] rfl (t_X1_sortOf_b39 σ 4 res h)
  | false =>
    rw [hg1] at h
    dsimp only [cond] at h
    refine yG_f (C' := (34, [(0, .inl (.inl x0))], [], σ)) rfl hg1 ?_
    refine yG_n (n := 2) (C' := (39, [(0, .inl (.inl x0))], [.inl (.inl 3)], σ)) rfl ?_
    exact yG_w [] rfl (t_X1_sortOf_b39 σ 3 res h)
set_option maxRecDepth 100000 in
set_option maxHeartbeats 4000000 in
theorem t_X1_sortOf_b14 {N : Nat} {X : zXT} {sh : List yH} {l : Launch} {rm : Room} (σ : yS) (x0 : Int) (res : Int × yS) (h : f_X1_sortOf_b14 N σ x0 = some res) : G_X1_sortOf N X sh l rm (14, [(0, .inl (.inl x0))], [], σ) (some (.inl (.inl res.1)), res.2) := by
  unfold f_X1_sortOf_b14 at h
  refine yG_n (n := 2) (C' := (17, [(0, .inl (.inl x0))], [.inl (.inl x0), .inl (.inl 48)], σ)) rfl ?_
  cases hg2 : ycP .gt 48 x0 with
  | true =>
    rw [hg2] at h
    dsimp only [cond] at h
    refine yG_t (C' := (28, [(0, .inl (.inl x0))], [], σ)) rfl hg2 ?_
    exact t_X1_sortOf_b28 σ x0 res h
  | false =>
    rw [hg2] at h
    dsimp only [cond] at h
    refine yG_f (C' := (20, [(0, .inl (.inl x0))], [], σ)) rfl hg2 ?_
    refine yG_n (n := 2) (C' := (23, [(0, .inl (.inl x0))], [.inl (.inl 57), .inl (.inl x0)], σ)) rfl ?_
    cases hg3 : ycP .gt x0 57 with
    | true =>
      rw [hg3] at h
      dsimp only [cond] at h
      refine yG_t (C' := (28, [(0, .inl (.inl x0))], [], σ)) rfl hg3 ?_
      exact t_X1_sortOf_b28 σ x0 res h
    | false =>
      rw [hg3] at h
      dsimp only [cond] at h
      refine yG_f (C' := (26, [(0, .inl (.inl x0))], [], σ)) rfl hg3 ?_
      refine yG_n (n := 1) (C' := (27, [(0, .inl (.inl x0))], [.inl (.inl 2)], σ)) rfl ?_
      have h := Option.some.inj h
      subst h
      dsimp only
      exact yG_r rfl rfl
set_option maxRecDepth 100000 in
set_option maxHeartbeats 4000000 in
theorem t_X1_sortOf {N : Nat} {X : zXT} {sh : List yH} {l : Launch} {rm : Room} (σ : yS) (x0 : Int) (res : Int × yS) (h : f_X1_sortOf N σ x0 = some res) : G_X1_sortOf N X sh l rm (0, [(0, .inl (.inl x0))], [], σ) (some (.inl (.inl res.1)), res.2) := by
  unfold f_X1_sortOf at h
  refine yG_n (n := 2) (C' := (3, [(0, .inl (.inl x0))], [.inl (.inl x0), .inl (.inl 97)], σ)) rfl ?_
  cases hg4 : ycP .gt 97 x0 with
  | true =>
    rw [hg4] at h
    dsimp only [cond] at h
    refine yG_t (C' := (14, [(0, .inl (.inl x0))], [], σ)) rfl hg4 ?_
    exact t_X1_sortOf_b14 σ x0 res h
  | false =>
    rw [hg4] at h
    dsimp only [cond] at h
    refine yG_f (C' := (6, [(0, .inl (.inl x0))], [], σ)) rfl hg4 ?_
    refine yG_n (n := 2) (C' := (9, [(0, .inl (.inl x0))], [.inl (.inl 122), .inl (.inl x0)], σ)) rfl ?_
    cases hg5 : ycP .gt x0 122 with
    | true =>
      rw [hg5] at h
      dsimp only [cond] at h
      refine yG_t (C' := (14, [(0, .inl (.inl x0))], [], σ)) rfl hg5 ?_
      exact t_X1_sortOf_b14 σ x0 res h
    | false =>
      rw [hg5] at h
      dsimp only [cond] at h
      refine yG_f (C' := (12, [(0, .inl (.inl x0))], [], σ)) rfl hg5 ?_
      refine yG_n (n := 1) (C' := (13, [(0, .inl (.inl x0))], [.inl (.inl 1)], σ)) rfl ?_
      have h := Option.some.inj h
      subst h
      dsimp only
      exact yG_r rfl rfl
set_option maxRecDepth 100000 in
set_option maxHeartbeats 4000000 in
theorem m_X1_sortOf {N : Nat} {X : zXT} (hX : zXok X) (hN : zXn X) (l : Launch) {sh : List yH} : yMet X vwCl yct sh l yX1_sortOf wsX1_sortOf { frames := 1, cells := 0, slots := 0, locals := 64 } (F_X1_sortOf N) :=
  ymeth (tb := tb_X1_sortOf N) (pr := pr_X1_sortOf) (rt := 1) (own := RX1) hX (by decide +kernel) rfl rfl ⟨Nat.le_of_ble_eq_true rfl, Nat.le_of_ble_eq_true rfl⟩
    (zfl_all (fun _ h => absurd h List.not_mem_nil))
    (zco_all (fun _ h => absurd h List.not_mem_nil)) (zlc_all (fun _ h => absurd h List.not_mem_nil))
    (fun _ h => absurd h List.not_mem_nil)
    (fun _ h => absurd h List.not_mem_nil)
    (zmm_all (fun _ h => absurd h List.not_mem_nil)) (fun _ h => absurd h List.not_mem_nil) (zpr_all hp_X1_sortOf) (fun as σ res h => by
      unfold F_X1_sortOf at h
      split at h
      · rename_i x0
        cases hr : f_X1_sortOf N σ x0 with
        | none => rw [hr] at h; cases h
        | some r =>
          rw [hr] at h
          cases h
          exact ⟨Nat.le_of_ble_eq_true rfl, t_X1_sortOf σ x0 r hr⟩
      · cases h)
noncomputable def pr_X1_complain : List (Nat × Instr × Nat) := [(0, .aload_n 0, 1), (1, .getfield 27, 3), (4, .ifCond .ne 13, 3), (7, .aload_n 0, 1), (8, .iload_n 1, 1), (9, .putfield 27, 3), (12, .aload_n 0, 1), (13, .iload_n 2, 1), (14, .putfield 30, 3), (17, .return_, 1)]
set_option maxRecDepth 100000 in
theorem hp_X1_complain : pr_X1_complain.all (fun x => decide (decode cX1_complain x.1 = .ok x.2)) = true := by decide +kernel
noncomputable def f_X1_complain_b17 (N : Nat) (σ : yS) : Option (Int × yS) :=
  some (0, σ)
noncomputable def f_X1_complain (N : Nat) (σ : yS) (x1 : Int) (x2 : Int) : Option (Int × yS) :=
  bif ycP .ne (σ.1 2 4) 0 then
    f_X1_complain_b17 N σ
  else
    f_X1_complain_b17 N (yw (yw σ 2 4 x1) 2 5 x2)
noncomputable def F_X1_complain (N : Nat) : yF := fun as σ => match as with
  | [.inr (.inl 1, 2), .inl (.inl x1), .inl (.inl x2)] => (f_X1_complain N σ x1 x2).map (fun r => (none, r.2))
  | _ => none
theorem e_X1_complain {N : Nat} {σ : yS} {x1 : Int} {x2 : Int} {r : Int × yS} (h : f_X1_complain N σ x1 x2 = some r) : F_X1_complain N [.inr (.inl 1, 2), .inl (.inl x1), .inl (.inl x2)] σ = some (none, r.2) := by
  show (f_X1_complain N σ x1 x2).map (fun r => ((none, r.2) : yR)) = _
  rw [h]
  rfl
noncomputable def tb_X1_complain (N : Nat) : yTb := ([(27, 1, 4, 0), (30, 1, 5, 0)], [], [], [], [], [], [])
abbrev G_X1_complain (N : Nat) (X : zXT) (sh : List yH) (l : Launch) (rm : Room) : yC → yR → Prop := yGoes X vwCl yct sh l rm cX1_complain 3 wsX1_complain RX1 (tb_X1_complain N) pr_X1_complain 0
set_option maxRecDepth 100000 in
set_option maxHeartbeats 4000000 in
theorem t_X1_complain_b17 {N : Nat} {X : zXT} {sh : List yH} {l : Launch} {rm : Room} (σ : yS) (res : Int × yS) (h : f_X1_complain_b17 N σ = some res) : G_X1_complain N X sh l rm (17, [], [], σ) (none, res.2) := by
  unfold f_X1_complain_b17 at h
  have h := Option.some.inj h
  subst h
  dsimp only
  exact yG_r rfl rfl
set_option maxRecDepth 100000 in
set_option maxHeartbeats 4000000 in
theorem t_X1_complain {N : Nat} {X : zXT} {sh : List yH} {l : Launch} {rm : Room} (σ : yS) (x1 : Int) (x2 : Int) (res : Int × yS) (h : f_X1_complain N σ x1 x2 = some res) : G_X1_complain N X sh l rm (0, [(0, .inr (.inl 1, 2)), (1, .inl (.inl x1)), (2, .inl (.inl x2))], [], σ) (none, res.2) := by
  unfold f_X1_complain at h
  refine yG_n (n := 2) (C' := (4, [(0, .inr (.inl 1, 2)), (1, .inl (.inl x1)), (2, .inl (.inl x2))], [.inl (.inl (σ.1 2 4))], σ)) rfl ?_
  cases hg1 : ycP .ne (σ.1 2 4) 0 with
  | true =>
    rw [hg1] at h
    dsimp only [cond] at h
    refine yG_t (C' := (17, [(0, .inr (.inl 1, 2)), (1, .inl (.inl x1)), (2, .inl (.inl x2))], [], σ)) rfl hg1 ?_
    exact yG_w [] rfl (t_X1_complain_b17 σ res h)
  | false =>
    rw [hg1] at h
    dsimp only [cond] at h
    refine yG_f (C' := (7, [(0, .inr (.inl 1, 2)), (1, .inl (.inl x1)), (2, .inl (.inl x2))], [], σ)) rfl hg1 ?_
    refine yG_n (n := 6) (C' := (17, [(0, .inr (.inl 1, 2)), (1, .inl (.inl x1)), (2, .inl (.inl x2))], [], yw (yw σ 2 4 x1) 2 5 x2)) rfl ?_
    exact yG_w [] rfl (t_X1_complain_b17 (yw (yw σ 2 4 x1) 2 5 x2) res h)
set_option maxRecDepth 100000 in
set_option maxHeartbeats 4000000 in
theorem m_X1_complain {N : Nat} {X : zXT} (hX : zXok X) (hN : zXn X) (l : Launch) {sh : List yH} : yMet X vwCl yct sh l yX1_complain wsX1_complain { frames := 1, cells := 0, slots := 0, locals := 64 } (F_X1_complain N) :=
  ymeth (tb := tb_X1_complain N) (pr := pr_X1_complain) (rt := 0) (own := RX1) hX (by decide +kernel) rfl rfl ⟨Nat.le_of_ble_eq_true rfl, Nat.le_of_ble_eq_true rfl⟩
    (zfl_all (List.forall_mem_cons.mpr ⟨zfl_X1 (fun w h => List.mem_cons_of_mem _ (List.mem_append_right _ h)) (List.mem_of_getElem? (i := 1) rfl) (by decide) (by decide), List.forall_mem_cons.mpr ⟨zfl_X1 (fun w h => List.mem_cons_of_mem _ (List.mem_append_right _ h)) (List.mem_of_getElem? (i := 2) rfl) (by decide) (by decide), fun _ h => absurd h List.not_mem_nil⟩⟩))
    (zco_all (fun _ h => absurd h List.not_mem_nil)) (zlc_all (fun _ h => absurd h List.not_mem_nil))
    (fun _ h => absurd h List.not_mem_nil)
    (fun _ h => absurd h List.not_mem_nil)
    (zmm_all (fun _ h => absurd h List.not_mem_nil)) (fun _ h => absurd h List.not_mem_nil) (zpr_all hp_X1_complain) (fun as σ res h => by
      unfold F_X1_complain at h
      split at h
      · rename_i x1 x2
        cases hr : f_X1_complain N σ x1 x2 with
        | none => rw [hr] at h; cases h
        | some r =>
          rw [hr] at h
          cases h
          exact ⟨Nat.le_of_ble_eq_true rfl, t_X1_complain σ x1 x2 r hr⟩
      · cases h)
noncomputable def pr_X1_readToken : List (Nat × Instr × Nat) := [(0, .aload_n 0, 1), (1, .getfield 27, 3), (4, .ifCond .eq 4, 3), (7, .return_, 1), (8, .aload_n 0, 1), (9, .getfield 23, 3), (12, .aload_n 0, 1), (13, .getfield 12, 3), (16, .getfield 74, 3), (19, .if_icmp .ge 33, 3), (22, .aload_n 0, 1), (23, .getfield 12, 3), (26, .getfield 207, 3), (29, .aload_n 0, 1), (30, .getfield 23, 3), (33, .iaload, 1), (34, .bipush 32, 2), (36, .if_icmp .ne 16, 3), (39, .aload_n 0, 1), (40, .dup, 1), (41, .getfield 23, 3), (44, .iconst 1, 1), (45, .iadd, 1), (46, .putfield 23, 3), (49, .goto (-41), 3), (52, .aload_n 0, 1), (53, .aload_n 0, 1), (54, .getfield 23, 3), (57, .putfield 123, 3), (60, .aload_n 0, 1), (61, .getfield 23, 3), (64, .aload_n 0, 1), (65, .getfield 12, 3), (68, .getfield 74, 3), (71, .if_icmp .lt 9, 3), (74, .aload_n 0, 1), (75, .iconst 0, 1), (76, .putfield 58, 3), (79, .return_, 1), (80, .aload_n 0, 1), (81, .aload_n 0, 1), (82, .getfield 12, 3), (85, .getfield 207, 3), (88, .aload_n 0, 1), (89, .getfield 23, 3), (92, .iaload, 1), (93, .invokestatic 233, 3), (96, .putfield 58, 3), (99, .aload_n 0, 1), (100, .dup, 1), (101, .getfield 23, 3), (104, .iconst 1, 1), (105, .iadd, 1), (106, .putfield 23, 3), (109, .aload_n 0, 1), (110, .getfield 58, 3), (113, .iconst 3, 1), (114, .if_icmp .eq 52, 3), (117, .aload_n 0, 1), (118, .getfield 23, 3), (121, .aload_n 0, 1), (122, .getfield 12, 3), (125, .getfield 74, 3), (128, .if_icmp .ge 38, 3), (131, .aload_n 0, 1), (132, .getfield 12, 3), (135, .getfield 207, 3), (138, .aload_n 0, 1), (139, .getfield 23, 3), (142, .iaload, 1), (143, .invokestatic 233, 3), (146, .aload_n 0, 1), (147, .getfield 58, 3), (150, .if_icmp .ne 16, 3), (153, .aload_n 0, 1), (154, .dup, 1), (155, .getfield 23, 3), (158, .iconst 1, 1), (159, .iadd, 1), (160, .putfield 23, 3), (163, .goto (-54), 3), (166, .aload_n 0, 1), (167, .getfield 58, 3), (170, .iconst 4, 1), (171, .if_icmp .eq 24, 3), (174, .aload_n 0, 1), (175, .getfield 58, 3), (178, .iconst 2, 1), (179, .if_icmp .ne 25, 3), (182, .aload_n 0, 1), (183, .getfield 23, 3), (186, .aload_n 0, 1), (187, .getfield 123, 3), (190, .isub, 1), (191, .iconst 2, 1), (192, .if_icmp .le 12, 3), (195, .aload_n 0, 1), (196, .iconst 1, 1), (197, .aload_n 0, 1), (198, .getfield 123, 3), (201, .invokevirtual 77, 3), (204, .return_, 1)]
set_option maxRecDepth 100000 in
theorem hp_X1_readToken : pr_X1_readToken.all (fun x => decide (decode cX1_readToken x.1 = .ok x.2)) = true := by decide +kernel
noncomputable def f_X1_readToken_b204 (N : Nat) (σ : yS) : Option (Int × yS) :=
  some (0, σ)
noncomputable def f_X1_readToken_b195 (N : Nat) (σ : yS) : Option (Int × yS) :=
  match f_X1_complain N σ 1 (σ.1 2 3) with
  | none => none
  | some r2 => f_X1_readToken_b204 N r2.2
noncomputable def f_X1_readToken_b166 (N : Nat) (σ : yS) : Option (Int × yS) :=
  bif ycP .eq (σ.1 2 2) 4 then
    f_X1_readToken_b195 N σ
  else
    bif ycP .ne (σ.1 2 2) 2 then
      f_X1_readToken_b204 N σ
    else
      bif ycP .le (ysu (σ.1 2 1) (σ.1 2 3)) 2 then
        f_X1_readToken_b204 N σ
      else
        f_X1_readToken_b195 N σ
noncomputable def f_X1_readToken_b109 (N : Nat) : Nat → yS → Option (Int × yS) := yfix (fun _ => none) (fun ih σ =>
    bif ycP .eq (σ.1 2 2) 3 then
      f_X1_readToken_b166 N σ
    else
      bif ycP .ge (σ.1 2 1) (σ.1 3 0) then
        f_X1_readToken_b166 N σ
      else
        bif yin (σ.1 2 1) 160 then
          match f_X1_sortOf N σ (σ.1 4 (σ.1 2 1).toNat) with
          | none => none
          | some r3 => bif ycP .ne r3.1 (r3.2.1 2 2) then
              f_X1_readToken_b166 N r3.2
            else
              ih (yw r3.2 2 1 (yad (r3.2.1 2 1) 1))
        else none)
theorem q_X1_readToken_b109 (N : Nat) (n : Nat) (σ : yS) : f_X1_readToken_b109 N (n + 1) σ =
    (bif ycP .eq (σ.1 2 2) 3 then
      f_X1_readToken_b166 N σ
    else
      bif ycP .ge (σ.1 2 1) (σ.1 3 0) then
        f_X1_readToken_b166 N σ
      else
        bif yin (σ.1 2 1) 160 then
          match f_X1_sortOf N σ (σ.1 4 (σ.1 2 1).toNat) with
          | none => none
          | some r3 => bif ycP .ne r3.1 (r3.2.1 2 2) then
              f_X1_readToken_b166 N r3.2
            else
              (f_X1_readToken_b109 N n) (yw r3.2 2 1 (yad (r3.2.1 2 1) 1))
        else none) := rfl
noncomputable def f_X1_readToken_b101 (N : Nat) (σ : yS) : Option (Int × yS) :=
  f_X1_readToken_b109 N N (yw σ 2 1 (yad (σ.1 2 1) 1))
noncomputable def f_X1_readToken_b61 (N : Nat) (σ : yS) : Option (Int × yS) :=
  bif ycP .lt (σ.1 2 1) (σ.1 3 0) then
    bif yin (σ.1 2 1) 160 then
      match f_X1_sortOf N σ (σ.1 4 (σ.1 2 1).toNat) with
      | none => none
      | some r1 => f_X1_readToken_b101 N (yw r1.2 2 2 r1.1)
    else none
  else
    some (0, yw σ 2 2 0)
noncomputable def f_X1_readToken_b52 (N : Nat) (σ : yS) : Option (Int × yS) :=
  f_X1_readToken_b61 N (yw σ 2 3 (σ.1 2 1))
noncomputable def f_X1_readToken_b8 (N : Nat) : Nat → yS → Option (Int × yS) := yfix (fun _ => none) (fun ih σ =>
    bif ycP .ge (σ.1 2 1) (σ.1 3 0) then
      f_X1_readToken_b52 N σ
    else
      bif yin (σ.1 2 1) 160 then
        bif ycP .ne (σ.1 4 (σ.1 2 1).toNat) 32 then
          f_X1_readToken_b52 N σ
        else
          ih (yw σ 2 1 (yad (σ.1 2 1) 1))
      else none)
theorem q_X1_readToken_b8 (N : Nat) (n : Nat) (σ : yS) : f_X1_readToken_b8 N (n + 1) σ =
    (bif ycP .ge (σ.1 2 1) (σ.1 3 0) then
      f_X1_readToken_b52 N σ
    else
      bif yin (σ.1 2 1) 160 then
        bif ycP .ne (σ.1 4 (σ.1 2 1).toNat) 32 then
          f_X1_readToken_b52 N σ
        else
          (f_X1_readToken_b8 N n) (yw σ 2 1 (yad (σ.1 2 1) 1))
      else none) := rfl
noncomputable def f_X1_readToken (N : Nat) (σ : yS) : Option (Int × yS) :=
  bif ycP .eq (σ.1 2 4) 0 then
    f_X1_readToken_b8 N N σ
  else
    some (0, σ)
noncomputable def F_X1_readToken (N : Nat) : yF := fun as σ => match as with
  | [.inr (.inl 1, 2)] => (f_X1_readToken N σ).map (fun r => (none, r.2))
  | _ => none
theorem e_X1_readToken {N : Nat} {σ : yS} {r : Int × yS} (h : f_X1_readToken N σ = some r) : F_X1_readToken N [.inr (.inl 1, 2)] σ = some (none, r.2) := by
  show (f_X1_readToken N σ).map (fun r => ((none, r.2) : yR)) = _
  rw [h]
  rfl
noncomputable def tb_X1_readToken (N : Nat) : yTb := ([(12, 1, 0, 3), (23, 1, 1, 0), (27, 1, 4, 0), (58, 1, 2, 0), (74, 3, 0, 0), (123, 1, 3, 0), (207, 3, 1, 3)], [], [], [(77, 3, 1, F_X1_complain N)], [(233, 1, F_X1_sortOf N)], [], [])
abbrev G_X1_readToken (N : Nat) (X : zXT) (sh : List yH) (l : Launch) (rm : Room) : yC → yR → Prop := yGoes X vwCl yct sh l rm cX1_readToken 1 wsX1_readToken RX1 (tb_X1_readToken N) pr_X1_readToken 0
set_option maxRecDepth 100000 in
set_option maxHeartbeats 4000000 in
theorem t_X1_readToken_b204 {N : Nat} {X : zXT} {sh : List yH} {l : Launch} {rm : Room} (σ : yS) (res : Int × yS) (h : f_X1_readToken_b204 N σ = some res) : G_X1_readToken N X sh l rm (204, [], [], σ) (none, res.2) := by
  unfold f_X1_readToken_b204 at h
  have h := Option.some.inj h
  subst h
  dsimp only
  exact yG_r rfl rfl
set_option maxRecDepth 100000 in
set_option maxHeartbeats 4000000 in
theorem t_X1_readToken_b195 {N : Nat} {X : zXT} {sh : List yH} {l : Launch} {rm : Room} (σ : yS) (res : Int × yS) (h : f_X1_readToken_b195 N σ = some res) : G_X1_readToken N X sh l rm (195, [(0, .inr (.inl 1, 2))], [], σ) (none, res.2) := by
  unfold f_X1_readToken_b195 at h
  refine yG_n (n := 4) (C' := (201, [(0, .inr (.inl 1, 2))], [.inl (.inl (σ.1 2 3)), .inl (.inl 1), .inr (.inl 1, 2)], σ)) rfl ?_
  cases hr1 : f_X1_complain N σ 1 (σ.1 2 3) with
  | none => rw [hr1] at h; dsimp only at h; cases h
  | some r2 =>
    rw [hr1] at h
    dsimp only at h
    refine yG_c (C1 := (204, [(0, .inr (.inl 1, 2))], [], r2.2)) rfl (e_X1_complain hr1) rfl ?_
    exact yG_w [] rfl (t_X1_readToken_b204 r2.2 res h)
set_option maxRecDepth 100000 in
set_option maxHeartbeats 4000000 in
theorem t_X1_readToken_b166 {N : Nat} {X : zXT} {sh : List yH} {l : Launch} {rm : Room} (σ : yS) (res : Int × yS) (h : f_X1_readToken_b166 N σ = some res) : G_X1_readToken N X sh l rm (166, [(0, .inr (.inl 1, 2))], [], σ) (none, res.2) := by
  unfold f_X1_readToken_b166 at h
  refine yG_n (n := 3) (C' := (171, [(0, .inr (.inl 1, 2))], [.inl (.inl 4), .inl (.inl (σ.1 2 2))], σ)) rfl ?_
  cases hg2 : ycP .eq (σ.1 2 2) 4 with
  | true =>
    rw [hg2] at h
    dsimp only [cond] at h
    refine yG_t (C' := (195, [(0, .inr (.inl 1, 2))], [], σ)) rfl hg2 ?_
    exact t_X1_readToken_b195 σ res h
  | false =>
    rw [hg2] at h
    dsimp only [cond] at h
    refine yG_f (C' := (174, [(0, .inr (.inl 1, 2))], [], σ)) rfl hg2 ?_
    refine yG_n (n := 3) (C' := (179, [(0, .inr (.inl 1, 2))], [.inl (.inl 2), .inl (.inl (σ.1 2 2))], σ)) rfl ?_
    cases hg3 : ycP .ne (σ.1 2 2) 2 with
    | true =>
      rw [hg3] at h
      dsimp only [cond] at h
      refine yG_t (C' := (204, [(0, .inr (.inl 1, 2))], [], σ)) rfl hg3 ?_
      exact yG_w [] rfl (t_X1_readToken_b204 σ res h)
    | false =>
      rw [hg3] at h
      dsimp only [cond] at h
      refine yG_f (C' := (182, [(0, .inr (.inl 1, 2))], [], σ)) rfl hg3 ?_
      refine yG_n (n := 6) (C' := (192, [(0, .inr (.inl 1, 2))], [.inl (.inl 2), .inl (.inl (ysu (σ.1 2 1) (σ.1 2 3)))], σ)) rfl ?_
      cases hg4 : ycP .le (ysu (σ.1 2 1) (σ.1 2 3)) 2 with
      | true =>
        rw [hg4] at h
        dsimp only [cond] at h
        refine yG_t (C' := (204, [(0, .inr (.inl 1, 2))], [], σ)) rfl hg4 ?_
        exact yG_w [] rfl (t_X1_readToken_b204 σ res h)
      | false =>
        rw [hg4] at h
        dsimp only [cond] at h
        refine yG_f (C' := (195, [(0, .inr (.inl 1, 2))], [], σ)) rfl hg4 ?_
        exact t_X1_readToken_b195 σ res h
set_option maxRecDepth 100000 in
set_option maxHeartbeats 4000000 in
theorem t_X1_readToken_b109 {N : Nat} {X : zXT} {sh : List yH} {l : Launch} {rm : Room} : ∀ (n : Nat) (σ : yS) (res : Int × yS), f_X1_readToken_b109 N n σ = some res → G_X1_readToken N X sh l rm (109, [(0, .inr (.inl 1, 2))], [], σ) (none, res.2) := by
  intro n
  induction n with
  | zero => intro σ res h; exact (yno h).elim
  | succ n ih =>
    intro σ res h
    rw [q_X1_readToken_b109] at h
    refine yG_n (n := 3) (C' := (114, [(0, .inr (.inl 1, 2))], [.inl (.inl 3), .inl (.inl (σ.1 2 2))], σ)) rfl ?_
    cases hg5 : ycP .eq (σ.1 2 2) 3 with
    | true =>
      rw [hg5] at h
      dsimp only [cond] at h
      refine yG_t (C' := (166, [(0, .inr (.inl 1, 2))], [], σ)) rfl hg5 ?_
      exact t_X1_readToken_b166 σ res h
    | false =>
      rw [hg5] at h
      dsimp only [cond] at h
      refine yG_f (C' := (117, [(0, .inr (.inl 1, 2))], [], σ)) rfl hg5 ?_
      refine yG_n (n := 5) (C' := (128, [(0, .inr (.inl 1, 2))], [.inl (.inl (σ.1 3 0)), .inl (.inl (σ.1 2 1))], σ)) rfl ?_
      cases hg6 : ycP .ge (σ.1 2 1) (σ.1 3 0) with
      | true =>
        rw [hg6] at h
        dsimp only [cond] at h
        refine yG_t (C' := (166, [(0, .inr (.inl 1, 2))], [], σ)) rfl hg6 ?_
        exact t_X1_readToken_b166 σ res h
      | false =>
        rw [hg6] at h
        dsimp only [cond] at h
        refine yG_f (C' := (131, [(0, .inr (.inl 1, 2))], [], σ)) rfl hg6 ?_
        refine yG_n (n := 5) (C' := (142, [(0, .inr (.inl 1, 2))], [.inl (.inl (σ.1 2 1)), .inr (.inr (0, 160), 4)], σ)) rfl ?_
        cases hg7 : yin (σ.1 2 1) 160 with
        | false => rw [hg7] at h; dsimp only [cond] at h; cases h
        | true =>
          rw [hg7] at h
          dsimp only [cond] at h
          refine yG_t (C' := (143, [(0, .inr (.inl 1, 2))], [.inl (.inl (σ.1 4 (σ.1 2 1).toNat))], σ)) rfl hg7 ?_
          cases hr8 : f_X1_sortOf N σ (σ.1 4 (σ.1 2 1).toNat) with
          | none => rw [hr8] at h; dsimp only at h; cases h
          | some r3 =>
            rw [hr8] at h
            dsimp only at h
            refine yG_c (C1 := (146, [(0, .inr (.inl 1, 2))], [.inl (.inl r3.1)], r3.2)) rfl (e_X1_sortOf hr8) rfl ?_
            refine yG_n (n := 2) (C' := (150, [(0, .inr (.inl 1, 2))], [.inl (.inl (r3.2.1 2 2)), .inl (.inl r3.1)], r3.2)) rfl ?_
            cases hg9 : ycP .ne r3.1 (r3.2.1 2 2) with
            | true =>
              rw [hg9] at h
              dsimp only [cond] at h
              refine yG_t (C' := (166, [(0, .inr (.inl 1, 2))], [], r3.2)) rfl hg9 ?_
              exact t_X1_readToken_b166 r3.2 res h
            | false =>
              rw [hg9] at h
              dsimp only [cond] at h
              refine yG_f (C' := (153, [(0, .inr (.inl 1, 2))], [], r3.2)) rfl hg9 ?_
              refine yG_n (n := 7) (C' := (109, [(0, .inr (.inl 1, 2))], [], yw r3.2 2 1 (yad (r3.2.1 2 1) 1))) rfl ?_
              exact ih (yw r3.2 2 1 (yad (r3.2.1 2 1) 1)) res h
set_option maxRecDepth 100000 in
set_option maxHeartbeats 4000000 in
theorem t_X1_readToken_b101 {N : Nat} {X : zXT} {sh : List yH} {l : Launch} {rm : Room} (σ : yS) (res : Int × yS) (h : f_X1_readToken_b101 N σ = some res) : G_X1_readToken N X sh l rm (101, [(0, .inr (.inl 1, 2))], [.inr (.inl 1, 2), .inr (.inl 1, 2)], σ) (none, res.2) := by
  unfold f_X1_readToken_b101 at h
  refine yG_n (n := 4) (C' := (109, [(0, .inr (.inl 1, 2))], [], yw σ 2 1 (yad (σ.1 2 1) 1))) rfl ?_
  exact t_X1_readToken_b109 N (yw σ 2 1 (yad (σ.1 2 1) 1)) res h
set_option maxRecDepth 100000 in
set_option maxHeartbeats 4000000 in
theorem t_X1_readToken_b61 {N : Nat} {X : zXT} {sh : List yH} {l : Launch} {rm : Room} (σ : yS) (res : Int × yS) (h : f_X1_readToken_b61 N σ = some res) : G_X1_readToken N X sh l rm (61, [(0, .inr (.inl 1, 2))], [.inr (.inl 1, 2)], σ) (none, res.2) := by
  unfold f_X1_readToken_b61 at h
  refine yG_n (n := 4) (C' := (71, [(0, .inr (.inl 1, 2))], [.inl (.inl (σ.1 3 0)), .inl (.inl (σ.1 2 1))], σ)) rfl ?_
  cases hg10 : ycP .lt (σ.1 2 1) (σ.1 3 0) with
  | true =>
    rw [hg10] at h
    dsimp only [cond] at h
    refine yG_t (C' := (80, [(0, .inr (.inl 1, 2))], [], σ)) rfl hg10 ?_
    refine yG_n (n := 6) (C' := (92, [(0, .inr (.inl 1, 2))], [.inl (.inl (σ.1 2 1)), .inr (.inr (0, 160), 4), .inr (.inl 1, 2)], σ)) rfl ?_
    cases hg11 : yin (σ.1 2 1) 160 with
    | false => rw [hg11] at h; dsimp only [cond] at h; cases h
    | true =>
      rw [hg11] at h
      dsimp only [cond] at h
      refine yG_t (C' := (93, [(0, .inr (.inl 1, 2))], [.inl (.inl (σ.1 4 (σ.1 2 1).toNat)), .inr (.inl 1, 2)], σ)) rfl hg11 ?_
      cases hr12 : f_X1_sortOf N σ (σ.1 4 (σ.1 2 1).toNat) with
      | none => rw [hr12] at h; dsimp only at h; cases h
      | some r1 =>
        rw [hr12] at h
        dsimp only at h
        refine yG_c (C1 := (96, [(0, .inr (.inl 1, 2))], [.inl (.inl r1.1), .inr (.inl 1, 2)], r1.2)) rfl (e_X1_sortOf hr12) rfl ?_
        refine yG_n (n := 3) (C' := (101, [(0, .inr (.inl 1, 2))], [.inr (.inl 1, 2), .inr (.inl 1, 2)], yw r1.2 2 2 r1.1)) rfl ?_
        exact t_X1_readToken_b101 (yw r1.2 2 2 r1.1) res h
  | false =>
    rw [hg10] at h
    dsimp only [cond] at h
    refine yG_f (C' := (74, [(0, .inr (.inl 1, 2))], [], σ)) rfl hg10 ?_
    refine yG_n (n := 3) (C' := (79, [(0, .inr (.inl 1, 2))], [], yw σ 2 2 0)) rfl ?_
    have h := Option.some.inj h
    subst h
    dsimp only
    exact yG_r rfl rfl
set_option maxRecDepth 100000 in
set_option maxHeartbeats 4000000 in
theorem t_X1_readToken_b52 {N : Nat} {X : zXT} {sh : List yH} {l : Launch} {rm : Room} (σ : yS) (res : Int × yS) (h : f_X1_readToken_b52 N σ = some res) : G_X1_readToken N X sh l rm (52, [(0, .inr (.inl 1, 2))], [], σ) (none, res.2) := by
  unfold f_X1_readToken_b52 at h
  refine yG_n (n := 5) (C' := (61, [(0, .inr (.inl 1, 2))], [.inr (.inl 1, 2)], yw σ 2 3 (σ.1 2 1))) rfl ?_
  exact t_X1_readToken_b61 (yw σ 2 3 (σ.1 2 1)) res h
set_option maxRecDepth 100000 in
set_option maxHeartbeats 4000000 in
theorem t_X1_readToken_b8 {N : Nat} {X : zXT} {sh : List yH} {l : Launch} {rm : Room} : ∀ (n : Nat) (σ : yS) (res : Int × yS), f_X1_readToken_b8 N n σ = some res → G_X1_readToken N X sh l rm (8, [(0, .inr (.inl 1, 2))], [], σ) (none, res.2) := by
  intro n
  induction n with
  | zero => intro σ res h; exact (yno h).elim
  | succ n ih =>
    intro σ res h
    rw [q_X1_readToken_b8] at h
    refine yG_n (n := 5) (C' := (19, [(0, .inr (.inl 1, 2))], [.inl (.inl (σ.1 3 0)), .inl (.inl (σ.1 2 1))], σ)) rfl ?_
    cases hg13 : ycP .ge (σ.1 2 1) (σ.1 3 0) with
    | true =>
      rw [hg13] at h
      dsimp only [cond] at h
      refine yG_t (C' := (52, [(0, .inr (.inl 1, 2))], [], σ)) rfl hg13 ?_
      exact t_X1_readToken_b52 σ res h
    | false =>
      rw [hg13] at h
      dsimp only [cond] at h
      refine yG_f (C' := (22, [(0, .inr (.inl 1, 2))], [], σ)) rfl hg13 ?_
      refine yG_n (n := 5) (C' := (33, [(0, .inr (.inl 1, 2))], [.inl (.inl (σ.1 2 1)), .inr (.inr (0, 160), 4)], σ)) rfl ?_
      cases hg14 : yin (σ.1 2 1) 160 with
      | false => rw [hg14] at h; dsimp only [cond] at h; cases h
      | true =>
        rw [hg14] at h
        dsimp only [cond] at h
        refine yG_t (C' := (34, [(0, .inr (.inl 1, 2))], [.inl (.inl (σ.1 4 (σ.1 2 1).toNat))], σ)) rfl hg14 ?_
        refine yG_n (n := 1) (C' := (36, [(0, .inr (.inl 1, 2))], [.inl (.inl 32), .inl (.inl (σ.1 4 (σ.1 2 1).toNat))], σ)) rfl ?_
        cases hg15 : ycP .ne (σ.1 4 (σ.1 2 1).toNat) 32 with
        | true =>
          rw [hg15] at h
          dsimp only [cond] at h
          refine yG_t (C' := (52, [(0, .inr (.inl 1, 2))], [], σ)) rfl hg15 ?_
          exact t_X1_readToken_b52 σ res h
        | false =>
          rw [hg15] at h
          dsimp only [cond] at h
          refine yG_f (C' := (39, [(0, .inr (.inl 1, 2))], [], σ)) rfl hg15 ?_
          refine yG_n (n := 7) (C' := (8, [(0, .inr (.inl 1, 2))], [], yw σ 2 1 (yad (σ.1 2 1) 1))) rfl ?_
          exact ih (yw σ 2 1 (yad (σ.1 2 1) 1)) res h
set_option maxRecDepth 100000 in
set_option maxHeartbeats 4000000 in
theorem t_X1_readToken {N : Nat} {X : zXT} {sh : List yH} {l : Launch} {rm : Room} (σ : yS) (res : Int × yS) (h : f_X1_readToken N σ = some res) : G_X1_readToken N X sh l rm (0, [(0, .inr (.inl 1, 2))], [], σ) (none, res.2) := by
  unfold f_X1_readToken at h
  refine yG_n (n := 2) (C' := (4, [(0, .inr (.inl 1, 2))], [.inl (.inl (σ.1 2 4))], σ)) rfl ?_
  cases hg16 : ycP .eq (σ.1 2 4) 0 with
  | true =>
    rw [hg16] at h
    dsimp only [cond] at h
    refine yG_t (C' := (8, [(0, .inr (.inl 1, 2))], [], σ)) rfl hg16 ?_
    exact t_X1_readToken_b8 N σ res h
  | false =>
    rw [hg16] at h
    dsimp only [cond] at h
    refine yG_f (C' := (7, [(0, .inr (.inl 1, 2))], [], σ)) rfl hg16 ?_
    have h := Option.some.inj h
    subst h
    dsimp only
    exact yG_r rfl rfl
set_option maxRecDepth 100000 in
set_option maxHeartbeats 4000000 in
theorem m_X1_readToken {N : Nat} {X : zXT} (hX : zXok X) (hN : zXn X) (l : Launch) {sh : List yH} : yMet X vwCl yct sh l yX1_readToken wsX1_readToken { frames := 2, cells := 0, slots := 0, locals := 86 } (F_X1_readToken N) :=
  ymeth (tb := tb_X1_readToken N) (pr := pr_X1_readToken) (rt := 0) (own := RX1) hX (by decide +kernel) rfl rfl ⟨Nat.le_of_ble_eq_true rfl, Nat.le_of_ble_eq_true rfl⟩
    (zfl_all (List.forall_mem_cons.mpr ⟨zfl_X1 (fun w h => List.mem_cons_of_mem _ (List.mem_append_left _ (List.mem_append_right _ h))) (List.mem_of_getElem? (i := 3) rfl) (by decide) (by decide), List.forall_mem_cons.mpr ⟨zfl_X1 (fun w h => List.mem_cons_of_mem _ (List.mem_append_left _ (List.mem_append_right _ h))) (List.mem_of_getElem? (i := 2) rfl) (by decide) (by decide), List.forall_mem_cons.mpr ⟨zfl_X1 (fun w h => List.mem_cons_of_mem _ (List.mem_append_left _ (List.mem_append_right _ h))) (List.mem_of_getElem? (i := 1) rfl) (by decide) (by decide), List.forall_mem_cons.mpr ⟨zfl_X1 (fun w h => List.mem_cons_of_mem _ (List.mem_append_left _ (List.mem_append_right _ h))) (List.mem_of_getElem? (i := 7) rfl) (by decide) (by decide), List.forall_mem_cons.mpr ⟨zfl_X3 (fun w h => List.mem_cons_of_mem _ (List.mem_append_right _ h)) (List.mem_of_getElem? (i := 4) rfl) (by decide) (by decide), List.forall_mem_cons.mpr ⟨zfl_X1 (fun w h => List.mem_cons_of_mem _ (List.mem_append_left _ (List.mem_append_right _ h))) (List.mem_of_getElem? (i := 6) rfl) (by decide) (by decide), List.forall_mem_cons.mpr ⟨zfl_X3 (fun w h => List.mem_cons_of_mem _ (List.mem_append_right _ h)) (List.mem_of_getElem? (i := 5) rfl) (by decide) (by decide), fun _ h => absurd h List.not_mem_nil⟩⟩⟩⟩⟩⟩⟩))
    (zco_all (fun _ h => absurd h List.not_mem_nil)) (zlc_all (fun _ h => absurd h List.not_mem_nil))
    (List.forall_mem_cons.mpr ⟨ycal_V hX (m_X1_complain hX hN l) rfl (fun s args hts => cwV 2 hts gX1_readToken_X1_complain rfl rfl rfl (by decide +kernel) ⟨Nat.le_of_ble_eq_true rfl, Nat.le_of_ble_eq_true rfl⟩), fun _ h => absurd h List.not_mem_nil⟩)
    (List.forall_mem_cons.mpr ⟨ycal_S hX (m_X1_sortOf hX hN l) (fun s args hts => va_cwS 1 hts gX1_readToken_X1_sortOf rfl rfl rfl (by decide +kernel) ⟨Nat.le_of_ble_eq_true rfl, Nat.le_of_ble_eq_true rfl⟩), fun _ h => absurd h List.not_mem_nil⟩)
    (zmm_all (fun _ h => absurd h List.not_mem_nil)) (fun _ h => absurd h List.not_mem_nil) (zpr_all hp_X1_readToken) (fun as σ res h => by
      unfold F_X1_readToken at h
      split at h
      · cases hr : f_X1_readToken N σ with
        | none => rw [hr] at h; cases h
        | some r =>
          rw [hr] at h
          cases h
          exact ⟨Nat.le_of_ble_eq_true rfl, t_X1_readToken σ r hr⟩
      · cases h)
noncomputable def pr_X1_numberHere : List (Nat × Instr × Nat) := [(0, .aload_n 0, 1), (1, .getfield 58, 3), (4, .iconst 2, 1), (5, .if_icmp .eq 14, 3), (8, .aload_n 0, 1), (9, .iconst 2, 1), (10, .aload_n 0, 1), (11, .getfield 123, 3), (14, .invokevirtual 77, 3), (17, .iload_n 1, 1), (18, .ireturn, 1), (19, .iconst 0, 1), (20, .istore_n 3, 1), (21, .aload_n 0, 1), (22, .getfield 123, 3), (25, .istore 4, 2), (27, .iload 4, 2), (29, .aload_n 0, 1), (30, .getfield 23, 3), (33, .if_icmp .ge 28, 3), (36, .bipush 10, 2), (38, .iload_n 3, 1), (39, .imul, 1), (40, .aload_n 0, 1), (41, .getfield 12, 3), (44, .getfield 207, 3), (47, .iload 4, 2), (49, .iaload, 1), (50, .iadd, 1), (51, .bipush 48, 2), (53, .isub, 1), (54, .istore_n 3, 1), (55, .iinc 4 1, 3), (58, .goto (-31), 3), (61, .iload_n 3, 1), (62, .iload_n 1, 1), (63, .iload_n 2, 1), (64, .invokestatic 210, 3), (67, .ifCond .ne 12, 3), (70, .aload_n 0, 1), (71, .iconst 3, 1), (72, .aload_n 0, 1), (73, .getfield 123, 3), (76, .invokevirtual 77, 3), (79, .aload_n 0, 1), (80, .getfield 27, 3), (83, .ifCond .ne 7, 3), (86, .iload_n 3, 1), (87, .goto 4, 3), (90, .iload_n 1, 1), (91, .ireturn, 1)]
set_option maxRecDepth 100000 in
theorem hp_X1_numberHere : pr_X1_numberHere.all (fun x => decide (decode cX1_numberHere x.1 = .ok x.2)) = true := by decide +kernel
noncomputable def f_X1_numberHere_b91 (N : Nat) (σ : yS) (s0 : Int) : Option (Int × yS) :=
  some (s0, σ)
noncomputable def f_X1_numberHere_b79 (N : Nat) (σ : yS) (x1 : Int) (x3 : Int) : Option (Int × yS) :=
  bif ycP .ne (σ.1 2 4) 0 then
    f_X1_numberHere_b91 N σ x1
  else
    f_X1_numberHere_b91 N σ x3
noncomputable def f_X1_numberHere_b27 (N : Nat) : Nat → yS → Int → Int → Int → Int → Option (Int × yS) := yfix (fun _ _ _ _ _ => none) (fun ih σ x1 x2 x3 x4 =>
    bif ycP .ge x4 (σ.1 2 1) then
      match f_X7_within N σ x3 x1 x2 with
      | none => none
      | some r1 => bif ycP .ne r1.1 0 then
          f_X1_numberHere_b79 N r1.2 x1 x3
        else
          match f_X1_complain N r1.2 3 (r1.2.1 2 3) with
          | none => none
          | some r2 => f_X1_numberHere_b79 N r2.2 x1 x3
    else
      bif yin x4 160 then
        ih σ x1 x2 (ysu (yad (ymu 10 x3) (σ.1 4 x4.toNat)) 48) (yad x4 1)
      else none)
theorem q_X1_numberHere_b27 (N : Nat) (n : Nat) (σ : yS) (x1 : Int) (x2 : Int) (x3 : Int) (x4 : Int) : f_X1_numberHere_b27 N (n + 1) σ x1 x2 x3 x4 =
    (bif ycP .ge x4 (σ.1 2 1) then
      match f_X7_within N σ x3 x1 x2 with
      | none => none
      | some r1 => bif ycP .ne r1.1 0 then
          f_X1_numberHere_b79 N r1.2 x1 x3
        else
          match f_X1_complain N r1.2 3 (r1.2.1 2 3) with
          | none => none
          | some r2 => f_X1_numberHere_b79 N r2.2 x1 x3
    else
      bif yin x4 160 then
        (f_X1_numberHere_b27 N n) σ x1 x2 (ysu (yad (ymu 10 x3) (σ.1 4 x4.toNat)) 48) (yad x4 1)
      else none) := rfl
noncomputable def f_X1_numberHere (N : Nat) (σ : yS) (x1 : Int) (x2 : Int) : Option (Int × yS) :=
  bif ycP .eq (σ.1 2 2) 2 then
    f_X1_numberHere_b27 N N σ x1 x2 0 (σ.1 2 3)
  else
    match f_X1_complain N σ 2 (σ.1 2 3) with
    | none => none
    | some r3 => some (x1, r3.2)
noncomputable def F_X1_numberHere (N : Nat) : yF := fun as σ => match as with
  | [.inr (.inl 1, 2), .inl (.inl x1), .inl (.inl x2)] => (f_X1_numberHere N σ x1 x2).map (fun r => (some (.inl (.inl r.1)), r.2))
  | _ => none
theorem e_X1_numberHere {N : Nat} {σ : yS} {x1 : Int} {x2 : Int} {r : Int × yS} (h : f_X1_numberHere N σ x1 x2 = some r) : F_X1_numberHere N [.inr (.inl 1, 2), .inl (.inl x1), .inl (.inl x2)] σ = some (some (.inl (.inl r.1)), r.2) := by
  show (f_X1_numberHere N σ x1 x2).map (fun r => ((some (.inl (.inl r.1)), r.2) : yR)) = _
  rw [h]
  rfl
noncomputable def tb_X1_numberHere (N : Nat) : yTb := ([(12, 1, 0, 3), (23, 1, 1, 0), (27, 1, 4, 0), (58, 1, 2, 0), (123, 1, 3, 0), (207, 3, 1, 3)], [], [], [(77, 3, 1, F_X1_complain N)], [(210, 3, F_X7_within N)], [], [])
abbrev G_X1_numberHere (N : Nat) (X : zXT) (sh : List yH) (l : Launch) (rm : Room) : yC → yR → Prop := yGoes X vwCl yct sh l rm cX1_numberHere 5 wsX1_numberHere RX1 (tb_X1_numberHere N) pr_X1_numberHere 1
set_option maxRecDepth 100000 in
set_option maxHeartbeats 4000000 in
theorem t_X1_numberHere_b91 {N : Nat} {X : zXT} {sh : List yH} {l : Launch} {rm : Room} (σ : yS) (s0 : Int) (res : Int × yS) (h : f_X1_numberHere_b91 N σ s0 = some res) : G_X1_numberHere N X sh l rm (91, [], [.inl (.inl s0)], σ) (some (.inl (.inl res.1)), res.2) := by
  unfold f_X1_numberHere_b91 at h
  have h := Option.some.inj h
  subst h
  dsimp only
  exact yG_r rfl rfl
set_option maxRecDepth 100000 in
set_option maxHeartbeats 4000000 in
theorem t_X1_numberHere_b79 {N : Nat} {X : zXT} {sh : List yH} {l : Launch} {rm : Room} (σ : yS) (x1 : Int) (x3 : Int) (res : Int × yS) (h : f_X1_numberHere_b79 N σ x1 x3 = some res) : G_X1_numberHere N X sh l rm (79, [(0, .inr (.inl 1, 2)), (1, .inl (.inl x1)), (3, .inl (.inl x3))], [], σ) (some (.inl (.inl res.1)), res.2) := by
  unfold f_X1_numberHere_b79 at h
  refine yG_n (n := 2) (C' := (83, [(0, .inr (.inl 1, 2)), (1, .inl (.inl x1)), (3, .inl (.inl x3))], [.inl (.inl (σ.1 2 4))], σ)) rfl ?_
  cases hg1 : ycP .ne (σ.1 2 4) 0 with
  | true =>
    rw [hg1] at h
    dsimp only [cond] at h
    refine yG_t (C' := (90, [(0, .inr (.inl 1, 2)), (1, .inl (.inl x1)), (3, .inl (.inl x3))], [], σ)) rfl hg1 ?_
    refine yG_n (n := 1) (C' := (91, [(0, .inr (.inl 1, 2)), (1, .inl (.inl x1)), (3, .inl (.inl x3))], [.inl (.inl x1)], σ)) rfl ?_
    exact yG_w [] rfl (t_X1_numberHere_b91 σ x1 res h)
  | false =>
    rw [hg1] at h
    dsimp only [cond] at h
    refine yG_f (C' := (86, [(0, .inr (.inl 1, 2)), (1, .inl (.inl x1)), (3, .inl (.inl x3))], [], σ)) rfl hg1 ?_
    refine yG_n (n := 2) (C' := (91, [(0, .inr (.inl 1, 2)), (1, .inl (.inl x1)), (3, .inl (.inl x3))], [.inl (.inl x3)], σ)) rfl ?_
    exact yG_w [] rfl (t_X1_numberHere_b91 σ x3 res h)
set_option maxRecDepth 100000 in
set_option maxHeartbeats 4000000 in
theorem t_X1_numberHere_b27 {N : Nat} {X : zXT} {sh : List yH} {l : Launch} {rm : Room} : ∀ (n : Nat) (σ : yS) (x1 : Int) (x2 : Int) (x3 : Int) (x4 : Int) (res : Int × yS), f_X1_numberHere_b27 N n σ x1 x2 x3 x4 = some res → G_X1_numberHere N X sh l rm (27, [(0, .inr (.inl 1, 2)), (1, .inl (.inl x1)), (2, .inl (.inl x2)), (3, .inl (.inl x3)), (4, .inl (.inl x4))], [], σ) (some (.inl (.inl res.1)), res.2) := by
  intro n
  induction n with
  | zero => intro σ x1 x2 x3 x4 res h; exact (yno h).elim
  | succ n ih =>
    intro σ x1 x2 x3 x4 res h
    rw [q_X1_numberHere_b27] at h
    refine yG_n (n := 3) (C' := (33, [(0, .inr (.inl 1, 2)), (1, .inl (.inl x1)), (2, .inl (.inl x2)), (3, .inl (.inl x3)), (4, .inl (.inl x4))], [.inl (.inl (σ.1 2 1)), .inl (.inl x4)], σ)) rfl ?_
    cases hg2 : ycP .ge x4 (σ.1 2 1) with
    | true =>
      rw [hg2] at h
      dsimp only [cond] at h
      refine yG_t (C' := (61, [(0, .inr (.inl 1, 2)), (1, .inl (.inl x1)), (2, .inl (.inl x2)), (3, .inl (.inl x3)), (4, .inl (.inl x4))], [], σ)) rfl hg2 ?_
      refine yG_n (n := 3) (C' := (64, [(0, .inr (.inl 1, 2)), (1, .inl (.inl x1)), (2, .inl (.inl x2)), (3, .inl (.inl x3)), (4, .inl (.inl x4))], [.inl (.inl x2), .inl (.inl x1), .inl (.inl x3)], σ)) rfl ?_
      cases hr3 : f_X7_within N σ x3 x1 x2 with
      | none => rw [hr3] at h; dsimp only at h; cases h
      | some r1 =>
        rw [hr3] at h
        dsimp only at h
        refine yG_c (C1 := (67, [(0, .inr (.inl 1, 2)), (1, .inl (.inl x1)), (2, .inl (.inl x2)), (3, .inl (.inl x3)), (4, .inl (.inl x4))], [.inl (.inl r1.1)], r1.2)) rfl (e_X7_within hr3) rfl ?_
        cases hg4 : ycP .ne r1.1 0 with
        | true =>
          rw [hg4] at h
          dsimp only [cond] at h
          refine yG_t (C' := (79, [(0, .inr (.inl 1, 2)), (1, .inl (.inl x1)), (2, .inl (.inl x2)), (3, .inl (.inl x3)), (4, .inl (.inl x4))], [], r1.2)) rfl hg4 ?_
          exact yG_w [0, 1, 3] rfl (t_X1_numberHere_b79 r1.2 x1 x3 res h)
        | false =>
          rw [hg4] at h
          dsimp only [cond] at h
          refine yG_f (C' := (70, [(0, .inr (.inl 1, 2)), (1, .inl (.inl x1)), (2, .inl (.inl x2)), (3, .inl (.inl x3)), (4, .inl (.inl x4))], [], r1.2)) rfl hg4 ?_
          refine yG_n (n := 4) (C' := (76, [(0, .inr (.inl 1, 2)), (1, .inl (.inl x1)), (2, .inl (.inl x2)), (3, .inl (.inl x3)), (4, .inl (.inl x4))], [.inl (.inl (r1.2.1 2 3)), .inl (.inl 3), .inr (.inl 1, 2)], r1.2)) rfl ?_
          cases hr5 : f_X1_complain N r1.2 3 (r1.2.1 2 3) with
          | none => rw [hr5] at h; dsimp only at h; cases h
          | some r2 =>
            rw [hr5] at h
            dsimp only at h
            refine yG_c (C1 := (79, [(0, .inr (.inl 1, 2)), (1, .inl (.inl x1)), (2, .inl (.inl x2)), (3, .inl (.inl x3)), (4, .inl (.inl x4))], [], r2.2)) rfl (e_X1_complain hr5) rfl ?_
            exact yG_w [0, 1, 3] rfl (t_X1_numberHere_b79 r2.2 x1 x3 res h)
    | false =>
      rw [hg2] at h
      dsimp only [cond] at h
      refine yG_f (C' := (36, [(0, .inr (.inl 1, 2)), (1, .inl (.inl x1)), (2, .inl (.inl x2)), (3, .inl (.inl x3)), (4, .inl (.inl x4))], [], σ)) rfl hg2 ?_
      refine yG_n (n := 7) (C' := (49, [(0, .inr (.inl 1, 2)), (1, .inl (.inl x1)), (2, .inl (.inl x2)), (3, .inl (.inl x3)), (4, .inl (.inl x4))], [.inl (.inl x4), .inr (.inr (0, 160), 4), .inl (.inl (ymu 10 x3))], σ)) rfl ?_
      cases hg6 : yin x4 160 with
      | false => rw [hg6] at h; dsimp only [cond] at h; cases h
      | true =>
        rw [hg6] at h
        dsimp only [cond] at h
        refine yG_t (C' := (50, [(0, .inr (.inl 1, 2)), (1, .inl (.inl x1)), (2, .inl (.inl x2)), (3, .inl (.inl x3)), (4, .inl (.inl x4))], [.inl (.inl (σ.1 4 x4.toNat)), .inl (.inl (ymu 10 x3))], σ)) rfl hg6 ?_
        refine yG_n (n := 6) (C' := (27, [(4, .inl (.inl (yad x4 1))), (3, .inl (.inl (ysu (yad (ymu 10 x3) (σ.1 4 x4.toNat)) 48))), (0, .inr (.inl 1, 2)), (1, .inl (.inl x1)), (2, .inl (.inl x2))], [], σ)) rfl ?_
        exact yG_w [2, 3, 4, 1, 0] rfl (ih σ x1 x2 (ysu (yad (ymu 10 x3) (σ.1 4 x4.toNat)) 48) (yad x4 1) res h)
set_option maxRecDepth 100000 in
set_option maxHeartbeats 4000000 in
theorem t_X1_numberHere {N : Nat} {X : zXT} {sh : List yH} {l : Launch} {rm : Room} (σ : yS) (x1 : Int) (x2 : Int) (res : Int × yS) (h : f_X1_numberHere N σ x1 x2 = some res) : G_X1_numberHere N X sh l rm (0, [(0, .inr (.inl 1, 2)), (1, .inl (.inl x1)), (2, .inl (.inl x2))], [], σ) (some (.inl (.inl res.1)), res.2) := by
  unfold f_X1_numberHere at h
  refine yG_n (n := 3) (C' := (5, [(0, .inr (.inl 1, 2)), (1, .inl (.inl x1)), (2, .inl (.inl x2))], [.inl (.inl 2), .inl (.inl (σ.1 2 2))], σ)) rfl ?_
  cases hg7 : ycP .eq (σ.1 2 2) 2 with
  | true =>
    rw [hg7] at h
    dsimp only [cond] at h
    refine yG_t (C' := (19, [(0, .inr (.inl 1, 2)), (1, .inl (.inl x1)), (2, .inl (.inl x2))], [], σ)) rfl hg7 ?_
    refine yG_n (n := 5) (C' := (27, [(4, .inl (.inl (σ.1 2 3))), (3, .inl (.inl 0)), (0, .inr (.inl 1, 2)), (1, .inl (.inl x1)), (2, .inl (.inl x2))], [], σ)) rfl ?_
    exact yG_w [2, 3, 4, 1, 0] rfl (t_X1_numberHere_b27 N σ x1 x2 0 (σ.1 2 3) res h)
  | false =>
    rw [hg7] at h
    dsimp only [cond] at h
    refine yG_f (C' := (8, [(0, .inr (.inl 1, 2)), (1, .inl (.inl x1)), (2, .inl (.inl x2))], [], σ)) rfl hg7 ?_
    refine yG_n (n := 4) (C' := (14, [(0, .inr (.inl 1, 2)), (1, .inl (.inl x1)), (2, .inl (.inl x2))], [.inl (.inl (σ.1 2 3)), .inl (.inl 2), .inr (.inl 1, 2)], σ)) rfl ?_
    cases hr8 : f_X1_complain N σ 2 (σ.1 2 3) with
    | none => rw [hr8] at h; dsimp only at h; cases h
    | some r3 =>
      rw [hr8] at h
      dsimp only at h
      refine yG_c (C1 := (17, [(0, .inr (.inl 1, 2)), (1, .inl (.inl x1)), (2, .inl (.inl x2))], [], r3.2)) rfl (e_X1_complain hr8) rfl ?_
      refine yG_n (n := 1) (C' := (18, [(0, .inr (.inl 1, 2)), (1, .inl (.inl x1)), (2, .inl (.inl x2))], [.inl (.inl x1)], r3.2)) rfl ?_
      have h := Option.some.inj h
      subst h
      dsimp only
      exact yG_r rfl rfl
set_option maxRecDepth 100000 in
set_option maxHeartbeats 4000000 in
theorem m_X1_numberHere {N : Nat} {X : zXT} (hX : zXok X) (hN : zXn X) (l : Launch) {sh : List yH} : yMet X vwCl yct sh l yX1_numberHere wsX1_numberHere { frames := 2, cells := 0, slots := 0, locals := 86 } (F_X1_numberHere N) :=
  ymeth (tb := tb_X1_numberHere N) (pr := pr_X1_numberHere) (rt := 1) (own := RX1) hX (by decide +kernel) rfl rfl ⟨Nat.le_of_ble_eq_true rfl, Nat.le_of_ble_eq_true rfl⟩
    (zfl_all (List.forall_mem_cons.mpr ⟨zfl_X1 (fun w h => List.mem_cons_of_mem _ (List.mem_append_left _ (List.mem_append_right _ h))) (List.mem_of_getElem? (i := 4) rfl) (by decide) (by decide), List.forall_mem_cons.mpr ⟨zfl_X1 (fun w h => List.mem_cons_of_mem _ (List.mem_append_left _ (List.mem_append_right _ h))) (List.mem_of_getElem? (i := 3) rfl) (by decide) (by decide), List.forall_mem_cons.mpr ⟨zfl_X1 (fun w h => List.mem_cons_of_mem _ (List.mem_append_left _ (List.mem_append_right _ h))) (List.mem_of_getElem? (i := 6) rfl) (by decide) (by decide), List.forall_mem_cons.mpr ⟨zfl_X1 (fun w h => List.mem_cons_of_mem _ (List.mem_append_left _ (List.mem_append_right _ h))) (List.mem_of_getElem? (i := 1) rfl) (by decide) (by decide), List.forall_mem_cons.mpr ⟨zfl_X1 (fun w h => List.mem_cons_of_mem _ (List.mem_append_left _ (List.mem_append_right _ h))) (List.mem_of_getElem? (i := 2) rfl) (by decide) (by decide), List.forall_mem_cons.mpr ⟨zfl_X3 (fun w h => List.mem_cons_of_mem _ (List.mem_append_right _ h)) (List.mem_of_getElem? (i := 5) rfl) (by decide) (by decide), fun _ h => absurd h List.not_mem_nil⟩⟩⟩⟩⟩⟩))
    (zco_all (fun _ h => absurd h List.not_mem_nil)) (zlc_all (fun _ h => absurd h List.not_mem_nil))
    (List.forall_mem_cons.mpr ⟨ycal_V hX (m_X1_complain hX hN l) rfl (fun s args hts => cwV 2 hts gX1_numberHere_X1_complain rfl rfl rfl (by decide +kernel) ⟨Nat.le_of_ble_eq_true rfl, Nat.le_of_ble_eq_true rfl⟩), fun _ h => absurd h List.not_mem_nil⟩)
    (List.forall_mem_cons.mpr ⟨ycal_SN hX (m_X7_within hX hN l) (fun A s args hts hx => ⟨va_cnB 3 hts ggX1_numberHere_X7_within rfl rfl rfl (hN A s s.heap hx RX1 210 yX7_within RX7 (by decide +kernel)) (hts _ (List.mem_of_getElem? (i := 14) rfl)) (by decide +kernel) ⟨Nat.le_of_ble_eq_true rfl, Nat.le_of_ble_eq_true rfl⟩, hts _ (List.mem_of_getElem? (i := 13) rfl), trivial⟩), fun _ h => absurd h List.not_mem_nil⟩)
    (zmm_all (fun _ h => absurd h List.not_mem_nil)) (fun _ h => absurd h List.not_mem_nil) (zpr_all hp_X1_numberHere) (fun as σ res h => by
      unfold F_X1_numberHere at h
      split at h
      · rename_i x1 x2
        cases hr : f_X1_numberHere N σ x1 x2 with
        | none => rw [hr] at h; cases h
        | some r =>
          rw [hr] at h
          cases h
          exact ⟨Nat.le_of_ble_eq_true rfl, t_X1_numberHere σ x1 x2 r hr⟩
      · cases h)
noncomputable def pr_X1_needNumber : List (Nat × Instr × Nat) := [(0, .aload_n 0, 1), (1, .invokevirtual 55, 3), (4, .aload_n 0, 1), (5, .iload_n 1, 1), (6, .iload_n 2, 1), (7, .invokevirtual 147, 3), (10, .ireturn, 1)]
set_option maxRecDepth 100000 in
theorem hp_X1_needNumber : pr_X1_needNumber.all (fun x => decide (decode cX1_needNumber x.1 = .ok x.2)) = true := by decide +kernel
noncomputable def f_X1_needNumber (N : Nat) (σ : yS) (x1 : Int) (x2 : Int) : Option (Int × yS) :=
  match f_X1_readToken N σ with
  | none => none
  | some r1 => match f_X1_numberHere N r1.2 x1 x2 with
    | none => none
    | some r2 => some (r2.1, r2.2)
noncomputable def F_X1_needNumber (N : Nat) : yF := fun as σ => match as with
  | [.inr (.inl 1, 2), .inl (.inl x1), .inl (.inl x2)] => (f_X1_needNumber N σ x1 x2).map (fun r => (some (.inl (.inl r.1)), r.2))
  | _ => none
theorem e_X1_needNumber {N : Nat} {σ : yS} {x1 : Int} {x2 : Int} {r : Int × yS} (h : f_X1_needNumber N σ x1 x2 = some r) : F_X1_needNumber N [.inr (.inl 1, 2), .inl (.inl x1), .inl (.inl x2)] σ = some (some (.inl (.inl r.1)), r.2) := by
  show (f_X1_needNumber N σ x1 x2).map (fun r => ((some (.inl (.inl r.1)), r.2) : yR)) = _
  rw [h]
  rfl
noncomputable def tb_X1_needNumber (N : Nat) : yTb := ([], [], [], [(55, 1, 1, F_X1_readToken N), (147, 3, 1, F_X1_numberHere N)], [], [], [])
abbrev G_X1_needNumber (N : Nat) (X : zXT) (sh : List yH) (l : Launch) (rm : Room) : yC → yR → Prop := yGoes X vwCl yct sh l rm cX1_needNumber 3 wsX1_needNumber RX1 (tb_X1_needNumber N) pr_X1_needNumber 1
set_option maxRecDepth 100000 in
set_option maxHeartbeats 4000000 in
theorem t_X1_needNumber {N : Nat} {X : zXT} {sh : List yH} {l : Launch} {rm : Room} (σ : yS) (x1 : Int) (x2 : Int) (res : Int × yS) (h : f_X1_needNumber N σ x1 x2 = some res) : G_X1_needNumber N X sh l rm (0, [(0, .inr (.inl 1, 2)), (1, .inl (.inl x1)), (2, .inl (.inl x2))], [], σ) (some (.inl (.inl res.1)), res.2) := by
  unfold f_X1_needNumber at h
  refine yG_n (n := 1) (C' := (1, [(0, .inr (.inl 1, 2)), (1, .inl (.inl x1)), (2, .inl (.inl x2))], [.inr (.inl 1, 2)], σ)) rfl ?_
  cases hr1 : f_X1_readToken N σ with
  | none => rw [hr1] at h; dsimp only at h; cases h
  | some r1 =>
    rw [hr1] at h
    dsimp only at h
    refine yG_c (C1 := (4, [(0, .inr (.inl 1, 2)), (1, .inl (.inl x1)), (2, .inl (.inl x2))], [], r1.2)) rfl (e_X1_readToken hr1) rfl ?_
    refine yG_n (n := 3) (C' := (7, [(0, .inr (.inl 1, 2)), (1, .inl (.inl x1)), (2, .inl (.inl x2))], [.inl (.inl x2), .inl (.inl x1), .inr (.inl 1, 2)], r1.2)) rfl ?_
    cases hr2 : f_X1_numberHere N r1.2 x1 x2 with
    | none => rw [hr2] at h; dsimp only at h; cases h
    | some r2 =>
      rw [hr2] at h
      dsimp only at h
      refine yG_c (C1 := (10, [(0, .inr (.inl 1, 2)), (1, .inl (.inl x1)), (2, .inl (.inl x2))], [.inl (.inl r2.1)], r2.2)) rfl (e_X1_numberHere hr2) rfl ?_
      have h := Option.some.inj h
      subst h
      dsimp only
      exact yG_r rfl rfl
set_option maxRecDepth 100000 in
set_option maxHeartbeats 4000000 in
theorem m_X1_needNumber {N : Nat} {X : zXT} (hX : zXok X) (hN : zXn X) (l : Launch) {sh : List yH} : yMet X vwCl yct sh l yX1_needNumber wsX1_needNumber { frames := 3, cells := 0, slots := 0, locals := 110 } (F_X1_needNumber N) :=
  ymeth (tb := tb_X1_needNumber N) (pr := pr_X1_needNumber) (rt := 1) (own := RX1) hX (by decide +kernel) rfl rfl ⟨Nat.le_of_ble_eq_true rfl, Nat.le_of_ble_eq_true rfl⟩
    (zfl_all (fun _ h => absurd h List.not_mem_nil))
    (zco_all (fun _ h => absurd h List.not_mem_nil)) (zlc_all (fun _ h => absurd h List.not_mem_nil))
    (List.forall_mem_cons.mpr ⟨ycal_V hX (m_X1_readToken hX hN l) rfl (fun s args hts => cwV 0 hts gX1_needNumber_X1_readToken rfl rfl rfl (by decide +kernel) ⟨Nat.le_of_ble_eq_true rfl, Nat.le_of_ble_eq_true rfl⟩), List.forall_mem_cons.mpr ⟨ycal_V hX (m_X1_numberHere hX hN l) rfl (fun s args hts => cwV 2 hts gX1_needNumber_X1_numberHere rfl rfl rfl (by decide +kernel) ⟨Nat.le_of_ble_eq_true rfl, Nat.le_of_ble_eq_true rfl⟩), fun _ h => absurd h List.not_mem_nil⟩⟩)
    (fun _ h => absurd h List.not_mem_nil)
    (zmm_all (fun _ h => absurd h List.not_mem_nil)) (fun _ h => absurd h List.not_mem_nil) (zpr_all hp_X1_needNumber) (fun as σ res h => by
      unfold F_X1_needNumber at h
      split at h
      · rename_i x1 x2
        cases hr : f_X1_needNumber N σ x1 x2 with
        | none => rw [hr] at h; cases h
        | some r =>
          rw [hr] at h
          cases h
          exact ⟨Nat.le_of_ble_eq_true rfl, t_X1_needNumber σ x1 x2 r hr⟩
      · cases h)
noncomputable def pr_X1_readShape : List (Nat × Instr × Nat) := [(0, .aload_n 0, 1), (1, .getfield 36, 3), (4, .ifCond .eq 12, 3), (7, .aload_n 0, 1), (8, .iconst 4, 1), (9, .aload_n 0, 1), (10, .getfield 123, 3), (13, .invokevirtual 77, 3), (16, .aload_n 0, 1), (17, .iconst 1, 1), (18, .putfield 36, 3), (21, .aload_n 1, 1), (22, .aload_n 0, 1), (23, .iconst 2, 1), (24, .bipush 7, 2), (26, .invokevirtual 126, 3), (29, .putfield 68, 3), (32, .aload_n 1, 1), (33, .iload_n 2, 1), (34, .putfield 130, 3), (37, .aload_n 0, 1), (38, .invokevirtual 55, 3), (41, .return_, 1)]
set_option maxRecDepth 100000 in
theorem hp_X1_readShape : pr_X1_readShape.all (fun x => decide (decode cX1_readShape x.1 = .ok x.2)) = true := by decide +kernel
noncomputable def f_X1_readShape_b16 (N : Nat) (σ : yS) (x1 : Nat) (x2 : Int) : Option (Int × yS) :=
  match f_X1_needNumber N (yw σ 2 7 1) 2 7 with
  | none => none
  | some r1 => bif yb1 x2 then
      match f_X1_readToken N (yw (yw r1.2 x1 0 r1.1) x1 1 x2) with
      | none => none
      | some r2 => some (0, r2.2)
    else none
noncomputable def f_X1_readShape (N : Nat) (σ : yS) (x1 : Nat) (x2 : Int) : Option (Int × yS) :=
  bif ycP .eq (σ.1 2 7) 0 then
    f_X1_readShape_b16 N σ x1 x2
  else
    match f_X1_complain N σ 4 (σ.1 2 3) with
    | none => none
    | some r3 => f_X1_readShape_b16 N r3.2 x1 x2
noncomputable def F_X1_readShape (N : Nat) : yF := fun as σ => match as with
  | [.inr (.inl 1, 2), .inr (.inl 4, x1), .inl (.inl x2)] => (f_X1_readShape N σ x1 x2).map (fun r => (none, r.2))
  | _ => none
theorem e_X1_readShape {N : Nat} {σ : yS} {x1 : Nat} {x2 : Int} {r : Int × yS} (h : f_X1_readShape N σ x1 x2 = some r) : F_X1_readShape N [.inr (.inl 1, 2), .inr (.inl 4, x1), .inl (.inl x2)] σ = some (none, r.2) := by
  show (f_X1_readShape N σ x1 x2).map (fun r => ((none, r.2) : yR)) = _
  rw [h]
  rfl
noncomputable def tb_X1_readShape (N : Nat) : yTb := ([(36, 1, 7, 1), (68, 4, 0, 0), (123, 1, 3, 0), (130, 4, 1, 1)], [], [], [(55, 1, 1, F_X1_readToken N), (77, 3, 1, F_X1_complain N), (126, 3, 1, F_X1_needNumber N)], [], [], [])
abbrev G_X1_readShape (N : Nat) (X : zXT) (sh : List yH) (l : Launch) (rm : Room) : yC → yR → Prop := yGoes X vwCl yct sh l rm cX1_readShape 3 wsX1_readShape RX1 (tb_X1_readShape N) pr_X1_readShape 0
set_option maxRecDepth 100000 in
set_option maxHeartbeats 4000000 in
theorem t_X1_readShape_b16 {N : Nat} {X : zXT} {sh : List yH} {l : Launch} {rm : Room} (σ : yS) (x1 : Nat) (x2 : Int) (res : Int × yS) (h : f_X1_readShape_b16 N σ x1 x2 = some res) : G_X1_readShape N X sh l rm (16, [(0, .inr (.inl 1, 2)), (1, .inr (.inl 4, x1)), (2, .inl (.inl x2))], [], σ) (none, res.2) := by
  unfold f_X1_readShape_b16 at h
  refine yG_n (n := 7) (C' := (26, [(0, .inr (.inl 1, 2)), (1, .inr (.inl 4, x1)), (2, .inl (.inl x2))], [.inl (.inl 7), .inl (.inl 2), .inr (.inl 1, 2), .inr (.inl 4, x1)], yw σ 2 7 1)) rfl ?_
  cases hr1 : f_X1_needNumber N (yw σ 2 7 1) 2 7 with
  | none => rw [hr1] at h; dsimp only at h; cases h
  | some r1 =>
    rw [hr1] at h
    dsimp only at h
    refine yG_c (C1 := (29, [(0, .inr (.inl 1, 2)), (1, .inr (.inl 4, x1)), (2, .inl (.inl x2))], [.inl (.inl r1.1), .inr (.inl 4, x1)], r1.2)) rfl (e_X1_needNumber hr1) rfl ?_
    refine yG_n (n := 3) (C' := (34, [(0, .inr (.inl 1, 2)), (1, .inr (.inl 4, x1)), (2, .inl (.inl x2))], [.inl (.inl x2), .inr (.inl 4, x1)], yw r1.2 x1 0 r1.1)) rfl ?_
    cases hg2 : yb1 x2 with
    | false => rw [hg2] at h; dsimp only [cond] at h; cases h
    | true =>
      rw [hg2] at h
      dsimp only [cond] at h
      refine yG_t (C' := (37, [(0, .inr (.inl 1, 2)), (1, .inr (.inl 4, x1)), (2, .inl (.inl x2))], [], yw (yw r1.2 x1 0 r1.1) x1 1 x2)) rfl hg2 ?_
      refine yG_n (n := 1) (C' := (38, [(0, .inr (.inl 1, 2)), (1, .inr (.inl 4, x1)), (2, .inl (.inl x2))], [.inr (.inl 1, 2)], yw (yw r1.2 x1 0 r1.1) x1 1 x2)) rfl ?_
      cases hr3 : f_X1_readToken N (yw (yw r1.2 x1 0 r1.1) x1 1 x2) with
      | none => rw [hr3] at h; dsimp only at h; cases h
      | some r2 =>
        rw [hr3] at h
        dsimp only at h
        refine yG_c (C1 := (41, [(0, .inr (.inl 1, 2)), (1, .inr (.inl 4, x1)), (2, .inl (.inl x2))], [], r2.2)) rfl (e_X1_readToken hr3) rfl ?_
        have h := Option.some.inj h
        subst h
        dsimp only
        exact yG_r rfl rfl
set_option maxRecDepth 100000 in
set_option maxHeartbeats 4000000 in
theorem t_X1_readShape {N : Nat} {X : zXT} {sh : List yH} {l : Launch} {rm : Room} (σ : yS) (x1 : Nat) (x2 : Int) (res : Int × yS) (h : f_X1_readShape N σ x1 x2 = some res) : G_X1_readShape N X sh l rm (0, [(0, .inr (.inl 1, 2)), (1, .inr (.inl 4, x1)), (2, .inl (.inl x2))], [], σ) (none, res.2) := by
  unfold f_X1_readShape at h
  refine yG_n (n := 2) (C' := (4, [(0, .inr (.inl 1, 2)), (1, .inr (.inl 4, x1)), (2, .inl (.inl x2))], [.inl (.inl (σ.1 2 7))], σ)) rfl ?_
  cases hg4 : ycP .eq (σ.1 2 7) 0 with
  | true =>
    rw [hg4] at h
    dsimp only [cond] at h
    refine yG_t (C' := (16, [(0, .inr (.inl 1, 2)), (1, .inr (.inl 4, x1)), (2, .inl (.inl x2))], [], σ)) rfl hg4 ?_
    exact t_X1_readShape_b16 σ x1 x2 res h
  | false =>
    rw [hg4] at h
    dsimp only [cond] at h
    refine yG_f (C' := (7, [(0, .inr (.inl 1, 2)), (1, .inr (.inl 4, x1)), (2, .inl (.inl x2))], [], σ)) rfl hg4 ?_
    refine yG_n (n := 4) (C' := (13, [(0, .inr (.inl 1, 2)), (1, .inr (.inl 4, x1)), (2, .inl (.inl x2))], [.inl (.inl (σ.1 2 3)), .inl (.inl 4), .inr (.inl 1, 2)], σ)) rfl ?_
    cases hr5 : f_X1_complain N σ 4 (σ.1 2 3) with
    | none => rw [hr5] at h; dsimp only at h; cases h
    | some r3 =>
      rw [hr5] at h
      dsimp only at h
      refine yG_c (C1 := (16, [(0, .inr (.inl 1, 2)), (1, .inr (.inl 4, x1)), (2, .inl (.inl x2))], [], r3.2)) rfl (e_X1_complain hr5) rfl ?_
      exact t_X1_readShape_b16 r3.2 x1 x2 res h
set_option maxRecDepth 100000 in
set_option maxHeartbeats 4000000 in
theorem m_X1_readShape {N : Nat} {X : zXT} (hX : zXok X) (hN : zXn X) (l : Launch) {sh : List yH} : yMet X vwCl yct sh l yX1_readShape wsX1_readShape { frames := 4, cells := 0, slots := 0, locals := 132 } (F_X1_readShape N) :=
  ymeth (tb := tb_X1_readShape N) (pr := pr_X1_readShape) (rt := 0) (own := RX1) hX (by decide +kernel) rfl rfl ⟨Nat.le_of_ble_eq_true rfl, Nat.le_of_ble_eq_true rfl⟩
    (zfl_all (List.forall_mem_cons.mpr ⟨zfl_X1 (fun w h => List.mem_cons_of_mem _ (List.mem_append_left _ (List.mem_append_left _ (List.mem_append_right _ h)))) (List.mem_of_getElem? (i := 1) rfl) (by decide) (by decide), List.forall_mem_cons.mpr ⟨zfl_X4 (fun w h => List.mem_cons_of_mem _ (List.mem_append_left _ (List.mem_append_right _ h))) (List.mem_of_getElem? (i := 3) rfl) (by decide) (by decide), List.forall_mem_cons.mpr ⟨zfl_X1 (fun w h => List.mem_cons_of_mem _ (List.mem_append_left _ (List.mem_append_left _ (List.mem_append_right _ h)))) (List.mem_of_getElem? (i := 2) rfl) (by decide) (by decide), List.forall_mem_cons.mpr ⟨zfl_X4 (fun w h => List.mem_cons_of_mem _ (List.mem_append_left _ (List.mem_append_right _ h))) (List.mem_of_getElem? (i := 4) rfl) (by decide) (by decide), fun _ h => absurd h List.not_mem_nil⟩⟩⟩⟩))
    (zco_all (fun _ h => absurd h List.not_mem_nil)) (zlc_all (fun _ h => absurd h List.not_mem_nil))
    (List.forall_mem_cons.mpr ⟨ycal_V hX (m_X1_readToken hX hN l) rfl (fun s args hts => cwV 0 hts gX1_readShape_X1_readToken rfl rfl rfl (by decide +kernel) ⟨Nat.le_of_ble_eq_true rfl, Nat.le_of_ble_eq_true rfl⟩), List.forall_mem_cons.mpr ⟨ycal_V hX (m_X1_complain hX hN l) rfl (fun s args hts => cwV 2 hts gX1_readShape_X1_complain rfl rfl rfl (by decide +kernel) ⟨Nat.le_of_ble_eq_true rfl, Nat.le_of_ble_eq_true rfl⟩), List.forall_mem_cons.mpr ⟨ycal_V hX (m_X1_needNumber hX hN l) rfl (fun s args hts => cwV 2 hts gX1_readShape_X1_needNumber rfl rfl rfl (by decide +kernel) ⟨Nat.le_of_ble_eq_true rfl, Nat.le_of_ble_eq_true rfl⟩), fun _ h => absurd h List.not_mem_nil⟩⟩⟩)
    (fun _ h => absurd h List.not_mem_nil)
    (zmm_all (fun _ h => absurd h List.not_mem_nil)) (fun _ h => absurd h List.not_mem_nil) (zpr_all hp_X1_readShape) (fun as σ res h => by
      unfold F_X1_readShape at h
      split at h
      · rename_i x1 x2
        cases hr : f_X1_readShape N σ x1 x2 with
        | none => rw [hr] at h; cases h
        | some r =>
          rw [hr] at h
          cases h
          exact ⟨Nat.le_of_ble_eq_true rfl, t_X1_readShape σ x1 x2 r hr⟩
      · cases h)
noncomputable def pr_X4_addDeed : List (Nat × Instr × Nat) := [(0, .aload_n 0, 1), (1, .getfield 58, 3), (4, .iconst 5, 1), (5, .if_icmp .ge 23, 3), (8, .aload_n 0, 1), (9, .getfield 15, 3), (12, .aload_n 0, 1), (13, .getfield 58, 3), (16, .iload_n 1, 1), (17, .iastore, 1), (18, .aload_n 0, 1), (19, .dup, 1), (20, .getfield 58, 3), (23, .iconst 1, 1), (24, .iadd, 1), (25, .putfield 58, 3), (28, .return_, 1)]
set_option maxRecDepth 100000 in
theorem hp_X4_addDeed : pr_X4_addDeed.all (fun x => decide (decode cX4_addDeed x.1 = .ok x.2)) = true := by decide +kernel
noncomputable def f_X4_addDeed_b28 (N : Nat) (σ : yS) : Option (Int × yS) :=
  some (0, σ)
noncomputable def f_X4_addDeed_b20 (N : Nat) (σ : yS) (s0 : Nat) (s1 : Nat) : Option (Int × yS) :=
  f_X4_addDeed_b28 N (yw σ s1 2 (yad (σ.1 s0 2) 1))
noncomputable def f_X4_addDeed (N : Nat) (σ : yS) (x0 : Nat) (x1 : Int) : Option (Int × yS) :=
  bif ycP .ge (σ.1 x0 2) 5 then
    f_X4_addDeed_b28 N σ
  else
    bif yin (σ.1 x0 2) 5 then
      f_X4_addDeed_b20 N (yw σ (x0 + 1) (σ.1 x0 2).toNat x1) x0 x0
    else none
noncomputable def F_X4_addDeed (N : Nat) : yF := fun as σ => match as with
  | [.inr (.inl 4, x0), .inl (.inl x1)] => (f_X4_addDeed N σ x0 x1).map (fun r => (none, r.2))
  | _ => none
theorem e_X4_addDeed {N : Nat} {σ : yS} {x0 : Nat} {x1 : Int} {r : Int × yS} (h : f_X4_addDeed N σ x0 x1 = some r) : F_X4_addDeed N [.inr (.inl 4, x0), .inl (.inl x1)] σ = some (none, r.2) := by
  show (f_X4_addDeed N σ x0 x1).map (fun r => ((none, r.2) : yR)) = _
  rw [h]
  rfl
noncomputable def tb_X4_addDeed (N : Nat) : yTb := ([(15, 4, 3, 3), (58, 4, 2, 0)], [], [], [], [], [], [])
abbrev G_X4_addDeed (N : Nat) (X : zXT) (sh : List yH) (l : Launch) (rm : Room) : yC → yR → Prop := yGoes X vwCl yct sh l rm cX4_addDeed 2 wsX4_addDeed RX4 (tb_X4_addDeed N) pr_X4_addDeed 0
set_option maxRecDepth 100000 in
set_option maxHeartbeats 4000000 in
theorem t_X4_addDeed_b28 {N : Nat} {X : zXT} {sh : List yH} {l : Launch} {rm : Room} (σ : yS) (res : Int × yS) (h : f_X4_addDeed_b28 N σ = some res) : G_X4_addDeed N X sh l rm (28, [], [], σ) (none, res.2) := by
  unfold f_X4_addDeed_b28 at h
  have h := Option.some.inj h
  subst h
  dsimp only
  exact yG_r rfl rfl
set_option maxRecDepth 100000 in
set_option maxHeartbeats 4000000 in
theorem t_X4_addDeed_b20 {N : Nat} {X : zXT} {sh : List yH} {l : Launch} {rm : Room} (σ : yS) (s0 : Nat) (s1 : Nat) (res : Int × yS) (h : f_X4_addDeed_b20 N σ s0 s1 = some res) : G_X4_addDeed N X sh l rm (20, [], [.inr (.inl 4, s0), .inr (.inl 4, s1)], σ) (none, res.2) := by
  unfold f_X4_addDeed_b20 at h
  refine yG_n (n := 4) (C' := (28, [], [], yw σ s1 2 (yad (σ.1 s0 2) 1))) rfl ?_
  exact t_X4_addDeed_b28 (yw σ s1 2 (yad (σ.1 s0 2) 1)) res h
set_option maxRecDepth 100000 in
set_option maxHeartbeats 4000000 in
theorem t_X4_addDeed {N : Nat} {X : zXT} {sh : List yH} {l : Launch} {rm : Room} (σ : yS) (x0 : Nat) (x1 : Int) (res : Int × yS) (h : f_X4_addDeed N σ x0 x1 = some res) : G_X4_addDeed N X sh l rm (0, [(0, .inr (.inl 4, x0)), (1, .inl (.inl x1))], [], σ) (none, res.2) := by
  unfold f_X4_addDeed at h
  refine yG_n (n := 3) (C' := (5, [(0, .inr (.inl 4, x0)), (1, .inl (.inl x1))], [.inl (.inl 5), .inl (.inl (σ.1 x0 2))], σ)) rfl ?_
  cases hg1 : ycP .ge (σ.1 x0 2) 5 with
  | true =>
    rw [hg1] at h
    dsimp only [cond] at h
    refine yG_t (C' := (28, [(0, .inr (.inl 4, x0)), (1, .inl (.inl x1))], [], σ)) rfl hg1 ?_
    exact yG_w [] rfl (t_X4_addDeed_b28 σ res h)
  | false =>
    rw [hg1] at h
    dsimp only [cond] at h
    refine yG_f (C' := (8, [(0, .inr (.inl 4, x0)), (1, .inl (.inl x1))], [], σ)) rfl hg1 ?_
    refine yG_n (n := 5) (C' := (17, [(0, .inr (.inl 4, x0)), (1, .inl (.inl x1))], [.inl (.inl x1), .inl (.inl (σ.1 x0 2)), .inr (.inr (0, 5), x0 + 1)], σ)) rfl ?_
    cases hg2 : yin (σ.1 x0 2) 5 with
    | false => rw [hg2] at h; dsimp only [cond] at h; cases h
    | true =>
      rw [hg2] at h
      dsimp only [cond] at h
      refine yG_t (C' := (18, [(0, .inr (.inl 4, x0)), (1, .inl (.inl x1))], [], yw σ (x0 + 1) (σ.1 x0 2).toNat x1)) rfl hg2 ?_
      refine yG_n (n := 2) (C' := (20, [(0, .inr (.inl 4, x0)), (1, .inl (.inl x1))], [.inr (.inl 4, x0), .inr (.inl 4, x0)], yw σ (x0 + 1) (σ.1 x0 2).toNat x1)) rfl ?_
      exact yG_w [] rfl (t_X4_addDeed_b20 (yw σ (x0 + 1) (σ.1 x0 2).toNat x1) x0 x0 res h)
set_option maxRecDepth 100000 in
set_option maxHeartbeats 4000000 in
theorem m_X4_addDeed {N : Nat} {X : zXT} (hX : zXok X) (hN : zXn X) (l : Launch) {sh : List yH} : yMet X vwCl yct sh l yX4_addDeed wsX4_addDeed { frames := 1, cells := 0, slots := 0, locals := 64 } (F_X4_addDeed N) :=
  ymeth (tb := tb_X4_addDeed N) (pr := pr_X4_addDeed) (rt := 0) (own := RX4) hX (by decide +kernel) rfl rfl ⟨Nat.le_of_ble_eq_true rfl, Nat.le_of_ble_eq_true rfl⟩
    (zfl_all (List.forall_mem_cons.mpr ⟨zfl_X4 (fun w h => List.mem_cons_of_mem _ (List.mem_append_right _ h)) (List.mem_of_getElem? (i := 2) rfl) (by decide) (by decide), List.forall_mem_cons.mpr ⟨zfl_X4 (fun w h => List.mem_cons_of_mem _ (List.mem_append_right _ h)) (List.mem_of_getElem? (i := 1) rfl) (by decide) (by decide), fun _ h => absurd h List.not_mem_nil⟩⟩))
    (zco_all (fun _ h => absurd h List.not_mem_nil)) (zlc_all (fun _ h => absurd h List.not_mem_nil))
    (fun _ h => absurd h List.not_mem_nil)
    (fun _ h => absurd h List.not_mem_nil)
    (zmm_all (fun _ h => absurd h List.not_mem_nil)) (fun _ h => absurd h List.not_mem_nil) (zpr_all hp_X4_addDeed) (fun as σ res h => by
      unfold F_X4_addDeed at h
      split at h
      · rename_i x0 x1
        cases hr : f_X4_addDeed N σ x0 x1 with
        | none => rw [hr] at h; cases h
        | some r =>
          rw [hr] at h
          cases h
          exact ⟨Nat.le_of_ble_eq_true rfl, t_X4_addDeed σ x0 x1 r hr⟩
      · cases h)
noncomputable def pr_X1_readDeed : List (Nat × Instr × Nat) := [(0, .aload_n 1, 1), (1, .getfield 71, 3), (4, .iconst 5, 1), (5, .if_icmp .lt 12, 3), (8, .aload_n 0, 1), (9, .iconst 5, 1), (10, .aload_n 0, 1), (11, .getfield 123, 3), (14, .invokevirtual 77, 3), (17, .aload_n 1, 1), (18, .aload_n 0, 1), (19, .iconst 0, 1), (20, .bipush 9, 2), (22, .invokevirtual 126, 3), (25, .invokevirtual 132, 3), (28, .aload_n 0, 1), (29, .invokevirtual 55, 3), (32, .return_, 1)]
set_option maxRecDepth 100000 in
theorem hp_X1_readDeed : pr_X1_readDeed.all (fun x => decide (decode cX1_readDeed x.1 = .ok x.2)) = true := by decide +kernel
noncomputable def f_X1_readDeed_b17 (N : Nat) (σ : yS) (x1 : Nat) : Option (Int × yS) :=
  match f_X1_needNumber N σ 0 9 with
  | none => none
  | some r1 => match f_X4_addDeed N r1.2 x1 r1.1 with
    | none => none
    | some r2 => match f_X1_readToken N r2.2 with
      | none => none
      | some r3 => some (0, r3.2)
noncomputable def f_X1_readDeed (N : Nat) (σ : yS) (x1 : Nat) : Option (Int × yS) :=
  bif ycP .lt (σ.1 x1 2) 5 then
    f_X1_readDeed_b17 N σ x1
  else
    match f_X1_complain N σ 5 (σ.1 2 3) with
    | none => none
    | some r4 => f_X1_readDeed_b17 N r4.2 x1
noncomputable def F_X1_readDeed (N : Nat) : yF := fun as σ => match as with
  | [.inr (.inl 1, 2), .inr (.inl 4, x1)] => (f_X1_readDeed N σ x1).map (fun r => (none, r.2))
  | _ => none
theorem e_X1_readDeed {N : Nat} {σ : yS} {x1 : Nat} {r : Int × yS} (h : f_X1_readDeed N σ x1 = some r) : F_X1_readDeed N [.inr (.inl 1, 2), .inr (.inl 4, x1)] σ = some (none, r.2) := by
  show (f_X1_readDeed N σ x1).map (fun r => ((none, r.2) : yR)) = _
  rw [h]
  rfl
noncomputable def tb_X1_readDeed (N : Nat) : yTb := ([(71, 4, 2, 0), (123, 1, 3, 0)], [], [], [(55, 1, 1, F_X1_readToken N), (77, 3, 1, F_X1_complain N), (126, 3, 1, F_X1_needNumber N), (132, 2, 4, F_X4_addDeed N)], [], [], [])
abbrev G_X1_readDeed (N : Nat) (X : zXT) (sh : List yH) (l : Launch) (rm : Room) : yC → yR → Prop := yGoes X vwCl yct sh l rm cX1_readDeed 2 wsX1_readDeed RX1 (tb_X1_readDeed N) pr_X1_readDeed 0
set_option maxRecDepth 100000 in
set_option maxHeartbeats 4000000 in
theorem t_X1_readDeed_b17 {N : Nat} {X : zXT} {sh : List yH} {l : Launch} {rm : Room} (σ : yS) (x1 : Nat) (res : Int × yS) (h : f_X1_readDeed_b17 N σ x1 = some res) : G_X1_readDeed N X sh l rm (17, [(0, .inr (.inl 1, 2)), (1, .inr (.inl 4, x1))], [], σ) (none, res.2) := by
  unfold f_X1_readDeed_b17 at h
  refine yG_n (n := 4) (C' := (22, [(0, .inr (.inl 1, 2)), (1, .inr (.inl 4, x1))], [.inl (.inl 9), .inl (.inl 0), .inr (.inl 1, 2), .inr (.inl 4, x1)], σ)) rfl ?_
  cases hr1 : f_X1_needNumber N σ 0 9 with
  | none => rw [hr1] at h; dsimp only at h; cases h
  | some r1 =>
    rw [hr1] at h
    dsimp only at h
    refine yG_c (C1 := (25, [(0, .inr (.inl 1, 2)), (1, .inr (.inl 4, x1))], [.inl (.inl r1.1), .inr (.inl 4, x1)], r1.2)) rfl (e_X1_needNumber hr1) rfl ?_
    cases hr2 : f_X4_addDeed N r1.2 x1 r1.1 with
    | none => rw [hr2] at h; dsimp only at h; cases h
    | some r2 =>
      rw [hr2] at h
      dsimp only at h
      refine yG_c (C1 := (28, [(0, .inr (.inl 1, 2)), (1, .inr (.inl 4, x1))], [], r2.2)) rfl (e_X4_addDeed hr2) rfl ?_
      refine yG_n (n := 1) (C' := (29, [(0, .inr (.inl 1, 2)), (1, .inr (.inl 4, x1))], [.inr (.inl 1, 2)], r2.2)) rfl ?_
      cases hr3 : f_X1_readToken N r2.2 with
      | none => rw [hr3] at h; dsimp only at h; cases h
      | some r3 =>
        rw [hr3] at h
        dsimp only at h
        refine yG_c (C1 := (32, [(0, .inr (.inl 1, 2)), (1, .inr (.inl 4, x1))], [], r3.2)) rfl (e_X1_readToken hr3) rfl ?_
        have h := Option.some.inj h
        subst h
        dsimp only
        exact yG_r rfl rfl
set_option maxRecDepth 100000 in
set_option maxHeartbeats 4000000 in
theorem t_X1_readDeed {N : Nat} {X : zXT} {sh : List yH} {l : Launch} {rm : Room} (σ : yS) (x1 : Nat) (res : Int × yS) (h : f_X1_readDeed N σ x1 = some res) : G_X1_readDeed N X sh l rm (0, [(0, .inr (.inl 1, 2)), (1, .inr (.inl 4, x1))], [], σ) (none, res.2) := by
  unfold f_X1_readDeed at h
  refine yG_n (n := 3) (C' := (5, [(0, .inr (.inl 1, 2)), (1, .inr (.inl 4, x1))], [.inl (.inl 5), .inl (.inl (σ.1 x1 2))], σ)) rfl ?_
  cases hg4 : ycP .lt (σ.1 x1 2) 5 with
  | true =>
    rw [hg4] at h
    dsimp only [cond] at h
    refine yG_t (C' := (17, [(0, .inr (.inl 1, 2)), (1, .inr (.inl 4, x1))], [], σ)) rfl hg4 ?_
    exact t_X1_readDeed_b17 σ x1 res h
  | false =>
    rw [hg4] at h
    dsimp only [cond] at h
    refine yG_f (C' := (8, [(0, .inr (.inl 1, 2)), (1, .inr (.inl 4, x1))], [], σ)) rfl hg4 ?_
    refine yG_n (n := 4) (C' := (14, [(0, .inr (.inl 1, 2)), (1, .inr (.inl 4, x1))], [.inl (.inl (σ.1 2 3)), .inl (.inl 5), .inr (.inl 1, 2)], σ)) rfl ?_
    cases hr5 : f_X1_complain N σ 5 (σ.1 2 3) with
    | none => rw [hr5] at h; dsimp only at h; cases h
    | some r4 =>
      rw [hr5] at h
      dsimp only at h
      refine yG_c (C1 := (17, [(0, .inr (.inl 1, 2)), (1, .inr (.inl 4, x1))], [], r4.2)) rfl (e_X1_complain hr5) rfl ?_
      exact t_X1_readDeed_b17 r4.2 x1 res h
set_option maxRecDepth 100000 in
set_option maxHeartbeats 4000000 in
theorem m_X1_readDeed {N : Nat} {X : zXT} (hX : zXok X) (hN : zXn X) (l : Launch) {sh : List yH} : yMet X vwCl yct sh l yX1_readDeed wsX1_readDeed { frames := 4, cells := 0, slots := 0, locals := 132 } (F_X1_readDeed N) :=
  ymeth (tb := tb_X1_readDeed N) (pr := pr_X1_readDeed) (rt := 0) (own := RX1) hX (by decide +kernel) rfl rfl ⟨Nat.le_of_ble_eq_true rfl, Nat.le_of_ble_eq_true rfl⟩
    (zfl_all (List.forall_mem_cons.mpr ⟨zfl_X4 (fun w h => List.mem_cons_of_mem _ (List.mem_append_left _ (List.mem_append_left _ (List.mem_append_right _ h)))) (List.mem_of_getElem? (i := 1) rfl) (by decide) (by decide), List.forall_mem_cons.mpr ⟨zfl_X1 (fun w h => List.mem_cons_of_mem _ (List.mem_append_left _ (List.mem_append_right _ h))) (List.mem_of_getElem? (i := 2) rfl) (by decide) (by decide), fun _ h => absurd h List.not_mem_nil⟩⟩))
    (zco_all (fun _ h => absurd h List.not_mem_nil)) (zlc_all (fun _ h => absurd h List.not_mem_nil))
    (List.forall_mem_cons.mpr ⟨ycal_V hX (m_X1_readToken hX hN l) rfl (fun s args hts => cwV 0 hts gX1_readDeed_X1_readToken rfl rfl rfl (by decide +kernel) ⟨Nat.le_of_ble_eq_true rfl, Nat.le_of_ble_eq_true rfl⟩), List.forall_mem_cons.mpr ⟨ycal_V hX (m_X1_complain hX hN l) rfl (fun s args hts => cwV 2 hts gX1_readDeed_X1_complain rfl rfl rfl (by decide +kernel) ⟨Nat.le_of_ble_eq_true rfl, Nat.le_of_ble_eq_true rfl⟩), List.forall_mem_cons.mpr ⟨ycal_V hX (m_X1_needNumber hX hN l) rfl (fun s args hts => cwV 2 hts gX1_readDeed_X1_needNumber rfl rfl rfl (by decide +kernel) ⟨Nat.le_of_ble_eq_true rfl, Nat.le_of_ble_eq_true rfl⟩), List.forall_mem_cons.mpr ⟨ycal_V hX (m_X4_addDeed hX hN l) rfl (fun s args hts => cwV 1 hts gX1_readDeed_X4_addDeed rfl rfl rfl (by decide +kernel) ⟨Nat.le_of_ble_eq_true rfl, Nat.le_of_ble_eq_true rfl⟩), fun _ h => absurd h List.not_mem_nil⟩⟩⟩⟩)
    (fun _ h => absurd h List.not_mem_nil)
    (zmm_all (fun _ h => absurd h List.not_mem_nil)) (fun _ h => absurd h List.not_mem_nil) (zpr_all hp_X1_readDeed) (fun as σ res h => by
      unfold F_X1_readDeed at h
      split at h
      · rename_i x1
        cases hr : f_X1_readDeed N σ x1 with
        | none => rw [hr] at h; cases h
        | some r =>
          rw [hr] at h
          cases h
          exact ⟨Nat.le_of_ble_eq_true rfl, t_X1_readDeed σ x1 r hr⟩
      · cases h)
noncomputable def pr_X1_needHouse : List (Nat × Instr × Nat) := [(0, .aload_n 0, 1), (1, .invokevirtual 55, 3), (4, .aload_n 0, 1), (5, .iconst 0, 1), (6, .bipush 6, 2), (8, .invokevirtual 147, 3), (11, .istore_n 1, 1), (12, .aload_n 0, 1), (13, .aload_n 0, 1), (14, .getfield 49, 3), (17, .iload_n 1, 1), (18, .invokestatic 202, 3), (21, .putfield 49, 3), (24, .iload_n 1, 1), (25, .ireturn, 1)]
set_option maxRecDepth 100000 in
theorem hp_X1_needHouse : pr_X1_needHouse.all (fun x => decide (decode cX1_needHouse x.1 = .ok x.2)) = true := by decide +kernel
noncomputable def f_X1_needHouse (N : Nat) (σ : yS) : Option (Int × yS) :=
  match f_X1_readToken N σ with
  | none => none
  | some r1 => match f_X1_numberHere N r1.2 0 6 with
    | none => none
    | some r2 => some (r2.1, yw r2.2 2 11 (ymx (r2.2.1 2 11) r2.1))
noncomputable def F_X1_needHouse (N : Nat) : yF := fun as σ => match as with
  | [.inr (.inl 1, 2)] => (f_X1_needHouse N σ).map (fun r => (some (.inl (.inl r.1)), r.2))
  | _ => none
theorem e_X1_needHouse {N : Nat} {σ : yS} {r : Int × yS} (h : f_X1_needHouse N σ = some r) : F_X1_needHouse N [.inr (.inl 1, 2)] σ = some (some (.inl (.inl r.1)), r.2) := by
  show (f_X1_needHouse N σ).map (fun r => ((some (.inl (.inl r.1)), r.2) : yR)) = _
  rw [h]
  rfl
noncomputable def tb_X1_needHouse (N : Nat) : yTb := ([(49, 1, 11, 0)], [], [], [(55, 1, 1, F_X1_readToken N), (147, 3, 1, F_X1_numberHere N)], [], [(202, 0)], [])
abbrev G_X1_needHouse (N : Nat) (X : zXT) (sh : List yH) (l : Launch) (rm : Room) : yC → yR → Prop := yGoes X vwCl yct sh l rm cX1_needHouse 2 wsX1_needHouse RX1 (tb_X1_needHouse N) pr_X1_needHouse 1
set_option maxRecDepth 100000 in
set_option maxHeartbeats 4000000 in
theorem t_X1_needHouse {N : Nat} {X : zXT} {sh : List yH} {l : Launch} {rm : Room} (σ : yS) (res : Int × yS) (h : f_X1_needHouse N σ = some res) : G_X1_needHouse N X sh l rm (0, [(0, .inr (.inl 1, 2))], [], σ) (some (.inl (.inl res.1)), res.2) := by
  unfold f_X1_needHouse at h
  refine yG_n (n := 1) (C' := (1, [(0, .inr (.inl 1, 2))], [.inr (.inl 1, 2)], σ)) rfl ?_
  cases hr1 : f_X1_readToken N σ with
  | none => rw [hr1] at h; dsimp only at h; cases h
  | some r1 =>
    rw [hr1] at h
    dsimp only at h
    refine yG_c (C1 := (4, [(0, .inr (.inl 1, 2))], [], r1.2)) rfl (e_X1_readToken hr1) rfl ?_
    refine yG_n (n := 3) (C' := (8, [(0, .inr (.inl 1, 2))], [.inl (.inl 6), .inl (.inl 0), .inr (.inl 1, 2)], r1.2)) rfl ?_
    cases hr2 : f_X1_numberHere N r1.2 0 6 with
    | none => rw [hr2] at h; dsimp only at h; cases h
    | some r2 =>
      rw [hr2] at h
      dsimp only at h
      refine yG_c (C1 := (11, [(0, .inr (.inl 1, 2))], [.inl (.inl r2.1)], r2.2)) rfl (e_X1_numberHere hr2) rfl ?_
      refine yG_n (n := 8) (C' := (25, [(1, .inl (.inl r2.1)), (0, .inr (.inl 1, 2))], [.inl (.inl r2.1)], yw r2.2 2 11 (ymx (r2.2.1 2 11) r2.1))) rfl ?_
      have h := Option.some.inj h
      subst h
      dsimp only
      exact yG_r rfl rfl
set_option maxRecDepth 100000 in
set_option maxHeartbeats 4000000 in
theorem m_X1_needHouse {N : Nat} {X : zXT} (hX : zXok X) (hN : zXn X) (l : Launch) {sh : List yH} : yMet X vwCl yct sh l yX1_needHouse wsX1_needHouse { frames := 3, cells := 0, slots := 0, locals := 110 } (F_X1_needHouse N) :=
  ymeth (tb := tb_X1_needHouse N) (pr := pr_X1_needHouse) (rt := 1) (own := RX1) hX (by decide +kernel) rfl rfl ⟨Nat.le_of_ble_eq_true rfl, Nat.le_of_ble_eq_true rfl⟩
    (zfl_all (List.forall_mem_cons.mpr ⟨zfl_X1 (fun w h => List.mem_cons_of_mem _ (List.mem_append_left _ (List.mem_append_right _ h))) (List.mem_of_getElem? (i := 1) rfl) (by decide) (by decide), fun _ h => absurd h List.not_mem_nil⟩))
    (zco_all (fun _ h => absurd h List.not_mem_nil)) (zlc_all (fun _ h => absurd h List.not_mem_nil))
    (List.forall_mem_cons.mpr ⟨ycal_V hX (m_X1_readToken hX hN l) rfl (fun s args hts => cwV 0 hts gX1_needHouse_X1_readToken rfl rfl rfl (by decide +kernel) ⟨Nat.le_of_ble_eq_true rfl, Nat.le_of_ble_eq_true rfl⟩), List.forall_mem_cons.mpr ⟨ycal_V hX (m_X1_numberHere hX hN l) rfl (fun s args hts => cwV 2 hts gX1_needHouse_X1_numberHere rfl rfl rfl (by decide +kernel) ⟨Nat.le_of_ble_eq_true rfl, Nat.le_of_ble_eq_true rfl⟩), fun _ h => absurd h List.not_mem_nil⟩⟩)
    (fun _ h => absurd h List.not_mem_nil)
    (zmm_all (List.forall_mem_cons.mpr ⟨⟨List.mem_of_getElem? (i := 2) rfl, List.mem_of_getElem? (i := 3) rfl, List.mem_of_getElem? (i := 4) rfl, List.mem_of_getElem? (i := 5) rfl⟩, fun _ h => absurd h List.not_mem_nil⟩)) (fun _ h => absurd h List.not_mem_nil) (zpr_all hp_X1_needHouse) (fun as σ res h => by
      unfold F_X1_needHouse at h
      split at h
      · cases hr : f_X1_needHouse N σ with
        | none => rw [hr] at h; cases h
        | some r =>
          rw [hr] at h
          cases h
          exact ⟨Nat.le_of_ble_eq_true rfl, t_X1_needHouse σ r hr⟩
      · cases h)
end
section
noncomputable def pr_X1_tellOnce : List (Nat × Instr × Nat) := [(0, .iload_n 1, 1), (1, .iload_n 2, 1), (2, .invokestatic 195, 3), (5, .iconst 1, 1), (6, .if_icmp .ne 12, 3), (9, .aload_n 0, 1), (10, .iconst 4, 1), (11, .aload_n 0, 1), (12, .getfield 123, 3), (15, .invokevirtual 77, 3), (18, .iload_n 1, 1), (19, .iload_n 2, 1), (20, .iconst 1, 1), (21, .invokestatic 198, 3), (24, .ireturn, 1)]
set_option maxRecDepth 100000 in
theorem hp_X1_tellOnce : pr_X1_tellOnce.all (fun x => decide (decode cX1_tellOnce x.1 = .ok x.2)) = true := by decide +kernel
noncomputable def f_X1_tellOnce_b18 (N : Nat) (σ : yS) (x1 : Int) (x2 : Int) : Option (Int × yS) :=
  match f_X7_withBit N σ x1 x2 1 with
  | none => none
  | some r2 => some (r2.1, r2.2)
noncomputable def f_X1_tellOnce (N : Nat) (σ : yS) (x1 : Int) (x2 : Int) : Option (Int × yS) :=
  match f_X7_bit N σ x1 x2 with
  | none => none
  | some r1 => bif ycP .ne r1.1 1 then
      f_X1_tellOnce_b18 N r1.2 x1 x2
    else
      match f_X1_complain N r1.2 4 (r1.2.1 2 3) with
      | none => none
      | some r3 => f_X1_tellOnce_b18 N r3.2 x1 x2
noncomputable def F_X1_tellOnce (N : Nat) : yF := fun as σ => match as with
  | [.inr (.inl 1, 2), .inl (.inl x1), .inl (.inl x2)] => (f_X1_tellOnce N σ x1 x2).map (fun r => (some (.inl (.inl r.1)), r.2))
  | _ => none
theorem e_X1_tellOnce {N : Nat} {σ : yS} {x1 : Int} {x2 : Int} {r : Int × yS} (h : f_X1_tellOnce N σ x1 x2 = some r) : F_X1_tellOnce N [.inr (.inl 1, 2), .inl (.inl x1), .inl (.inl x2)] σ = some (some (.inl (.inl r.1)), r.2) := by
  show (f_X1_tellOnce N σ x1 x2).map (fun r => ((some (.inl (.inl r.1)), r.2) : yR)) = _
  rw [h]
  rfl
noncomputable def tb_X1_tellOnce (N : Nat) : yTb := ([(123, 1, 3, 0)], [], [], [(77, 3, 1, F_X1_complain N)], [(195, 2, F_X7_bit N), (198, 3, F_X7_withBit N)], [], [])
abbrev G_X1_tellOnce (N : Nat) (X : zXT) (sh : List yH) (l : Launch) (rm : Room) : yC → yR → Prop := yGoes X vwCl yct sh l rm cX1_tellOnce 3 wsX1_tellOnce RX1 (tb_X1_tellOnce N) pr_X1_tellOnce 1
set_option maxRecDepth 100000 in
set_option maxHeartbeats 4000000 in
theorem t_X1_tellOnce_b18 {N : Nat} {X : zXT} {sh : List yH} {l : Launch} {rm : Room} (σ : yS) (x1 : Int) (x2 : Int) (res : Int × yS) (h : f_X1_tellOnce_b18 N σ x1 x2 = some res) : G_X1_tellOnce N X sh l rm (18, [(1, .inl (.inl x1)), (2, .inl (.inl x2))], [], σ) (some (.inl (.inl res.1)), res.2) := by
  unfold f_X1_tellOnce_b18 at h
  refine yG_n (n := 3) (C' := (21, [(1, .inl (.inl x1)), (2, .inl (.inl x2))], [.inl (.inl 1), .inl (.inl x2), .inl (.inl x1)], σ)) rfl ?_
  cases hr1 : f_X7_withBit N σ x1 x2 1 with
  | none => rw [hr1] at h; dsimp only at h; cases h
  | some r2 =>
    rw [hr1] at h
    dsimp only at h
    refine yG_c (C1 := (24, [(1, .inl (.inl x1)), (2, .inl (.inl x2))], [.inl (.inl r2.1)], r2.2)) rfl (e_X7_withBit hr1) rfl ?_
    have h := Option.some.inj h
    subst h
    dsimp only
    exact yG_r rfl rfl
set_option maxRecDepth 100000 in
set_option maxHeartbeats 4000000 in
theorem t_X1_tellOnce {N : Nat} {X : zXT} {sh : List yH} {l : Launch} {rm : Room} (σ : yS) (x1 : Int) (x2 : Int) (res : Int × yS) (h : f_X1_tellOnce N σ x1 x2 = some res) : G_X1_tellOnce N X sh l rm (0, [(0, .inr (.inl 1, 2)), (1, .inl (.inl x1)), (2, .inl (.inl x2))], [], σ) (some (.inl (.inl res.1)), res.2) := by
  unfold f_X1_tellOnce at h
  refine yG_n (n := 2) (C' := (2, [(0, .inr (.inl 1, 2)), (1, .inl (.inl x1)), (2, .inl (.inl x2))], [.inl (.inl x2), .inl (.inl x1)], σ)) rfl ?_
  cases hr2 : f_X7_bit N σ x1 x2 with
  | none => rw [hr2] at h; dsimp only at h; cases h
  | some r1 =>
    rw [hr2] at h
    dsimp only at h
    refine yG_c (C1 := (5, [(0, .inr (.inl 1, 2)), (1, .inl (.inl x1)), (2, .inl (.inl x2))], [.inl (.inl r1.1)], r1.2)) rfl (e_X7_bit hr2) rfl ?_
    refine yG_n (n := 1) (C' := (6, [(0, .inr (.inl 1, 2)), (1, .inl (.inl x1)), (2, .inl (.inl x2))], [.inl (.inl 1), .inl (.inl r1.1)], r1.2)) rfl ?_
    cases hg3 : ycP .ne r1.1 1 with
    | true =>
      rw [hg3] at h
      dsimp only [cond] at h
      refine yG_t (C' := (18, [(0, .inr (.inl 1, 2)), (1, .inl (.inl x1)), (2, .inl (.inl x2))], [], r1.2)) rfl hg3 ?_
      exact yG_w [1, 2] rfl (t_X1_tellOnce_b18 r1.2 x1 x2 res h)
    | false =>
      rw [hg3] at h
      dsimp only [cond] at h
      refine yG_f (C' := (9, [(0, .inr (.inl 1, 2)), (1, .inl (.inl x1)), (2, .inl (.inl x2))], [], r1.2)) rfl hg3 ?_
      refine yG_n (n := 4) (C' := (15, [(0, .inr (.inl 1, 2)), (1, .inl (.inl x1)), (2, .inl (.inl x2))], [.inl (.inl (r1.2.1 2 3)), .inl (.inl 4), .inr (.inl 1, 2)], r1.2)) rfl ?_
      cases hr4 : f_X1_complain N r1.2 4 (r1.2.1 2 3) with
      | none => rw [hr4] at h; dsimp only at h; cases h
      | some r3 =>
        rw [hr4] at h
        dsimp only at h
        refine yG_c (C1 := (18, [(0, .inr (.inl 1, 2)), (1, .inl (.inl x1)), (2, .inl (.inl x2))], [], r3.2)) rfl (e_X1_complain hr4) rfl ?_
        exact yG_w [1, 2] rfl (t_X1_tellOnce_b18 r3.2 x1 x2 res h)
set_option maxRecDepth 100000 in
set_option maxHeartbeats 4000000 in
theorem m_X1_tellOnce {N : Nat} {X : zXT} (hX : zXok X) (hN : zXn X) (l : Launch) {sh : List yH} : yMet X vwCl yct sh l yX1_tellOnce wsX1_tellOnce { frames := 2, cells := 0, slots := 0, locals := 86 } (F_X1_tellOnce N) :=
  ymeth (tb := tb_X1_tellOnce N) (pr := pr_X1_tellOnce) (rt := 1) (own := RX1) hX (by decide +kernel) rfl rfl ⟨Nat.le_of_ble_eq_true rfl, Nat.le_of_ble_eq_true rfl⟩
    (zfl_all (List.forall_mem_cons.mpr ⟨zfl_X1 (fun w h => List.mem_cons_of_mem _ (List.mem_append_right _ h)) (List.mem_of_getElem? (i := 1) rfl) (by decide) (by decide), fun _ h => absurd h List.not_mem_nil⟩))
    (zco_all (fun _ h => absurd h List.not_mem_nil)) (zlc_all (fun _ h => absurd h List.not_mem_nil))
    (List.forall_mem_cons.mpr ⟨ycal_V hX (m_X1_complain hX hN l) rfl (fun s args hts => cwV 2 hts gX1_tellOnce_X1_complain rfl rfl rfl (by decide +kernel) ⟨Nat.le_of_ble_eq_true rfl, Nat.le_of_ble_eq_true rfl⟩), fun _ h => absurd h List.not_mem_nil⟩)
    (List.forall_mem_cons.mpr ⟨ycal_SN hX (m_X7_bit hX hN l) (fun A s args hts hx => ⟨va_cnB 2 hts ggX1_tellOnce_X7_bit rfl rfl rfl (hN A s s.heap hx RX1 195 yX7_bit RX7 (by decide +kernel)) (hts _ (List.mem_of_getElem? (i := 3) rfl)) (by decide +kernel) ⟨Nat.le_of_ble_eq_true rfl, Nat.le_of_ble_eq_true rfl⟩, hts _ (List.mem_of_getElem? (i := 2) rfl), trivial⟩), List.forall_mem_cons.mpr ⟨ycal_SN hX (m_X7_withBit hX hN l) (fun A s args hts hx => ⟨va_cnB 3 hts ggX1_tellOnce_X7_withBit rfl rfl rfl (hN A s s.heap hx RX1 198 yX7_withBit RX7 (by decide +kernel)) (hts _ (List.mem_of_getElem? (i := 3) rfl)) (by decide +kernel) ⟨Nat.le_of_ble_eq_true rfl, Nat.le_of_ble_eq_true rfl⟩, hts _ (List.mem_of_getElem? (i := 12) rfl), trivial⟩), fun _ h => absurd h List.not_mem_nil⟩⟩)
    (zmm_all (fun _ h => absurd h List.not_mem_nil)) (fun _ h => absurd h List.not_mem_nil) (zpr_all hp_X1_tellOnce) (fun as σ res h => by
      unfold F_X1_tellOnce at h
      split at h
      · rename_i x1 x2
        cases hr : f_X1_tellOnce N σ x1 x2 with
        | none => rw [hr] at h; cases h
        | some r =>
          rw [hr] at h
          cases h
          exact ⟨Nat.le_of_ble_eq_true rfl, t_X1_tellOnce σ x1 x2 r hr⟩
      · cases h)
noncomputable def pr_X1_noteDeed : List (Nat × Instr × Nat) := [(0, .aload_n 0, 1), (1, .aload_n 0, 1), (2, .getfield 52, 3), (5, .iload_n 1, 1), (6, .invokestatic 202, 3), (9, .putfield 52, 3), (12, .iload_n 1, 1), (13, .ireturn, 1)]
set_option maxRecDepth 100000 in
theorem hp_X1_noteDeed : pr_X1_noteDeed.all (fun x => decide (decode cX1_noteDeed x.1 = .ok x.2)) = true := by decide +kernel
noncomputable def f_X1_noteDeed (N : Nat) (σ : yS) (x1 : Int) : Option (Int × yS) :=
  some (x1, yw σ 2 12 (ymx (σ.1 2 12) x1))
noncomputable def F_X1_noteDeed (N : Nat) : yF := fun as σ => match as with
  | [.inr (.inl 1, 2), .inl (.inl x1)] => (f_X1_noteDeed N σ x1).map (fun r => (some (.inl (.inl r.1)), r.2))
  | _ => none
theorem e_X1_noteDeed {N : Nat} {σ : yS} {x1 : Int} {r : Int × yS} (h : f_X1_noteDeed N σ x1 = some r) : F_X1_noteDeed N [.inr (.inl 1, 2), .inl (.inl x1)] σ = some (some (.inl (.inl r.1)), r.2) := by
  show (f_X1_noteDeed N σ x1).map (fun r => ((some (.inl (.inl r.1)), r.2) : yR)) = _
  rw [h]
  rfl
noncomputable def tb_X1_noteDeed (N : Nat) : yTb := ([(52, 1, 12, 0)], [], [], [], [], [(202, 0)], [])
abbrev G_X1_noteDeed (N : Nat) (X : zXT) (sh : List yH) (l : Launch) (rm : Room) : yC → yR → Prop := yGoes X vwCl yct sh l rm cX1_noteDeed 2 wsX1_noteDeed RX1 (tb_X1_noteDeed N) pr_X1_noteDeed 1
set_option maxRecDepth 100000 in
set_option maxHeartbeats 4000000 in
theorem t_X1_noteDeed {N : Nat} {X : zXT} {sh : List yH} {l : Launch} {rm : Room} (σ : yS) (x1 : Int) (res : Int × yS) (h : f_X1_noteDeed N σ x1 = some res) : G_X1_noteDeed N X sh l rm (0, [(0, .inr (.inl 1, 2)), (1, .inl (.inl x1))], [], σ) (some (.inl (.inl res.1)), res.2) := by
  unfold f_X1_noteDeed at h
  refine yG_n (n := 7) (C' := (13, [(0, .inr (.inl 1, 2)), (1, .inl (.inl x1))], [.inl (.inl x1)], yw σ 2 12 (ymx (σ.1 2 12) x1))) rfl ?_
  have h := Option.some.inj h
  subst h
  dsimp only
  exact yG_r rfl rfl
set_option maxRecDepth 100000 in
set_option maxHeartbeats 4000000 in
theorem m_X1_noteDeed {N : Nat} {X : zXT} (hX : zXok X) (hN : zXn X) (l : Launch) {sh : List yH} : yMet X vwCl yct sh l yX1_noteDeed wsX1_noteDeed { frames := 1, cells := 0, slots := 0, locals := 64 } (F_X1_noteDeed N) :=
  ymeth (tb := tb_X1_noteDeed N) (pr := pr_X1_noteDeed) (rt := 1) (own := RX1) hX (by decide +kernel) rfl rfl ⟨Nat.le_of_ble_eq_true rfl, Nat.le_of_ble_eq_true rfl⟩
    (zfl_all (List.forall_mem_cons.mpr ⟨zfl_X1 (fun w h => List.mem_cons_of_mem _ (List.mem_append_right _ h)) (List.mem_of_getElem? (i := 1) rfl) (by decide) (by decide), fun _ h => absurd h List.not_mem_nil⟩))
    (zco_all (fun _ h => absurd h List.not_mem_nil)) (zlc_all (fun _ h => absurd h List.not_mem_nil))
    (fun _ h => absurd h List.not_mem_nil)
    (fun _ h => absurd h List.not_mem_nil)
    (zmm_all (List.forall_mem_cons.mpr ⟨⟨List.mem_of_getElem? (i := 2) rfl, List.mem_of_getElem? (i := 3) rfl, List.mem_of_getElem? (i := 4) rfl, List.mem_of_getElem? (i := 5) rfl⟩, fun _ h => absurd h List.not_mem_nil⟩)) (fun _ h => absurd h List.not_mem_nil) (zpr_all hp_X1_noteDeed) (fun as σ res h => by
      unfold F_X1_noteDeed at h
      split at h
      · rename_i x1
        cases hr : f_X1_noteDeed N σ x1 with
        | none => rw [hr] at h; cases h
        | some r =>
          rw [hr] at h
          cases h
          exact ⟨Nat.le_of_ble_eq_true rfl, t_X1_noteDeed σ x1 r hr⟩
      · cases h)
noncomputable def pr_X1_readHouse : List (Nat × Instr × Nat) := [(0, .aload_n 0, 1), (1, .invokevirtual 136, 3), (4, .istore_n 2, 1), (5, .aload_n 0, 1), (6, .aload_n 0, 1), (7, .aload_n 0, 1), (8, .getfield 40, 3), (11, .iload_n 2, 1), (12, .invokevirtual 140, 3), (15, .putfield 40, 3), (18, .aload_n 1, 1), (19, .getfield 143, 3), (22, .iload_n 2, 1), (23, .aload_n 0, 1), (24, .iconst 0, 1), (25, .bipush 99, 2), (27, .invokevirtual 126, 3), (30, .iastore, 1), (31, .aload_n 0, 1), (32, .invokevirtual 55, 3), (35, .iconst 0, 1), (36, .istore_n 3, 1), (37, .iload_n 3, 1), (38, .sipush 160, 3), (41, .if_icmp .ge 58, 3), (44, .aload_n 0, 1), (45, .getfield 27, 3), (48, .ifCond .ne 51, 3), (51, .aload_n 0, 1), (52, .getfield 58, 3), (55, .iconst 2, 1), (56, .if_icmp .ne 43, 3), (59, .aload_n 0, 1), (60, .aload_n 0, 1), (61, .iconst 0, 1), (62, .iconst 4, 1), (63, .invokevirtual 147, 3), (66, .invokevirtual 150, 3), (69, .istore 4, 2), (71, .aload_n 1, 1), (72, .getfield 154, 3), (75, .iload_n 2, 1), (76, .aload_n 0, 1), (77, .aload_n 1, 1), (78, .getfield 154, 3), (81, .iload_n 2, 1), (82, .iaload, 1), (83, .iload 4, 2), (85, .invokevirtual 140, 3), (88, .iastore, 1), (89, .aload_n 0, 1), (90, .invokevirtual 55, 3), (93, .iinc 3 1, 3), (96, .goto (-59), 3), (99, .return_, 1)]
set_option maxRecDepth 100000 in
theorem hp_X1_readHouse : pr_X1_readHouse.all (fun x => decide (decode cX1_readHouse x.1 = .ok x.2)) = true := by decide +kernel
noncomputable def f_X1_readHouse_b99 (N : Nat) (σ : yS) : Option (Int × yS) :=
  some (0, σ)
noncomputable def f_X1_readHouse_b37 (N : Nat) : Nat → yS → Nat → Int → Int → Option (Int × yS) := yfix (fun _ _ _ _ => none) (fun ih σ x1 x2 x3 =>
    bif ycP .ge x3 160 then
      f_X1_readHouse_b99 N σ
    else
      bif ycP .ne (σ.1 2 4) 0 then
        f_X1_readHouse_b99 N σ
      else
        bif ycP .ne (σ.1 2 2) 2 then
          f_X1_readHouse_b99 N σ
        else
          match f_X1_numberHere N σ 0 4 with
          | none => none
          | some r5 => match f_X1_noteDeed N r5.2 r5.1 with
            | none => none
            | some r6 => bif yin x2 7 then
                match f_X1_tellOnce N r6.2 (r6.2.1 (x1 + 3) x2.toNat) r6.1 with
                | none => none
                | some r7 => match f_X1_readToken N (yw r7.2 (x1 + 3) x2.toNat r7.1) with
                  | none => none
                  | some r8 => ih r8.2 x1 x2 (yad x3 1)
              else none)
theorem q_X1_readHouse_b37 (N : Nat) (n : Nat) (σ : yS) (x1 : Nat) (x2 : Int) (x3 : Int) : f_X1_readHouse_b37 N (n + 1) σ x1 x2 x3 =
    (bif ycP .ge x3 160 then
      f_X1_readHouse_b99 N σ
    else
      bif ycP .ne (σ.1 2 4) 0 then
        f_X1_readHouse_b99 N σ
      else
        bif ycP .ne (σ.1 2 2) 2 then
          f_X1_readHouse_b99 N σ
        else
          match f_X1_numberHere N σ 0 4 with
          | none => none
          | some r5 => match f_X1_noteDeed N r5.2 r5.1 with
            | none => none
            | some r6 => bif yin x2 7 then
                match f_X1_tellOnce N r6.2 (r6.2.1 (x1 + 3) x2.toNat) r6.1 with
                | none => none
                | some r7 => match f_X1_readToken N (yw r7.2 (x1 + 3) x2.toNat r7.1) with
                  | none => none
                  | some r8 => (f_X1_readHouse_b37 N n) r8.2 x1 x2 (yad x3 1)
              else none) := rfl
noncomputable def f_X1_readHouse (N : Nat) (σ : yS) (x1 : Nat) : Option (Int × yS) :=
  match f_X1_needHouse N σ with
  | none => none
  | some r1 => match f_X1_tellOnce N r1.2 (r1.2.1 2 8) r1.1 with
    | none => none
    | some r2 => match f_X1_needNumber N (yw r2.2 2 8 r2.1) 0 99 with
      | none => none
      | some r3 => bif yin r1.1 7 then
          match f_X1_readToken N (yw r3.2 (x1 + 2) r1.1.toNat r3.1) with
          | none => none
          | some r4 => f_X1_readHouse_b37 N N r4.2 x1 r1.1 0
        else none
noncomputable def F_X1_readHouse (N : Nat) : yF := fun as σ => match as with
  | [.inr (.inl 1, 2), .inr (.inl 4, x1)] => (f_X1_readHouse N σ x1).map (fun r => (none, r.2))
  | _ => none
theorem e_X1_readHouse {N : Nat} {σ : yS} {x1 : Nat} {r : Int × yS} (h : f_X1_readHouse N σ x1 = some r) : F_X1_readHouse N [.inr (.inl 1, 2), .inr (.inl 4, x1)] σ = some (none, r.2) := by
  show (f_X1_readHouse N σ x1).map (fun r => ((none, r.2) : yR)) = _
  rw [h]
  rfl
noncomputable def tb_X1_readHouse (N : Nat) : yTb := ([(27, 1, 4, 0), (40, 1, 8, 0), (58, 1, 2, 0), (143, 4, 4, 3), (154, 4, 5, 3)], [], [], [(55, 1, 1, F_X1_readToken N), (126, 3, 1, F_X1_needNumber N), (136, 1, 1, F_X1_needHouse N), (140, 3, 1, F_X1_tellOnce N), (147, 3, 1, F_X1_numberHere N), (150, 2, 1, F_X1_noteDeed N)], [], [], [])
abbrev G_X1_readHouse (N : Nat) (X : zXT) (sh : List yH) (l : Launch) (rm : Room) : yC → yR → Prop := yGoes X vwCl yct sh l rm cX1_readHouse 5 wsX1_readHouse RX1 (tb_X1_readHouse N) pr_X1_readHouse 0
set_option maxRecDepth 100000 in
set_option maxHeartbeats 4000000 in
theorem t_X1_readHouse_b99 {N : Nat} {X : zXT} {sh : List yH} {l : Launch} {rm : Room} (σ : yS) (res : Int × yS) (h : f_X1_readHouse_b99 N σ = some res) : G_X1_readHouse N X sh l rm (99, [], [], σ) (none, res.2) := by
  unfold f_X1_readHouse_b99 at h
  have h := Option.some.inj h
  subst h
  dsimp only
  exact yG_r rfl rfl
set_option maxRecDepth 100000 in
set_option maxHeartbeats 4000000 in
theorem t_X1_readHouse_b37 {N : Nat} {X : zXT} {sh : List yH} {l : Launch} {rm : Room} : ∀ (n : Nat) (σ : yS) (x1 : Nat) (x2 : Int) (x3 : Int) (res : Int × yS), f_X1_readHouse_b37 N n σ x1 x2 x3 = some res → G_X1_readHouse N X sh l rm (37, [(0, .inr (.inl 1, 2)), (1, .inr (.inl 4, x1)), (2, .inl (.inl x2)), (3, .inl (.inl x3))], [], σ) (none, res.2) := by
  intro n
  induction n with
  | zero => intro σ x1 x2 x3 res h; exact (yno h).elim
  | succ n ih =>
    intro σ x1 x2 x3 res h
    rw [q_X1_readHouse_b37] at h
    refine yG_n (n := 2) (C' := (41, [(0, .inr (.inl 1, 2)), (1, .inr (.inl 4, x1)), (2, .inl (.inl x2)), (3, .inl (.inl x3))], [.inl (.inl 160), .inl (.inl x3)], σ)) rfl ?_
    cases hg1 : ycP .ge x3 160 with
    | true =>
      rw [hg1] at h
      dsimp only [cond] at h
      refine yG_t (C' := (99, [(0, .inr (.inl 1, 2)), (1, .inr (.inl 4, x1)), (2, .inl (.inl x2)), (3, .inl (.inl x3))], [], σ)) rfl hg1 ?_
      exact yG_w [] rfl (t_X1_readHouse_b99 σ res h)
    | false =>
      rw [hg1] at h
      dsimp only [cond] at h
      refine yG_f (C' := (44, [(0, .inr (.inl 1, 2)), (1, .inr (.inl 4, x1)), (2, .inl (.inl x2)), (3, .inl (.inl x3))], [], σ)) rfl hg1 ?_
      refine yG_n (n := 2) (C' := (48, [(0, .inr (.inl 1, 2)), (1, .inr (.inl 4, x1)), (2, .inl (.inl x2)), (3, .inl (.inl x3))], [.inl (.inl (σ.1 2 4))], σ)) rfl ?_
      cases hg2 : ycP .ne (σ.1 2 4) 0 with
      | true =>
        rw [hg2] at h
        dsimp only [cond] at h
        refine yG_t (C' := (99, [(0, .inr (.inl 1, 2)), (1, .inr (.inl 4, x1)), (2, .inl (.inl x2)), (3, .inl (.inl x3))], [], σ)) rfl hg2 ?_
        exact yG_w [] rfl (t_X1_readHouse_b99 σ res h)
      | false =>
        rw [hg2] at h
        dsimp only [cond] at h
        refine yG_f (C' := (51, [(0, .inr (.inl 1, 2)), (1, .inr (.inl 4, x1)), (2, .inl (.inl x2)), (3, .inl (.inl x3))], [], σ)) rfl hg2 ?_
        refine yG_n (n := 3) (C' := (56, [(0, .inr (.inl 1, 2)), (1, .inr (.inl 4, x1)), (2, .inl (.inl x2)), (3, .inl (.inl x3))], [.inl (.inl 2), .inl (.inl (σ.1 2 2))], σ)) rfl ?_
        cases hg3 : ycP .ne (σ.1 2 2) 2 with
        | true =>
          rw [hg3] at h
          dsimp only [cond] at h
          refine yG_t (C' := (99, [(0, .inr (.inl 1, 2)), (1, .inr (.inl 4, x1)), (2, .inl (.inl x2)), (3, .inl (.inl x3))], [], σ)) rfl hg3 ?_
          exact yG_w [] rfl (t_X1_readHouse_b99 σ res h)
        | false =>
          rw [hg3] at h
          dsimp only [cond] at h
          refine yG_f (C' := (59, [(0, .inr (.inl 1, 2)), (1, .inr (.inl 4, x1)), (2, .inl (.inl x2)), (3, .inl (.inl x3))], [], σ)) rfl hg3 ?_
          refine yG_n (n := 4) (C' := (63, [(0, .inr (.inl 1, 2)), (1, .inr (.inl 4, x1)), (2, .inl (.inl x2)), (3, .inl (.inl x3))], [.inl (.inl 4), .inl (.inl 0), .inr (.inl 1, 2), .inr (.inl 1, 2)], σ)) rfl ?_
          cases hr4 : f_X1_numberHere N σ 0 4 with
          | none => rw [hr4] at h; dsimp only at h; cases h
          | some r5 =>
            rw [hr4] at h
            dsimp only at h
            refine yG_c (C1 := (66, [(0, .inr (.inl 1, 2)), (1, .inr (.inl 4, x1)), (2, .inl (.inl x2)), (3, .inl (.inl x3))], [.inl (.inl r5.1), .inr (.inl 1, 2)], r5.2)) rfl (e_X1_numberHere hr4) rfl ?_
            cases hr5 : f_X1_noteDeed N r5.2 r5.1 with
            | none => rw [hr5] at h; dsimp only at h; cases h
            | some r6 =>
              rw [hr5] at h
              dsimp only at h
              refine yG_c (C1 := (69, [(0, .inr (.inl 1, 2)), (1, .inr (.inl 4, x1)), (2, .inl (.inl x2)), (3, .inl (.inl x3))], [.inl (.inl r6.1)], r6.2)) rfl (e_X1_noteDeed hr5) rfl ?_
              refine yG_n (n := 8) (C' := (82, [(4, .inl (.inl r6.1)), (0, .inr (.inl 1, 2)), (1, .inr (.inl 4, x1)), (2, .inl (.inl x2)), (3, .inl (.inl x3))], [.inl (.inl x2), .inr (.inr (0, 7), x1 + 3), .inr (.inl 1, 2), .inl (.inl x2), .inr (.inr (0, 7), x1 + 3)], r6.2)) rfl ?_
              cases hg6 : yin x2 7 with
              | false => rw [hg6] at h; dsimp only [cond] at h; cases h
              | true =>
                rw [hg6] at h
                dsimp only [cond] at h
                refine yG_t (C' := (83, [(4, .inl (.inl r6.1)), (0, .inr (.inl 1, 2)), (1, .inr (.inl 4, x1)), (2, .inl (.inl x2)), (3, .inl (.inl x3))], [.inl (.inl (r6.2.1 (x1 + 3) x2.toNat)), .inr (.inl 1, 2), .inl (.inl x2), .inr (.inr (0, 7), x1 + 3)], r6.2)) rfl hg6 ?_
                refine yG_n (n := 1) (C' := (85, [(4, .inl (.inl r6.1)), (0, .inr (.inl 1, 2)), (1, .inr (.inl 4, x1)), (2, .inl (.inl x2)), (3, .inl (.inl x3))], [.inl (.inl r6.1), .inl (.inl (r6.2.1 (x1 + 3) x2.toNat)), .inr (.inl 1, 2), .inl (.inl x2), .inr (.inr (0, 7), x1 + 3)], r6.2)) rfl ?_
                cases hr7 : f_X1_tellOnce N r6.2 (r6.2.1 (x1 + 3) x2.toNat) r6.1 with
                | none => rw [hr7] at h; dsimp only at h; cases h
                | some r7 =>
                  rw [hr7] at h
                  dsimp only at h
                  refine yG_c (C1 := (88, [(4, .inl (.inl r6.1)), (0, .inr (.inl 1, 2)), (1, .inr (.inl 4, x1)), (2, .inl (.inl x2)), (3, .inl (.inl x3))], [.inl (.inl r7.1), .inl (.inl x2), .inr (.inr (0, 7), x1 + 3)], r7.2)) rfl (e_X1_tellOnce hr7) rfl ?_
                  refine yG_t (C' := (89, [(4, .inl (.inl r6.1)), (0, .inr (.inl 1, 2)), (1, .inr (.inl 4, x1)), (2, .inl (.inl x2)), (3, .inl (.inl x3))], [], yw r7.2 (x1 + 3) x2.toNat r7.1)) rfl hg6 ?_
                  refine yG_n (n := 1) (C' := (90, [(4, .inl (.inl r6.1)), (0, .inr (.inl 1, 2)), (1, .inr (.inl 4, x1)), (2, .inl (.inl x2)), (3, .inl (.inl x3))], [.inr (.inl 1, 2)], yw r7.2 (x1 + 3) x2.toNat r7.1)) rfl ?_
                  cases hr8 : f_X1_readToken N (yw r7.2 (x1 + 3) x2.toNat r7.1) with
                  | none => rw [hr8] at h; dsimp only at h; cases h
                  | some r8 =>
                    rw [hr8] at h
                    dsimp only at h
                    refine yG_c (C1 := (93, [(4, .inl (.inl r6.1)), (0, .inr (.inl 1, 2)), (1, .inr (.inl 4, x1)), (2, .inl (.inl x2)), (3, .inl (.inl x3))], [], r8.2)) rfl (e_X1_readToken hr8) rfl ?_
                    refine yG_n (n := 2) (C' := (37, [(3, .inl (.inl (yad x3 1))), (4, .inl (.inl r6.1)), (0, .inr (.inl 1, 2)), (1, .inr (.inl 4, x1)), (2, .inl (.inl x2))], [], r8.2)) rfl ?_
                    exact yG_w [2, 3, 4, 0] rfl (ih r8.2 x1 x2 (yad x3 1) res h)
set_option maxRecDepth 100000 in
set_option maxHeartbeats 4000000 in
theorem t_X1_readHouse {N : Nat} {X : zXT} {sh : List yH} {l : Launch} {rm : Room} (σ : yS) (x1 : Nat) (res : Int × yS) (h : f_X1_readHouse N σ x1 = some res) : G_X1_readHouse N X sh l rm (0, [(0, .inr (.inl 1, 2)), (1, .inr (.inl 4, x1))], [], σ) (none, res.2) := by
  unfold f_X1_readHouse at h
  refine yG_n (n := 1) (C' := (1, [(0, .inr (.inl 1, 2)), (1, .inr (.inl 4, x1))], [.inr (.inl 1, 2)], σ)) rfl ?_
  cases hr9 : f_X1_needHouse N σ with
  | none => rw [hr9] at h; dsimp only at h; cases h
  | some r1 =>
    rw [hr9] at h
    dsimp only at h
    refine yG_c (C1 := (4, [(0, .inr (.inl 1, 2)), (1, .inr (.inl 4, x1))], [.inl (.inl r1.1)], r1.2)) rfl (e_X1_needHouse hr9) rfl ?_
    refine yG_n (n := 6) (C' := (12, [(2, .inl (.inl r1.1)), (0, .inr (.inl 1, 2)), (1, .inr (.inl 4, x1))], [.inl (.inl r1.1), .inl (.inl (r1.2.1 2 8)), .inr (.inl 1, 2), .inr (.inl 1, 2)], r1.2)) rfl ?_
    cases hr10 : f_X1_tellOnce N r1.2 (r1.2.1 2 8) r1.1 with
    | none => rw [hr10] at h; dsimp only at h; cases h
    | some r2 =>
      rw [hr10] at h
      dsimp only at h
      refine yG_c (C1 := (15, [(2, .inl (.inl r1.1)), (0, .inr (.inl 1, 2)), (1, .inr (.inl 4, x1))], [.inl (.inl r2.1), .inr (.inl 1, 2)], r2.2)) rfl (e_X1_tellOnce hr10) rfl ?_
      refine yG_n (n := 7) (C' := (27, [(2, .inl (.inl r1.1)), (0, .inr (.inl 1, 2)), (1, .inr (.inl 4, x1))], [.inl (.inl 99), .inl (.inl 0), .inr (.inl 1, 2), .inl (.inl r1.1), .inr (.inr (0, 7), x1 + 2)], yw r2.2 2 8 r2.1)) rfl ?_
      cases hr11 : f_X1_needNumber N (yw r2.2 2 8 r2.1) 0 99 with
      | none => rw [hr11] at h; dsimp only at h; cases h
      | some r3 =>
        rw [hr11] at h
        dsimp only at h
        refine yG_c (C1 := (30, [(2, .inl (.inl r1.1)), (0, .inr (.inl 1, 2)), (1, .inr (.inl 4, x1))], [.inl (.inl r3.1), .inl (.inl r1.1), .inr (.inr (0, 7), x1 + 2)], r3.2)) rfl (e_X1_needNumber hr11) rfl ?_
        cases hg12 : yin r1.1 7 with
        | false => rw [hg12] at h; dsimp only [cond] at h; cases h
        | true =>
          rw [hg12] at h
          dsimp only [cond] at h
          refine yG_t (C' := (31, [(2, .inl (.inl r1.1)), (0, .inr (.inl 1, 2)), (1, .inr (.inl 4, x1))], [], yw r3.2 (x1 + 2) r1.1.toNat r3.1)) rfl hg12 ?_
          refine yG_n (n := 1) (C' := (32, [(2, .inl (.inl r1.1)), (0, .inr (.inl 1, 2)), (1, .inr (.inl 4, x1))], [.inr (.inl 1, 2)], yw r3.2 (x1 + 2) r1.1.toNat r3.1)) rfl ?_
          cases hr13 : f_X1_readToken N (yw r3.2 (x1 + 2) r1.1.toNat r3.1) with
          | none => rw [hr13] at h; dsimp only at h; cases h
          | some r4 =>
            rw [hr13] at h
            dsimp only at h
            refine yG_c (C1 := (35, [(2, .inl (.inl r1.1)), (0, .inr (.inl 1, 2)), (1, .inr (.inl 4, x1))], [], r4.2)) rfl (e_X1_readToken hr13) rfl ?_
            refine yG_n (n := 2) (C' := (37, [(3, .inl (.inl 0)), (2, .inl (.inl r1.1)), (0, .inr (.inl 1, 2)), (1, .inr (.inl 4, x1))], [], r4.2)) rfl ?_
            exact yG_w [2, 3, 1, 0] rfl (t_X1_readHouse_b37 N r4.2 x1 r1.1 0 res h)
set_option maxRecDepth 100000 in
set_option maxHeartbeats 4000000 in
theorem m_X1_readHouse {N : Nat} {X : zXT} (hX : zXok X) (hN : zXn X) (l : Launch) {sh : List yH} : yMet X vwCl yct sh l yX1_readHouse wsX1_readHouse { frames := 4, cells := 0, slots := 0, locals := 132 } (F_X1_readHouse N) :=
  ymeth (tb := tb_X1_readHouse N) (pr := pr_X1_readHouse) (rt := 0) (own := RX1) hX (by decide +kernel) rfl rfl ⟨Nat.le_of_ble_eq_true rfl, Nat.le_of_ble_eq_true rfl⟩
    (zfl_all (List.forall_mem_cons.mpr ⟨zfl_X1 (fun w h => List.mem_cons_of_mem _ (List.mem_append_left _ (List.mem_append_left _ (List.mem_append_right _ h)))) (List.mem_of_getElem? (i := 3) rfl) (by decide) (by decide), List.forall_mem_cons.mpr ⟨zfl_X1 (fun w h => List.mem_cons_of_mem _ (List.mem_append_left _ (List.mem_append_left _ (List.mem_append_right _ h)))) (List.mem_of_getElem? (i := 1) rfl) (by decide) (by decide), List.forall_mem_cons.mpr ⟨zfl_X1 (fun w h => List.mem_cons_of_mem _ (List.mem_append_left _ (List.mem_append_left _ (List.mem_append_right _ h)))) (List.mem_of_getElem? (i := 4) rfl) (by decide) (by decide), List.forall_mem_cons.mpr ⟨zfl_X4 (fun w h => List.mem_cons_of_mem _ (List.mem_append_left _ (List.mem_append_right _ h))) (List.mem_of_getElem? (i := 2) rfl) (by decide) (by decide), List.forall_mem_cons.mpr ⟨zfl_X4 (fun w h => List.mem_cons_of_mem _ (List.mem_append_left _ (List.mem_append_right _ h))) (List.mem_of_getElem? (i := 5) rfl) (by decide) (by decide), fun _ h => absurd h List.not_mem_nil⟩⟩⟩⟩⟩))
    (zco_all (fun _ h => absurd h List.not_mem_nil)) (zlc_all (fun _ h => absurd h List.not_mem_nil))
    (List.forall_mem_cons.mpr ⟨ycal_V hX (m_X1_readToken hX hN l) rfl (fun s args hts => cwV 0 hts gX1_readHouse_X1_readToken rfl rfl rfl (by decide +kernel) ⟨Nat.le_of_ble_eq_true rfl, Nat.le_of_ble_eq_true rfl⟩), List.forall_mem_cons.mpr ⟨ycal_V hX (m_X1_needNumber hX hN l) rfl (fun s args hts => cwV 2 hts gX1_readHouse_X1_needNumber rfl rfl rfl (by decide +kernel) ⟨Nat.le_of_ble_eq_true rfl, Nat.le_of_ble_eq_true rfl⟩), List.forall_mem_cons.mpr ⟨ycal_V hX (m_X1_needHouse hX hN l) rfl (fun s args hts => cwV 0 hts gX1_readHouse_X1_needHouse rfl rfl rfl (by decide +kernel) ⟨Nat.le_of_ble_eq_true rfl, Nat.le_of_ble_eq_true rfl⟩), List.forall_mem_cons.mpr ⟨ycal_V hX (m_X1_tellOnce hX hN l) rfl (fun s args hts => cwV 2 hts gX1_readHouse_X1_tellOnce rfl rfl rfl (by decide +kernel) ⟨Nat.le_of_ble_eq_true rfl, Nat.le_of_ble_eq_true rfl⟩), List.forall_mem_cons.mpr ⟨ycal_V hX (m_X1_numberHere hX hN l) rfl (fun s args hts => cwV 2 hts gX1_readHouse_X1_numberHere rfl rfl rfl (by decide +kernel) ⟨Nat.le_of_ble_eq_true rfl, Nat.le_of_ble_eq_true rfl⟩), List.forall_mem_cons.mpr ⟨ycal_V hX (m_X1_noteDeed hX hN l) rfl (fun s args hts => cwV 1 hts gX1_readHouse_X1_noteDeed rfl rfl rfl (by decide +kernel) ⟨Nat.le_of_ble_eq_true rfl, Nat.le_of_ble_eq_true rfl⟩), fun _ h => absurd h List.not_mem_nil⟩⟩⟩⟩⟩⟩)
    (fun _ h => absurd h List.not_mem_nil)
    (zmm_all (fun _ h => absurd h List.not_mem_nil)) (fun _ h => absurd h List.not_mem_nil) (zpr_all hp_X1_readHouse) (fun as σ res h => by
      unfold F_X1_readHouse at h
      split at h
      · rename_i x1
        cases hr : f_X1_readHouse N σ x1 with
        | none => rw [hr] at h; cases h
        | some r =>
          rw [hr] at h
          cases h
          exact ⟨Nat.le_of_ble_eq_true rfl, t_X1_readHouse σ x1 r hr⟩
      · cases h)
noncomputable def pr_X1_readLawyer : List (Nat × Instr × Nat) := [(0, .aload_n 0, 1), (1, .invokevirtual 136, 3), (4, .istore_n 2, 1), (5, .aload_n 0, 1), (6, .aload_n 0, 1), (7, .aload_n 0, 1), (8, .getfield 43, 3), (11, .iload_n 2, 1), (12, .invokevirtual 140, 3), (15, .putfield 43, 3), (18, .aload_n 1, 1), (19, .aload_n 0, 1), (20, .getfield 43, 3), (23, .putfield 157, 3), (26, .aload_n 0, 1), (27, .invokevirtual 55, 3), (30, .return_, 1)]
set_option maxRecDepth 100000 in
theorem hp_X1_readLawyer : pr_X1_readLawyer.all (fun x => decide (decode cX1_readLawyer x.1 = .ok x.2)) = true := by decide +kernel
noncomputable def f_X1_readLawyer_b20 (N : Nat) (σ : yS) (s1 : Nat) : Option (Int × yS) :=
  match f_X1_readToken N (yw σ s1 6 (σ.1 2 9)) with
  | none => none
  | some r3 => some (0, r3.2)
noncomputable def f_X1_readLawyer (N : Nat) (σ : yS) (x1 : Nat) : Option (Int × yS) :=
  match f_X1_needHouse N σ with
  | none => none
  | some r1 => match f_X1_tellOnce N r1.2 (r1.2.1 2 9) r1.1 with
    | none => none
    | some r2 => f_X1_readLawyer_b20 N (yw r2.2 2 9 r2.1) x1
noncomputable def F_X1_readLawyer (N : Nat) : yF := fun as σ => match as with
  | [.inr (.inl 1, 2), .inr (.inl 4, x1)] => (f_X1_readLawyer N σ x1).map (fun r => (none, r.2))
  | _ => none
theorem e_X1_readLawyer {N : Nat} {σ : yS} {x1 : Nat} {r : Int × yS} (h : f_X1_readLawyer N σ x1 = some r) : F_X1_readLawyer N [.inr (.inl 1, 2), .inr (.inl 4, x1)] σ = some (none, r.2) := by
  show (f_X1_readLawyer N σ x1).map (fun r => ((none, r.2) : yR)) = _
  rw [h]
  rfl
noncomputable def tb_X1_readLawyer (N : Nat) : yTb := ([(43, 1, 9, 0), (157, 4, 6, 0)], [], [], [(55, 1, 1, F_X1_readToken N), (136, 1, 1, F_X1_needHouse N), (140, 3, 1, F_X1_tellOnce N)], [], [], [])
abbrev G_X1_readLawyer (N : Nat) (X : zXT) (sh : List yH) (l : Launch) (rm : Room) : yC → yR → Prop := yGoes X vwCl yct sh l rm cX1_readLawyer 3 wsX1_readLawyer RX1 (tb_X1_readLawyer N) pr_X1_readLawyer 0
set_option maxRecDepth 100000 in
set_option maxHeartbeats 4000000 in
theorem t_X1_readLawyer_b20 {N : Nat} {X : zXT} {sh : List yH} {l : Launch} {rm : Room} (σ : yS) (s1 : Nat) (res : Int × yS) (h : f_X1_readLawyer_b20 N σ s1 = some res) : G_X1_readLawyer N X sh l rm (20, [(0, .inr (.inl 1, 2))], [.inr (.inl 1, 2), .inr (.inl 4, s1)], σ) (none, res.2) := by
  unfold f_X1_readLawyer_b20 at h
  refine yG_n (n := 3) (C' := (27, [(0, .inr (.inl 1, 2))], [.inr (.inl 1, 2)], yw σ s1 6 (σ.1 2 9))) rfl ?_
  cases hr1 : f_X1_readToken N (yw σ s1 6 (σ.1 2 9)) with
  | none => rw [hr1] at h; dsimp only at h; cases h
  | some r3 =>
    rw [hr1] at h
    dsimp only at h
    refine yG_c (C1 := (30, [(0, .inr (.inl 1, 2))], [], r3.2)) rfl (e_X1_readToken hr1) rfl ?_
    have h := Option.some.inj h
    subst h
    dsimp only
    exact yG_r rfl rfl
set_option maxRecDepth 100000 in
set_option maxHeartbeats 4000000 in
theorem t_X1_readLawyer {N : Nat} {X : zXT} {sh : List yH} {l : Launch} {rm : Room} (σ : yS) (x1 : Nat) (res : Int × yS) (h : f_X1_readLawyer N σ x1 = some res) : G_X1_readLawyer N X sh l rm (0, [(0, .inr (.inl 1, 2)), (1, .inr (.inl 4, x1))], [], σ) (none, res.2) := by
  unfold f_X1_readLawyer at h
  refine yG_n (n := 1) (C' := (1, [(0, .inr (.inl 1, 2)), (1, .inr (.inl 4, x1))], [.inr (.inl 1, 2)], σ)) rfl ?_
  cases hr2 : f_X1_needHouse N σ with
  | none => rw [hr2] at h; dsimp only at h; cases h
  | some r1 =>
    rw [hr2] at h
    dsimp only at h
    refine yG_c (C1 := (4, [(0, .inr (.inl 1, 2)), (1, .inr (.inl 4, x1))], [.inl (.inl r1.1)], r1.2)) rfl (e_X1_needHouse hr2) rfl ?_
    refine yG_n (n := 6) (C' := (12, [(2, .inl (.inl r1.1)), (0, .inr (.inl 1, 2)), (1, .inr (.inl 4, x1))], [.inl (.inl r1.1), .inl (.inl (r1.2.1 2 9)), .inr (.inl 1, 2), .inr (.inl 1, 2)], r1.2)) rfl ?_
    cases hr3 : f_X1_tellOnce N r1.2 (r1.2.1 2 9) r1.1 with
    | none => rw [hr3] at h; dsimp only at h; cases h
    | some r2 =>
      rw [hr3] at h
      dsimp only at h
      refine yG_c (C1 := (15, [(2, .inl (.inl r1.1)), (0, .inr (.inl 1, 2)), (1, .inr (.inl 4, x1))], [.inl (.inl r2.1), .inr (.inl 1, 2)], r2.2)) rfl (e_X1_tellOnce hr3) rfl ?_
      refine yG_n (n := 3) (C' := (20, [(2, .inl (.inl r1.1)), (0, .inr (.inl 1, 2)), (1, .inr (.inl 4, x1))], [.inr (.inl 1, 2), .inr (.inl 4, x1)], yw r2.2 2 9 r2.1)) rfl ?_
      exact yG_w [1] rfl (t_X1_readLawyer_b20 (yw r2.2 2 9 r2.1) x1 res h)
set_option maxRecDepth 100000 in
set_option maxHeartbeats 4000000 in
theorem m_X1_readLawyer {N : Nat} {X : zXT} (hX : zXok X) (hN : zXn X) (l : Launch) {sh : List yH} : yMet X vwCl yct sh l yX1_readLawyer wsX1_readLawyer { frames := 4, cells := 0, slots := 0, locals := 131 } (F_X1_readLawyer N) :=
  ymeth (tb := tb_X1_readLawyer N) (pr := pr_X1_readLawyer) (rt := 0) (own := RX1) hX (by decide +kernel) rfl rfl ⟨Nat.le_of_ble_eq_true rfl, Nat.le_of_ble_eq_true rfl⟩
    (zfl_all (List.forall_mem_cons.mpr ⟨zfl_X1 (fun w h => List.mem_cons_of_mem _ (List.mem_append_left _ (List.mem_append_left _ (List.mem_append_right _ h)))) (List.mem_of_getElem? (i := 1) rfl) (by decide) (by decide), List.forall_mem_cons.mpr ⟨zfl_X4 (fun w h => List.mem_cons_of_mem _ (List.mem_append_left _ (List.mem_append_right _ h))) (List.mem_of_getElem? (i := 2) rfl) (by decide) (by decide), fun _ h => absurd h List.not_mem_nil⟩⟩))
    (zco_all (fun _ h => absurd h List.not_mem_nil)) (zlc_all (fun _ h => absurd h List.not_mem_nil))
    (List.forall_mem_cons.mpr ⟨ycal_V hX (m_X1_readToken hX hN l) rfl (fun s args hts => cwV 0 hts gX1_readLawyer_X1_readToken rfl rfl rfl (by decide +kernel) ⟨Nat.le_of_ble_eq_true rfl, Nat.le_of_ble_eq_true rfl⟩), List.forall_mem_cons.mpr ⟨ycal_V hX (m_X1_needHouse hX hN l) rfl (fun s args hts => cwV 0 hts gX1_readLawyer_X1_needHouse rfl rfl rfl (by decide +kernel) ⟨Nat.le_of_ble_eq_true rfl, Nat.le_of_ble_eq_true rfl⟩), List.forall_mem_cons.mpr ⟨ycal_V hX (m_X1_tellOnce hX hN l) rfl (fun s args hts => cwV 2 hts gX1_readLawyer_X1_tellOnce rfl rfl rfl (by decide +kernel) ⟨Nat.le_of_ble_eq_true rfl, Nat.le_of_ble_eq_true rfl⟩), fun _ h => absurd h List.not_mem_nil⟩⟩⟩)
    (fun _ h => absurd h List.not_mem_nil)
    (zmm_all (fun _ h => absurd h List.not_mem_nil)) (fun _ h => absurd h List.not_mem_nil) (zpr_all hp_X1_readLawyer) (fun as σ res h => by
      unfold F_X1_readLawyer at h
      split at h
      · rename_i x1
        cases hr : f_X1_readLawyer N σ x1 with
        | none => rw [hr] at h; cases h
        | some r =>
          rw [hr] at h
          cases h
          exact ⟨Nat.le_of_ble_eq_true rfl, t_X1_readLawyer σ x1 r hr⟩
      · cases h)
noncomputable def pr_X1_needKind : List (Nat × Instr × Nat) := [(0, .aload_n 0, 1), (1, .invokevirtual 55, 3), (4, .aload_n 0, 1), (5, .ldc 214, 2), (7, .invokevirtual 83, 3), (10, .ifCond .eq 5, 3), (13, .iconst 0, 1), (14, .ireturn, 1), (15, .aload_n 0, 1), (16, .ldc 216, 2), (18, .invokevirtual 83, 3), (21, .ifCond .eq 5, 3), (24, .iconst 1, 1), (25, .ireturn, 1), (26, .aload_n 0, 1), (27, .ldc 218, 2), (29, .invokevirtual 83, 3), (32, .ifCond .eq 5, 3), (35, .iconst 2, 1), (36, .ireturn, 1), (37, .aload_n 0, 1), (38, .ldc 220, 2), (40, .invokevirtual 83, 3), (43, .ifCond .eq 5, 3), (46, .iconst 3, 1), (47, .ireturn, 1), (48, .aload_n 0, 1), (49, .ldc 222, 2), (51, .invokevirtual 83, 3), (54, .ifCond .ne 12, 3), (57, .aload_n 0, 1), (58, .iconst 2, 1), (59, .aload_n 0, 1), (60, .getfield 123, 3), (63, .invokevirtual 77, 3), (66, .iconst 4, 1), (67, .ireturn, 1)]
set_option maxRecDepth 100000 in
theorem hp_X1_needKind : pr_X1_needKind.all (fun x => decide (decode cX1_needKind x.1 = .ok x.2)) = true := by decide +kernel
noncomputable def f_X1_needKind_b66 (N : Nat) (σ : yS) : Option (Int × yS) :=
  some (4, σ)
noncomputable def f_X1_needKind (N : Nat) (σ : yS) : Option (Int × yS) :=
  match f_X1_readToken N σ with
  | none => none
  | some r1 => match f_X1_isName [112, 108, 97, 105, 110] r1.2 2 with
    | none => none
    | some r2 => bif ycP .eq r2.1 0 then
        match f_X1_isName [108, 101, 102, 116] r2.2 2 with
        | none => none
        | some r3 => bif ycP .eq r3.1 0 then
            match f_X1_isName [100, 114, 117, 110, 107] r3.2 2 with
            | none => none
            | some r4 => bif ycP .eq r4.1 0 then
                match f_X1_isName [106, 111, 105, 110, 116] r4.2 2 with
                | none => none
                | some r5 => bif ycP .eq r5.1 0 then
                    match f_X1_isName [116, 104, 114, 101, 97, 116] r5.2 2 with
                    | none => none
                    | some r6 => bif ycP .ne r6.1 0 then
                        f_X1_needKind_b66 N r6.2
                      else
                        match f_X1_complain N r6.2 2 (r6.2.1 2 3) with
                        | none => none
                        | some r7 => f_X1_needKind_b66 N r7.2
                  else
                    some (3, r5.2)
              else
                some (2, r4.2)
          else
            some (1, r3.2)
      else
        some (0, r2.2)
noncomputable def F_X1_needKind (N : Nat) : yF := fun as σ => match as with
  | [.inr (.inl 1, 2)] => (f_X1_needKind N σ).map (fun r => (some (.inl (.inl r.1)), r.2))
  | _ => none
theorem e_X1_needKind {N : Nat} {σ : yS} {r : Int × yS} (h : f_X1_needKind N σ = some r) : F_X1_needKind N [.inr (.inl 1, 2)] σ = some (some (.inl (.inl r.1)), r.2) := by
  show (f_X1_needKind N σ).map (fun r => ((some (.inl (.inl r.1)), r.2) : yR)) = _
  rw [h]
  rfl
noncomputable def tb_X1_needKind (N : Nat) : yTb := ([(123, 1, 3, 0)], [], [], [(55, 1, 1, F_X1_readToken N), (77, 3, 1, F_X1_complain N)], [], [], [(214, 83, F_T [112, 108, 97, 105, 110]), (216, 83, F_T [108, 101, 102, 116]), (218, 83, F_T [100, 114, 117, 110, 107]), (220, 83, F_T [106, 111, 105, 110, 116]), (222, 83, F_T [116, 104, 114, 101, 97, 116])])
abbrev G_X1_needKind (N : Nat) (X : zXT) (sh : List yH) (l : Launch) (rm : Room) : yC → yR → Prop := yGoes X vwCl yct sh l rm cX1_needKind 1 wsX1_needKind RX1 (tb_X1_needKind N) pr_X1_needKind 1
set_option maxRecDepth 100000 in
set_option maxHeartbeats 4000000 in
theorem t_X1_needKind_b66 {N : Nat} {X : zXT} {sh : List yH} {l : Launch} {rm : Room} (σ : yS) (res : Int × yS) (h : f_X1_needKind_b66 N σ = some res) : G_X1_needKind N X sh l rm (66, [], [], σ) (some (.inl (.inl res.1)), res.2) := by
  unfold f_X1_needKind_b66 at h
  refine yG_n (n := 1) (C' := (67, [], [.inl (.inl 4)], σ)) rfl ?_
  have h := Option.some.inj h
  subst h
  dsimp only
  exact yG_r rfl rfl
set_option maxRecDepth 100000 in
set_option maxHeartbeats 4000000 in
theorem t_X1_needKind {N : Nat} {X : zXT} {sh : List yH} {l : Launch} {rm : Room} (σ : yS) (res : Int × yS) (h : f_X1_needKind N σ = some res) : G_X1_needKind N X sh l rm (0, [(0, .inr (.inl 1, 2))], [], σ) (some (.inl (.inl res.1)), res.2) := by
  unfold f_X1_needKind at h
  refine yG_n (n := 1) (C' := (1, [(0, .inr (.inl 1, 2))], [.inr (.inl 1, 2)], σ)) rfl ?_
  cases hr1 : f_X1_readToken N σ with
  | none => rw [hr1] at h; dsimp only at h; cases h
  | some r1 =>
    rw [hr1] at h
    dsimp only at h
    refine yG_c (C1 := (4, [(0, .inr (.inl 1, 2))], [], r1.2)) rfl (e_X1_readToken hr1) rfl ?_
    refine yG_n (n := 1) (C' := (5, [(0, .inr (.inl 1, 2))], [.inr (.inl 1, 2)], r1.2)) rfl ?_
    cases hr2 : f_X1_isName [112, 108, 97, 105, 110] r1.2 2 with
    | none => rw [hr2] at h; dsimp only at h; cases h
    | some r2 =>
      rw [hr2] at h
      dsimp only at h
      refine yG_c (C1 := (10, [(0, .inr (.inl 1, 2))], [.inl (.inl r2.1)], r2.2)) rfl (e_T hr2) rfl ?_
      cases hg3 : ycP .eq r2.1 0 with
      | true =>
        rw [hg3] at h
        dsimp only [cond] at h
        refine yG_t (C' := (15, [(0, .inr (.inl 1, 2))], [], r2.2)) rfl hg3 ?_
        refine yG_n (n := 1) (C' := (16, [(0, .inr (.inl 1, 2))], [.inr (.inl 1, 2)], r2.2)) rfl ?_
        cases hr4 : f_X1_isName [108, 101, 102, 116] r2.2 2 with
        | none => rw [hr4] at h; dsimp only at h; cases h
        | some r3 =>
          rw [hr4] at h
          dsimp only at h
          refine yG_c (C1 := (21, [(0, .inr (.inl 1, 2))], [.inl (.inl r3.1)], r3.2)) rfl (e_T hr4) rfl ?_
          cases hg5 : ycP .eq r3.1 0 with
          | true =>
            rw [hg5] at h
            dsimp only [cond] at h
            refine yG_t (C' := (26, [(0, .inr (.inl 1, 2))], [], r3.2)) rfl hg5 ?_
            refine yG_n (n := 1) (C' := (27, [(0, .inr (.inl 1, 2))], [.inr (.inl 1, 2)], r3.2)) rfl ?_
            cases hr6 : f_X1_isName [100, 114, 117, 110, 107] r3.2 2 with
            | none => rw [hr6] at h; dsimp only at h; cases h
            | some r4 =>
              rw [hr6] at h
              dsimp only at h
              refine yG_c (C1 := (32, [(0, .inr (.inl 1, 2))], [.inl (.inl r4.1)], r4.2)) rfl (e_T hr6) rfl ?_
              cases hg7 : ycP .eq r4.1 0 with
              | true =>
                rw [hg7] at h
                dsimp only [cond] at h
                refine yG_t (C' := (37, [(0, .inr (.inl 1, 2))], [], r4.2)) rfl hg7 ?_
                refine yG_n (n := 1) (C' := (38, [(0, .inr (.inl 1, 2))], [.inr (.inl 1, 2)], r4.2)) rfl ?_
                cases hr8 : f_X1_isName [106, 111, 105, 110, 116] r4.2 2 with
                | none => rw [hr8] at h; dsimp only at h; cases h
                | some r5 =>
                  rw [hr8] at h
                  dsimp only at h
                  refine yG_c (C1 := (43, [(0, .inr (.inl 1, 2))], [.inl (.inl r5.1)], r5.2)) rfl (e_T hr8) rfl ?_
                  cases hg9 : ycP .eq r5.1 0 with
                  | true =>
                    rw [hg9] at h
                    dsimp only [cond] at h
                    refine yG_t (C' := (48, [(0, .inr (.inl 1, 2))], [], r5.2)) rfl hg9 ?_
                    refine yG_n (n := 1) (C' := (49, [(0, .inr (.inl 1, 2))], [.inr (.inl 1, 2)], r5.2)) rfl ?_
                    cases hr10 : f_X1_isName [116, 104, 114, 101, 97, 116] r5.2 2 with
                    | none => rw [hr10] at h; dsimp only at h; cases h
                    | some r6 =>
                      rw [hr10] at h
                      dsimp only at h
                      refine yG_c (C1 := (54, [(0, .inr (.inl 1, 2))], [.inl (.inl r6.1)], r6.2)) rfl (e_T hr10) rfl ?_
                      cases hg11 : ycP .ne r6.1 0 with
                      | true =>
                        rw [hg11] at h
                        dsimp only [cond] at h
                        refine yG_t (C' := (66, [(0, .inr (.inl 1, 2))], [], r6.2)) rfl hg11 ?_
                        exact yG_w [] rfl (t_X1_needKind_b66 r6.2 res h)
                      | false =>
                        rw [hg11] at h
                        dsimp only [cond] at h
                        refine yG_f (C' := (57, [(0, .inr (.inl 1, 2))], [], r6.2)) rfl hg11 ?_
                        refine yG_n (n := 4) (C' := (63, [(0, .inr (.inl 1, 2))], [.inl (.inl (r6.2.1 2 3)), .inl (.inl 2), .inr (.inl 1, 2)], r6.2)) rfl ?_
                        cases hr12 : f_X1_complain N r6.2 2 (r6.2.1 2 3) with
                        | none => rw [hr12] at h; dsimp only at h; cases h
                        | some r7 =>
                          rw [hr12] at h
                          dsimp only at h
                          refine yG_c (C1 := (66, [(0, .inr (.inl 1, 2))], [], r7.2)) rfl (e_X1_complain hr12) rfl ?_
                          exact yG_w [] rfl (t_X1_needKind_b66 r7.2 res h)
                  | false =>
                    rw [hg9] at h
                    dsimp only [cond] at h
                    refine yG_f (C' := (46, [(0, .inr (.inl 1, 2))], [], r5.2)) rfl hg9 ?_
                    refine yG_n (n := 1) (C' := (47, [(0, .inr (.inl 1, 2))], [.inl (.inl 3)], r5.2)) rfl ?_
                    have h := Option.some.inj h
                    subst h
                    dsimp only
                    exact yG_r rfl rfl
              | false =>
                rw [hg7] at h
                dsimp only [cond] at h
                refine yG_f (C' := (35, [(0, .inr (.inl 1, 2))], [], r4.2)) rfl hg7 ?_
                refine yG_n (n := 1) (C' := (36, [(0, .inr (.inl 1, 2))], [.inl (.inl 2)], r4.2)) rfl ?_
                have h := Option.some.inj h
                subst h
                dsimp only
                exact yG_r rfl rfl
          | false =>
            rw [hg5] at h
            dsimp only [cond] at h
            refine yG_f (C' := (24, [(0, .inr (.inl 1, 2))], [], r3.2)) rfl hg5 ?_
            refine yG_n (n := 1) (C' := (25, [(0, .inr (.inl 1, 2))], [.inl (.inl 1)], r3.2)) rfl ?_
            have h := Option.some.inj h
            subst h
            dsimp only
            exact yG_r rfl rfl
      | false =>
        rw [hg3] at h
        dsimp only [cond] at h
        refine yG_f (C' := (13, [(0, .inr (.inl 1, 2))], [], r2.2)) rfl hg3 ?_
        refine yG_n (n := 1) (C' := (14, [(0, .inr (.inl 1, 2))], [.inl (.inl 0)], r2.2)) rfl ?_
        have h := Option.some.inj h
        subst h
        dsimp only
        exact yG_r rfl rfl
set_option maxRecDepth 100000 in
set_option maxHeartbeats 4000000 in
theorem m_X1_needKind {N : Nat} {X : zXT} (hX : zXok X) (hN : zXn X) (hs : yXs X) (l : Launch) {sh : List yH} (hsh : yshR sh) : yMet X vwCl yct sh l yX1_needKind wsX1_needKind { frames := 6, cells := 0, slots := 0, locals := 222 } (F_X1_needKind N) :=
  ymeth (tb := tb_X1_needKind N) (pr := pr_X1_needKind) (rt := 1) (own := RX1) hX (by decide +kernel) rfl rfl ⟨Nat.le_of_ble_eq_true rfl, Nat.le_of_ble_eq_true rfl⟩
    (zfl_all (List.forall_mem_cons.mpr ⟨zfl_X1 (fun w h => List.mem_cons_of_mem _ (List.mem_append_left _ (List.mem_append_right _ h))) (List.mem_of_getElem? (i := 1) rfl) (by decide) (by decide), fun _ h => absurd h List.not_mem_nil⟩))
    (zco_all (fun _ h => absurd h List.not_mem_nil)) (zlc_all (fun _ h => absurd h List.not_mem_nil))
    (List.forall_mem_cons.mpr ⟨ycal_V hX (m_X1_readToken hX hN l) rfl (fun s args hts => cwV 0 hts gX1_needKind_X1_readToken rfl rfl rfl (by decide +kernel) ⟨Nat.le_of_ble_eq_true rfl, Nat.le_of_ble_eq_true rfl⟩), List.forall_mem_cons.mpr ⟨ycal_V hX (m_X1_complain hX hN l) rfl (fun s args hts => cwV 2 hts gX1_needKind_X1_complain rfl rfl rfl (by decide +kernel) ⟨Nat.le_of_ble_eq_true rfl, Nat.le_of_ble_eq_true rfl⟩), fun _ h => absurd h List.not_mem_nil⟩⟩)
    (fun _ h => absurd h List.not_mem_nil)
    (zmm_all (fun _ h => absurd h List.not_mem_nil)) (List.forall_mem_cons.mpr ⟨ycal_T hX hs hsh (tx := "plain") (byt := [112, 108, 97, 105, 110]) (wl := [112, 108, 97, 105, 110]) (by decide +kernel) (fun s args hts => cwV 1 hts gX1_needKind_X1_isName rfl rfl rfl (by decide +kernel) ⟨Nat.le_of_ble_eq_true rfl, Nat.le_of_ble_eq_true rfl⟩), List.forall_mem_cons.mpr ⟨ycal_T hX hs hsh (tx := "left") (byt := [108, 101, 102, 116]) (wl := [108, 101, 102, 116]) (by decide +kernel) (fun s args hts => cwV 1 hts gX1_needKind_X1_isName rfl rfl rfl (by decide +kernel) ⟨Nat.le_of_ble_eq_true rfl, Nat.le_of_ble_eq_true rfl⟩), List.forall_mem_cons.mpr ⟨ycal_T hX hs hsh (tx := "drunk") (byt := [100, 114, 117, 110, 107]) (wl := [100, 114, 117, 110, 107]) (by decide +kernel) (fun s args hts => cwV 1 hts gX1_needKind_X1_isName rfl rfl rfl (by decide +kernel) ⟨Nat.le_of_ble_eq_true rfl, Nat.le_of_ble_eq_true rfl⟩), List.forall_mem_cons.mpr ⟨ycal_T hX hs hsh (tx := "joint") (byt := [106, 111, 105, 110, 116]) (wl := [106, 111, 105, 110, 116]) (by decide +kernel) (fun s args hts => cwV 1 hts gX1_needKind_X1_isName rfl rfl rfl (by decide +kernel) ⟨Nat.le_of_ble_eq_true rfl, Nat.le_of_ble_eq_true rfl⟩), List.forall_mem_cons.mpr ⟨ycal_T hX hs hsh (tx := "threat") (byt := [116, 104, 114, 101, 97, 116]) (wl := [116, 104, 114, 101, 97, 116]) (by decide +kernel) (fun s args hts => cwV 1 hts gX1_needKind_X1_isName rfl rfl rfl (by decide +kernel) ⟨Nat.le_of_ble_eq_true rfl, Nat.le_of_ble_eq_true rfl⟩), fun _ h => absurd h List.not_mem_nil⟩⟩⟩⟩⟩) (zpr_all hp_X1_needKind) (fun as σ res h => by
      unfold F_X1_needKind at h
      split at h
      · cases hr : f_X1_needKind N σ with
        | none => rw [hr] at h; cases h
        | some r =>
          rw [hr] at h
          cases h
          exact ⟨Nat.le_of_ble_eq_true rfl, t_X1_needKind σ r hr⟩
      · cases h)
noncomputable def pr_X1_needDeed : List (Nat × Instr × Nat) := [(0, .aload_n 0, 1), (1, .invokevirtual 55, 3), (4, .aload_n 0, 1), (5, .aload_n 0, 1), (6, .iconst 0, 1), (7, .iconst 4, 1), (8, .invokevirtual 147, 3), (11, .invokevirtual 150, 3), (14, .ireturn, 1)]
set_option maxRecDepth 100000 in
theorem hp_X1_needDeed : pr_X1_needDeed.all (fun x => decide (decode cX1_needDeed x.1 = .ok x.2)) = true := by decide +kernel
noncomputable def f_X1_needDeed (N : Nat) (σ : yS) : Option (Int × yS) :=
  match f_X1_readToken N σ with
  | none => none
  | some r1 => match f_X1_numberHere N r1.2 0 4 with
    | none => none
    | some r2 => match f_X1_noteDeed N r2.2 r2.1 with
      | none => none
      | some r3 => some (r3.1, r3.2)
noncomputable def F_X1_needDeed (N : Nat) : yF := fun as σ => match as with
  | [.inr (.inl 1, 2)] => (f_X1_needDeed N σ).map (fun r => (some (.inl (.inl r.1)), r.2))
  | _ => none
theorem e_X1_needDeed {N : Nat} {σ : yS} {r : Int × yS} (h : f_X1_needDeed N σ = some r) : F_X1_needDeed N [.inr (.inl 1, 2)] σ = some (some (.inl (.inl r.1)), r.2) := by
  show (f_X1_needDeed N σ).map (fun r => ((some (.inl (.inl r.1)), r.2) : yR)) = _
  rw [h]
  rfl
noncomputable def tb_X1_needDeed (N : Nat) : yTb := ([], [], [], [(55, 1, 1, F_X1_readToken N), (147, 3, 1, F_X1_numberHere N), (150, 2, 1, F_X1_noteDeed N)], [], [], [])
abbrev G_X1_needDeed (N : Nat) (X : zXT) (sh : List yH) (l : Launch) (rm : Room) : yC → yR → Prop := yGoes X vwCl yct sh l rm cX1_needDeed 1 wsX1_needDeed RX1 (tb_X1_needDeed N) pr_X1_needDeed 1
set_option maxRecDepth 100000 in
set_option maxHeartbeats 4000000 in
theorem t_X1_needDeed {N : Nat} {X : zXT} {sh : List yH} {l : Launch} {rm : Room} (σ : yS) (res : Int × yS) (h : f_X1_needDeed N σ = some res) : G_X1_needDeed N X sh l rm (0, [(0, .inr (.inl 1, 2))], [], σ) (some (.inl (.inl res.1)), res.2) := by
  unfold f_X1_needDeed at h
  refine yG_n (n := 1) (C' := (1, [(0, .inr (.inl 1, 2))], [.inr (.inl 1, 2)], σ)) rfl ?_
  cases hr1 : f_X1_readToken N σ with
  | none => rw [hr1] at h; dsimp only at h; cases h
  | some r1 =>
    rw [hr1] at h
    dsimp only at h
    refine yG_c (C1 := (4, [(0, .inr (.inl 1, 2))], [], r1.2)) rfl (e_X1_readToken hr1) rfl ?_
    refine yG_n (n := 4) (C' := (8, [(0, .inr (.inl 1, 2))], [.inl (.inl 4), .inl (.inl 0), .inr (.inl 1, 2), .inr (.inl 1, 2)], r1.2)) rfl ?_
    cases hr2 : f_X1_numberHere N r1.2 0 4 with
    | none => rw [hr2] at h; dsimp only at h; cases h
    | some r2 =>
      rw [hr2] at h
      dsimp only at h
      refine yG_c (C1 := (11, [(0, .inr (.inl 1, 2))], [.inl (.inl r2.1), .inr (.inl 1, 2)], r2.2)) rfl (e_X1_numberHere hr2) rfl ?_
      cases hr3 : f_X1_noteDeed N r2.2 r2.1 with
      | none => rw [hr3] at h; dsimp only at h; cases h
      | some r3 =>
        rw [hr3] at h
        dsimp only at h
        refine yG_c (C1 := (14, [(0, .inr (.inl 1, 2))], [.inl (.inl r3.1)], r3.2)) rfl (e_X1_noteDeed hr3) rfl ?_
        have h := Option.some.inj h
        subst h
        dsimp only
        exact yG_r rfl rfl
set_option maxRecDepth 100000 in
set_option maxHeartbeats 4000000 in
theorem m_X1_needDeed {N : Nat} {X : zXT} (hX : zXok X) (hN : zXn X) (l : Launch) {sh : List yH} : yMet X vwCl yct sh l yX1_needDeed wsX1_needDeed { frames := 3, cells := 0, slots := 0, locals := 110 } (F_X1_needDeed N) :=
  ymeth (tb := tb_X1_needDeed N) (pr := pr_X1_needDeed) (rt := 1) (own := RX1) hX (by decide +kernel) rfl rfl ⟨Nat.le_of_ble_eq_true rfl, Nat.le_of_ble_eq_true rfl⟩
    (zfl_all (fun _ h => absurd h List.not_mem_nil))
    (zco_all (fun _ h => absurd h List.not_mem_nil)) (zlc_all (fun _ h => absurd h List.not_mem_nil))
    (List.forall_mem_cons.mpr ⟨ycal_V hX (m_X1_readToken hX hN l) rfl (fun s args hts => cwV 0 hts gX1_needDeed_X1_readToken rfl rfl rfl (by decide +kernel) ⟨Nat.le_of_ble_eq_true rfl, Nat.le_of_ble_eq_true rfl⟩), List.forall_mem_cons.mpr ⟨ycal_V hX (m_X1_numberHere hX hN l) rfl (fun s args hts => cwV 2 hts gX1_needDeed_X1_numberHere rfl rfl rfl (by decide +kernel) ⟨Nat.le_of_ble_eq_true rfl, Nat.le_of_ble_eq_true rfl⟩), List.forall_mem_cons.mpr ⟨ycal_V hX (m_X1_noteDeed hX hN l) rfl (fun s args hts => cwV 1 hts gX1_needDeed_X1_noteDeed rfl rfl rfl (by decide +kernel) ⟨Nat.le_of_ble_eq_true rfl, Nat.le_of_ble_eq_true rfl⟩), fun _ h => absurd h List.not_mem_nil⟩⟩⟩)
    (fun _ h => absurd h List.not_mem_nil)
    (zmm_all (fun _ h => absurd h List.not_mem_nil)) (fun _ h => absurd h List.not_mem_nil) (zpr_all hp_X1_needDeed) (fun as σ res h => by
      unfold F_X1_needDeed at h
      split at h
      · cases hr : f_X1_needDeed N σ with
        | none => rw [hr] at h; cases h
        | some r =>
          rw [hr] at h
          cases h
          exact ⟨Nat.le_of_ble_eq_true rfl, t_X1_needDeed σ r hr⟩
      · cases h)
noncomputable def pr_X1_readHabit : List (Nat × Instr × Nat) := [(0, .aload_n 0, 1), (1, .invokevirtual 136, 3), (4, .istore_n 2, 1), (5, .aload_n 0, 1), (6, .aload_n 0, 1), (7, .aload_n 0, 1), (8, .getfield 46, 3), (11, .iload_n 2, 1), (12, .invokevirtual 140, 3), (15, .putfield 46, 3), (18, .aload_n 0, 1), (19, .invokevirtual 160, 3), (22, .istore_n 3, 1), (23, .aload_n 0, 1), (24, .invokevirtual 163, 3), (27, .istore 4, 2), (29, .aload_n 1, 1), (30, .iload_n 2, 1), (31, .iload_n 3, 1), (32, .iload 4, 2), (34, .aload_n 0, 1), (35, .iconst 0, 1), (36, .bipush 10, 2), (38, .invokevirtual 126, 3), (41, .invokevirtual 166, 3), (44, .aload_n 0, 1), (45, .invokevirtual 55, 3), (48, .return_, 1)]
set_option maxRecDepth 100000 in
theorem hp_X1_readHabit : pr_X1_readHabit.all (fun x => decide (decode cX1_readHabit x.1 = .ok x.2)) = true := by decide +kernel
noncomputable def f_X1_readHabit (N : Nat) (σ : yS) (x1 : Nat) : Option (Int × yS) :=
  match f_X1_needHouse N σ with
  | none => none
  | some r1 => match f_X1_tellOnce N r1.2 (r1.2.1 2 10) r1.1 with
    | none => none
    | some r2 => match f_X1_needKind N (yw r2.2 2 10 r2.1) with
      | none => none
      | some r3 => match f_X1_needDeed N r3.2 with
        | none => none
        | some r4 => match f_X1_needNumber N r4.2 0 10 with
          | none => none
          | some r5 => match f_X4_setHabit N r5.2 x1 r1.1 r3.1 r4.1 r5.1 with
            | none => none
            | some r6 => match f_X1_readToken N r6.2 with
              | none => none
              | some r7 => some (0, r7.2)
noncomputable def F_X1_readHabit (N : Nat) : yF := fun as σ => match as with
  | [.inr (.inl 1, 2), .inr (.inl 4, x1)] => (f_X1_readHabit N σ x1).map (fun r => (none, r.2))
  | _ => none
theorem e_X1_readHabit {N : Nat} {σ : yS} {x1 : Nat} {r : Int × yS} (h : f_X1_readHabit N σ x1 = some r) : F_X1_readHabit N [.inr (.inl 1, 2), .inr (.inl 4, x1)] σ = some (none, r.2) := by
  show (f_X1_readHabit N σ x1).map (fun r => ((none, r.2) : yR)) = _
  rw [h]
  rfl
noncomputable def tb_X1_readHabit (N : Nat) : yTb := ([(46, 1, 10, 0)], [], [], [(55, 1, 1, F_X1_readToken N), (126, 3, 1, F_X1_needNumber N), (136, 1, 1, F_X1_needHouse N), (140, 3, 1, F_X1_tellOnce N), (160, 1, 1, F_X1_needKind N), (163, 1, 1, F_X1_needDeed N), (166, 5, 4, F_X4_setHabit N)], [], [], [])
abbrev G_X1_readHabit (N : Nat) (X : zXT) (sh : List yH) (l : Launch) (rm : Room) : yC → yR → Prop := yGoes X vwCl yct sh l rm cX1_readHabit 5 wsX1_readHabit RX1 (tb_X1_readHabit N) pr_X1_readHabit 0
set_option maxRecDepth 100000 in
set_option maxHeartbeats 4000000 in
theorem t_X1_readHabit {N : Nat} {X : zXT} {sh : List yH} {l : Launch} {rm : Room} (σ : yS) (x1 : Nat) (res : Int × yS) (h : f_X1_readHabit N σ x1 = some res) : G_X1_readHabit N X sh l rm (0, [(0, .inr (.inl 1, 2)), (1, .inr (.inl 4, x1))], [], σ) (none, res.2) := by
  unfold f_X1_readHabit at h
  refine yG_n (n := 1) (C' := (1, [(0, .inr (.inl 1, 2)), (1, .inr (.inl 4, x1))], [.inr (.inl 1, 2)], σ)) rfl ?_
  cases hr1 : f_X1_needHouse N σ with
  | none => rw [hr1] at h; dsimp only at h; cases h
  | some r1 =>
    rw [hr1] at h
    dsimp only at h
    refine yG_c (C1 := (4, [(0, .inr (.inl 1, 2)), (1, .inr (.inl 4, x1))], [.inl (.inl r1.1)], r1.2)) rfl (e_X1_needHouse hr1) rfl ?_
    refine yG_n (n := 6) (C' := (12, [(2, .inl (.inl r1.1)), (0, .inr (.inl 1, 2)), (1, .inr (.inl 4, x1))], [.inl (.inl r1.1), .inl (.inl (r1.2.1 2 10)), .inr (.inl 1, 2), .inr (.inl 1, 2)], r1.2)) rfl ?_
    cases hr2 : f_X1_tellOnce N r1.2 (r1.2.1 2 10) r1.1 with
    | none => rw [hr2] at h; dsimp only at h; cases h
    | some r2 =>
      rw [hr2] at h
      dsimp only at h
      refine yG_c (C1 := (15, [(2, .inl (.inl r1.1)), (0, .inr (.inl 1, 2)), (1, .inr (.inl 4, x1))], [.inl (.inl r2.1), .inr (.inl 1, 2)], r2.2)) rfl (e_X1_tellOnce hr2) rfl ?_
      refine yG_n (n := 2) (C' := (19, [(2, .inl (.inl r1.1)), (0, .inr (.inl 1, 2)), (1, .inr (.inl 4, x1))], [.inr (.inl 1, 2)], yw r2.2 2 10 r2.1)) rfl ?_
      cases hr3 : f_X1_needKind N (yw r2.2 2 10 r2.1) with
      | none => rw [hr3] at h; dsimp only at h; cases h
      | some r3 =>
        rw [hr3] at h
        dsimp only at h
        refine yG_c (C1 := (22, [(2, .inl (.inl r1.1)), (0, .inr (.inl 1, 2)), (1, .inr (.inl 4, x1))], [.inl (.inl r3.1)], r3.2)) rfl (e_X1_needKind hr3) rfl ?_
        refine yG_n (n := 2) (C' := (24, [(3, .inl (.inl r3.1)), (2, .inl (.inl r1.1)), (0, .inr (.inl 1, 2)), (1, .inr (.inl 4, x1))], [.inr (.inl 1, 2)], r3.2)) rfl ?_
        cases hr4 : f_X1_needDeed N r3.2 with
        | none => rw [hr4] at h; dsimp only at h; cases h
        | some r4 =>
          rw [hr4] at h
          dsimp only at h
          refine yG_c (C1 := (27, [(3, .inl (.inl r3.1)), (2, .inl (.inl r1.1)), (0, .inr (.inl 1, 2)), (1, .inr (.inl 4, x1))], [.inl (.inl r4.1)], r4.2)) rfl (e_X1_needDeed hr4) rfl ?_
          refine yG_n (n := 8) (C' := (38, [(4, .inl (.inl r4.1)), (3, .inl (.inl r3.1)), (2, .inl (.inl r1.1)), (0, .inr (.inl 1, 2)), (1, .inr (.inl 4, x1))], [.inl (.inl 10), .inl (.inl 0), .inr (.inl 1, 2), .inl (.inl r4.1), .inl (.inl r3.1), .inl (.inl r1.1), .inr (.inl 4, x1)], r4.2)) rfl ?_
          cases hr5 : f_X1_needNumber N r4.2 0 10 with
          | none => rw [hr5] at h; dsimp only at h; cases h
          | some r5 =>
            rw [hr5] at h
            dsimp only at h
            refine yG_c (C1 := (41, [(4, .inl (.inl r4.1)), (3, .inl (.inl r3.1)), (2, .inl (.inl r1.1)), (0, .inr (.inl 1, 2)), (1, .inr (.inl 4, x1))], [.inl (.inl r5.1), .inl (.inl r4.1), .inl (.inl r3.1), .inl (.inl r1.1), .inr (.inl 4, x1)], r5.2)) rfl (e_X1_needNumber hr5) rfl ?_
            cases hr6 : f_X4_setHabit N r5.2 x1 r1.1 r3.1 r4.1 r5.1 with
            | none => rw [hr6] at h; dsimp only at h; cases h
            | some r6 =>
              rw [hr6] at h
              dsimp only at h
              refine yG_c (C1 := (44, [(4, .inl (.inl r4.1)), (3, .inl (.inl r3.1)), (2, .inl (.inl r1.1)), (0, .inr (.inl 1, 2)), (1, .inr (.inl 4, x1))], [], r6.2)) rfl (e_X4_setHabit hr6) rfl ?_
              refine yG_n (n := 1) (C' := (45, [(4, .inl (.inl r4.1)), (3, .inl (.inl r3.1)), (2, .inl (.inl r1.1)), (0, .inr (.inl 1, 2)), (1, .inr (.inl 4, x1))], [.inr (.inl 1, 2)], r6.2)) rfl ?_
              cases hr7 : f_X1_readToken N r6.2 with
              | none => rw [hr7] at h; dsimp only at h; cases h
              | some r7 =>
                rw [hr7] at h
                dsimp only at h
                refine yG_c (C1 := (48, [(4, .inl (.inl r4.1)), (3, .inl (.inl r3.1)), (2, .inl (.inl r1.1)), (0, .inr (.inl 1, 2)), (1, .inr (.inl 4, x1))], [], r7.2)) rfl (e_X1_readToken hr7) rfl ?_
                have h := Option.some.inj h
                subst h
                dsimp only
                exact yG_r rfl rfl
set_option maxRecDepth 100000 in
set_option maxHeartbeats 4000000 in
theorem m_X1_readHabit {N : Nat} {X : zXT} (hX : zXok X) (hN : zXn X) (hs : yXs X) (l : Launch) {sh : List yH} (hsh : yshR sh) : yMet X vwCl yct sh l yX1_readHabit wsX1_readHabit { frames := 7, cells := 0, slots := 0, locals := 242 } (F_X1_readHabit N) :=
  ymeth (tb := tb_X1_readHabit N) (pr := pr_X1_readHabit) (rt := 0) (own := RX1) hX (by decide +kernel) rfl rfl ⟨Nat.le_of_ble_eq_true rfl, Nat.le_of_ble_eq_true rfl⟩
    (zfl_all (List.forall_mem_cons.mpr ⟨zfl_X1 (fun w h => List.mem_cons_of_mem _ (List.mem_append_left _ (List.mem_append_left _ (List.mem_append_right _ h)))) (List.mem_of_getElem? (i := 1) rfl) (by decide) (by decide), fun _ h => absurd h List.not_mem_nil⟩))
    (zco_all (fun _ h => absurd h List.not_mem_nil)) (zlc_all (fun _ h => absurd h List.not_mem_nil))
    (List.forall_mem_cons.mpr ⟨ycal_V hX (m_X1_readToken hX hN l) rfl (fun s args hts => cwV 0 hts gX1_readHabit_X1_readToken rfl rfl rfl (by decide +kernel) ⟨Nat.le_of_ble_eq_true rfl, Nat.le_of_ble_eq_true rfl⟩), List.forall_mem_cons.mpr ⟨ycal_V hX (m_X1_needNumber hX hN l) rfl (fun s args hts => cwV 2 hts gX1_readHabit_X1_needNumber rfl rfl rfl (by decide +kernel) ⟨Nat.le_of_ble_eq_true rfl, Nat.le_of_ble_eq_true rfl⟩), List.forall_mem_cons.mpr ⟨ycal_V hX (m_X1_needHouse hX hN l) rfl (fun s args hts => cwV 0 hts gX1_readHabit_X1_needHouse rfl rfl rfl (by decide +kernel) ⟨Nat.le_of_ble_eq_true rfl, Nat.le_of_ble_eq_true rfl⟩), List.forall_mem_cons.mpr ⟨ycal_V hX (m_X1_tellOnce hX hN l) rfl (fun s args hts => cwV 2 hts gX1_readHabit_X1_tellOnce rfl rfl rfl (by decide +kernel) ⟨Nat.le_of_ble_eq_true rfl, Nat.le_of_ble_eq_true rfl⟩), List.forall_mem_cons.mpr ⟨ycal_V hX (m_X1_needKind hX hN hs l hsh) rfl (fun s args hts => cwV 0 hts gX1_readHabit_X1_needKind rfl rfl rfl (by decide +kernel) ⟨Nat.le_of_ble_eq_true rfl, Nat.le_of_ble_eq_true rfl⟩), List.forall_mem_cons.mpr ⟨ycal_V hX (m_X1_needDeed hX hN l) rfl (fun s args hts => cwV 0 hts gX1_readHabit_X1_needDeed rfl rfl rfl (by decide +kernel) ⟨Nat.le_of_ble_eq_true rfl, Nat.le_of_ble_eq_true rfl⟩), List.forall_mem_cons.mpr ⟨ycal_V hX (m_X4_setHabit hX hN l) rfl (fun s args hts => cwV 4 hts gX1_readHabit_X4_setHabit rfl rfl rfl (by decide +kernel) ⟨Nat.le_of_ble_eq_true rfl, Nat.le_of_ble_eq_true rfl⟩), fun _ h => absurd h List.not_mem_nil⟩⟩⟩⟩⟩⟩⟩)
    (fun _ h => absurd h List.not_mem_nil)
    (zmm_all (fun _ h => absurd h List.not_mem_nil)) (fun _ h => absurd h List.not_mem_nil) (zpr_all hp_X1_readHabit) (fun as σ res h => by
      unfold F_X1_readHabit at h
      split at h
      · rename_i x1
        cases hr : f_X1_readHabit N σ x1 with
        | none => rw [hr] at h; cases h
        | some r =>
          rw [hr] at h
          cases h
          exact ⟨Nat.le_of_ble_eq_true rfl, t_X1_readHabit σ x1 r hr⟩
      · cases h)
noncomputable def pr_X1_readVow : List (Nat × Instr × Nat) := [(0, .aload_n 1, 1), (1, .getfield 170, 3), (4, .getfield 174, 3), (7, .bipush 10, 2), (9, .if_icmp .lt 12, 3), (12, .aload_n 0, 1), (13, .iconst 5, 1), (14, .aload_n 0, 1), (15, .getfield 123, 3), (18, .invokevirtual 77, 3), (21, .aload_n 0, 1), (22, .invokevirtual 136, 3), (25, .istore_n 2, 1), (26, .aload_n 0, 1), (27, .invokevirtual 160, 3), (30, .istore_n 3, 1), (31, .aload_n 0, 1), (32, .iconst 0, 1), (33, .bipush 9, 2), (35, .invokevirtual 126, 3), (38, .istore 4, 2), (40, .iload 4, 2), (42, .invokestatic 177, 3), (45, .ifCond .ne 12, 3), (48, .aload_n 0, 1), (49, .iconst 3, 1), (50, .aload_n 0, 1), (51, .getfield 123, 3), (54, .invokevirtual 77, 3), (57, .aload_n 1, 1), (58, .getfield 170, 3), (61, .iload_n 2, 1), (62, .iload_n 3, 1), (63, .iload 4, 2), (65, .aload_n 0, 1), (66, .invokevirtual 163, 3), (69, .invokevirtual 181, 3), (72, .pop, 1), (73, .aload_n 0, 1), (74, .invokevirtual 55, 3), (77, .return_, 1)]
set_option maxRecDepth 100000 in
theorem hp_X1_readVow : pr_X1_readVow.all (fun x => decide (decode cX1_readVow x.1 = .ok x.2)) = true := by decide +kernel
noncomputable def f_X1_readVow_b57 (N : Nat) (σ : yS) (x1 : Nat) (x2 : Int) (x3 : Int) (x4 : Int) : Option (Int × yS) :=
  match f_X1_needDeed N σ with
  | none => none
  | some r5 => match f_X5_append N r5.2 (σ.2 x1 11) x2 x3 x4 r5.1 with
    | none => none
    | some r6 => match f_X1_readToken N r6.2 with
      | none => none
      | some r7 => some (0, r7.2)
noncomputable def f_X1_readVow_b21 (N : Nat) (σ : yS) (x1 : Nat) : Option (Int × yS) :=
  match f_X1_needHouse N σ with
  | none => none
  | some r1 => match f_X1_needKind N r1.2 with
    | none => none
    | some r2 => match f_X1_needNumber N r2.2 0 9 with
      | none => none
      | some r3 => match f_X7_isDepth N r3.2 r3.1 with
        | none => none
        | some r4 => bif ycP .ne r4.1 0 then
            f_X1_readVow_b57 N r4.2 x1 r1.1 r2.1 r3.1
          else
            match f_X1_complain N r4.2 3 (r4.2.1 2 3) with
            | none => none
            | some r8 => f_X1_readVow_b57 N r8.2 x1 r1.1 r2.1 r3.1
noncomputable def f_X1_readVow (N : Nat) (σ : yS) (x1 : Nat) : Option (Int × yS) :=
  bif ycP .lt (σ.1 (σ.2 x1 11) 0) 10 then
    f_X1_readVow_b21 N σ x1
  else
    match f_X1_complain N σ 5 (σ.1 2 3) with
    | none => none
    | some r9 => f_X1_readVow_b21 N r9.2 x1
noncomputable def F_X1_readVow (N : Nat) : yF := fun as σ => match as with
  | [.inr (.inl 1, 2), .inr (.inl 4, x1)] => (f_X1_readVow N σ x1).map (fun r => (none, r.2))
  | _ => none
theorem e_X1_readVow {N : Nat} {σ : yS} {x1 : Nat} {r : Int × yS} (h : f_X1_readVow N σ x1 = some r) : F_X1_readVow N [.inr (.inl 1, 2), .inr (.inl 4, x1)] σ = some (none, r.2) := by
  show (f_X1_readVow N σ x1).map (fun r => ((none, r.2) : yR)) = _
  rw [h]
  rfl
noncomputable def tb_X1_readVow (N : Nat) : yTb := ([(123, 1, 3, 0), (170, 4, 11, 2), (174, 5, 0, 0)], [], [], [(55, 1, 1, F_X1_readToken N), (77, 3, 1, F_X1_complain N), (126, 3, 1, F_X1_needNumber N), (136, 1, 1, F_X1_needHouse N), (160, 1, 1, F_X1_needKind N), (163, 1, 1, F_X1_needDeed N), (181, 5, 5, F_X5_append N)], [(177, 1, F_X7_isDepth N)], [], [])
abbrev G_X1_readVow (N : Nat) (X : zXT) (sh : List yH) (l : Launch) (rm : Room) : yC → yR → Prop := yGoes X vwCl yct sh l rm cX1_readVow 5 wsX1_readVow RX1 (tb_X1_readVow N) pr_X1_readVow 0
set_option maxRecDepth 100000 in
set_option maxHeartbeats 4000000 in
theorem t_X1_readVow_b57 {N : Nat} {X : zXT} {sh : List yH} {l : Launch} {rm : Room} (σ : yS) (x1 : Nat) (x2 : Int) (x3 : Int) (x4 : Int) (res : Int × yS) (h : f_X1_readVow_b57 N σ x1 x2 x3 x4 = some res) : G_X1_readVow N X sh l rm (57, [(0, .inr (.inl 1, 2)), (1, .inr (.inl 4, x1)), (2, .inl (.inl x2)), (3, .inl (.inl x3)), (4, .inl (.inl x4))], [], σ) (none, res.2) := by
  unfold f_X1_readVow_b57 at h
  refine yG_n (n := 6) (C' := (66, [(0, .inr (.inl 1, 2)), (1, .inr (.inl 4, x1)), (2, .inl (.inl x2)), (3, .inl (.inl x3)), (4, .inl (.inl x4))], [.inr (.inl 1, 2), .inl (.inl x4), .inl (.inl x3), .inl (.inl x2), .inr (.inl 5, σ.2 x1 11)], σ)) rfl ?_
  cases hr1 : f_X1_needDeed N σ with
  | none => rw [hr1] at h; dsimp only at h; cases h
  | some r5 =>
    rw [hr1] at h
    dsimp only at h
    refine yG_c (C1 := (69, [(0, .inr (.inl 1, 2)), (1, .inr (.inl 4, x1)), (2, .inl (.inl x2)), (3, .inl (.inl x3)), (4, .inl (.inl x4))], [.inl (.inl r5.1), .inl (.inl x4), .inl (.inl x3), .inl (.inl x2), .inr (.inl 5, σ.2 x1 11)], r5.2)) rfl (e_X1_needDeed hr1) rfl ?_
    cases hr2 : f_X5_append N r5.2 (σ.2 x1 11) x2 x3 x4 r5.1 with
    | none => rw [hr2] at h; dsimp only at h; cases h
    | some r6 =>
      rw [hr2] at h
      dsimp only at h
      refine yG_c (C1 := (72, [(0, .inr (.inl 1, 2)), (1, .inr (.inl 4, x1)), (2, .inl (.inl x2)), (3, .inl (.inl x3)), (4, .inl (.inl x4))], [.inl (.inl r6.1)], r6.2)) rfl (e_X5_append hr2) rfl ?_
      refine yG_n (n := 2) (C' := (74, [(0, .inr (.inl 1, 2)), (1, .inr (.inl 4, x1)), (2, .inl (.inl x2)), (3, .inl (.inl x3)), (4, .inl (.inl x4))], [.inr (.inl 1, 2)], r6.2)) rfl ?_
      cases hr3 : f_X1_readToken N r6.2 with
      | none => rw [hr3] at h; dsimp only at h; cases h
      | some r7 =>
        rw [hr3] at h
        dsimp only at h
        refine yG_c (C1 := (77, [(0, .inr (.inl 1, 2)), (1, .inr (.inl 4, x1)), (2, .inl (.inl x2)), (3, .inl (.inl x3)), (4, .inl (.inl x4))], [], r7.2)) rfl (e_X1_readToken hr3) rfl ?_
        have h := Option.some.inj h
        subst h
        dsimp only
        exact yG_r rfl rfl
set_option maxRecDepth 100000 in
set_option maxHeartbeats 4000000 in
theorem t_X1_readVow_b21 {N : Nat} {X : zXT} {sh : List yH} {l : Launch} {rm : Room} (σ : yS) (x1 : Nat) (res : Int × yS) (h : f_X1_readVow_b21 N σ x1 = some res) : G_X1_readVow N X sh l rm (21, [(0, .inr (.inl 1, 2)), (1, .inr (.inl 4, x1))], [], σ) (none, res.2) := by
  unfold f_X1_readVow_b21 at h
  refine yG_n (n := 1) (C' := (22, [(0, .inr (.inl 1, 2)), (1, .inr (.inl 4, x1))], [.inr (.inl 1, 2)], σ)) rfl ?_
  cases hr4 : f_X1_needHouse N σ with
  | none => rw [hr4] at h; dsimp only at h; cases h
  | some r1 =>
    rw [hr4] at h
    dsimp only at h
    refine yG_c (C1 := (25, [(0, .inr (.inl 1, 2)), (1, .inr (.inl 4, x1))], [.inl (.inl r1.1)], r1.2)) rfl (e_X1_needHouse hr4) rfl ?_
    refine yG_n (n := 2) (C' := (27, [(2, .inl (.inl r1.1)), (0, .inr (.inl 1, 2)), (1, .inr (.inl 4, x1))], [.inr (.inl 1, 2)], r1.2)) rfl ?_
    cases hr5 : f_X1_needKind N r1.2 with
    | none => rw [hr5] at h; dsimp only at h; cases h
    | some r2 =>
      rw [hr5] at h
      dsimp only at h
      refine yG_c (C1 := (30, [(2, .inl (.inl r1.1)), (0, .inr (.inl 1, 2)), (1, .inr (.inl 4, x1))], [.inl (.inl r2.1)], r2.2)) rfl (e_X1_needKind hr5) rfl ?_
      refine yG_n (n := 4) (C' := (35, [(3, .inl (.inl r2.1)), (2, .inl (.inl r1.1)), (0, .inr (.inl 1, 2)), (1, .inr (.inl 4, x1))], [.inl (.inl 9), .inl (.inl 0), .inr (.inl 1, 2)], r2.2)) rfl ?_
      cases hr6 : f_X1_needNumber N r2.2 0 9 with
      | none => rw [hr6] at h; dsimp only at h; cases h
      | some r3 =>
        rw [hr6] at h
        dsimp only at h
        refine yG_c (C1 := (38, [(3, .inl (.inl r2.1)), (2, .inl (.inl r1.1)), (0, .inr (.inl 1, 2)), (1, .inr (.inl 4, x1))], [.inl (.inl r3.1)], r3.2)) rfl (e_X1_needNumber hr6) rfl ?_
        refine yG_n (n := 2) (C' := (42, [(4, .inl (.inl r3.1)), (3, .inl (.inl r2.1)), (2, .inl (.inl r1.1)), (0, .inr (.inl 1, 2)), (1, .inr (.inl 4, x1))], [.inl (.inl r3.1)], r3.2)) rfl ?_
        cases hr7 : f_X7_isDepth N r3.2 r3.1 with
        | none => rw [hr7] at h; dsimp only at h; cases h
        | some r4 =>
          rw [hr7] at h
          dsimp only at h
          refine yG_c (C1 := (45, [(4, .inl (.inl r3.1)), (3, .inl (.inl r2.1)), (2, .inl (.inl r1.1)), (0, .inr (.inl 1, 2)), (1, .inr (.inl 4, x1))], [.inl (.inl r4.1)], r4.2)) rfl (e_X7_isDepth hr7) rfl ?_
          cases hg8 : ycP .ne r4.1 0 with
          | true =>
            rw [hg8] at h
            dsimp only [cond] at h
            refine yG_t (C' := (57, [(4, .inl (.inl r3.1)), (3, .inl (.inl r2.1)), (2, .inl (.inl r1.1)), (0, .inr (.inl 1, 2)), (1, .inr (.inl 4, x1))], [], r4.2)) rfl hg8 ?_
            exact yG_w [3, 4, 2, 1, 0] rfl (t_X1_readVow_b57 r4.2 x1 r1.1 r2.1 r3.1 res h)
          | false =>
            rw [hg8] at h
            dsimp only [cond] at h
            refine yG_f (C' := (48, [(4, .inl (.inl r3.1)), (3, .inl (.inl r2.1)), (2, .inl (.inl r1.1)), (0, .inr (.inl 1, 2)), (1, .inr (.inl 4, x1))], [], r4.2)) rfl hg8 ?_
            refine yG_n (n := 4) (C' := (54, [(4, .inl (.inl r3.1)), (3, .inl (.inl r2.1)), (2, .inl (.inl r1.1)), (0, .inr (.inl 1, 2)), (1, .inr (.inl 4, x1))], [.inl (.inl (r4.2.1 2 3)), .inl (.inl 3), .inr (.inl 1, 2)], r4.2)) rfl ?_
            cases hr9 : f_X1_complain N r4.2 3 (r4.2.1 2 3) with
            | none => rw [hr9] at h; dsimp only at h; cases h
            | some r8 =>
              rw [hr9] at h
              dsimp only at h
              refine yG_c (C1 := (57, [(4, .inl (.inl r3.1)), (3, .inl (.inl r2.1)), (2, .inl (.inl r1.1)), (0, .inr (.inl 1, 2)), (1, .inr (.inl 4, x1))], [], r8.2)) rfl (e_X1_complain hr9) rfl ?_
              exact yG_w [3, 4, 2, 1, 0] rfl (t_X1_readVow_b57 r8.2 x1 r1.1 r2.1 r3.1 res h)
set_option maxRecDepth 100000 in
set_option maxHeartbeats 4000000 in
theorem t_X1_readVow {N : Nat} {X : zXT} {sh : List yH} {l : Launch} {rm : Room} (σ : yS) (x1 : Nat) (res : Int × yS) (h : f_X1_readVow N σ x1 = some res) : G_X1_readVow N X sh l rm (0, [(0, .inr (.inl 1, 2)), (1, .inr (.inl 4, x1))], [], σ) (none, res.2) := by
  unfold f_X1_readVow at h
  refine yG_n (n := 4) (C' := (9, [(0, .inr (.inl 1, 2)), (1, .inr (.inl 4, x1))], [.inl (.inl 10), .inl (.inl (σ.1 (σ.2 x1 11) 0))], σ)) rfl ?_
  cases hg10 : ycP .lt (σ.1 (σ.2 x1 11) 0) 10 with
  | true =>
    rw [hg10] at h
    dsimp only [cond] at h
    refine yG_t (C' := (21, [(0, .inr (.inl 1, 2)), (1, .inr (.inl 4, x1))], [], σ)) rfl hg10 ?_
    exact t_X1_readVow_b21 σ x1 res h
  | false =>
    rw [hg10] at h
    dsimp only [cond] at h
    refine yG_f (C' := (12, [(0, .inr (.inl 1, 2)), (1, .inr (.inl 4, x1))], [], σ)) rfl hg10 ?_
    refine yG_n (n := 4) (C' := (18, [(0, .inr (.inl 1, 2)), (1, .inr (.inl 4, x1))], [.inl (.inl (σ.1 2 3)), .inl (.inl 5), .inr (.inl 1, 2)], σ)) rfl ?_
    cases hr11 : f_X1_complain N σ 5 (σ.1 2 3) with
    | none => rw [hr11] at h; dsimp only at h; cases h
    | some r9 =>
      rw [hr11] at h
      dsimp only at h
      refine yG_c (C1 := (21, [(0, .inr (.inl 1, 2)), (1, .inr (.inl 4, x1))], [], r9.2)) rfl (e_X1_complain hr11) rfl ?_
      exact t_X1_readVow_b21 r9.2 x1 res h
set_option maxRecDepth 100000 in
set_option maxHeartbeats 4000000 in
theorem m_X1_readVow {N : Nat} {X : zXT} (hX : zXok X) (hN : zXn X) (hs : yXs X) (l : Launch) {sh : List yH} (hsh : yshR sh) : yMet X vwCl yct sh l yX1_readVow wsX1_readVow { frames := 7, cells := 0, slots := 0, locals := 242 } (F_X1_readVow N) :=
  ymeth (tb := tb_X1_readVow N) (pr := pr_X1_readVow) (rt := 0) (own := RX1) hX (by decide +kernel) rfl rfl ⟨Nat.le_of_ble_eq_true rfl, Nat.le_of_ble_eq_true rfl⟩
    (zfl_all (List.forall_mem_cons.mpr ⟨zfl_X1 (fun w h => List.mem_cons_of_mem _ (List.mem_append_left _ (List.mem_append_right _ h))) (List.mem_of_getElem? (i := 3) rfl) (by decide) (by decide), List.forall_mem_cons.mpr ⟨zfl_X4 (fun w h => List.mem_cons_of_mem _ (List.mem_append_left _ (List.mem_append_left _ (List.mem_append_left _ (List.mem_append_right _ h))))) (List.mem_of_getElem? (i := 1) rfl) (by decide) (by decide), List.forall_mem_cons.mpr ⟨zfl_X5 (fun w h => List.mem_cons_of_mem _ (List.mem_append_left _ (List.mem_append_left _ (List.mem_append_right _ h)))) (List.mem_of_getElem? (i := 2) rfl) (by decide) (by decide), fun _ h => absurd h List.not_mem_nil⟩⟩⟩))
    (zco_all (fun _ h => absurd h List.not_mem_nil)) (zlc_all (fun _ h => absurd h List.not_mem_nil))
    (List.forall_mem_cons.mpr ⟨ycal_V hX (m_X1_readToken hX hN l) rfl (fun s args hts => cwV 0 hts gX1_readVow_X1_readToken rfl rfl rfl (by decide +kernel) ⟨Nat.le_of_ble_eq_true rfl, Nat.le_of_ble_eq_true rfl⟩), List.forall_mem_cons.mpr ⟨ycal_V hX (m_X1_complain hX hN l) rfl (fun s args hts => cwV 2 hts gX1_readVow_X1_complain rfl rfl rfl (by decide +kernel) ⟨Nat.le_of_ble_eq_true rfl, Nat.le_of_ble_eq_true rfl⟩), List.forall_mem_cons.mpr ⟨ycal_V hX (m_X1_needNumber hX hN l) rfl (fun s args hts => cwV 2 hts gX1_readVow_X1_needNumber rfl rfl rfl (by decide +kernel) ⟨Nat.le_of_ble_eq_true rfl, Nat.le_of_ble_eq_true rfl⟩), List.forall_mem_cons.mpr ⟨ycal_V hX (m_X1_needHouse hX hN l) rfl (fun s args hts => cwV 0 hts gX1_readVow_X1_needHouse rfl rfl rfl (by decide +kernel) ⟨Nat.le_of_ble_eq_true rfl, Nat.le_of_ble_eq_true rfl⟩), List.forall_mem_cons.mpr ⟨ycal_V hX (m_X1_needKind hX hN hs l hsh) rfl (fun s args hts => cwV 0 hts gX1_readVow_X1_needKind rfl rfl rfl (by decide +kernel) ⟨Nat.le_of_ble_eq_true rfl, Nat.le_of_ble_eq_true rfl⟩), List.forall_mem_cons.mpr ⟨ycal_V hX (m_X1_needDeed hX hN l) rfl (fun s args hts => cwV 0 hts gX1_readVow_X1_needDeed rfl rfl rfl (by decide +kernel) ⟨Nat.le_of_ble_eq_true rfl, Nat.le_of_ble_eq_true rfl⟩), List.forall_mem_cons.mpr ⟨ycal_V hX (m_X5_append hX hN l) rfl (fun s args hts => cwV 4 hts gX1_readVow_X5_append rfl rfl rfl (by decide +kernel) ⟨Nat.le_of_ble_eq_true rfl, Nat.le_of_ble_eq_true rfl⟩), fun _ h => absurd h List.not_mem_nil⟩⟩⟩⟩⟩⟩⟩)
    (List.forall_mem_cons.mpr ⟨ycal_SN hX (m_X7_isDepth hX hN l) (fun A s args hts hx => ⟨va_cnB 1 hts ggX1_readVow_X7_isDepth rfl rfl rfl (hN A s s.heap hx RX1 177 yX7_isDepth RX7 (by decide +kernel)) (hts _ (List.mem_of_getElem? (i := 37) rfl)) (by decide +kernel) ⟨Nat.le_of_ble_eq_true rfl, Nat.le_of_ble_eq_true rfl⟩, hts _ (List.mem_of_getElem? (i := 100) rfl), trivial⟩), fun _ h => absurd h List.not_mem_nil⟩)
    (zmm_all (fun _ h => absurd h List.not_mem_nil)) (fun _ h => absurd h List.not_mem_nil) (zpr_all hp_X1_readVow) (fun as σ res h => by
      unfold F_X1_readVow at h
      split at h
      · rename_i x1
        cases hr : f_X1_readVow N σ x1 with
        | none => rw [hr] at h; cases h
        | some r =>
          rw [hr] at h
          cases h
          exact ⟨Nat.le_of_ble_eq_true rfl, t_X1_readVow σ x1 r hr⟩
      · cases h)
noncomputable def pr_X6_append : List (Nat × Instr × Nat) := [(0, .aload_n 0, 1), (1, .getfield 18, 3), (4, .iconst 4, 1), (5, .if_icmp .lt 5, 3), (8, .iconst 0, 1), (9, .ireturn, 1), (10, .aload_n 0, 1), (11, .getfield 9, 3), (14, .aload_n 0, 1), (15, .getfield 18, 3), (18, .iload_n 1, 1), (19, .iastore, 1), (20, .aload_n 0, 1), (21, .getfield 15, 3), (24, .aload_n 0, 1), (25, .getfield 18, 3), (28, .iload_n 2, 1), (29, .iastore, 1), (30, .aload_n 0, 1), (31, .dup, 1), (32, .getfield 18, 3), (35, .iconst 1, 1), (36, .iadd, 1), (37, .putfield 18, 3), (40, .iconst 1, 1), (41, .ireturn, 1)]
set_option maxRecDepth 100000 in
theorem hp_X6_append : pr_X6_append.all (fun x => decide (decode cX6_append x.1 = .ok x.2)) = true := by decide +kernel
noncomputable def f_X6_append_b32 (N : Nat) (σ : yS) (s0 : Nat) (s1 : Nat) : Option (Int × yS) :=
  some (1, yw σ s1 0 (yad (σ.1 s0 0) 1))
noncomputable def f_X6_append_b25 (N : Nat) (σ : yS) (x0 : Nat) (x2 : Int) (s0 : Nat) (s1 : Nat) : Option (Int × yS) :=
  bif yin (σ.1 s0 0) 4 then
    f_X6_append_b32 N (yw σ s1 (σ.1 s0 0).toNat x2) x0 x0
  else none
noncomputable def f_X6_append (N : Nat) (σ : yS) (x0 : Nat) (x1 : Int) (x2 : Int) : Option (Int × yS) :=
  bif ycP .lt (σ.1 x0 0) 4 then
    bif yin (σ.1 x0 0) 4 then
      f_X6_append_b25 N (yw σ (x0 + 1) (σ.1 x0 0).toNat x1) x0 x2 x0 (x0 + 2)
    else none
  else
    some (0, σ)
noncomputable def F_X6_append (N : Nat) : yF := fun as σ => match as with
  | [.inr (.inl 6, x0), .inl (.inl x1), .inl (.inl x2)] => (f_X6_append N σ x0 x1 x2).map (fun r => (some (.inl (.inl r.1)), r.2))
  | _ => none
theorem e_X6_append {N : Nat} {σ : yS} {x0 : Nat} {x1 : Int} {x2 : Int} {r : Int × yS} (h : f_X6_append N σ x0 x1 x2 = some r) : F_X6_append N [.inr (.inl 6, x0), .inl (.inl x1), .inl (.inl x2)] σ = some (some (.inl (.inl r.1)), r.2) := by
  show (f_X6_append N σ x0 x1 x2).map (fun r => ((some (.inl (.inl r.1)), r.2) : yR)) = _
  rw [h]
  rfl
noncomputable def tb_X6_append (N : Nat) : yTb := ([(9, 6, 1, 3), (15, 6, 2, 3), (18, 6, 0, 0)], [], [], [], [], [], [])
abbrev G_X6_append (N : Nat) (X : zXT) (sh : List yH) (l : Launch) (rm : Room) : yC → yR → Prop := yGoes X vwCl yct sh l rm cX6_append 3 wsX6_append RX6 (tb_X6_append N) pr_X6_append 2
set_option maxRecDepth 100000 in
set_option maxHeartbeats 4000000 in
theorem t_X6_append_b32 {N : Nat} {X : zXT} {sh : List yH} {l : Launch} {rm : Room} (σ : yS) (s0 : Nat) (s1 : Nat) (res : Int × yS) (h : f_X6_append_b32 N σ s0 s1 = some res) : G_X6_append N X sh l rm (32, [], [.inr (.inl 6, s0), .inr (.inl 6, s1)], σ) (some (.inl (.inl res.1)), res.2) := by
  unfold f_X6_append_b32 at h
  refine yG_n (n := 5) (C' := (41, [], [.inl (.inl 1)], yw σ s1 0 (yad (σ.1 s0 0) 1))) rfl ?_
  have h := Option.some.inj h
  subst h
  dsimp only
  exact yG_r rfl rfl
set_option maxRecDepth 100000 in
set_option maxHeartbeats 4000000 in
theorem t_X6_append_b25 {N : Nat} {X : zXT} {sh : List yH} {l : Launch} {rm : Room} (σ : yS) (x0 : Nat) (x2 : Int) (s0 : Nat) (s1 : Nat) (res : Int × yS) (h : f_X6_append_b25 N σ x0 x2 s0 s1 = some res) : G_X6_append N X sh l rm (25, [(0, .inr (.inl 6, x0)), (2, .inl (.inl x2))], [.inr (.inl 6, s0), .inr (.inr (0, 4), s1)], σ) (some (.inl (.inl res.1)), res.2) := by
  unfold f_X6_append_b25 at h
  refine yG_n (n := 2) (C' := (29, [(0, .inr (.inl 6, x0)), (2, .inl (.inl x2))], [.inl (.inl x2), .inl (.inl (σ.1 s0 0)), .inr (.inr (0, 4), s1)], σ)) rfl ?_
  cases hg1 : yin (σ.1 s0 0) 4 with
  | false => rw [hg1] at h; dsimp only [cond] at h; cases h
  | true =>
    rw [hg1] at h
    dsimp only [cond] at h
    refine yG_t (C' := (30, [(0, .inr (.inl 6, x0)), (2, .inl (.inl x2))], [], yw σ s1 (σ.1 s0 0).toNat x2)) rfl hg1 ?_
    refine yG_n (n := 2) (C' := (32, [(0, .inr (.inl 6, x0)), (2, .inl (.inl x2))], [.inr (.inl 6, x0), .inr (.inl 6, x0)], yw σ s1 (σ.1 s0 0).toNat x2)) rfl ?_
    exact yG_w [] rfl (t_X6_append_b32 (yw σ s1 (σ.1 s0 0).toNat x2) x0 x0 res h)
set_option maxRecDepth 100000 in
set_option maxHeartbeats 4000000 in
theorem t_X6_append {N : Nat} {X : zXT} {sh : List yH} {l : Launch} {rm : Room} (σ : yS) (x0 : Nat) (x1 : Int) (x2 : Int) (res : Int × yS) (h : f_X6_append N σ x0 x1 x2 = some res) : G_X6_append N X sh l rm (0, [(0, .inr (.inl 6, x0)), (1, .inl (.inl x1)), (2, .inl (.inl x2))], [], σ) (some (.inl (.inl res.1)), res.2) := by
  unfold f_X6_append at h
  refine yG_n (n := 3) (C' := (5, [(0, .inr (.inl 6, x0)), (1, .inl (.inl x1)), (2, .inl (.inl x2))], [.inl (.inl 4), .inl (.inl (σ.1 x0 0))], σ)) rfl ?_
  cases hg2 : ycP .lt (σ.1 x0 0) 4 with
  | true =>
    rw [hg2] at h
    dsimp only [cond] at h
    refine yG_t (C' := (10, [(0, .inr (.inl 6, x0)), (1, .inl (.inl x1)), (2, .inl (.inl x2))], [], σ)) rfl hg2 ?_
    refine yG_n (n := 5) (C' := (19, [(0, .inr (.inl 6, x0)), (1, .inl (.inl x1)), (2, .inl (.inl x2))], [.inl (.inl x1), .inl (.inl (σ.1 x0 0)), .inr (.inr (0, 4), x0 + 1)], σ)) rfl ?_
    cases hg3 : yin (σ.1 x0 0) 4 with
    | false => rw [hg3] at h; dsimp only [cond] at h; cases h
    | true =>
      rw [hg3] at h
      dsimp only [cond] at h
      refine yG_t (C' := (20, [(0, .inr (.inl 6, x0)), (1, .inl (.inl x1)), (2, .inl (.inl x2))], [], yw σ (x0 + 1) (σ.1 x0 0).toNat x1)) rfl hg3 ?_
      refine yG_n (n := 3) (C' := (25, [(0, .inr (.inl 6, x0)), (1, .inl (.inl x1)), (2, .inl (.inl x2))], [.inr (.inl 6, x0), .inr (.inr (0, 4), x0 + 2)], yw σ (x0 + 1) (σ.1 x0 0).toNat x1)) rfl ?_
      exact yG_w [0, 2] rfl (t_X6_append_b25 (yw σ (x0 + 1) (σ.1 x0 0).toNat x1) x0 x2 x0 (x0 + 2) res h)
  | false =>
    rw [hg2] at h
    dsimp only [cond] at h
    refine yG_f (C' := (8, [(0, .inr (.inl 6, x0)), (1, .inl (.inl x1)), (2, .inl (.inl x2))], [], σ)) rfl hg2 ?_
    refine yG_n (n := 1) (C' := (9, [(0, .inr (.inl 6, x0)), (1, .inl (.inl x1)), (2, .inl (.inl x2))], [.inl (.inl 0)], σ)) rfl ?_
    have h := Option.some.inj h
    subst h
    dsimp only
    exact yG_r rfl rfl
set_option maxRecDepth 100000 in
set_option maxHeartbeats 4000000 in
theorem m_X6_append {N : Nat} {X : zXT} (hX : zXok X) (hN : zXn X) (l : Launch) {sh : List yH} : yMet X vwCl yct sh l yX6_append wsX6_append { frames := 1, cells := 0, slots := 0, locals := 64 } (F_X6_append N) :=
  ymeth (tb := tb_X6_append N) (pr := pr_X6_append) (rt := 2) (own := RX6) hX (by decide +kernel) rfl rfl ⟨Nat.le_of_ble_eq_true rfl, Nat.le_of_ble_eq_true rfl⟩
    (zfl_all (List.forall_mem_cons.mpr ⟨zfl_X6 (fun w h => List.mem_cons_of_mem _ (List.mem_append_right _ h)) (List.mem_of_getElem? (i := 2) rfl) (by decide) (by decide), List.forall_mem_cons.mpr ⟨zfl_X6 (fun w h => List.mem_cons_of_mem _ (List.mem_append_right _ h)) (List.mem_of_getElem? (i := 3) rfl) (by decide) (by decide), List.forall_mem_cons.mpr ⟨zfl_X6 (fun w h => List.mem_cons_of_mem _ (List.mem_append_right _ h)) (List.mem_of_getElem? (i := 1) rfl) (by decide) (by decide), fun _ h => absurd h List.not_mem_nil⟩⟩⟩))
    (zco_all (fun _ h => absurd h List.not_mem_nil)) (zlc_all (fun _ h => absurd h List.not_mem_nil))
    (fun _ h => absurd h List.not_mem_nil)
    (fun _ h => absurd h List.not_mem_nil)
    (zmm_all (fun _ h => absurd h List.not_mem_nil)) (fun _ h => absurd h List.not_mem_nil) (zpr_all hp_X6_append) (fun as σ res h => by
      unfold F_X6_append at h
      split at h
      · rename_i x0 x1 x2
        cases hr : f_X6_append N σ x0 x1 x2 with
        | none => rw [hr] at h; cases h
        | some r =>
          rw [hr] at h
          cases h
          exact ⟨Nat.le_of_ble_eq_true rfl, t_X6_append σ x0 x1 x2 r hr⟩
      · cases h)
noncomputable def pr_X1_readWant : List (Nat × Instr × Nat) := [(0, .aload_n 1, 1), (1, .getfield 185, 3), (4, .getfield 189, 3), (7, .iconst 4, 1), (8, .if_icmp .lt 12, 3), (11, .aload_n 0, 1), (12, .iconst 5, 1), (13, .aload_n 0, 1), (14, .getfield 123, 3), (17, .invokevirtual 77, 3), (20, .aload_n 0, 1), (21, .invokevirtual 136, 3), (24, .istore_n 2, 1), (25, .aload_n 1, 1), (26, .getfield 185, 3), (29, .iload_n 2, 1), (30, .aload_n 0, 1), (31, .invokevirtual 163, 3), (34, .invokevirtual 192, 3), (37, .pop, 1), (38, .aload_n 0, 1), (39, .invokevirtual 55, 3), (42, .return_, 1)]
set_option maxRecDepth 100000 in
theorem hp_X1_readWant : pr_X1_readWant.all (fun x => decide (decode cX1_readWant x.1 = .ok x.2)) = true := by decide +kernel
noncomputable def f_X1_readWant_b20 (N : Nat) (σ : yS) (x1 : Nat) : Option (Int × yS) :=
  match f_X1_needHouse N σ with
  | none => none
  | some r1 => match f_X1_needDeed N r1.2 with
    | none => none
    | some r2 => match f_X6_append N r2.2 (x1 + 18) r1.1 r2.1 with
      | none => none
      | some r3 => match f_X1_readToken N r3.2 with
        | none => none
        | some r4 => some (0, r4.2)
noncomputable def f_X1_readWant (N : Nat) (σ : yS) (x1 : Nat) : Option (Int × yS) :=
  bif ycP .lt (σ.1 (x1 + 18) 0) 4 then
    f_X1_readWant_b20 N σ x1
  else
    match f_X1_complain N σ 5 (σ.1 2 3) with
    | none => none
    | some r5 => f_X1_readWant_b20 N r5.2 x1
noncomputable def F_X1_readWant (N : Nat) : yF := fun as σ => match as with
  | [.inr (.inl 1, 2), .inr (.inl 4, x1)] => (f_X1_readWant N σ x1).map (fun r => (none, r.2))
  | _ => none
theorem e_X1_readWant {N : Nat} {σ : yS} {x1 : Nat} {r : Int × yS} (h : f_X1_readWant N σ x1 = some r) : F_X1_readWant N [.inr (.inl 1, 2), .inr (.inl 4, x1)] σ = some (none, r.2) := by
  show (f_X1_readWant N σ x1).map (fun r => ((none, r.2) : yR)) = _
  rw [h]
  rfl
noncomputable def tb_X1_readWant (N : Nat) : yTb := ([(123, 1, 3, 0), (185, 4, 13, 3), (189, 6, 0, 0)], [], [], [(55, 1, 1, F_X1_readToken N), (77, 3, 1, F_X1_complain N), (136, 1, 1, F_X1_needHouse N), (163, 1, 1, F_X1_needDeed N), (192, 3, 6, F_X6_append N)], [], [], [])
abbrev G_X1_readWant (N : Nat) (X : zXT) (sh : List yH) (l : Launch) (rm : Room) : yC → yR → Prop := yGoes X vwCl yct sh l rm cX1_readWant 3 wsX1_readWant RX1 (tb_X1_readWant N) pr_X1_readWant 0
set_option maxRecDepth 100000 in
set_option maxHeartbeats 4000000 in
theorem t_X1_readWant_b20 {N : Nat} {X : zXT} {sh : List yH} {l : Launch} {rm : Room} (σ : yS) (x1 : Nat) (res : Int × yS) (h : f_X1_readWant_b20 N σ x1 = some res) : G_X1_readWant N X sh l rm (20, [(0, .inr (.inl 1, 2)), (1, .inr (.inl 4, x1))], [], σ) (none, res.2) := by
  unfold f_X1_readWant_b20 at h
  refine yG_n (n := 1) (C' := (21, [(0, .inr (.inl 1, 2)), (1, .inr (.inl 4, x1))], [.inr (.inl 1, 2)], σ)) rfl ?_
  cases hr1 : f_X1_needHouse N σ with
  | none => rw [hr1] at h; dsimp only at h; cases h
  | some r1 =>
    rw [hr1] at h
    dsimp only at h
    refine yG_c (C1 := (24, [(0, .inr (.inl 1, 2)), (1, .inr (.inl 4, x1))], [.inl (.inl r1.1)], r1.2)) rfl (e_X1_needHouse hr1) rfl ?_
    refine yG_n (n := 5) (C' := (31, [(2, .inl (.inl r1.1)), (0, .inr (.inl 1, 2)), (1, .inr (.inl 4, x1))], [.inr (.inl 1, 2), .inl (.inl r1.1), .inr (.inl 6, x1 + 18)], r1.2)) rfl ?_
    cases hr2 : f_X1_needDeed N r1.2 with
    | none => rw [hr2] at h; dsimp only at h; cases h
    | some r2 =>
      rw [hr2] at h
      dsimp only at h
      refine yG_c (C1 := (34, [(2, .inl (.inl r1.1)), (0, .inr (.inl 1, 2)), (1, .inr (.inl 4, x1))], [.inl (.inl r2.1), .inl (.inl r1.1), .inr (.inl 6, x1 + 18)], r2.2)) rfl (e_X1_needDeed hr2) rfl ?_
      cases hr3 : f_X6_append N r2.2 (x1 + 18) r1.1 r2.1 with
      | none => rw [hr3] at h; dsimp only at h; cases h
      | some r3 =>
        rw [hr3] at h
        dsimp only at h
        refine yG_c (C1 := (37, [(2, .inl (.inl r1.1)), (0, .inr (.inl 1, 2)), (1, .inr (.inl 4, x1))], [.inl (.inl r3.1)], r3.2)) rfl (e_X6_append hr3) rfl ?_
        refine yG_n (n := 2) (C' := (39, [(2, .inl (.inl r1.1)), (0, .inr (.inl 1, 2)), (1, .inr (.inl 4, x1))], [.inr (.inl 1, 2)], r3.2)) rfl ?_
        cases hr4 : f_X1_readToken N r3.2 with
        | none => rw [hr4] at h; dsimp only at h; cases h
        | some r4 =>
          rw [hr4] at h
          dsimp only at h
          refine yG_c (C1 := (42, [(2, .inl (.inl r1.1)), (0, .inr (.inl 1, 2)), (1, .inr (.inl 4, x1))], [], r4.2)) rfl (e_X1_readToken hr4) rfl ?_
          have h := Option.some.inj h
          subst h
          dsimp only
          exact yG_r rfl rfl
set_option maxRecDepth 100000 in
set_option maxHeartbeats 4000000 in
theorem t_X1_readWant {N : Nat} {X : zXT} {sh : List yH} {l : Launch} {rm : Room} (σ : yS) (x1 : Nat) (res : Int × yS) (h : f_X1_readWant N σ x1 = some res) : G_X1_readWant N X sh l rm (0, [(0, .inr (.inl 1, 2)), (1, .inr (.inl 4, x1))], [], σ) (none, res.2) := by
  unfold f_X1_readWant at h
  refine yG_n (n := 4) (C' := (8, [(0, .inr (.inl 1, 2)), (1, .inr (.inl 4, x1))], [.inl (.inl 4), .inl (.inl (σ.1 (x1 + 18) 0))], σ)) rfl ?_
  cases hg5 : ycP .lt (σ.1 (x1 + 18) 0) 4 with
  | true =>
    rw [hg5] at h
    dsimp only [cond] at h
    refine yG_t (C' := (20, [(0, .inr (.inl 1, 2)), (1, .inr (.inl 4, x1))], [], σ)) rfl hg5 ?_
    exact t_X1_readWant_b20 σ x1 res h
  | false =>
    rw [hg5] at h
    dsimp only [cond] at h
    refine yG_f (C' := (11, [(0, .inr (.inl 1, 2)), (1, .inr (.inl 4, x1))], [], σ)) rfl hg5 ?_
    refine yG_n (n := 4) (C' := (17, [(0, .inr (.inl 1, 2)), (1, .inr (.inl 4, x1))], [.inl (.inl (σ.1 2 3)), .inl (.inl 5), .inr (.inl 1, 2)], σ)) rfl ?_
    cases hr6 : f_X1_complain N σ 5 (σ.1 2 3) with
    | none => rw [hr6] at h; dsimp only at h; cases h
    | some r5 =>
      rw [hr6] at h
      dsimp only at h
      refine yG_c (C1 := (20, [(0, .inr (.inl 1, 2)), (1, .inr (.inl 4, x1))], [], r5.2)) rfl (e_X1_complain hr6) rfl ?_
      exact t_X1_readWant_b20 r5.2 x1 res h
set_option maxRecDepth 100000 in
set_option maxHeartbeats 4000000 in
theorem m_X1_readWant {N : Nat} {X : zXT} (hX : zXok X) (hN : zXn X) (l : Launch) {sh : List yH} : yMet X vwCl yct sh l yX1_readWant wsX1_readWant { frames := 4, cells := 0, slots := 0, locals := 131 } (F_X1_readWant N) :=
  ymeth (tb := tb_X1_readWant N) (pr := pr_X1_readWant) (rt := 0) (own := RX1) hX (by decide +kernel) rfl rfl ⟨Nat.le_of_ble_eq_true rfl, Nat.le_of_ble_eq_true rfl⟩
    (zfl_all (List.forall_mem_cons.mpr ⟨zfl_X1 (fun w h => List.mem_cons_of_mem _ (List.mem_append_left _ (List.mem_append_right _ h))) (List.mem_of_getElem? (i := 3) rfl) (by decide) (by decide), List.forall_mem_cons.mpr ⟨zfl_X4 (fun w h => List.mem_cons_of_mem _ (List.mem_append_left _ (List.mem_append_left _ (List.mem_append_left _ (List.mem_append_right _ h))))) (List.mem_of_getElem? (i := 1) rfl) (by decide) (by decide), List.forall_mem_cons.mpr ⟨zfl_X6 (fun w h => List.mem_cons_of_mem _ (List.mem_append_left _ (List.mem_append_left _ (List.mem_append_right _ h)))) (List.mem_of_getElem? (i := 2) rfl) (by decide) (by decide), fun _ h => absurd h List.not_mem_nil⟩⟩⟩))
    (zco_all (fun _ h => absurd h List.not_mem_nil)) (zlc_all (fun _ h => absurd h List.not_mem_nil))
    (List.forall_mem_cons.mpr ⟨ycal_V hX (m_X1_readToken hX hN l) rfl (fun s args hts => cwV 0 hts gX1_readWant_X1_readToken rfl rfl rfl (by decide +kernel) ⟨Nat.le_of_ble_eq_true rfl, Nat.le_of_ble_eq_true rfl⟩), List.forall_mem_cons.mpr ⟨ycal_V hX (m_X1_complain hX hN l) rfl (fun s args hts => cwV 2 hts gX1_readWant_X1_complain rfl rfl rfl (by decide +kernel) ⟨Nat.le_of_ble_eq_true rfl, Nat.le_of_ble_eq_true rfl⟩), List.forall_mem_cons.mpr ⟨ycal_V hX (m_X1_needHouse hX hN l) rfl (fun s args hts => cwV 0 hts gX1_readWant_X1_needHouse rfl rfl rfl (by decide +kernel) ⟨Nat.le_of_ble_eq_true rfl, Nat.le_of_ble_eq_true rfl⟩), List.forall_mem_cons.mpr ⟨ycal_V hX (m_X1_needDeed hX hN l) rfl (fun s args hts => cwV 0 hts gX1_readWant_X1_needDeed rfl rfl rfl (by decide +kernel) ⟨Nat.le_of_ble_eq_true rfl, Nat.le_of_ble_eq_true rfl⟩), List.forall_mem_cons.mpr ⟨ycal_V hX (m_X6_append hX hN l) rfl (fun s args hts => cwV 2 hts gX1_readWant_X6_append rfl rfl rfl (by decide +kernel) ⟨Nat.le_of_ble_eq_true rfl, Nat.le_of_ble_eq_true rfl⟩), fun _ h => absurd h List.not_mem_nil⟩⟩⟩⟩⟩)
    (fun _ h => absurd h List.not_mem_nil)
    (zmm_all (fun _ h => absurd h List.not_mem_nil)) (fun _ h => absurd h List.not_mem_nil) (zpr_all hp_X1_readWant) (fun as σ res h => by
      unfold F_X1_readWant at h
      split at h
      · rename_i x1
        cases hr : f_X1_readWant N σ x1 with
        | none => rw [hr] at h; cases h
        | some r =>
          rw [hr] at h
          cases h
          exact ⟨Nat.le_of_ble_eq_true rfl, t_X1_readWant σ x1 r hr⟩
      · cases h)
end
