noncomputable def pr_X8_keep : List (Nat × Instr × Nat) := [(0, .iload_n 1, 1), (1, .i2l, 1), (2, .lconst 0, 1), (3, .lconst 1, 1), (4, .invokestatic 90, 3), (7, .ifCond .ne 5, 3), (10, .iconst (-1), 1), (11, .ireturn, 1), (12, .aload_n 0, 1), (13, .getfield 16, 3), (16, .iload_n 1, 1), (17, .baload, 1), (18, .invokestatic 197, 3), (21, .istore_n 2, 1), (22, .aload_n 0, 1), (23, .getfield 16, 3), (26, .iload_n 1, 1), (27, .iconst 1, 1), (28, .bastore, 1), (29, .aload_n 0, 1), (30, .sipush 131, 3), (33, .iload_n 1, 1), (34, .iconst 1, 1), (35, .iadd, 1), (36, .imul, 1), (37, .iconst 0, 1), (38, .invokevirtual 318, 3), (41, .iload_n 2, 1), (42, .ireturn, 1)]
set_option maxRecDepth 100000 in
theorem hp_X8_keep : pr_X8_keep.all (fun x => decide (decode cX8_keep x.1 = .ok x.2)) = true := by decide +kernel
noncomputable def f_X8_keep (N : Nat) (σ : yS) (x1 : Int) : Option (Int × yS) :=
  match f_X8_in N σ x1 0 1 with
  | none => none
  | some r1 => bif ycP .ne r1.1 0 then
      bif yin x1 2 then
        match f_X8_flag N r1.2 (r1.2.1 3 x1.toNat) with
        | none => none
        | some r2 => bif yinb x1 2 1 then
            match f_X8_copies N (yw r2.2 3 x1.toNat 1) (ymu 131 (yad x1 1)) 0 with
            | none => none
            | some r3 => some (r2.1, r3.2)
          else none
      else none
    else
      some ((-1), r1.2)
noncomputable def F_X8_keep (N : Nat) : yF := fun as σ => match as with
  | [.inr (.inl 8, 0), .inl (.inl x1)] => (f_X8_keep N σ x1).map (fun r => (some (.inl (.inl r.1)), r.2))
  | _ => none
theorem e_X8_keep {N : Nat} {σ : yS} {x1 : Int} {r : Int × yS} (h : f_X8_keep N σ x1 = some r) : F_X8_keep N [.inr (.inl 8, 0), .inl (.inl x1)] σ = some (some (.inl (.inl r.1)), r.2) := by
  show (f_X8_keep N σ x1).map (fun r => ((some (.inl (.inl r.1)), r.2) : yR)) = _
  rw [h]
  rfl
noncomputable def tb_X8_keep (N : Nat) : yTb := ([(16, 8, 2, 3)], [], [], [(318, 3, 8, F_X8_copies N)], [(90, 3, F_X8_in N), (197, 1, F_X8_flag N)], [], [])
abbrev G_X8_keep (N : Nat) (X : zXT) (sh : List yH) (l : Launch) (rm : Room) : yC → yR → Prop := yGoes X vwCl yct sh l rm cX8_keep 3 wsX8_keep RX8 (tb_X8_keep N) pr_X8_keep 1
set_option maxRecDepth 100000 in
set_option maxHeartbeats 4000000 in
theorem t_X8_keep {N : Nat} {X : zXT} {sh : List yH} {l : Launch} {rm : Room} (σ : yS) (x1 : Int) (res : Int × yS) (h : f_X8_keep N σ x1 = some res) : G_X8_keep N X sh l rm (0, [(0, .inr (.inl 8, 0)), (1, .inl (.inl x1))], [], σ) (some (.inl (.inl res.1)), res.2) := by
  unfold f_X8_keep at h
  refine yG_n (n := 4) (C' := (4, [(0, .inr (.inl 8, 0)), (1, .inl (.inl x1))], [.inl (.inr 1), .inl (.inr 0), .inl (.inr x1)], σ)) rfl ?_
  cases hr1 : f_X8_in N σ x1 0 1 with
  | none => rw [hr1] at h; dsimp only at h; cases h
  | some r1 =>
    rw [hr1] at h
    dsimp only at h
    refine yG_c (C1 := (7, [(0, .inr (.inl 8, 0)), (1, .inl (.inl x1))], [.inl (.inl r1.1)], r1.2)) rfl (e_X8_in hr1) rfl ?_
    cases hg2 : ycP .ne r1.1 0 with
    | true =>
      rw [hg2] at h
      dsimp only [cond] at h
      refine yG_t (C' := (12, [(0, .inr (.inl 8, 0)), (1, .inl (.inl x1))], [], r1.2)) rfl hg2 ?_
      refine yG_n (n := 3) (C' := (17, [(0, .inr (.inl 8, 0)), (1, .inl (.inl x1))], [.inl (.inl x1), .inr (.inr (1, 2), 3)], r1.2)) rfl ?_
      cases hg3 : yin x1 2 with
      | false => rw [hg3] at h; dsimp only [cond] at h; cases h
      | true =>
        rw [hg3] at h
        dsimp only [cond] at h
        refine yG_t (C' := (18, [(0, .inr (.inl 8, 0)), (1, .inl (.inl x1))], [.inl (.inl (r1.2.1 3 x1.toNat))], r1.2)) rfl hg3 ?_
        cases hr4 : f_X8_flag N r1.2 (r1.2.1 3 x1.toNat) with
        | none => rw [hr4] at h; dsimp only at h; cases h
        | some r2 =>
          rw [hr4] at h
          dsimp only at h
          refine yG_c (C1 := (21, [(0, .inr (.inl 8, 0)), (1, .inl (.inl x1))], [.inl (.inl r2.1)], r2.2)) rfl (e_X8_flag hr4) rfl ?_
          refine yG_n (n := 5) (C' := (28, [(2, .inl (.inl r2.1)), (0, .inr (.inl 8, 0)), (1, .inl (.inl x1))], [.inl (.inl 1), .inl (.inl x1), .inr (.inr (1, 2), 3)], r2.2)) rfl ?_
          cases hg5 : yinb x1 2 1 with
          | false => rw [hg5] at h; dsimp only [cond] at h; cases h
          | true =>
            rw [hg5] at h
            dsimp only [cond] at h
            refine yG_t (C' := (29, [(2, .inl (.inl r2.1)), (0, .inr (.inl 8, 0)), (1, .inl (.inl x1))], [], yw r2.2 3 x1.toNat 1)) rfl hg5 ?_
            refine yG_n (n := 7) (C' := (38, [(2, .inl (.inl r2.1)), (0, .inr (.inl 8, 0)), (1, .inl (.inl x1))], [.inl (.inl 0), .inl (.inl (ymu 131 (yad x1 1))), .inr (.inl 8, 0)], yw r2.2 3 x1.toNat 1)) rfl ?_
            cases hr6 : f_X8_copies N (yw r2.2 3 x1.toNat 1) (ymu 131 (yad x1 1)) 0 with
            | none => rw [hr6] at h; dsimp only at h; cases h
            | some r3 =>
              rw [hr6] at h
              dsimp only at h
              refine yG_c (C1 := (41, [(2, .inl (.inl r2.1)), (0, .inr (.inl 8, 0)), (1, .inl (.inl x1))], [], r3.2)) rfl (e_X8_copies hr6) rfl ?_
              refine yG_n (n := 1) (C' := (42, [(2, .inl (.inl r2.1)), (0, .inr (.inl 8, 0)), (1, .inl (.inl x1))], [.inl (.inl r2.1)], r3.2)) rfl ?_
              have h := Option.some.inj h
              subst h
              dsimp only
              exact yG_r rfl rfl
    | false =>
      rw [hg2] at h
      dsimp only [cond] at h
      refine yG_f (C' := (10, [(0, .inr (.inl 8, 0)), (1, .inl (.inl x1))], [], r1.2)) rfl hg2 ?_
      refine yG_n (n := 1) (C' := (11, [(0, .inr (.inl 8, 0)), (1, .inl (.inl x1))], [.inl (.inl ((-1)))], r1.2)) rfl ?_
      have h := Option.some.inj h
      subst h
      dsimp only
      exact yG_r rfl rfl
set_option maxRecDepth 100000 in
set_option maxHeartbeats 4000000 in
theorem m_X8_keep {N : Nat} {X : zXT} (hX : zXok X) (hN : zXn X) (l : Launch) {sh : List yH} : yMet X vwCl yct sh l yX8_keep wsX8_keep { frames := 2, cells := 0, slots := 0, locals := 89 } (F_X8_keep N) :=
  ymeth (tb := tb_X8_keep N) (pr := pr_X8_keep) (rt := 1) (own := RX8) hX (by decide +kernel) rfl rfl ⟨Nat.le_of_ble_eq_true rfl, Nat.le_of_ble_eq_true rfl⟩
    (zfl_all (List.forall_mem_cons.mpr ⟨zfl_X8 (fun w h => List.mem_cons_of_mem _ (List.mem_append_right _ h)) (List.mem_of_getElem? (i := 1) rfl) (by decide) (by decide), fun _ h => absurd h List.not_mem_nil⟩))
    (zco_all (fun _ h => absurd h List.not_mem_nil)) (zlc_all (fun _ h => absurd h List.not_mem_nil))
    (List.forall_mem_cons.mpr ⟨ycal_V hX (m_X8_copies hX hN l) rfl (fun s args hts => cwV 2 hts gX8_keep_X8_copies rfl rfl rfl (by decide +kernel) ⟨Nat.le_of_ble_eq_true rfl, Nat.le_of_ble_eq_true rfl⟩), fun _ h => absurd h List.not_mem_nil⟩)
    (List.forall_mem_cons.mpr ⟨ycal_S hX (m_X8_in hX hN l) (fun s args hts => va_cwS 3 hts gX8_keep_X8_in rfl rfl rfl (by decide +kernel) ⟨Nat.le_of_ble_eq_true rfl, Nat.le_of_ble_eq_true rfl⟩), List.forall_mem_cons.mpr ⟨ycal_S hX (m_X8_flag hX hN l) (fun s args hts => va_cwS 1 hts gX8_keep_X8_flag rfl rfl rfl (by decide +kernel) ⟨Nat.le_of_ble_eq_true rfl, Nat.le_of_ble_eq_true rfl⟩), fun _ h => absurd h List.not_mem_nil⟩⟩)
    (zmm_all (fun _ h => absurd h List.not_mem_nil)) (fun _ h => absurd h List.not_mem_nil) (zpr_all hp_X8_keep) (fun as σ res h => by
      unfold F_X8_keep at h
      split at h
      · rename_i x1
        cases hr : f_X8_keep N σ x1 with
        | none => rw [hr] at h; cases h
        | some r =>
          rw [hr] at h
          cases h
          exact ⟨Nat.le_of_ble_eq_true rfl, t_X8_keep σ x1 r hr⟩
      · cases h)
noncomputable def pr_X8_kindNow : List (Nat × Instr × Nat) := [(0, .aload_n 0, 1), (1, .iconst 5, 1), (2, .bipush 112, 2), (4, .bipush 108, 2), (6, .bipush 97, 2), (8, .invokevirtual 113, 3), (11, .ifCond .eq 17, 3), (14, .aload_n 0, 1), (15, .bipush 105, 2), (17, .bipush 110, 2), (19, .iconst 0, 1), (20, .invokevirtual 117, 3), (23, .ifCond .eq 5, 3), (26, .iconst 0, 1), (27, .ireturn, 1), (28, .aload_n 0, 1), (29, .iconst 4, 1), (30, .bipush 108, 2), (32, .bipush 101, 2), (34, .bipush 102, 2), (36, .invokevirtual 113, 3), (39, .ifCond .eq 16, 3), (42, .aload_n 0, 1), (43, .bipush 116, 2), (45, .iconst 0, 1), (46, .iconst 0, 1), (47, .invokevirtual 117, 3), (50, .ifCond .eq 5, 3), (53, .iconst 1, 1), (54, .ireturn, 1), (55, .aload_n 0, 1), (56, .iconst 5, 1), (57, .bipush 100, 2), (59, .bipush 114, 2), (61, .bipush 117, 2), (63, .invokevirtual 113, 3), (66, .ifCond .eq 17, 3), (69, .aload_n 0, 1), (70, .bipush 110, 2), (72, .bipush 107, 2), (74, .iconst 0, 1), (75, .invokevirtual 117, 3), (78, .ifCond .eq 5, 3), (81, .iconst 2, 1), (82, .ireturn, 1), (83, .aload_n 0, 1), (84, .iconst 5, 1), (85, .bipush 106, 2), (87, .bipush 111, 2), (89, .bipush 105, 2), (91, .invokevirtual 113, 3), (94, .ifCond .eq 19, 3), (97, .aload_n 0, 1), (98, .bipush 110, 2), (100, .bipush 116, 2), (102, .iconst 0, 1), (103, .invokevirtual 117, 3), (106, .ifCond .eq 7, 3), (109, .iconst 3, 1), (110, .goto 37, 3), (113, .aload_n 0, 1), (114, .bipush 6, 2), (116, .bipush 116, 2), (118, .bipush 104, 2), (120, .bipush 114, 2), (122, .invokevirtual 113, 3), (125, .ifCond .eq 20, 3), (128, .aload_n 0, 1), (129, .bipush 101, 2), (131, .bipush 97, 2), (133, .bipush 116, 2), (135, .invokevirtual 117, 3), (138, .ifCond .eq 7, 3), (141, .iconst 4, 1), (142, .goto 5, 3), (145, .bipush (-4), 2), (147, .ireturn, 1)]
set_option maxRecDepth 100000 in
theorem hp_X8_kindNow : pr_X8_kindNow.all (fun x => decide (decode cX8_kindNow x.1 = .ok x.2)) = true := by decide +kernel
noncomputable def f_X8_kindNow_b147 (N : Nat) (σ : yS) (s0 : Int) : Option (Int × yS) :=
  some (s0, σ)
noncomputable def f_X8_kindNow_b145 (N : Nat) (σ : yS) : Option (Int × yS) :=
  f_X8_kindNow_b147 N σ ((-4))
noncomputable def f_X8_kindNow_b113 (N : Nat) (σ : yS) : Option (Int × yS) :=
  match f_X8_is N σ 6 116 104 114 with
  | none => none
  | some r5 => bif ycP .eq r5.1 0 then
      f_X8_kindNow_b145 N r5.2
    else
      match f_X8_ends N r5.2 101 97 116 with
      | none => none
      | some r6 => bif ycP .eq r6.1 0 then
          f_X8_kindNow_b145 N r6.2
        else
          f_X8_kindNow_b147 N r6.2 4
noncomputable def f_X8_kindNow_b83 (N : Nat) (σ : yS) : Option (Int × yS) :=
  match f_X8_is N σ 5 106 111 105 with
  | none => none
  | some r4 => bif ycP .eq r4.1 0 then
      f_X8_kindNow_b113 N r4.2
    else
      match f_X8_ends N r4.2 110 116 0 with
      | none => none
      | some r7 => bif ycP .eq r7.1 0 then
          f_X8_kindNow_b113 N r7.2
        else
          f_X8_kindNow_b147 N r7.2 3
noncomputable def f_X8_kindNow_b55 (N : Nat) (σ : yS) : Option (Int × yS) :=
  match f_X8_is N σ 5 100 114 117 with
  | none => none
  | some r3 => bif ycP .eq r3.1 0 then
      f_X8_kindNow_b83 N r3.2
    else
      match f_X8_ends N r3.2 110 107 0 with
      | none => none
      | some r8 => bif ycP .eq r8.1 0 then
          f_X8_kindNow_b83 N r8.2
        else
          some (2, r8.2)
noncomputable def f_X8_kindNow_b28 (N : Nat) (σ : yS) : Option (Int × yS) :=
  match f_X8_is N σ 4 108 101 102 with
  | none => none
  | some r2 => bif ycP .eq r2.1 0 then
      f_X8_kindNow_b55 N r2.2
    else
      match f_X8_ends N r2.2 116 0 0 with
      | none => none
      | some r9 => bif ycP .eq r9.1 0 then
          f_X8_kindNow_b55 N r9.2
        else
          some (1, r9.2)
noncomputable def f_X8_kindNow (N : Nat) (σ : yS) : Option (Int × yS) :=
  match f_X8_is N σ 5 112 108 97 with
  | none => none
  | some r1 => bif ycP .eq r1.1 0 then
      f_X8_kindNow_b28 N r1.2
    else
      match f_X8_ends N r1.2 105 110 0 with
      | none => none
      | some r10 => bif ycP .eq r10.1 0 then
          f_X8_kindNow_b28 N r10.2
        else
          some (0, r10.2)
noncomputable def F_X8_kindNow (N : Nat) : yF := fun as σ => match as with
  | [.inr (.inl 8, 0)] => (f_X8_kindNow N σ).map (fun r => (some (.inl (.inl r.1)), r.2))
  | _ => none
theorem e_X8_kindNow {N : Nat} {σ : yS} {r : Int × yS} (h : f_X8_kindNow N σ = some r) : F_X8_kindNow N [.inr (.inl 8, 0)] σ = some (some (.inl (.inl r.1)), r.2) := by
  show (f_X8_kindNow N σ).map (fun r => ((some (.inl (.inl r.1)), r.2) : yR)) = _
  rw [h]
  rfl
noncomputable def tb_X8_kindNow (N : Nat) : yTb := ([], [], [], [(113, 5, 8, F_X8_is N), (117, 4, 8, F_X8_ends N)], [], [], [])
abbrev G_X8_kindNow (N : Nat) (X : zXT) (sh : List yH) (l : Launch) (rm : Room) : yC → yR → Prop := yGoes X vwCl yct sh l rm cX8_kindNow 1 wsX8_kindNow RX8 (tb_X8_kindNow N) pr_X8_kindNow 1
set_option maxRecDepth 100000 in
set_option maxHeartbeats 4000000 in
theorem t_X8_kindNow_b147 {N : Nat} {X : zXT} {sh : List yH} {l : Launch} {rm : Room} (σ : yS) (s0 : Int) (res : Int × yS) (h : f_X8_kindNow_b147 N σ s0 = some res) : G_X8_kindNow N X sh l rm (147, [], [.inl (.inl s0)], σ) (some (.inl (.inl res.1)), res.2) := by
  unfold f_X8_kindNow_b147 at h
  have h := Option.some.inj h
  subst h
  dsimp only
  exact yG_r rfl rfl
set_option maxRecDepth 100000 in
set_option maxHeartbeats 4000000 in
theorem t_X8_kindNow_b145 {N : Nat} {X : zXT} {sh : List yH} {l : Launch} {rm : Room} (σ : yS) (res : Int × yS) (h : f_X8_kindNow_b145 N σ = some res) : G_X8_kindNow N X sh l rm (145, [], [], σ) (some (.inl (.inl res.1)), res.2) := by
  unfold f_X8_kindNow_b145 at h
  refine yG_n (n := 1) (C' := (147, [], [.inl (.inl ((-4)))], σ)) rfl ?_
  exact t_X8_kindNow_b147 σ ((-4)) res h
set_option maxRecDepth 100000 in
set_option maxHeartbeats 4000000 in
theorem t_X8_kindNow_b113 {N : Nat} {X : zXT} {sh : List yH} {l : Launch} {rm : Room} (σ : yS) (res : Int × yS) (h : f_X8_kindNow_b113 N σ = some res) : G_X8_kindNow N X sh l rm (113, [(0, .inr (.inl 8, 0))], [], σ) (some (.inl (.inl res.1)), res.2) := by
  unfold f_X8_kindNow_b113 at h
  refine yG_n (n := 5) (C' := (122, [(0, .inr (.inl 8, 0))], [.inl (.inl 114), .inl (.inl 104), .inl (.inl 116), .inl (.inl 6), .inr (.inl 8, 0)], σ)) rfl ?_
  cases hr1 : f_X8_is N σ 6 116 104 114 with
  | none => rw [hr1] at h; dsimp only at h; cases h
  | some r5 =>
    rw [hr1] at h
    dsimp only at h
    refine yG_c (C1 := (125, [(0, .inr (.inl 8, 0))], [.inl (.inl r5.1)], r5.2)) rfl (e_X8_is hr1) rfl ?_
    cases hg2 : ycP .eq r5.1 0 with
    | true =>
      rw [hg2] at h
      dsimp only [cond] at h
      refine yG_t (C' := (145, [(0, .inr (.inl 8, 0))], [], r5.2)) rfl hg2 ?_
      exact yG_w [] rfl (t_X8_kindNow_b145 r5.2 res h)
    | false =>
      rw [hg2] at h
      dsimp only [cond] at h
      refine yG_f (C' := (128, [(0, .inr (.inl 8, 0))], [], r5.2)) rfl hg2 ?_
      refine yG_n (n := 4) (C' := (135, [(0, .inr (.inl 8, 0))], [.inl (.inl 116), .inl (.inl 97), .inl (.inl 101), .inr (.inl 8, 0)], r5.2)) rfl ?_
      cases hr3 : f_X8_ends N r5.2 101 97 116 with
      | none => rw [hr3] at h; dsimp only at h; cases h
      | some r6 =>
        rw [hr3] at h
        dsimp only at h
        refine yG_c (C1 := (138, [(0, .inr (.inl 8, 0))], [.inl (.inl r6.1)], r6.2)) rfl (e_X8_ends hr3) rfl ?_
        cases hg4 : ycP .eq r6.1 0 with
        | true =>
          rw [hg4] at h
          dsimp only [cond] at h
          refine yG_t (C' := (145, [(0, .inr (.inl 8, 0))], [], r6.2)) rfl hg4 ?_
          exact yG_w [] rfl (t_X8_kindNow_b145 r6.2 res h)
        | false =>
          rw [hg4] at h
          dsimp only [cond] at h
          refine yG_f (C' := (141, [(0, .inr (.inl 8, 0))], [], r6.2)) rfl hg4 ?_
          refine yG_n (n := 2) (C' := (147, [(0, .inr (.inl 8, 0))], [.inl (.inl 4)], r6.2)) rfl ?_
          exact yG_w [] rfl (t_X8_kindNow_b147 r6.2 4 res h)
set_option maxRecDepth 100000 in
set_option maxHeartbeats 4000000 in
theorem t_X8_kindNow_b83 {N : Nat} {X : zXT} {sh : List yH} {l : Launch} {rm : Room} (σ : yS) (res : Int × yS) (h : f_X8_kindNow_b83 N σ = some res) : G_X8_kindNow N X sh l rm (83, [(0, .inr (.inl 8, 0))], [], σ) (some (.inl (.inl res.1)), res.2) := by
  unfold f_X8_kindNow_b83 at h
  refine yG_n (n := 5) (C' := (91, [(0, .inr (.inl 8, 0))], [.inl (.inl 105), .inl (.inl 111), .inl (.inl 106), .inl (.inl 5), .inr (.inl 8, 0)], σ)) rfl ?_
  cases hr5 : f_X8_is N σ 5 106 111 105 with
  | none => rw [hr5] at h; dsimp only at h; cases h
  | some r4 =>
    rw [hr5] at h
    dsimp only at h
    refine yG_c (C1 := (94, [(0, .inr (.inl 8, 0))], [.inl (.inl r4.1)], r4.2)) rfl (e_X8_is hr5) rfl ?_
    cases hg6 : ycP .eq r4.1 0 with
    | true =>
      rw [hg6] at h
      dsimp only [cond] at h
      refine yG_t (C' := (113, [(0, .inr (.inl 8, 0))], [], r4.2)) rfl hg6 ?_
      exact t_X8_kindNow_b113 r4.2 res h
    | false =>
      rw [hg6] at h
      dsimp only [cond] at h
      refine yG_f (C' := (97, [(0, .inr (.inl 8, 0))], [], r4.2)) rfl hg6 ?_
      refine yG_n (n := 4) (C' := (103, [(0, .inr (.inl 8, 0))], [.inl (.inl 0), .inl (.inl 116), .inl (.inl 110), .inr (.inl 8, 0)], r4.2)) rfl ?_
      cases hr7 : f_X8_ends N r4.2 110 116 0 with
      | none => rw [hr7] at h; dsimp only at h; cases h
      | some r7 =>
        rw [hr7] at h
        dsimp only at h
        refine yG_c (C1 := (106, [(0, .inr (.inl 8, 0))], [.inl (.inl r7.1)], r7.2)) rfl (e_X8_ends hr7) rfl ?_
        cases hg8 : ycP .eq r7.1 0 with
        | true =>
          rw [hg8] at h
          dsimp only [cond] at h
          refine yG_t (C' := (113, [(0, .inr (.inl 8, 0))], [], r7.2)) rfl hg8 ?_
          exact t_X8_kindNow_b113 r7.2 res h
        | false =>
          rw [hg8] at h
          dsimp only [cond] at h
          refine yG_f (C' := (109, [(0, .inr (.inl 8, 0))], [], r7.2)) rfl hg8 ?_
          refine yG_n (n := 2) (C' := (147, [(0, .inr (.inl 8, 0))], [.inl (.inl 3)], r7.2)) rfl ?_
          exact yG_w [] rfl (t_X8_kindNow_b147 r7.2 3 res h)
set_option maxRecDepth 100000 in
set_option maxHeartbeats 4000000 in
theorem t_X8_kindNow_b55 {N : Nat} {X : zXT} {sh : List yH} {l : Launch} {rm : Room} (σ : yS) (res : Int × yS) (h : f_X8_kindNow_b55 N σ = some res) : G_X8_kindNow N X sh l rm (55, [(0, .inr (.inl 8, 0))], [], σ) (some (.inl (.inl res.1)), res.2) := by
  unfold f_X8_kindNow_b55 at h
  refine yG_n (n := 5) (C' := (63, [(0, .inr (.inl 8, 0))], [.inl (.inl 117), .inl (.inl 114), .inl (.inl 100), .inl (.inl 5), .inr (.inl 8, 0)], σ)) rfl ?_
  cases hr9 : f_X8_is N σ 5 100 114 117 with
  | none => rw [hr9] at h; dsimp only at h; cases h
  | some r3 =>
    rw [hr9] at h
    dsimp only at h
    refine yG_c (C1 := (66, [(0, .inr (.inl 8, 0))], [.inl (.inl r3.1)], r3.2)) rfl (e_X8_is hr9) rfl ?_
    cases hg10 : ycP .eq r3.1 0 with
    | true =>
      rw [hg10] at h
      dsimp only [cond] at h
      refine yG_t (C' := (83, [(0, .inr (.inl 8, 0))], [], r3.2)) rfl hg10 ?_
      exact t_X8_kindNow_b83 r3.2 res h
    | false =>
      rw [hg10] at h
      dsimp only [cond] at h
      refine yG_f (C' := (69, [(0, .inr (.inl 8, 0))], [], r3.2)) rfl hg10 ?_
      refine yG_n (n := 4) (C' := (75, [(0, .inr (.inl 8, 0))], [.inl (.inl 0), .inl (.inl 107), .inl (.inl 110), .inr (.inl 8, 0)], r3.2)) rfl ?_
      cases hr11 : f_X8_ends N r3.2 110 107 0 with
      | none => rw [hr11] at h; dsimp only at h; cases h
      | some r8 =>
        rw [hr11] at h
        dsimp only at h
        refine yG_c (C1 := (78, [(0, .inr (.inl 8, 0))], [.inl (.inl r8.1)], r8.2)) rfl (e_X8_ends hr11) rfl ?_
        cases hg12 : ycP .eq r8.1 0 with
        | true =>
          rw [hg12] at h
          dsimp only [cond] at h
          refine yG_t (C' := (83, [(0, .inr (.inl 8, 0))], [], r8.2)) rfl hg12 ?_
          exact t_X8_kindNow_b83 r8.2 res h
        | false =>
          rw [hg12] at h
          dsimp only [cond] at h
          refine yG_f (C' := (81, [(0, .inr (.inl 8, 0))], [], r8.2)) rfl hg12 ?_
          refine yG_n (n := 1) (C' := (82, [(0, .inr (.inl 8, 0))], [.inl (.inl 2)], r8.2)) rfl ?_
          have h := Option.some.inj h
          subst h
          dsimp only
          exact yG_r rfl rfl
set_option maxRecDepth 100000 in
set_option maxHeartbeats 4000000 in
theorem t_X8_kindNow_b28 {N : Nat} {X : zXT} {sh : List yH} {l : Launch} {rm : Room} (σ : yS) (res : Int × yS) (h : f_X8_kindNow_b28 N σ = some res) : G_X8_kindNow N X sh l rm (28, [(0, .inr (.inl 8, 0))], [], σ) (some (.inl (.inl res.1)), res.2) := by
  unfold f_X8_kindNow_b28 at h
  refine yG_n (n := 5) (C' := (36, [(0, .inr (.inl 8, 0))], [.inl (.inl 102), .inl (.inl 101), .inl (.inl 108), .inl (.inl 4), .inr (.inl 8, 0)], σ)) rfl ?_
  cases hr13 : f_X8_is N σ 4 108 101 102 with
  | none => rw [hr13] at h; dsimp only at h; cases h
  | some r2 =>
    rw [hr13] at h
    dsimp only at h
    refine yG_c (C1 := (39, [(0, .inr (.inl 8, 0))], [.inl (.inl r2.1)], r2.2)) rfl (e_X8_is hr13) rfl ?_
    cases hg14 : ycP .eq r2.1 0 with
    | true =>
      rw [hg14] at h
      dsimp only [cond] at h
      refine yG_t (C' := (55, [(0, .inr (.inl 8, 0))], [], r2.2)) rfl hg14 ?_
      exact t_X8_kindNow_b55 r2.2 res h
    | false =>
      rw [hg14] at h
      dsimp only [cond] at h
      refine yG_f (C' := (42, [(0, .inr (.inl 8, 0))], [], r2.2)) rfl hg14 ?_
      refine yG_n (n := 4) (C' := (47, [(0, .inr (.inl 8, 0))], [.inl (.inl 0), .inl (.inl 0), .inl (.inl 116), .inr (.inl 8, 0)], r2.2)) rfl ?_
      cases hr15 : f_X8_ends N r2.2 116 0 0 with
      | none => rw [hr15] at h; dsimp only at h; cases h
      | some r9 =>
        rw [hr15] at h
        dsimp only at h
        refine yG_c (C1 := (50, [(0, .inr (.inl 8, 0))], [.inl (.inl r9.1)], r9.2)) rfl (e_X8_ends hr15) rfl ?_
        cases hg16 : ycP .eq r9.1 0 with
        | true =>
          rw [hg16] at h
          dsimp only [cond] at h
          refine yG_t (C' := (55, [(0, .inr (.inl 8, 0))], [], r9.2)) rfl hg16 ?_
          exact t_X8_kindNow_b55 r9.2 res h
        | false =>
          rw [hg16] at h
          dsimp only [cond] at h
          refine yG_f (C' := (53, [(0, .inr (.inl 8, 0))], [], r9.2)) rfl hg16 ?_
          refine yG_n (n := 1) (C' := (54, [(0, .inr (.inl 8, 0))], [.inl (.inl 1)], r9.2)) rfl ?_
          have h := Option.some.inj h
          subst h
          dsimp only
          exact yG_r rfl rfl
set_option maxRecDepth 100000 in
set_option maxHeartbeats 4000000 in
theorem t_X8_kindNow {N : Nat} {X : zXT} {sh : List yH} {l : Launch} {rm : Room} (σ : yS) (res : Int × yS) (h : f_X8_kindNow N σ = some res) : G_X8_kindNow N X sh l rm (0, [(0, .inr (.inl 8, 0))], [], σ) (some (.inl (.inl res.1)), res.2) := by
  unfold f_X8_kindNow at h
  refine yG_n (n := 5) (C' := (8, [(0, .inr (.inl 8, 0))], [.inl (.inl 97), .inl (.inl 108), .inl (.inl 112), .inl (.inl 5), .inr (.inl 8, 0)], σ)) rfl ?_
  cases hr17 : f_X8_is N σ 5 112 108 97 with
  | none => rw [hr17] at h; dsimp only at h; cases h
  | some r1 =>
    rw [hr17] at h
    dsimp only at h
    refine yG_c (C1 := (11, [(0, .inr (.inl 8, 0))], [.inl (.inl r1.1)], r1.2)) rfl (e_X8_is hr17) rfl ?_
    cases hg18 : ycP .eq r1.1 0 with
    | true =>
      rw [hg18] at h
      dsimp only [cond] at h
      refine yG_t (C' := (28, [(0, .inr (.inl 8, 0))], [], r1.2)) rfl hg18 ?_
      exact t_X8_kindNow_b28 r1.2 res h
    | false =>
      rw [hg18] at h
      dsimp only [cond] at h
      refine yG_f (C' := (14, [(0, .inr (.inl 8, 0))], [], r1.2)) rfl hg18 ?_
      refine yG_n (n := 4) (C' := (20, [(0, .inr (.inl 8, 0))], [.inl (.inl 0), .inl (.inl 110), .inl (.inl 105), .inr (.inl 8, 0)], r1.2)) rfl ?_
      cases hr19 : f_X8_ends N r1.2 105 110 0 with
      | none => rw [hr19] at h; dsimp only at h; cases h
      | some r10 =>
        rw [hr19] at h
        dsimp only at h
        refine yG_c (C1 := (23, [(0, .inr (.inl 8, 0))], [.inl (.inl r10.1)], r10.2)) rfl (e_X8_ends hr19) rfl ?_
        cases hg20 : ycP .eq r10.1 0 with
        | true =>
          rw [hg20] at h
          dsimp only [cond] at h
          refine yG_t (C' := (28, [(0, .inr (.inl 8, 0))], [], r10.2)) rfl hg20 ?_
          exact t_X8_kindNow_b28 r10.2 res h
        | false =>
          rw [hg20] at h
          dsimp only [cond] at h
          refine yG_f (C' := (26, [(0, .inr (.inl 8, 0))], [], r10.2)) rfl hg20 ?_
          refine yG_n (n := 1) (C' := (27, [(0, .inr (.inl 8, 0))], [.inl (.inl 0)], r10.2)) rfl ?_
          have h := Option.some.inj h
          subst h
          dsimp only
          exact yG_r rfl rfl
set_option maxRecDepth 100000 in
set_option maxHeartbeats 4000000 in
theorem m_X8_kindNow {N : Nat} {X : zXT} (hX : zXok X) (hN : zXn X) (l : Launch) {sh : List yH} : yMet X vwCl yct sh l yX8_kindNow wsX8_kindNow { frames := 3, cells := 0, slots := 0, locals := 109 } (F_X8_kindNow N) :=
  ymeth (tb := tb_X8_kindNow N) (pr := pr_X8_kindNow) (rt := 1) (own := RX8) hX (by decide +kernel) rfl rfl ⟨Nat.le_of_ble_eq_true rfl, Nat.le_of_ble_eq_true rfl⟩
    (zfl_all (fun _ h => absurd h List.not_mem_nil))
    (zco_all (fun _ h => absurd h List.not_mem_nil)) (zlc_all (fun _ h => absurd h List.not_mem_nil))
    (List.forall_mem_cons.mpr ⟨ycal_V hX (m_X8_is hX hN l) rfl (fun s args hts => cwV 4 hts gX8_kindNow_X8_is rfl rfl rfl (by decide +kernel) ⟨Nat.le_of_ble_eq_true rfl, Nat.le_of_ble_eq_true rfl⟩), List.forall_mem_cons.mpr ⟨ycal_V hX (m_X8_ends hX hN l) rfl (fun s args hts => cwV 3 hts gX8_kindNow_X8_ends rfl rfl rfl (by decide +kernel) ⟨Nat.le_of_ble_eq_true rfl, Nat.le_of_ble_eq_true rfl⟩), fun _ h => absurd h List.not_mem_nil⟩⟩)
    (fun _ h => absurd h List.not_mem_nil)
    (zmm_all (fun _ h => absurd h List.not_mem_nil)) (fun _ h => absurd h List.not_mem_nil) (zpr_all hp_X8_kindNow) (fun as σ res h => by
      unfold F_X8_kindNow at h
      split at h
      · cases hr : f_X8_kindNow N σ with
        | none => rw [hr] at h; cases h
        | some r =>
          rw [hr] at h
          cases h
          exact ⟨Nat.le_of_ble_eq_true rfl, t_X8_kindNow σ r hr⟩
      · cases h)
noncomputable def pr_X8_lawyer : List (Nat × Instr × Nat) := [(0, .aload_n 0, 1), (1, .iload_n 1, 1), (2, .invokevirtual 205, 3), (5, .ifCond .eq 18, 3), (8, .aload_n 0, 1), (9, .bipush 14, 2), (11, .iload_n 1, 1), (12, .iadd, 1), (13, .iload_n 2, 1), (14, .invokestatic 197, 3), (17, .invokevirtual 214, 3), (20, .goto 4, 3), (23, .iconst (-1), 1), (24, .ireturn, 1)]
set_option maxRecDepth 100000 in
theorem hp_X8_lawyer : pr_X8_lawyer.all (fun x => decide (decode cX8_lawyer x.1 = .ok x.2)) = true := by decide +kernel
noncomputable def f_X8_lawyer_b24 (N : Nat) (σ : yS) (s0 : Int) : Option (Int × yS) :=
  some (s0, σ)
noncomputable def f_X8_lawyer (N : Nat) (σ : yS) (x1 : Int) (x2 : Int) : Option (Int × yS) :=
  match f_X8_isHouse N σ x1 with
  | none => none
  | some r1 => bif ycP .eq r1.1 0 then
      f_X8_lawyer_b24 N r1.2 ((-1))
    else
      match f_X8_flag N r1.2 x2 with
      | none => none
      | some r2 => match f_X8_becomes N r2.2 (yad 14 x1) r2.1 with
        | none => none
        | some r3 => f_X8_lawyer_b24 N r3.2 r3.1
noncomputable def F_X8_lawyer (N : Nat) : yF := fun as σ => match as with
  | [.inr (.inl 8, 0), .inl (.inl x1), .inl (.inl x2)] => (f_X8_lawyer N σ x1 x2).map (fun r => (some (.inl (.inl r.1)), r.2))
  | _ => none
theorem e_X8_lawyer {N : Nat} {σ : yS} {x1 : Int} {x2 : Int} {r : Int × yS} (h : f_X8_lawyer N σ x1 x2 = some r) : F_X8_lawyer N [.inr (.inl 8, 0), .inl (.inl x1), .inl (.inl x2)] σ = some (some (.inl (.inl r.1)), r.2) := by
  show (f_X8_lawyer N σ x1 x2).map (fun r => ((some (.inl (.inl r.1)), r.2) : yR)) = _
  rw [h]
  rfl
noncomputable def tb_X8_lawyer (N : Nat) : yTb := ([], [], [], [(205, 2, 8, F_X8_isHouse N), (214, 3, 8, F_X8_becomes N)], [(197, 1, F_X8_flag N)], [], [])
abbrev G_X8_lawyer (N : Nat) (X : zXT) (sh : List yH) (l : Launch) (rm : Room) : yC → yR → Prop := yGoes X vwCl yct sh l rm cX8_lawyer 3 wsX8_lawyer RX8 (tb_X8_lawyer N) pr_X8_lawyer 1
set_option maxRecDepth 100000 in
set_option maxHeartbeats 4000000 in
theorem t_X8_lawyer_b24 {N : Nat} {X : zXT} {sh : List yH} {l : Launch} {rm : Room} (σ : yS) (s0 : Int) (res : Int × yS) (h : f_X8_lawyer_b24 N σ s0 = some res) : G_X8_lawyer N X sh l rm (24, [], [.inl (.inl s0)], σ) (some (.inl (.inl res.1)), res.2) := by
  unfold f_X8_lawyer_b24 at h
  have h := Option.some.inj h
  subst h
  dsimp only
  exact yG_r rfl rfl
set_option maxRecDepth 100000 in
set_option maxHeartbeats 4000000 in
theorem t_X8_lawyer {N : Nat} {X : zXT} {sh : List yH} {l : Launch} {rm : Room} (σ : yS) (x1 : Int) (x2 : Int) (res : Int × yS) (h : f_X8_lawyer N σ x1 x2 = some res) : G_X8_lawyer N X sh l rm (0, [(0, .inr (.inl 8, 0)), (1, .inl (.inl x1)), (2, .inl (.inl x2))], [], σ) (some (.inl (.inl res.1)), res.2) := by
  unfold f_X8_lawyer at h
  refine yG_n (n := 2) (C' := (2, [(0, .inr (.inl 8, 0)), (1, .inl (.inl x1)), (2, .inl (.inl x2))], [.inl (.inl x1), .inr (.inl 8, 0)], σ)) rfl ?_
  cases hr1 : f_X8_isHouse N σ x1 with
  | none => rw [hr1] at h; dsimp only at h; cases h
  | some r1 =>
    rw [hr1] at h
    dsimp only at h
    refine yG_c (C1 := (5, [(0, .inr (.inl 8, 0)), (1, .inl (.inl x1)), (2, .inl (.inl x2))], [.inl (.inl r1.1)], r1.2)) rfl (e_X8_isHouse hr1) rfl ?_
    cases hg2 : ycP .eq r1.1 0 with
    | true =>
      rw [hg2] at h
      dsimp only [cond] at h
      refine yG_t (C' := (23, [(0, .inr (.inl 8, 0)), (1, .inl (.inl x1)), (2, .inl (.inl x2))], [], r1.2)) rfl hg2 ?_
      refine yG_n (n := 1) (C' := (24, [(0, .inr (.inl 8, 0)), (1, .inl (.inl x1)), (2, .inl (.inl x2))], [.inl (.inl ((-1)))], r1.2)) rfl ?_
      exact yG_w [] rfl (t_X8_lawyer_b24 r1.2 ((-1)) res h)
    | false =>
      rw [hg2] at h
      dsimp only [cond] at h
      refine yG_f (C' := (8, [(0, .inr (.inl 8, 0)), (1, .inl (.inl x1)), (2, .inl (.inl x2))], [], r1.2)) rfl hg2 ?_
      refine yG_n (n := 5) (C' := (14, [(0, .inr (.inl 8, 0)), (1, .inl (.inl x1)), (2, .inl (.inl x2))], [.inl (.inl x2), .inl (.inl (yad 14 x1)), .inr (.inl 8, 0)], r1.2)) rfl ?_
      cases hr3 : f_X8_flag N r1.2 x2 with
      | none => rw [hr3] at h; dsimp only at h; cases h
      | some r2 =>
        rw [hr3] at h
        dsimp only at h
        refine yG_c (C1 := (17, [(0, .inr (.inl 8, 0)), (1, .inl (.inl x1)), (2, .inl (.inl x2))], [.inl (.inl r2.1), .inl (.inl (yad 14 x1)), .inr (.inl 8, 0)], r2.2)) rfl (e_X8_flag hr3) rfl ?_
        cases hr4 : f_X8_becomes N r2.2 (yad 14 x1) r2.1 with
        | none => rw [hr4] at h; dsimp only at h; cases h
        | some r3 =>
          rw [hr4] at h
          dsimp only at h
          refine yG_c (C1 := (20, [(0, .inr (.inl 8, 0)), (1, .inl (.inl x1)), (2, .inl (.inl x2))], [.inl (.inl r3.1)], r3.2)) rfl (e_X8_becomes hr4) rfl ?_
          refine yG_n (n := 1) (C' := (24, [(0, .inr (.inl 8, 0)), (1, .inl (.inl x1)), (2, .inl (.inl x2))], [.inl (.inl r3.1)], r3.2)) rfl ?_
          exact yG_w [] rfl (t_X8_lawyer_b24 r3.2 r3.1 res h)
set_option maxRecDepth 100000 in
set_option maxHeartbeats 4000000 in
theorem m_X8_lawyer {N : Nat} {X : zXT} (hX : zXok X) (hN : zXn X) (l : Launch) {sh : List yH} : yMet X vwCl yct sh l yX8_lawyer wsX8_lawyer { frames := 3, cells := 0, slots := 0, locals := 110 } (F_X8_lawyer N) :=
  ymeth (tb := tb_X8_lawyer N) (pr := pr_X8_lawyer) (rt := 1) (own := RX8) hX (by decide +kernel) rfl rfl ⟨Nat.le_of_ble_eq_true rfl, Nat.le_of_ble_eq_true rfl⟩
    (zfl_all (fun _ h => absurd h List.not_mem_nil))
    (zco_all (fun _ h => absurd h List.not_mem_nil)) (zlc_all (fun _ h => absurd h List.not_mem_nil))
    (List.forall_mem_cons.mpr ⟨ycal_V hX (m_X8_isHouse hX hN l) rfl (fun s args hts => cwV 1 hts gX8_lawyer_X8_isHouse rfl rfl rfl (by decide +kernel) ⟨Nat.le_of_ble_eq_true rfl, Nat.le_of_ble_eq_true rfl⟩), List.forall_mem_cons.mpr ⟨ycal_V hX (m_X8_becomes hX hN l) rfl (fun s args hts => cwV 2 hts gX8_lawyer_X8_becomes rfl rfl rfl (by decide +kernel) ⟨Nat.le_of_ble_eq_true rfl, Nat.le_of_ble_eq_true rfl⟩), fun _ h => absurd h List.not_mem_nil⟩⟩)
    (List.forall_mem_cons.mpr ⟨ycal_S hX (m_X8_flag hX hN l) (fun s args hts => va_cwS 1 hts gX8_lawyer_X8_flag rfl rfl rfl (by decide +kernel) ⟨Nat.le_of_ble_eq_true rfl, Nat.le_of_ble_eq_true rfl⟩), fun _ h => absurd h List.not_mem_nil⟩)
    (zmm_all (fun _ h => absurd h List.not_mem_nil)) (fun _ h => absurd h List.not_mem_nil) (zpr_all hp_X8_lawyer) (fun as σ res h => by
      unfold F_X8_lawyer at h
      split at h
      · rename_i x1 x2
        cases hr : f_X8_lawyer N σ x1 x2 with
        | none => rw [hr] at h; cases h
        | some r =>
          rw [hr] at h
          cases h
          exact ⟨Nat.le_of_ble_eq_true rfl, t_X8_lawyer σ x1 x2 r hr⟩
      · cases h)
noncomputable def pr_X8_lay : List (Nat × Instr × Nat) := [(0, .iload_n 1, 1), (1, .iconst 0, 1), (2, .invokestatic 323, 3), (5, .ifCond .ne 5, 3), (8, .iconst (-1), 1), (9, .ireturn, 1), (10, .aload_n 0, 1), (11, .getfield 44, 3), (14, .iload_n 1, 1), (15, .iaload, 1), (16, .bipush (-4), 2), (18, .if_icmp .ne 6, 3), (21, .bipush (-11), 2), (23, .ireturn, 1), (24, .iload_n 2, 1), (25, .i2l, 1), (26, .lconst 0, 1), (27, .aload_n 0, 1), (28, .getfield 47, 3), (31, .iload_n 1, 1), (32, .iaload, 1), (33, .iconst 1, 1), (34, .isub, 1), (35, .i2l, 1), (36, .invokestatic 90, 3), (39, .ifCond .ne 6, 3), (42, .bipush (-12), 2), (44, .ireturn, 1), (45, .aload_n 0, 1), (46, .getfield 50, 3), (49, .bipush 40, 2), (51, .iload_n 1, 1), (52, .imul, 1), (53, .iload_n 2, 1), (54, .iadd, 1), (55, .aload_n 0, 1), (56, .getfield 44, 3), (59, .iload_n 1, 1), (60, .iaload, 1), (61, .ifCond .ne 8, 3), (64, .iload_n 3, 1), (65, .i2b, 1), (66, .goto 19, 3), (69, .aload_n 0, 1), (70, .getfield 44, 3), (73, .iload_n 1, 1), (74, .iaload, 1), (75, .iconst 1, 1), (76, .if_icmp .ne 8, 3), (79, .iload_n 3, 1), (80, .i2s, 1), (81, .goto 4, 3), (84, .iload_n 3, 1), (85, .iastore, 1), (86, .iconst 1, 1), (87, .ireturn, 1)]
set_option maxRecDepth 100000 in
theorem hp_X8_lay : pr_X8_lay.all (fun x => decide (decode cX8_lay x.1 = .ok x.2)) = true := by decide +kernel
noncomputable def f_X8_lay_b85 (N : Nat) (σ : yS) (s0 : Int) (s1 : Int) : Option (Int × yS) :=
  bif yin s1 160 then
    some (1, yw σ 14 s1.toNat s0)
  else none
noncomputable def f_X8_lay (N : Nat) (σ : yS) (x1 : Int) (x2 : Int) (x3 : Int) : Option (Int × yS) :=
  match f_X8_isSheet N σ x1 0 with
  | none => none
  | some r1 => bif ycP .ne r1.1 0 then
      bif yin x1 4 then
        bif ycP .ne (r1.2.1 12 x1.toNat) ((-4)) then
          match f_X8_in N r1.2 x2 0 (ysu (r1.2.1 13 x1.toNat) 1) with
          | none => none
          | some r2 => bif ycP .ne r2.1 0 then
              bif ycP .ne (r2.2.1 12 x1.toNat) 0 then
                bif ycP .ne (r2.2.1 12 x1.toNat) 1 then
                  f_X8_lay_b85 N r2.2 x3 (yad (ymu 40 x1) x2)
                else
                  f_X8_lay_b85 N r2.2 (yi16 x3) (yad (ymu 40 x1) x2)
              else
                f_X8_lay_b85 N r2.2 (yi8 x3) (yad (ymu 40 x1) x2)
            else
              some ((-12), r2.2)
        else
          some ((-11), r1.2)
      else none
    else
      some ((-1), r1.2)
noncomputable def F_X8_lay (N : Nat) : yF := fun as σ => match as with
  | [.inr (.inl 8, 0), .inl (.inl x1), .inl (.inl x2), .inl (.inl x3)] => (f_X8_lay N σ x1 x2 x3).map (fun r => (some (.inl (.inl r.1)), r.2))
  | _ => none
theorem e_X8_lay {N : Nat} {σ : yS} {x1 : Int} {x2 : Int} {x3 : Int} {r : Int × yS} (h : f_X8_lay N σ x1 x2 x3 = some r) : F_X8_lay N [.inr (.inl 8, 0), .inl (.inl x1), .inl (.inl x2), .inl (.inl x3)] σ = some (some (.inl (.inl r.1)), r.2) := by
  show (f_X8_lay N σ x1 x2 x3).map (fun r => ((some (.inl (.inl r.1)), r.2) : yR)) = _
  rw [h]
  rfl
noncomputable def tb_X8_lay (N : Nat) : yTb := ([(44, 8, 29, 3), (47, 8, 30, 3), (50, 8, 31, 3)], [], [], [], [(90, 3, F_X8_in N), (323, 2, F_X8_isSheet N)], [], [])
abbrev G_X8_lay (N : Nat) (X : zXT) (sh : List yH) (l : Launch) (rm : Room) : yC → yR → Prop := yGoes X vwCl yct sh l rm cX8_lay 4 wsX8_lay RX8 (tb_X8_lay N) pr_X8_lay 1
set_option maxRecDepth 100000 in
set_option maxHeartbeats 4000000 in
theorem t_X8_lay_b85 {N : Nat} {X : zXT} {sh : List yH} {l : Launch} {rm : Room} (σ : yS) (s0 : Int) (s1 : Int) (res : Int × yS) (h : f_X8_lay_b85 N σ s0 s1 = some res) : G_X8_lay N X sh l rm (85, [], [.inl (.inl s0), .inl (.inl s1), .inr (.inr (0, 160), 14)], σ) (some (.inl (.inl res.1)), res.2) := by
  unfold f_X8_lay_b85 at h
  cases hg1 : yin s1 160 with
  | false => rw [hg1] at h; dsimp only [cond] at h; cases h
  | true =>
    rw [hg1] at h
    dsimp only [cond] at h
    refine yG_t (C' := (86, [], [], yw σ 14 s1.toNat s0)) rfl hg1 ?_
    refine yG_n (n := 1) (C' := (87, [], [.inl (.inl 1)], yw σ 14 s1.toNat s0)) rfl ?_
    have h := Option.some.inj h
    subst h
    dsimp only
    exact yG_r rfl rfl
set_option maxRecDepth 100000 in
set_option maxHeartbeats 4000000 in
theorem t_X8_lay {N : Nat} {X : zXT} {sh : List yH} {l : Launch} {rm : Room} (σ : yS) (x1 : Int) (x2 : Int) (x3 : Int) (res : Int × yS) (h : f_X8_lay N σ x1 x2 x3 = some res) : G_X8_lay N X sh l rm (0, [(0, .inr (.inl 8, 0)), (1, .inl (.inl x1)), (2, .inl (.inl x2)), (3, .inl (.inl x3))], [], σ) (some (.inl (.inl res.1)), res.2) := by
  unfold f_X8_lay at h
  refine yG_n (n := 2) (C' := (2, [(0, .inr (.inl 8, 0)), (1, .inl (.inl x1)), (2, .inl (.inl x2)), (3, .inl (.inl x3))], [.inl (.inl 0), .inl (.inl x1)], σ)) rfl ?_
  cases hr2 : f_X8_isSheet N σ x1 0 with
  | none => rw [hr2] at h; dsimp only at h; cases h
  | some r1 =>
    rw [hr2] at h
    dsimp only at h
    refine yG_c (C1 := (5, [(0, .inr (.inl 8, 0)), (1, .inl (.inl x1)), (2, .inl (.inl x2)), (3, .inl (.inl x3))], [.inl (.inl r1.1)], r1.2)) rfl (e_X8_isSheet hr2) rfl ?_
    cases hg3 : ycP .ne r1.1 0 with
    | true =>
      rw [hg3] at h
      dsimp only [cond] at h
      refine yG_t (C' := (10, [(0, .inr (.inl 8, 0)), (1, .inl (.inl x1)), (2, .inl (.inl x2)), (3, .inl (.inl x3))], [], r1.2)) rfl hg3 ?_
      refine yG_n (n := 3) (C' := (15, [(0, .inr (.inl 8, 0)), (1, .inl (.inl x1)), (2, .inl (.inl x2)), (3, .inl (.inl x3))], [.inl (.inl x1), .inr (.inr (0, 4), 12)], r1.2)) rfl ?_
      cases hg4 : yin x1 4 with
      | false => rw [hg4] at h; dsimp only [cond] at h; cases h
      | true =>
        rw [hg4] at h
        dsimp only [cond] at h
        refine yG_t (C' := (16, [(0, .inr (.inl 8, 0)), (1, .inl (.inl x1)), (2, .inl (.inl x2)), (3, .inl (.inl x3))], [.inl (.inl (r1.2.1 12 x1.toNat))], r1.2)) rfl hg4 ?_
        refine yG_n (n := 1) (C' := (18, [(0, .inr (.inl 8, 0)), (1, .inl (.inl x1)), (2, .inl (.inl x2)), (3, .inl (.inl x3))], [.inl (.inl ((-4))), .inl (.inl (r1.2.1 12 x1.toNat))], r1.2)) rfl ?_
        cases hg5 : ycP .ne (r1.2.1 12 x1.toNat) ((-4)) with
        | true =>
          rw [hg5] at h
          dsimp only [cond] at h
          refine yG_t (C' := (24, [(0, .inr (.inl 8, 0)), (1, .inl (.inl x1)), (2, .inl (.inl x2)), (3, .inl (.inl x3))], [], r1.2)) rfl hg5 ?_
          refine yG_n (n := 6) (C' := (32, [(0, .inr (.inl 8, 0)), (1, .inl (.inl x1)), (2, .inl (.inl x2)), (3, .inl (.inl x3))], [.inl (.inl x1), .inr (.inr (0, 4), 13), .inl (.inr 0), .inl (.inr x2)], r1.2)) rfl ?_
          refine yG_t (C' := (33, [(0, .inr (.inl 8, 0)), (1, .inl (.inl x1)), (2, .inl (.inl x2)), (3, .inl (.inl x3))], [.inl (.inl (r1.2.1 13 x1.toNat)), .inl (.inr 0), .inl (.inr x2)], r1.2)) rfl hg4 ?_
          refine yG_n (n := 3) (C' := (36, [(0, .inr (.inl 8, 0)), (1, .inl (.inl x1)), (2, .inl (.inl x2)), (3, .inl (.inl x3))], [.inl (.inr (ysu (r1.2.1 13 x1.toNat) 1)), .inl (.inr 0), .inl (.inr x2)], r1.2)) rfl ?_
          cases hr6 : f_X8_in N r1.2 x2 0 (ysu (r1.2.1 13 x1.toNat) 1) with
          | none => rw [hr6] at h; dsimp only at h; cases h
          | some r2 =>
            rw [hr6] at h
            dsimp only at h
            refine yG_c (C1 := (39, [(0, .inr (.inl 8, 0)), (1, .inl (.inl x1)), (2, .inl (.inl x2)), (3, .inl (.inl x3))], [.inl (.inl r2.1)], r2.2)) rfl (e_X8_in hr6) rfl ?_
            cases hg7 : ycP .ne r2.1 0 with
            | true =>
              rw [hg7] at h
              dsimp only [cond] at h
              refine yG_t (C' := (45, [(0, .inr (.inl 8, 0)), (1, .inl (.inl x1)), (2, .inl (.inl x2)), (3, .inl (.inl x3))], [], r2.2)) rfl hg7 ?_
              refine yG_n (n := 10) (C' := (60, [(0, .inr (.inl 8, 0)), (1, .inl (.inl x1)), (2, .inl (.inl x2)), (3, .inl (.inl x3))], [.inl (.inl x1), .inr (.inr (0, 4), 12), .inl (.inl (yad (ymu 40 x1) x2)), .inr (.inr (0, 160), 14)], r2.2)) rfl ?_
              refine yG_t (C' := (61, [(0, .inr (.inl 8, 0)), (1, .inl (.inl x1)), (2, .inl (.inl x2)), (3, .inl (.inl x3))], [.inl (.inl (r2.2.1 12 x1.toNat)), .inl (.inl (yad (ymu 40 x1) x2)), .inr (.inr (0, 160), 14)], r2.2)) rfl hg4 ?_
              cases hg8 : ycP .ne (r2.2.1 12 x1.toNat) 0 with
              | true =>
                rw [hg8] at h
                dsimp only [cond] at h
                refine yG_t (C' := (69, [(0, .inr (.inl 8, 0)), (1, .inl (.inl x1)), (2, .inl (.inl x2)), (3, .inl (.inl x3))], [.inl (.inl (yad (ymu 40 x1) x2)), .inr (.inr (0, 160), 14)], r2.2)) rfl hg8 ?_
                refine yG_n (n := 3) (C' := (74, [(0, .inr (.inl 8, 0)), (1, .inl (.inl x1)), (2, .inl (.inl x2)), (3, .inl (.inl x3))], [.inl (.inl x1), .inr (.inr (0, 4), 12), .inl (.inl (yad (ymu 40 x1) x2)), .inr (.inr (0, 160), 14)], r2.2)) rfl ?_
                refine yG_t (C' := (75, [(0, .inr (.inl 8, 0)), (1, .inl (.inl x1)), (2, .inl (.inl x2)), (3, .inl (.inl x3))], [.inl (.inl (r2.2.1 12 x1.toNat)), .inl (.inl (yad (ymu 40 x1) x2)), .inr (.inr (0, 160), 14)], r2.2)) rfl hg4 ?_
                refine yG_n (n := 1) (C' := (76, [(0, .inr (.inl 8, 0)), (1, .inl (.inl x1)), (2, .inl (.inl x2)), (3, .inl (.inl x3))], [.inl (.inl 1), .inl (.inl (r2.2.1 12 x1.toNat)), .inl (.inl (yad (ymu 40 x1) x2)), .inr (.inr (0, 160), 14)], r2.2)) rfl ?_
                cases hg9 : ycP .ne (r2.2.1 12 x1.toNat) 1 with
                | true =>
                  rw [hg9] at h
                  dsimp only [cond] at h
                  refine yG_t (C' := (84, [(0, .inr (.inl 8, 0)), (1, .inl (.inl x1)), (2, .inl (.inl x2)), (3, .inl (.inl x3))], [.inl (.inl (yad (ymu 40 x1) x2)), .inr (.inr (0, 160), 14)], r2.2)) rfl hg9 ?_
                  refine yG_n (n := 1) (C' := (85, [(0, .inr (.inl 8, 0)), (1, .inl (.inl x1)), (2, .inl (.inl x2)), (3, .inl (.inl x3))], [.inl (.inl x3), .inl (.inl (yad (ymu 40 x1) x2)), .inr (.inr (0, 160), 14)], r2.2)) rfl ?_
                  exact yG_w [] rfl (t_X8_lay_b85 r2.2 x3 (yad (ymu 40 x1) x2) res h)
                | false =>
                  rw [hg9] at h
                  dsimp only [cond] at h
                  refine yG_f (C' := (79, [(0, .inr (.inl 8, 0)), (1, .inl (.inl x1)), (2, .inl (.inl x2)), (3, .inl (.inl x3))], [.inl (.inl (yad (ymu 40 x1) x2)), .inr (.inr (0, 160), 14)], r2.2)) rfl hg9 ?_
                  refine yG_n (n := 3) (C' := (85, [(0, .inr (.inl 8, 0)), (1, .inl (.inl x1)), (2, .inl (.inl x2)), (3, .inl (.inl x3))], [.inl (.inl (yi16 x3)), .inl (.inl (yad (ymu 40 x1) x2)), .inr (.inr (0, 160), 14)], r2.2)) rfl ?_
                  exact yG_w [] rfl (t_X8_lay_b85 r2.2 (yi16 x3) (yad (ymu 40 x1) x2) res h)
              | false =>
                rw [hg8] at h
                dsimp only [cond] at h
                refine yG_f (C' := (64, [(0, .inr (.inl 8, 0)), (1, .inl (.inl x1)), (2, .inl (.inl x2)), (3, .inl (.inl x3))], [.inl (.inl (yad (ymu 40 x1) x2)), .inr (.inr (0, 160), 14)], r2.2)) rfl hg8 ?_
                refine yG_n (n := 3) (C' := (85, [(0, .inr (.inl 8, 0)), (1, .inl (.inl x1)), (2, .inl (.inl x2)), (3, .inl (.inl x3))], [.inl (.inl (yi8 x3)), .inl (.inl (yad (ymu 40 x1) x2)), .inr (.inr (0, 160), 14)], r2.2)) rfl ?_
                exact yG_w [] rfl (t_X8_lay_b85 r2.2 (yi8 x3) (yad (ymu 40 x1) x2) res h)
            | false =>
              rw [hg7] at h
              dsimp only [cond] at h
              refine yG_f (C' := (42, [(0, .inr (.inl 8, 0)), (1, .inl (.inl x1)), (2, .inl (.inl x2)), (3, .inl (.inl x3))], [], r2.2)) rfl hg7 ?_
              refine yG_n (n := 1) (C' := (44, [(0, .inr (.inl 8, 0)), (1, .inl (.inl x1)), (2, .inl (.inl x2)), (3, .inl (.inl x3))], [.inl (.inl ((-12)))], r2.2)) rfl ?_
              have h := Option.some.inj h
              subst h
              dsimp only
              exact yG_r rfl rfl
        | false =>
          rw [hg5] at h
          dsimp only [cond] at h
          refine yG_f (C' := (21, [(0, .inr (.inl 8, 0)), (1, .inl (.inl x1)), (2, .inl (.inl x2)), (3, .inl (.inl x3))], [], r1.2)) rfl hg5 ?_
          refine yG_n (n := 1) (C' := (23, [(0, .inr (.inl 8, 0)), (1, .inl (.inl x1)), (2, .inl (.inl x2)), (3, .inl (.inl x3))], [.inl (.inl ((-11)))], r1.2)) rfl ?_
          have h := Option.some.inj h
          subst h
          dsimp only
          exact yG_r rfl rfl
    | false =>
      rw [hg3] at h
      dsimp only [cond] at h
      refine yG_f (C' := (8, [(0, .inr (.inl 8, 0)), (1, .inl (.inl x1)), (2, .inl (.inl x2)), (3, .inl (.inl x3))], [], r1.2)) rfl hg3 ?_
      refine yG_n (n := 1) (C' := (9, [(0, .inr (.inl 8, 0)), (1, .inl (.inl x1)), (2, .inl (.inl x2)), (3, .inl (.inl x3))], [.inl (.inl ((-1)))], r1.2)) rfl ?_
      have h := Option.some.inj h
      subst h
      dsimp only
      exact yG_r rfl rfl
set_option maxRecDepth 100000 in
set_option maxHeartbeats 4000000 in
theorem m_X8_lay {N : Nat} {X : zXT} (hX : zXok X) (hN : zXn X) (l : Launch) {sh : List yH} : yMet X vwCl yct sh l yX8_lay wsX8_lay { frames := 3, cells := 0, slots := 0, locals := 110 } (F_X8_lay N) :=
  ymeth (tb := tb_X8_lay N) (pr := pr_X8_lay) (rt := 1) (own := RX8) hX (by decide +kernel) rfl rfl ⟨Nat.le_of_ble_eq_true rfl, Nat.le_of_ble_eq_true rfl⟩
    (zfl_all (List.forall_mem_cons.mpr ⟨zfl_X8 (fun w h => List.mem_cons_of_mem _ (List.mem_append_right _ h)) (List.mem_of_getElem? (i := 1) rfl) (by decide) (by decide), List.forall_mem_cons.mpr ⟨zfl_X8 (fun w h => List.mem_cons_of_mem _ (List.mem_append_right _ h)) (List.mem_of_getElem? (i := 2) rfl) (by decide) (by decide), List.forall_mem_cons.mpr ⟨zfl_X8 (fun w h => List.mem_cons_of_mem _ (List.mem_append_right _ h)) (List.mem_of_getElem? (i := 3) rfl) (by decide) (by decide), fun _ h => absurd h List.not_mem_nil⟩⟩⟩))
    (zco_all (fun _ h => absurd h List.not_mem_nil)) (zlc_all (fun _ h => absurd h List.not_mem_nil))
    (fun _ h => absurd h List.not_mem_nil)
    (List.forall_mem_cons.mpr ⟨ycal_S hX (m_X8_in hX hN l) (fun s args hts => va_cwS 3 hts gX8_lay_X8_in rfl rfl rfl (by decide +kernel) ⟨Nat.le_of_ble_eq_true rfl, Nat.le_of_ble_eq_true rfl⟩), List.forall_mem_cons.mpr ⟨ycal_S hX (m_X8_isSheet hX hN l) (fun s args hts => va_cwS 2 hts gX8_lay_X8_isSheet rfl rfl rfl (by decide +kernel) ⟨Nat.le_of_ble_eq_true rfl, Nat.le_of_ble_eq_true rfl⟩), fun _ h => absurd h List.not_mem_nil⟩⟩)
    (zmm_all (fun _ h => absurd h List.not_mem_nil)) (fun _ h => absurd h List.not_mem_nil) (zpr_all hp_X8_lay) (fun as σ res h => by
      unfold F_X8_lay at h
      split at h
      · rename_i x1 x2 x3
        cases hr : f_X8_lay N σ x1 x2 x3 with
        | none => rw [hr] at h; cases h
        | some r =>
          rw [hr] at h
          cases h
          exact ⟨Nat.le_of_ble_eq_true rfl, t_X8_lay σ x1 x2 x3 r hr⟩
      · cases h)
noncomputable def pr_X8_ofHouses : List (Nat × Instr × Nat) := [(0, .aload_n 0, 1), (1, .iconst 5, 1), (2, .bipush 104, 2), (4, .bipush 111, 2), (6, .bipush 117, 2), (8, .invokevirtual 113, 3), (11, .ifCond .eq 17, 3), (14, .aload_n 0, 1), (15, .bipush 115, 2), (17, .bipush 101, 2), (19, .iconst 0, 1), (20, .invokevirtual 117, 3), (23, .ifCond .eq 5, 3), (26, .iconst 0, 1), (27, .ireturn, 1), (28, .aload_n 0, 1), (29, .bipush 6, 2), (31, .bipush 108, 2), (33, .bipush 97, 2), (35, .bipush 119, 2), (37, .invokevirtual 113, 3), (40, .ifCond .eq 18, 3), (43, .aload_n 0, 1), (44, .bipush 121, 2), (46, .bipush 101, 2), (48, .bipush 114, 2), (50, .invokevirtual 117, 3), (53, .ifCond .eq 5, 3), (56, .iconst 1, 1), (57, .ireturn, 1), (58, .aload_n 0, 1), (59, .iconst 5, 1), (60, .bipush 104, 2), (62, .bipush 97, 2), (64, .bipush 98, 2), (66, .invokevirtual 113, 3), (69, .ifCond .eq 19, 3), (72, .aload_n 0, 1), (73, .bipush 105, 2), (75, .bipush 116, 2), (77, .iconst 0, 1), (78, .invokevirtual 117, 3), (81, .ifCond .eq 7, 3), (84, .iconst 2, 1), (85, .goto 5, 3), (88, .bipush (-4), 2), (90, .ireturn, 1)]
set_option maxRecDepth 100000 in
theorem hp_X8_ofHouses : pr_X8_ofHouses.all (fun x => decide (decode cX8_ofHouses x.1 = .ok x.2)) = true := by decide +kernel
noncomputable def f_X8_ofHouses_b90 (N : Nat) (σ : yS) (s0 : Int) : Option (Int × yS) :=
  some (s0, σ)
noncomputable def f_X8_ofHouses_b88 (N : Nat) (σ : yS) : Option (Int × yS) :=
  f_X8_ofHouses_b90 N σ ((-4))
noncomputable def f_X8_ofHouses_b58 (N : Nat) (σ : yS) : Option (Int × yS) :=
  match f_X8_is N σ 5 104 97 98 with
  | none => none
  | some r3 => bif ycP .eq r3.1 0 then
      f_X8_ofHouses_b88 N r3.2
    else
      match f_X8_ends N r3.2 105 116 0 with
      | none => none
      | some r4 => bif ycP .eq r4.1 0 then
          f_X8_ofHouses_b88 N r4.2
        else
          f_X8_ofHouses_b90 N r4.2 2
noncomputable def f_X8_ofHouses_b28 (N : Nat) (σ : yS) : Option (Int × yS) :=
  match f_X8_is N σ 6 108 97 119 with
  | none => none
  | some r2 => bif ycP .eq r2.1 0 then
      f_X8_ofHouses_b58 N r2.2
    else
      match f_X8_ends N r2.2 121 101 114 with
      | none => none
      | some r5 => bif ycP .eq r5.1 0 then
          f_X8_ofHouses_b58 N r5.2
        else
          some (1, r5.2)
noncomputable def f_X8_ofHouses (N : Nat) (σ : yS) : Option (Int × yS) :=
  match f_X8_is N σ 5 104 111 117 with
  | none => none
  | some r1 => bif ycP .eq r1.1 0 then
      f_X8_ofHouses_b28 N r1.2
    else
      match f_X8_ends N r1.2 115 101 0 with
      | none => none
      | some r6 => bif ycP .eq r6.1 0 then
          f_X8_ofHouses_b28 N r6.2
        else
          some (0, r6.2)
noncomputable def F_X8_ofHouses (N : Nat) : yF := fun as σ => match as with
  | [.inr (.inl 8, 0)] => (f_X8_ofHouses N σ).map (fun r => (some (.inl (.inl r.1)), r.2))
  | _ => none
theorem e_X8_ofHouses {N : Nat} {σ : yS} {r : Int × yS} (h : f_X8_ofHouses N σ = some r) : F_X8_ofHouses N [.inr (.inl 8, 0)] σ = some (some (.inl (.inl r.1)), r.2) := by
  show (f_X8_ofHouses N σ).map (fun r => ((some (.inl (.inl r.1)), r.2) : yR)) = _
  rw [h]
  rfl
noncomputable def tb_X8_ofHouses (N : Nat) : yTb := ([], [], [], [(113, 5, 8, F_X8_is N), (117, 4, 8, F_X8_ends N)], [], [], [])
abbrev G_X8_ofHouses (N : Nat) (X : zXT) (sh : List yH) (l : Launch) (rm : Room) : yC → yR → Prop := yGoes X vwCl yct sh l rm cX8_ofHouses 1 wsX8_ofHouses RX8 (tb_X8_ofHouses N) pr_X8_ofHouses 1
set_option maxRecDepth 100000 in
set_option maxHeartbeats 4000000 in
theorem t_X8_ofHouses_b90 {N : Nat} {X : zXT} {sh : List yH} {l : Launch} {rm : Room} (σ : yS) (s0 : Int) (res : Int × yS) (h : f_X8_ofHouses_b90 N σ s0 = some res) : G_X8_ofHouses N X sh l rm (90, [], [.inl (.inl s0)], σ) (some (.inl (.inl res.1)), res.2) := by
  unfold f_X8_ofHouses_b90 at h
  have h := Option.some.inj h
  subst h
  dsimp only
  exact yG_r rfl rfl
set_option maxRecDepth 100000 in
set_option maxHeartbeats 4000000 in
theorem t_X8_ofHouses_b88 {N : Nat} {X : zXT} {sh : List yH} {l : Launch} {rm : Room} (σ : yS) (res : Int × yS) (h : f_X8_ofHouses_b88 N σ = some res) : G_X8_ofHouses N X sh l rm (88, [], [], σ) (some (.inl (.inl res.1)), res.2) := by
  unfold f_X8_ofHouses_b88 at h
  refine yG_n (n := 1) (C' := (90, [], [.inl (.inl ((-4)))], σ)) rfl ?_
  exact t_X8_ofHouses_b90 σ ((-4)) res h
set_option maxRecDepth 100000 in
set_option maxHeartbeats 4000000 in
theorem t_X8_ofHouses_b58 {N : Nat} {X : zXT} {sh : List yH} {l : Launch} {rm : Room} (σ : yS) (res : Int × yS) (h : f_X8_ofHouses_b58 N σ = some res) : G_X8_ofHouses N X sh l rm (58, [(0, .inr (.inl 8, 0))], [], σ) (some (.inl (.inl res.1)), res.2) := by
  unfold f_X8_ofHouses_b58 at h
  refine yG_n (n := 5) (C' := (66, [(0, .inr (.inl 8, 0))], [.inl (.inl 98), .inl (.inl 97), .inl (.inl 104), .inl (.inl 5), .inr (.inl 8, 0)], σ)) rfl ?_
  cases hr1 : f_X8_is N σ 5 104 97 98 with
  | none => rw [hr1] at h; dsimp only at h; cases h
  | some r3 =>
    rw [hr1] at h
    dsimp only at h
    refine yG_c (C1 := (69, [(0, .inr (.inl 8, 0))], [.inl (.inl r3.1)], r3.2)) rfl (e_X8_is hr1) rfl ?_
    cases hg2 : ycP .eq r3.1 0 with
    | true =>
      rw [hg2] at h
      dsimp only [cond] at h
      refine yG_t (C' := (88, [(0, .inr (.inl 8, 0))], [], r3.2)) rfl hg2 ?_
      exact yG_w [] rfl (t_X8_ofHouses_b88 r3.2 res h)
    | false =>
      rw [hg2] at h
      dsimp only [cond] at h
      refine yG_f (C' := (72, [(0, .inr (.inl 8, 0))], [], r3.2)) rfl hg2 ?_
      refine yG_n (n := 4) (C' := (78, [(0, .inr (.inl 8, 0))], [.inl (.inl 0), .inl (.inl 116), .inl (.inl 105), .inr (.inl 8, 0)], r3.2)) rfl ?_
      cases hr3 : f_X8_ends N r3.2 105 116 0 with
      | none => rw [hr3] at h; dsimp only at h; cases h
      | some r4 =>
        rw [hr3] at h
        dsimp only at h
        refine yG_c (C1 := (81, [(0, .inr (.inl 8, 0))], [.inl (.inl r4.1)], r4.2)) rfl (e_X8_ends hr3) rfl ?_
        cases hg4 : ycP .eq r4.1 0 with
        | true =>
          rw [hg4] at h
          dsimp only [cond] at h
          refine yG_t (C' := (88, [(0, .inr (.inl 8, 0))], [], r4.2)) rfl hg4 ?_
          exact yG_w [] rfl (t_X8_ofHouses_b88 r4.2 res h)
        | false =>
          rw [hg4] at h
          dsimp only [cond] at h
          refine yG_f (C' := (84, [(0, .inr (.inl 8, 0))], [], r4.2)) rfl hg4 ?_
          refine yG_n (n := 2) (C' := (90, [(0, .inr (.inl 8, 0))], [.inl (.inl 2)], r4.2)) rfl ?_
          exact yG_w [] rfl (t_X8_ofHouses_b90 r4.2 2 res h)
set_option maxRecDepth 100000 in
set_option maxHeartbeats 4000000 in
theorem t_X8_ofHouses_b28 {N : Nat} {X : zXT} {sh : List yH} {l : Launch} {rm : Room} (σ : yS) (res : Int × yS) (h : f_X8_ofHouses_b28 N σ = some res) : G_X8_ofHouses N X sh l rm (28, [(0, .inr (.inl 8, 0))], [], σ) (some (.inl (.inl res.1)), res.2) := by
  unfold f_X8_ofHouses_b28 at h
  refine yG_n (n := 5) (C' := (37, [(0, .inr (.inl 8, 0))], [.inl (.inl 119), .inl (.inl 97), .inl (.inl 108), .inl (.inl 6), .inr (.inl 8, 0)], σ)) rfl ?_
  cases hr5 : f_X8_is N σ 6 108 97 119 with
  | none => rw [hr5] at h; dsimp only at h; cases h
  | some r2 =>
    rw [hr5] at h
    dsimp only at h
    refine yG_c (C1 := (40, [(0, .inr (.inl 8, 0))], [.inl (.inl r2.1)], r2.2)) rfl (e_X8_is hr5) rfl ?_
    cases hg6 : ycP .eq r2.1 0 with
    | true =>
      rw [hg6] at h
      dsimp only [cond] at h
      refine yG_t (C' := (58, [(0, .inr (.inl 8, 0))], [], r2.2)) rfl hg6 ?_
      exact t_X8_ofHouses_b58 r2.2 res h
    | false =>
      rw [hg6] at h
      dsimp only [cond] at h
      refine yG_f (C' := (43, [(0, .inr (.inl 8, 0))], [], r2.2)) rfl hg6 ?_
      refine yG_n (n := 4) (C' := (50, [(0, .inr (.inl 8, 0))], [.inl (.inl 114), .inl (.inl 101), .inl (.inl 121), .inr (.inl 8, 0)], r2.2)) rfl ?_
      cases hr7 : f_X8_ends N r2.2 121 101 114 with
      | none => rw [hr7] at h; dsimp only at h; cases h
      | some r5 =>
        rw [hr7] at h
        dsimp only at h
        refine yG_c (C1 := (53, [(0, .inr (.inl 8, 0))], [.inl (.inl r5.1)], r5.2)) rfl (e_X8_ends hr7) rfl ?_
        cases hg8 : ycP .eq r5.1 0 with
        | true =>
          rw [hg8] at h
          dsimp only [cond] at h
          refine yG_t (C' := (58, [(0, .inr (.inl 8, 0))], [], r5.2)) rfl hg8 ?_
          exact t_X8_ofHouses_b58 r5.2 res h
        | false =>
          rw [hg8] at h
          dsimp only [cond] at h
          refine yG_f (C' := (56, [(0, .inr (.inl 8, 0))], [], r5.2)) rfl hg8 ?_
          refine yG_n (n := 1) (C' := (57, [(0, .inr (.inl 8, 0))], [.inl (.inl 1)], r5.2)) rfl ?_
          have h := Option.some.inj h
          subst h
          dsimp only
          exact yG_r rfl rfl
set_option maxRecDepth 100000 in
set_option maxHeartbeats 4000000 in
theorem t_X8_ofHouses {N : Nat} {X : zXT} {sh : List yH} {l : Launch} {rm : Room} (σ : yS) (res : Int × yS) (h : f_X8_ofHouses N σ = some res) : G_X8_ofHouses N X sh l rm (0, [(0, .inr (.inl 8, 0))], [], σ) (some (.inl (.inl res.1)), res.2) := by
  unfold f_X8_ofHouses at h
  refine yG_n (n := 5) (C' := (8, [(0, .inr (.inl 8, 0))], [.inl (.inl 117), .inl (.inl 111), .inl (.inl 104), .inl (.inl 5), .inr (.inl 8, 0)], σ)) rfl ?_
  cases hr9 : f_X8_is N σ 5 104 111 117 with
  | none => rw [hr9] at h; dsimp only at h; cases h
  | some r1 =>
    rw [hr9] at h
    dsimp only at h
    refine yG_c (C1 := (11, [(0, .inr (.inl 8, 0))], [.inl (.inl r1.1)], r1.2)) rfl (e_X8_is hr9) rfl ?_
    cases hg10 : ycP .eq r1.1 0 with
    | true =>
      rw [hg10] at h
      dsimp only [cond] at h
      refine yG_t (C' := (28, [(0, .inr (.inl 8, 0))], [], r1.2)) rfl hg10 ?_
      exact t_X8_ofHouses_b28 r1.2 res h
    | false =>
      rw [hg10] at h
      dsimp only [cond] at h
      refine yG_f (C' := (14, [(0, .inr (.inl 8, 0))], [], r1.2)) rfl hg10 ?_
      refine yG_n (n := 4) (C' := (20, [(0, .inr (.inl 8, 0))], [.inl (.inl 0), .inl (.inl 101), .inl (.inl 115), .inr (.inl 8, 0)], r1.2)) rfl ?_
      cases hr11 : f_X8_ends N r1.2 115 101 0 with
      | none => rw [hr11] at h; dsimp only at h; cases h
      | some r6 =>
        rw [hr11] at h
        dsimp only at h
        refine yG_c (C1 := (23, [(0, .inr (.inl 8, 0))], [.inl (.inl r6.1)], r6.2)) rfl (e_X8_ends hr11) rfl ?_
        cases hg12 : ycP .eq r6.1 0 with
        | true =>
          rw [hg12] at h
          dsimp only [cond] at h
          refine yG_t (C' := (28, [(0, .inr (.inl 8, 0))], [], r6.2)) rfl hg12 ?_
          exact t_X8_ofHouses_b28 r6.2 res h
        | false =>
          rw [hg12] at h
          dsimp only [cond] at h
          refine yG_f (C' := (26, [(0, .inr (.inl 8, 0))], [], r6.2)) rfl hg12 ?_
          refine yG_n (n := 1) (C' := (27, [(0, .inr (.inl 8, 0))], [.inl (.inl 0)], r6.2)) rfl ?_
          have h := Option.some.inj h
          subst h
          dsimp only
          exact yG_r rfl rfl
set_option maxRecDepth 100000 in
set_option maxHeartbeats 4000000 in
theorem m_X8_ofHouses {N : Nat} {X : zXT} (hX : zXok X) (hN : zXn X) (l : Launch) {sh : List yH} : yMet X vwCl yct sh l yX8_ofHouses wsX8_ofHouses { frames := 3, cells := 0, slots := 0, locals := 109 } (F_X8_ofHouses N) :=
  ymeth (tb := tb_X8_ofHouses N) (pr := pr_X8_ofHouses) (rt := 1) (own := RX8) hX (by decide +kernel) rfl rfl ⟨Nat.le_of_ble_eq_true rfl, Nat.le_of_ble_eq_true rfl⟩
    (zfl_all (fun _ h => absurd h List.not_mem_nil))
    (zco_all (fun _ h => absurd h List.not_mem_nil)) (zlc_all (fun _ h => absurd h List.not_mem_nil))
    (List.forall_mem_cons.mpr ⟨ycal_V hX (m_X8_is hX hN l) rfl (fun s args hts => cwV 4 hts gX8_ofHouses_X8_is rfl rfl rfl (by decide +kernel) ⟨Nat.le_of_ble_eq_true rfl, Nat.le_of_ble_eq_true rfl⟩), List.forall_mem_cons.mpr ⟨ycal_V hX (m_X8_ends hX hN l) rfl (fun s args hts => cwV 3 hts gX8_ofHouses_X8_ends rfl rfl rfl (by decide +kernel) ⟨Nat.le_of_ble_eq_true rfl, Nat.le_of_ble_eq_true rfl⟩), fun _ h => absurd h List.not_mem_nil⟩⟩)
    (fun _ h => absurd h List.not_mem_nil)
    (zmm_all (fun _ h => absurd h List.not_mem_nil)) (fun _ h => absurd h List.not_mem_nil) (zpr_all hp_X8_ofHouses) (fun as σ res h => by
      unfold F_X8_ofHouses at h
      split at h
      · cases hr : f_X8_ofHouses N σ with
        | none => rw [hr] at h; cases h
        | some r =>
          rw [hr] at h
          cases h
          exact ⟨Nat.le_of_ble_eq_true rfl, t_X8_ofHouses σ r hr⟩
      · cases h)
noncomputable def pr_X8_lineNow : List (Nat × Instr × Nat) := [(0, .aload_n 0, 1), (1, .iconst 3, 1), (2, .bipush 114, 2), (4, .bipush 111, 2), (6, .bipush 119, 2), (8, .invokevirtual 113, 3), (11, .ifCond .eq 5, 3), (14, .iconst 3, 1), (15, .ireturn, 1), (16, .aload_n 0, 1), (17, .iconst 4, 1), (18, .bipush 114, 2), (20, .bipush 105, 2), (22, .bipush 110, 2), (24, .invokevirtual 113, 3), (27, .ifCond .eq 16, 3), (30, .aload_n 0, 1), (31, .bipush 103, 2), (33, .iconst 0, 1), (34, .iconst 0, 1), (35, .invokevirtual 117, 3), (38, .ifCond .eq 5, 3), (41, .iconst 4, 1), (42, .ireturn, 1), (43, .aload_n 0, 1), (44, .iconst 4, 1), (45, .bipush 100, 2), (47, .bipush 101, 2), (49, .bipush 101, 2), (51, .invokevirtual 113, 3), (54, .ifCond .eq 16, 3), (57, .aload_n 0, 1), (58, .bipush 100, 2), (60, .iconst 0, 1), (61, .iconst 0, 1), (62, .invokevirtual 117, 3), (65, .ifCond .eq 5, 3), (68, .iconst 5, 1), (69, .ireturn, 1), (70, .aload_n 0, 1), (71, .iconst 3, 1), (72, .bipush 118, 2), (74, .bipush 111, 2), (76, .bipush 119, 2), (78, .invokevirtual 113, 3), (81, .ifCond .eq 6, 3), (84, .bipush 6, 2), (86, .ireturn, 1), (87, .aload_n 0, 1), (88, .iconst 4, 1), (89, .bipush 119, 2), (91, .bipush 97, 2), (93, .bipush 110, 2), (95, .invokevirtual 113, 3), (98, .ifCond .eq 19, 3), (101, .aload_n 0, 1), (102, .bipush 116, 2), (104, .iconst 0, 1), (105, .iconst 0, 1), (106, .invokevirtual 117, 3), (109, .ifCond .eq 8, 3), (112, .bipush 7, 2), (114, .goto 7, 3), (117, .aload_n 0, 1), (118, .invokevirtual 121, 3), (121, .ireturn, 1)]
set_option maxRecDepth 100000 in
theorem hp_X8_lineNow : pr_X8_lineNow.all (fun x => decide (decode cX8_lineNow x.1 = .ok x.2)) = true := by decide +kernel
noncomputable def f_X8_lineNow_b121 (N : Nat) (σ : yS) (s0 : Int) : Option (Int × yS) :=
  some (s0, σ)
noncomputable def f_X8_lineNow_b117 (N : Nat) (σ : yS) : Option (Int × yS) :=
  match f_X8_ofHouses N σ with
  | none => none
  | some r6 => f_X8_lineNow_b121 N r6.2 r6.1
noncomputable def f_X8_lineNow_b70 (N : Nat) (σ : yS) : Option (Int × yS) :=
  match f_X8_is N σ 3 118 111 119 with
  | none => none
  | some r4 => bif ycP .eq r4.1 0 then
      match f_X8_is N r4.2 4 119 97 110 with
      | none => none
      | some r5 => bif ycP .eq r5.1 0 then
          f_X8_lineNow_b117 N r5.2
        else
          match f_X8_ends N r5.2 116 0 0 with
          | none => none
          | some r7 => bif ycP .eq r7.1 0 then
              f_X8_lineNow_b117 N r7.2
            else
              f_X8_lineNow_b121 N r7.2 7
    else
      some (6, r4.2)
noncomputable def f_X8_lineNow_b43 (N : Nat) (σ : yS) : Option (Int × yS) :=
  match f_X8_is N σ 4 100 101 101 with
  | none => none
  | some r3 => bif ycP .eq r3.1 0 then
      f_X8_lineNow_b70 N r3.2
    else
      match f_X8_ends N r3.2 100 0 0 with
      | none => none
      | some r8 => bif ycP .eq r8.1 0 then
          f_X8_lineNow_b70 N r8.2
        else
          some (5, r8.2)
noncomputable def f_X8_lineNow (N : Nat) (σ : yS) : Option (Int × yS) :=
  match f_X8_is N σ 3 114 111 119 with
  | none => none
  | some r1 => bif ycP .eq r1.1 0 then
      match f_X8_is N r1.2 4 114 105 110 with
      | none => none
      | some r2 => bif ycP .eq r2.1 0 then
          f_X8_lineNow_b43 N r2.2
        else
          match f_X8_ends N r2.2 103 0 0 with
          | none => none
          | some r9 => bif ycP .eq r9.1 0 then
              f_X8_lineNow_b43 N r9.2
            else
              some (4, r9.2)
    else
      some (3, r1.2)
noncomputable def F_X8_lineNow (N : Nat) : yF := fun as σ => match as with
  | [.inr (.inl 8, 0)] => (f_X8_lineNow N σ).map (fun r => (some (.inl (.inl r.1)), r.2))
  | _ => none
theorem e_X8_lineNow {N : Nat} {σ : yS} {r : Int × yS} (h : f_X8_lineNow N σ = some r) : F_X8_lineNow N [.inr (.inl 8, 0)] σ = some (some (.inl (.inl r.1)), r.2) := by
  show (f_X8_lineNow N σ).map (fun r => ((some (.inl (.inl r.1)), r.2) : yR)) = _
  rw [h]
  rfl
noncomputable def tb_X8_lineNow (N : Nat) : yTb := ([], [], [], [(113, 5, 8, F_X8_is N), (117, 4, 8, F_X8_ends N), (121, 1, 8, F_X8_ofHouses N)], [], [], [])
abbrev G_X8_lineNow (N : Nat) (X : zXT) (sh : List yH) (l : Launch) (rm : Room) : yC → yR → Prop := yGoes X vwCl yct sh l rm cX8_lineNow 1 wsX8_lineNow RX8 (tb_X8_lineNow N) pr_X8_lineNow 1
set_option maxRecDepth 100000 in
set_option maxHeartbeats 4000000 in
theorem t_X8_lineNow_b121 {N : Nat} {X : zXT} {sh : List yH} {l : Launch} {rm : Room} (σ : yS) (s0 : Int) (res : Int × yS) (h : f_X8_lineNow_b121 N σ s0 = some res) : G_X8_lineNow N X sh l rm (121, [], [.inl (.inl s0)], σ) (some (.inl (.inl res.1)), res.2) := by
  unfold f_X8_lineNow_b121 at h
  have h := Option.some.inj h
  subst h
  dsimp only
  exact yG_r rfl rfl
set_option maxRecDepth 100000 in
set_option maxHeartbeats 4000000 in
theorem t_X8_lineNow_b117 {N : Nat} {X : zXT} {sh : List yH} {l : Launch} {rm : Room} (σ : yS) (res : Int × yS) (h : f_X8_lineNow_b117 N σ = some res) : G_X8_lineNow N X sh l rm (117, [(0, .inr (.inl 8, 0))], [], σ) (some (.inl (.inl res.1)), res.2) := by
  unfold f_X8_lineNow_b117 at h
  refine yG_n (n := 1) (C' := (118, [(0, .inr (.inl 8, 0))], [.inr (.inl 8, 0)], σ)) rfl ?_
  cases hr1 : f_X8_ofHouses N σ with
  | none => rw [hr1] at h; dsimp only at h; cases h
  | some r6 =>
    rw [hr1] at h
    dsimp only at h
    refine yG_c (C1 := (121, [(0, .inr (.inl 8, 0))], [.inl (.inl r6.1)], r6.2)) rfl (e_X8_ofHouses hr1) rfl ?_
    exact yG_w [] rfl (t_X8_lineNow_b121 r6.2 r6.1 res h)
set_option maxRecDepth 100000 in
set_option maxHeartbeats 4000000 in
theorem t_X8_lineNow_b70 {N : Nat} {X : zXT} {sh : List yH} {l : Launch} {rm : Room} (σ : yS) (res : Int × yS) (h : f_X8_lineNow_b70 N σ = some res) : G_X8_lineNow N X sh l rm (70, [(0, .inr (.inl 8, 0))], [], σ) (some (.inl (.inl res.1)), res.2) := by
  unfold f_X8_lineNow_b70 at h
  refine yG_n (n := 5) (C' := (78, [(0, .inr (.inl 8, 0))], [.inl (.inl 119), .inl (.inl 111), .inl (.inl 118), .inl (.inl 3), .inr (.inl 8, 0)], σ)) rfl ?_
  cases hr2 : f_X8_is N σ 3 118 111 119 with
  | none => rw [hr2] at h; dsimp only at h; cases h
  | some r4 =>
    rw [hr2] at h
    dsimp only at h
    refine yG_c (C1 := (81, [(0, .inr (.inl 8, 0))], [.inl (.inl r4.1)], r4.2)) rfl (e_X8_is hr2) rfl ?_
    cases hg3 : ycP .eq r4.1 0 with
    | true =>
      rw [hg3] at h
      dsimp only [cond] at h
      refine yG_t (C' := (87, [(0, .inr (.inl 8, 0))], [], r4.2)) rfl hg3 ?_
      refine yG_n (n := 5) (C' := (95, [(0, .inr (.inl 8, 0))], [.inl (.inl 110), .inl (.inl 97), .inl (.inl 119), .inl (.inl 4), .inr (.inl 8, 0)], r4.2)) rfl ?_
      cases hr4 : f_X8_is N r4.2 4 119 97 110 with
      | none => rw [hr4] at h; dsimp only at h; cases h
      | some r5 =>
        rw [hr4] at h
        dsimp only at h
        refine yG_c (C1 := (98, [(0, .inr (.inl 8, 0))], [.inl (.inl r5.1)], r5.2)) rfl (e_X8_is hr4) rfl ?_
        cases hg5 : ycP .eq r5.1 0 with
        | true =>
          rw [hg5] at h
          dsimp only [cond] at h
          refine yG_t (C' := (117, [(0, .inr (.inl 8, 0))], [], r5.2)) rfl hg5 ?_
          exact t_X8_lineNow_b117 r5.2 res h
        | false =>
          rw [hg5] at h
          dsimp only [cond] at h
          refine yG_f (C' := (101, [(0, .inr (.inl 8, 0))], [], r5.2)) rfl hg5 ?_
          refine yG_n (n := 4) (C' := (106, [(0, .inr (.inl 8, 0))], [.inl (.inl 0), .inl (.inl 0), .inl (.inl 116), .inr (.inl 8, 0)], r5.2)) rfl ?_
          cases hr6 : f_X8_ends N r5.2 116 0 0 with
          | none => rw [hr6] at h; dsimp only at h; cases h
          | some r7 =>
            rw [hr6] at h
            dsimp only at h
            refine yG_c (C1 := (109, [(0, .inr (.inl 8, 0))], [.inl (.inl r7.1)], r7.2)) rfl (e_X8_ends hr6) rfl ?_
            cases hg7 : ycP .eq r7.1 0 with
            | true =>
              rw [hg7] at h
              dsimp only [cond] at h
              refine yG_t (C' := (117, [(0, .inr (.inl 8, 0))], [], r7.2)) rfl hg7 ?_
              exact t_X8_lineNow_b117 r7.2 res h
            | false =>
              rw [hg7] at h
              dsimp only [cond] at h
              refine yG_f (C' := (112, [(0, .inr (.inl 8, 0))], [], r7.2)) rfl hg7 ?_
              refine yG_n (n := 2) (C' := (121, [(0, .inr (.inl 8, 0))], [.inl (.inl 7)], r7.2)) rfl ?_
              exact yG_w [] rfl (t_X8_lineNow_b121 r7.2 7 res h)
    | false =>
      rw [hg3] at h
      dsimp only [cond] at h
      refine yG_f (C' := (84, [(0, .inr (.inl 8, 0))], [], r4.2)) rfl hg3 ?_
      refine yG_n (n := 1) (C' := (86, [(0, .inr (.inl 8, 0))], [.inl (.inl 6)], r4.2)) rfl ?_
      have h := Option.some.inj h
      subst h
      dsimp only
      exact yG_r rfl rfl
set_option maxRecDepth 100000 in
set_option maxHeartbeats 4000000 in
theorem t_X8_lineNow_b43 {N : Nat} {X : zXT} {sh : List yH} {l : Launch} {rm : Room} (σ : yS) (res : Int × yS) (h : f_X8_lineNow_b43 N σ = some res) : G_X8_lineNow N X sh l rm (43, [(0, .inr (.inl 8, 0))], [], σ) (some (.inl (.inl res.1)), res.2) := by
  unfold f_X8_lineNow_b43 at h
  refine yG_n (n := 5) (C' := (51, [(0, .inr (.inl 8, 0))], [.inl (.inl 101), .inl (.inl 101), .inl (.inl 100), .inl (.inl 4), .inr (.inl 8, 0)], σ)) rfl ?_
  cases hr8 : f_X8_is N σ 4 100 101 101 with
  | none => rw [hr8] at h; dsimp only at h; cases h
  | some r3 =>
    rw [hr8] at h
    dsimp only at h
    refine yG_c (C1 := (54, [(0, .inr (.inl 8, 0))], [.inl (.inl r3.1)], r3.2)) rfl (e_X8_is hr8) rfl ?_
    cases hg9 : ycP .eq r3.1 0 with
    | true =>
      rw [hg9] at h
      dsimp only [cond] at h
      refine yG_t (C' := (70, [(0, .inr (.inl 8, 0))], [], r3.2)) rfl hg9 ?_
      exact t_X8_lineNow_b70 r3.2 res h
    | false =>
      rw [hg9] at h
      dsimp only [cond] at h
      refine yG_f (C' := (57, [(0, .inr (.inl 8, 0))], [], r3.2)) rfl hg9 ?_
      refine yG_n (n := 4) (C' := (62, [(0, .inr (.inl 8, 0))], [.inl (.inl 0), .inl (.inl 0), .inl (.inl 100), .inr (.inl 8, 0)], r3.2)) rfl ?_
      cases hr10 : f_X8_ends N r3.2 100 0 0 with
      | none => rw [hr10] at h; dsimp only at h; cases h
      | some r8 =>
        rw [hr10] at h
        dsimp only at h
        refine yG_c (C1 := (65, [(0, .inr (.inl 8, 0))], [.inl (.inl r8.1)], r8.2)) rfl (e_X8_ends hr10) rfl ?_
        cases hg11 : ycP .eq r8.1 0 with
        | true =>
          rw [hg11] at h
          dsimp only [cond] at h
          refine yG_t (C' := (70, [(0, .inr (.inl 8, 0))], [], r8.2)) rfl hg11 ?_
          exact t_X8_lineNow_b70 r8.2 res h
        | false =>
          rw [hg11] at h
          dsimp only [cond] at h
          refine yG_f (C' := (68, [(0, .inr (.inl 8, 0))], [], r8.2)) rfl hg11 ?_
          refine yG_n (n := 1) (C' := (69, [(0, .inr (.inl 8, 0))], [.inl (.inl 5)], r8.2)) rfl ?_
          have h := Option.some.inj h
          subst h
          dsimp only
          exact yG_r rfl rfl
set_option maxRecDepth 100000 in
set_option maxHeartbeats 4000000 in
theorem t_X8_lineNow {N : Nat} {X : zXT} {sh : List yH} {l : Launch} {rm : Room} (σ : yS) (res : Int × yS) (h : f_X8_lineNow N σ = some res) : G_X8_lineNow N X sh l rm (0, [(0, .inr (.inl 8, 0))], [], σ) (some (.inl (.inl res.1)), res.2) := by
  unfold f_X8_lineNow at h
  refine yG_n (n := 5) (C' := (8, [(0, .inr (.inl 8, 0))], [.inl (.inl 119), .inl (.inl 111), .inl (.inl 114), .inl (.inl 3), .inr (.inl 8, 0)], σ)) rfl ?_
  cases hr12 : f_X8_is N σ 3 114 111 119 with
  | none => rw [hr12] at h; dsimp only at h; cases h
  | some r1 =>
    rw [hr12] at h
    dsimp only at h
    refine yG_c (C1 := (11, [(0, .inr (.inl 8, 0))], [.inl (.inl r1.1)], r1.2)) rfl (e_X8_is hr12) rfl ?_
    cases hg13 : ycP .eq r1.1 0 with
    | true =>
      rw [hg13] at h
      dsimp only [cond] at h
      refine yG_t (C' := (16, [(0, .inr (.inl 8, 0))], [], r1.2)) rfl hg13 ?_
      refine yG_n (n := 5) (C' := (24, [(0, .inr (.inl 8, 0))], [.inl (.inl 110), .inl (.inl 105), .inl (.inl 114), .inl (.inl 4), .inr (.inl 8, 0)], r1.2)) rfl ?_
      cases hr14 : f_X8_is N r1.2 4 114 105 110 with
      | none => rw [hr14] at h; dsimp only at h; cases h
      | some r2 =>
        rw [hr14] at h
        dsimp only at h
        refine yG_c (C1 := (27, [(0, .inr (.inl 8, 0))], [.inl (.inl r2.1)], r2.2)) rfl (e_X8_is hr14) rfl ?_
        cases hg15 : ycP .eq r2.1 0 with
        | true =>
          rw [hg15] at h
          dsimp only [cond] at h
          refine yG_t (C' := (43, [(0, .inr (.inl 8, 0))], [], r2.2)) rfl hg15 ?_
          exact t_X8_lineNow_b43 r2.2 res h
        | false =>
          rw [hg15] at h
          dsimp only [cond] at h
          refine yG_f (C' := (30, [(0, .inr (.inl 8, 0))], [], r2.2)) rfl hg15 ?_
          refine yG_n (n := 4) (C' := (35, [(0, .inr (.inl 8, 0))], [.inl (.inl 0), .inl (.inl 0), .inl (.inl 103), .inr (.inl 8, 0)], r2.2)) rfl ?_
          cases hr16 : f_X8_ends N r2.2 103 0 0 with
          | none => rw [hr16] at h; dsimp only at h; cases h
          | some r9 =>
            rw [hr16] at h
            dsimp only at h
            refine yG_c (C1 := (38, [(0, .inr (.inl 8, 0))], [.inl (.inl r9.1)], r9.2)) rfl (e_X8_ends hr16) rfl ?_
            cases hg17 : ycP .eq r9.1 0 with
            | true =>
              rw [hg17] at h
              dsimp only [cond] at h
              refine yG_t (C' := (43, [(0, .inr (.inl 8, 0))], [], r9.2)) rfl hg17 ?_
              exact t_X8_lineNow_b43 r9.2 res h
            | false =>
              rw [hg17] at h
              dsimp only [cond] at h
              refine yG_f (C' := (41, [(0, .inr (.inl 8, 0))], [], r9.2)) rfl hg17 ?_
              refine yG_n (n := 1) (C' := (42, [(0, .inr (.inl 8, 0))], [.inl (.inl 4)], r9.2)) rfl ?_
              have h := Option.some.inj h
              subst h
              dsimp only
              exact yG_r rfl rfl
    | false =>
      rw [hg13] at h
      dsimp only [cond] at h
      refine yG_f (C' := (14, [(0, .inr (.inl 8, 0))], [], r1.2)) rfl hg13 ?_
      refine yG_n (n := 1) (C' := (15, [(0, .inr (.inl 8, 0))], [.inl (.inl 3)], r1.2)) rfl ?_
      have h := Option.some.inj h
      subst h
      dsimp only
      exact yG_r rfl rfl
set_option maxRecDepth 100000 in
set_option maxHeartbeats 4000000 in
theorem m_X8_lineNow {N : Nat} {X : zXT} (hX : zXok X) (hN : zXn X) (l : Launch) {sh : List yH} : yMet X vwCl yct sh l yX8_lineNow wsX8_lineNow { frames := 4, cells := 0, slots := 0, locals := 129 } (F_X8_lineNow N) :=
  ymeth (tb := tb_X8_lineNow N) (pr := pr_X8_lineNow) (rt := 1) (own := RX8) hX (by decide +kernel) rfl rfl ⟨Nat.le_of_ble_eq_true rfl, Nat.le_of_ble_eq_true rfl⟩
    (zfl_all (fun _ h => absurd h List.not_mem_nil))
    (zco_all (fun _ h => absurd h List.not_mem_nil)) (zlc_all (fun _ h => absurd h List.not_mem_nil))
    (List.forall_mem_cons.mpr ⟨ycal_V hX (m_X8_is hX hN l) rfl (fun s args hts => cwV 4 hts gX8_lineNow_X8_is rfl rfl rfl (by decide +kernel) ⟨Nat.le_of_ble_eq_true rfl, Nat.le_of_ble_eq_true rfl⟩), List.forall_mem_cons.mpr ⟨ycal_V hX (m_X8_ends hX hN l) rfl (fun s args hts => cwV 3 hts gX8_lineNow_X8_ends rfl rfl rfl (by decide +kernel) ⟨Nat.le_of_ble_eq_true rfl, Nat.le_of_ble_eq_true rfl⟩), List.forall_mem_cons.mpr ⟨ycal_V hX (m_X8_ofHouses hX hN l) rfl (fun s args hts => cwV 0 hts gX8_lineNow_X8_ofHouses rfl rfl rfl (by decide +kernel) ⟨Nat.le_of_ble_eq_true rfl, Nat.le_of_ble_eq_true rfl⟩), fun _ h => absurd h List.not_mem_nil⟩⟩⟩)
    (fun _ h => absurd h List.not_mem_nil)
    (zmm_all (fun _ h => absurd h List.not_mem_nil)) (fun _ h => absurd h List.not_mem_nil) (zpr_all hp_X8_lineNow) (fun as σ res h => by
      unfold F_X8_lineNow at h
      split at h
      · cases hr : f_X8_lineNow N σ with
        | none => rw [hr] at h; cases h
        | some r =>
          rw [hr] at h
          cases h
          exact ⟨Nat.le_of_ble_eq_true rfl, t_X8_lineNow σ r hr⟩
      · cases h)
noncomputable def pr_X8_needs : List (Nat × Instr × Nat) := [(0, .iload_n 1, 1), (1, .ifCond .ne 23, 3), (4, .aload_n 0, 1), (5, .getfield 97, 3), (8, .ifCond .ne 16, 3), (11, .aload_n 0, 1), (12, .iload_n 2, 1), (13, .putfield 97, 3), (16, .aload_n 0, 1), (17, .aload_n 0, 1), (18, .getfield 100, 3), (21, .putfield 103, 3), (24, .return_, 1)]
set_option maxRecDepth 100000 in
theorem hp_X8_needs : pr_X8_needs.all (fun x => decide (decode cX8_needs x.1 = .ok x.2)) = true := by decide +kernel
noncomputable def f_X8_needs_b24 (N : Nat) (σ : yS) : Option (Int × yS) :=
  some (0, σ)
noncomputable def f_X8_needs_b18 (N : Nat) (σ : yS) : Option (Int × yS) :=
  f_X8_needs_b24 N (yw σ 0 23 (σ.1 0 19))
noncomputable def f_X8_needs (N : Nat) (σ : yS) (x1 : Int) (x2 : Int) : Option (Int × yS) :=
  bif ycP .ne x1 0 then
    f_X8_needs_b24 N σ
  else
    bif ycP .ne (σ.1 0 22) 0 then
      f_X8_needs_b24 N σ
    else
      f_X8_needs_b18 N (yw σ 0 22 x2)
noncomputable def F_X8_needs (N : Nat) : yF := fun as σ => match as with
  | [.inr (.inl 8, 0), .inl (.inl x1), .inl (.inl x2)] => (f_X8_needs N σ x1 x2).map (fun r => (none, r.2))
  | _ => none
theorem e_X8_needs {N : Nat} {σ : yS} {x1 : Int} {x2 : Int} {r : Int × yS} (h : f_X8_needs N σ x1 x2 = some r) : F_X8_needs N [.inr (.inl 8, 0), .inl (.inl x1), .inl (.inl x2)] σ = some (none, r.2) := by
  show (f_X8_needs N σ x1 x2).map (fun r => ((none, r.2) : yR)) = _
  rw [h]
  rfl
noncomputable def tb_X8_needs (N : Nat) : yTb := ([(97, 8, 22, 0), (100, 8, 19, 0), (103, 8, 23, 0)], [], [], [], [], [], [])
abbrev G_X8_needs (N : Nat) (X : zXT) (sh : List yH) (l : Launch) (rm : Room) : yC → yR → Prop := yGoes X vwCl yct sh l rm cX8_needs 3 wsX8_needs RX8 (tb_X8_needs N) pr_X8_needs 0
set_option maxRecDepth 100000 in
set_option maxHeartbeats 4000000 in
theorem t_X8_needs_b24 {N : Nat} {X : zXT} {sh : List yH} {l : Launch} {rm : Room} (σ : yS) (res : Int × yS) (h : f_X8_needs_b24 N σ = some res) : G_X8_needs N X sh l rm (24, [], [], σ) (none, res.2) := by
  unfold f_X8_needs_b24 at h
  have h := Option.some.inj h
  subst h
  dsimp only
  exact yG_r rfl rfl
set_option maxRecDepth 100000 in
set_option maxHeartbeats 4000000 in
theorem t_X8_needs_b18 {N : Nat} {X : zXT} {sh : List yH} {l : Launch} {rm : Room} (σ : yS) (res : Int × yS) (h : f_X8_needs_b18 N σ = some res) : G_X8_needs N X sh l rm (18, [], [.inr (.inl 8, 0), .inr (.inl 8, 0)], σ) (none, res.2) := by
  unfold f_X8_needs_b18 at h
  refine yG_n (n := 2) (C' := (24, [], [], yw σ 0 23 (σ.1 0 19))) rfl ?_
  exact t_X8_needs_b24 (yw σ 0 23 (σ.1 0 19)) res h
set_option maxRecDepth 100000 in
set_option maxHeartbeats 4000000 in
theorem t_X8_needs {N : Nat} {X : zXT} {sh : List yH} {l : Launch} {rm : Room} (σ : yS) (x1 : Int) (x2 : Int) (res : Int × yS) (h : f_X8_needs N σ x1 x2 = some res) : G_X8_needs N X sh l rm (0, [(0, .inr (.inl 8, 0)), (1, .inl (.inl x1)), (2, .inl (.inl x2))], [], σ) (none, res.2) := by
  unfold f_X8_needs at h
  refine yG_n (n := 1) (C' := (1, [(0, .inr (.inl 8, 0)), (1, .inl (.inl x1)), (2, .inl (.inl x2))], [.inl (.inl x1)], σ)) rfl ?_
  cases hg1 : ycP .ne x1 0 with
  | true =>
    rw [hg1] at h
    dsimp only [cond] at h
    refine yG_t (C' := (24, [(0, .inr (.inl 8, 0)), (1, .inl (.inl x1)), (2, .inl (.inl x2))], [], σ)) rfl hg1 ?_
    exact yG_w [] rfl (t_X8_needs_b24 σ res h)
  | false =>
    rw [hg1] at h
    dsimp only [cond] at h
    refine yG_f (C' := (4, [(0, .inr (.inl 8, 0)), (1, .inl (.inl x1)), (2, .inl (.inl x2))], [], σ)) rfl hg1 ?_
    refine yG_n (n := 2) (C' := (8, [(0, .inr (.inl 8, 0)), (1, .inl (.inl x1)), (2, .inl (.inl x2))], [.inl (.inl (σ.1 0 22))], σ)) rfl ?_
    cases hg2 : ycP .ne (σ.1 0 22) 0 with
    | true =>
      rw [hg2] at h
      dsimp only [cond] at h
      refine yG_t (C' := (24, [(0, .inr (.inl 8, 0)), (1, .inl (.inl x1)), (2, .inl (.inl x2))], [], σ)) rfl hg2 ?_
      exact yG_w [] rfl (t_X8_needs_b24 σ res h)
    | false =>
      rw [hg2] at h
      dsimp only [cond] at h
      refine yG_f (C' := (11, [(0, .inr (.inl 8, 0)), (1, .inl (.inl x1)), (2, .inl (.inl x2))], [], σ)) rfl hg2 ?_
      refine yG_n (n := 5) (C' := (18, [(0, .inr (.inl 8, 0)), (1, .inl (.inl x1)), (2, .inl (.inl x2))], [.inr (.inl 8, 0), .inr (.inl 8, 0)], yw σ 0 22 x2)) rfl ?_
      exact yG_w [] rfl (t_X8_needs_b18 (yw σ 0 22 x2) res h)
set_option maxRecDepth 100000 in
set_option maxHeartbeats 4000000 in
theorem m_X8_needs {N : Nat} {X : zXT} (hX : zXok X) (hN : zXn X) (l : Launch) {sh : List yH} : yMet X vwCl yct sh l yX8_needs wsX8_needs { frames := 1, cells := 0, slots := 0, locals := 64 } (F_X8_needs N) :=
  ymeth (tb := tb_X8_needs N) (pr := pr_X8_needs) (rt := 0) (own := RX8) hX (by decide +kernel) rfl rfl ⟨Nat.le_of_ble_eq_true rfl, Nat.le_of_ble_eq_true rfl⟩
    (zfl_all (List.forall_mem_cons.mpr ⟨zfl_X8 (fun w h => List.mem_cons_of_mem _ (List.mem_append_right _ h)) (List.mem_of_getElem? (i := 1) rfl) (by decide) (by decide), List.forall_mem_cons.mpr ⟨zfl_X8 (fun w h => List.mem_cons_of_mem _ (List.mem_append_right _ h)) (List.mem_of_getElem? (i := 2) rfl) (by decide) (by decide), List.forall_mem_cons.mpr ⟨zfl_X8 (fun w h => List.mem_cons_of_mem _ (List.mem_append_right _ h)) (List.mem_of_getElem? (i := 3) rfl) (by decide) (by decide), fun _ h => absurd h List.not_mem_nil⟩⟩⟩))
    (zco_all (fun _ h => absurd h List.not_mem_nil)) (zlc_all (fun _ h => absurd h List.not_mem_nil))
    (fun _ h => absurd h List.not_mem_nil)
    (fun _ h => absurd h List.not_mem_nil)
    (zmm_all (fun _ h => absurd h List.not_mem_nil)) (fun _ h => absurd h List.not_mem_nil) (zpr_all hp_X8_needs) (fun as σ res h => by
      unfold F_X8_needs at h
      split at h
      · rename_i x1 x2
        cases hr : f_X8_needs N σ x1 x2 with
        | none => rw [hr] at h; cases h
        | some r =>
          rw [hr] at h
          cases h
          exact ⟨Nat.le_of_ble_eq_true rfl, t_X8_needs σ x1 x2 r hr⟩
      · cases h)
noncomputable def pr_X8_looked : List (Nat × Instr × Nat) := [(0, .aload_n 0, 1), (1, .getfield 97, 3), (4, .ifCond .ne 21, 3), (7, .aload_n 0, 1), (8, .aload_n 0, 1), (9, .getfield 125, 3), (12, .iconst 2, 1), (13, .if_icmp .ne 7, 3), (16, .iconst 1, 1), (17, .goto 4, 3), (20, .iconst 0, 1), (21, .iconst 2, 1), (22, .invokevirtual 139, 3), (25, .aload_n 0, 1), (26, .getfield 97, 3), (29, .ifCond .ne 20, 3), (32, .aload_n 0, 1), (33, .aload_n 0, 1), (34, .getfield 136, 3), (37, .i2l, 1), (38, .iload_n 1, 1), (39, .i2l, 1), (40, .iload_n 2, 1), (41, .i2l, 1), (42, .invokestatic 90, 3), (45, .iconst 3, 1), (46, .invokevirtual 139, 3), (49, .aload_n 0, 1), (50, .getfield 97, 3), (53, .ifCond .ne 10, 3), (56, .aload_n 0, 1), (57, .getfield 136, 3), (60, .goto 4, 3), (63, .iconst 0, 1), (64, .ireturn, 1)]
set_option maxRecDepth 100000 in
theorem hp_X8_looked : pr_X8_looked.all (fun x => decide (decode cX8_looked x.1 = .ok x.2)) = true := by decide +kernel
noncomputable def f_X8_looked_b64 (N : Nat) (σ : yS) (s0 : Int) : Option (Int × yS) :=
  some (s0, σ)
noncomputable def f_X8_looked_b49 (N : Nat) (σ : yS) : Option (Int × yS) :=
  bif ycP .ne (σ.1 0 22) 0 then
    f_X8_looked_b64 N σ 0
  else
    f_X8_looked_b64 N σ (σ.1 0 21)
noncomputable def f_X8_looked_b25 (N : Nat) (σ : yS) (x1 : Int) (x2 : Int) : Option (Int × yS) :=
  bif ycP .ne (σ.1 0 22) 0 then
    f_X8_looked_b49 N σ
  else
    match f_X8_in N σ (σ.1 0 21) x1 x2 with
    | none => none
    | some r1 => match f_X8_needs N r1.2 r1.1 3 with
      | none => none
      | some r2 => f_X8_looked_b49 N r2.2
noncomputable def f_X8_looked_b21 (N : Nat) (σ : yS) (x1 : Int) (x2 : Int) (s0 : Int) : Option (Int × yS) :=
  match f_X8_needs N σ s0 2 with
  | none => none
  | some r3 => f_X8_looked_b25 N r3.2 x1 x2
noncomputable def f_X8_looked (N : Nat) (σ : yS) (x1 : Int) (x2 : Int) : Option (Int × yS) :=
  bif ycP .ne (σ.1 0 22) 0 then
    f_X8_looked_b25 N σ x1 x2
  else
    bif ycP .ne (σ.1 0 20) 2 then
      f_X8_looked_b21 N σ x1 x2 0
    else
      f_X8_looked_b21 N σ x1 x2 1
noncomputable def F_X8_looked (N : Nat) : yF := fun as σ => match as with
  | [.inr (.inl 8, 0), .inl (.inl x1), .inl (.inl x2)] => (f_X8_looked N σ x1 x2).map (fun r => (some (.inl (.inl r.1)), r.2))
  | _ => none
theorem e_X8_looked {N : Nat} {σ : yS} {x1 : Int} {x2 : Int} {r : Int × yS} (h : f_X8_looked N σ x1 x2 = some r) : F_X8_looked N [.inr (.inl 8, 0), .inl (.inl x1), .inl (.inl x2)] σ = some (some (.inl (.inl r.1)), r.2) := by
  show (f_X8_looked N σ x1 x2).map (fun r => ((some (.inl (.inl r.1)), r.2) : yR)) = _
  rw [h]
  rfl
noncomputable def tb_X8_looked (N : Nat) : yTb := ([(97, 8, 22, 0), (125, 8, 20, 0), (136, 8, 21, 0)], [], [], [(139, 3, 8, F_X8_needs N)], [(90, 3, F_X8_in N)], [], [])
abbrev G_X8_looked (N : Nat) (X : zXT) (sh : List yH) (l : Launch) (rm : Room) : yC → yR → Prop := yGoes X vwCl yct sh l rm cX8_looked 3 wsX8_looked RX8 (tb_X8_looked N) pr_X8_looked 1
set_option maxRecDepth 100000 in
set_option maxHeartbeats 4000000 in
theorem t_X8_looked_b64 {N : Nat} {X : zXT} {sh : List yH} {l : Launch} {rm : Room} (σ : yS) (s0 : Int) (res : Int × yS) (h : f_X8_looked_b64 N σ s0 = some res) : G_X8_looked N X sh l rm (64, [], [.inl (.inl s0)], σ) (some (.inl (.inl res.1)), res.2) := by
  unfold f_X8_looked_b64 at h
  have h := Option.some.inj h
  subst h
  dsimp only
  exact yG_r rfl rfl
set_option maxRecDepth 100000 in
set_option maxHeartbeats 4000000 in
theorem t_X8_looked_b49 {N : Nat} {X : zXT} {sh : List yH} {l : Launch} {rm : Room} (σ : yS) (res : Int × yS) (h : f_X8_looked_b49 N σ = some res) : G_X8_looked N X sh l rm (49, [(0, .inr (.inl 8, 0))], [], σ) (some (.inl (.inl res.1)), res.2) := by
  unfold f_X8_looked_b49 at h
  refine yG_n (n := 2) (C' := (53, [(0, .inr (.inl 8, 0))], [.inl (.inl (σ.1 0 22))], σ)) rfl ?_
  cases hg1 : ycP .ne (σ.1 0 22) 0 with
  | true =>
    rw [hg1] at h
    dsimp only [cond] at h
    refine yG_t (C' := (63, [(0, .inr (.inl 8, 0))], [], σ)) rfl hg1 ?_
    refine yG_n (n := 1) (C' := (64, [(0, .inr (.inl 8, 0))], [.inl (.inl 0)], σ)) rfl ?_
    exact yG_w [] rfl (t_X8_looked_b64 σ 0 res h)
  | false =>
    rw [hg1] at h
    dsimp only [cond] at h
    refine yG_f (C' := (56, [(0, .inr (.inl 8, 0))], [], σ)) rfl hg1 ?_
    refine yG_n (n := 3) (C' := (64, [(0, .inr (.inl 8, 0))], [.inl (.inl (σ.1 0 21))], σ)) rfl ?_
    exact yG_w [] rfl (t_X8_looked_b64 σ (σ.1 0 21) res h)
set_option maxRecDepth 100000 in
set_option maxHeartbeats 4000000 in
theorem t_X8_looked_b25 {N : Nat} {X : zXT} {sh : List yH} {l : Launch} {rm : Room} (σ : yS) (x1 : Int) (x2 : Int) (res : Int × yS) (h : f_X8_looked_b25 N σ x1 x2 = some res) : G_X8_looked N X sh l rm (25, [(0, .inr (.inl 8, 0)), (1, .inl (.inl x1)), (2, .inl (.inl x2))], [], σ) (some (.inl (.inl res.1)), res.2) := by
  unfold f_X8_looked_b25 at h
  refine yG_n (n := 2) (C' := (29, [(0, .inr (.inl 8, 0)), (1, .inl (.inl x1)), (2, .inl (.inl x2))], [.inl (.inl (σ.1 0 22))], σ)) rfl ?_
  cases hg2 : ycP .ne (σ.1 0 22) 0 with
  | true =>
    rw [hg2] at h
    dsimp only [cond] at h
    refine yG_t (C' := (49, [(0, .inr (.inl 8, 0)), (1, .inl (.inl x1)), (2, .inl (.inl x2))], [], σ)) rfl hg2 ?_
    exact yG_w [0] rfl (t_X8_looked_b49 σ res h)
  | false =>
    rw [hg2] at h
    dsimp only [cond] at h
    refine yG_f (C' := (32, [(0, .inr (.inl 8, 0)), (1, .inl (.inl x1)), (2, .inl (.inl x2))], [], σ)) rfl hg2 ?_
    refine yG_n (n := 8) (C' := (42, [(0, .inr (.inl 8, 0)), (1, .inl (.inl x1)), (2, .inl (.inl x2))], [.inl (.inr x2), .inl (.inr x1), .inl (.inr (σ.1 0 21)), .inr (.inl 8, 0)], σ)) rfl ?_
    cases hr3 : f_X8_in N σ (σ.1 0 21) x1 x2 with
    | none => rw [hr3] at h; dsimp only at h; cases h
    | some r1 =>
      rw [hr3] at h
      dsimp only at h
      refine yG_c (C1 := (45, [(0, .inr (.inl 8, 0)), (1, .inl (.inl x1)), (2, .inl (.inl x2))], [.inl (.inl r1.1), .inr (.inl 8, 0)], r1.2)) rfl (e_X8_in hr3) rfl ?_
      refine yG_n (n := 1) (C' := (46, [(0, .inr (.inl 8, 0)), (1, .inl (.inl x1)), (2, .inl (.inl x2))], [.inl (.inl 3), .inl (.inl r1.1), .inr (.inl 8, 0)], r1.2)) rfl ?_
      cases hr4 : f_X8_needs N r1.2 r1.1 3 with
      | none => rw [hr4] at h; dsimp only at h; cases h
      | some r2 =>
        rw [hr4] at h
        dsimp only at h
        refine yG_c (C1 := (49, [(0, .inr (.inl 8, 0)), (1, .inl (.inl x1)), (2, .inl (.inl x2))], [], r2.2)) rfl (e_X8_needs hr4) rfl ?_
        exact yG_w [0] rfl (t_X8_looked_b49 r2.2 res h)
set_option maxRecDepth 100000 in
set_option maxHeartbeats 4000000 in
theorem t_X8_looked_b21 {N : Nat} {X : zXT} {sh : List yH} {l : Launch} {rm : Room} (σ : yS) (x1 : Int) (x2 : Int) (s0 : Int) (res : Int × yS) (h : f_X8_looked_b21 N σ x1 x2 s0 = some res) : G_X8_looked N X sh l rm (21, [(0, .inr (.inl 8, 0)), (1, .inl (.inl x1)), (2, .inl (.inl x2))], [.inl (.inl s0), .inr (.inl 8, 0)], σ) (some (.inl (.inl res.1)), res.2) := by
  unfold f_X8_looked_b21 at h
  refine yG_n (n := 1) (C' := (22, [(0, .inr (.inl 8, 0)), (1, .inl (.inl x1)), (2, .inl (.inl x2))], [.inl (.inl 2), .inl (.inl s0), .inr (.inl 8, 0)], σ)) rfl ?_
  cases hr5 : f_X8_needs N σ s0 2 with
  | none => rw [hr5] at h; dsimp only at h; cases h
  | some r3 =>
    rw [hr5] at h
    dsimp only at h
    refine yG_c (C1 := (25, [(0, .inr (.inl 8, 0)), (1, .inl (.inl x1)), (2, .inl (.inl x2))], [], r3.2)) rfl (e_X8_needs hr5) rfl ?_
    exact t_X8_looked_b25 r3.2 x1 x2 res h
set_option maxRecDepth 100000 in
set_option maxHeartbeats 4000000 in
theorem t_X8_looked {N : Nat} {X : zXT} {sh : List yH} {l : Launch} {rm : Room} (σ : yS) (x1 : Int) (x2 : Int) (res : Int × yS) (h : f_X8_looked N σ x1 x2 = some res) : G_X8_looked N X sh l rm (0, [(0, .inr (.inl 8, 0)), (1, .inl (.inl x1)), (2, .inl (.inl x2))], [], σ) (some (.inl (.inl res.1)), res.2) := by
  unfold f_X8_looked at h
  refine yG_n (n := 2) (C' := (4, [(0, .inr (.inl 8, 0)), (1, .inl (.inl x1)), (2, .inl (.inl x2))], [.inl (.inl (σ.1 0 22))], σ)) rfl ?_
  cases hg6 : ycP .ne (σ.1 0 22) 0 with
  | true =>
    rw [hg6] at h
    dsimp only [cond] at h
    refine yG_t (C' := (25, [(0, .inr (.inl 8, 0)), (1, .inl (.inl x1)), (2, .inl (.inl x2))], [], σ)) rfl hg6 ?_
    exact t_X8_looked_b25 σ x1 x2 res h
  | false =>
    rw [hg6] at h
    dsimp only [cond] at h
    refine yG_f (C' := (7, [(0, .inr (.inl 8, 0)), (1, .inl (.inl x1)), (2, .inl (.inl x2))], [], σ)) rfl hg6 ?_
    refine yG_n (n := 4) (C' := (13, [(0, .inr (.inl 8, 0)), (1, .inl (.inl x1)), (2, .inl (.inl x2))], [.inl (.inl 2), .inl (.inl (σ.1 0 20)), .inr (.inl 8, 0)], σ)) rfl ?_
    cases hg7 : ycP .ne (σ.1 0 20) 2 with
    | true =>
      rw [hg7] at h
      dsimp only [cond] at h
      refine yG_t (C' := (20, [(0, .inr (.inl 8, 0)), (1, .inl (.inl x1)), (2, .inl (.inl x2))], [.inr (.inl 8, 0)], σ)) rfl hg7 ?_
      refine yG_n (n := 1) (C' := (21, [(0, .inr (.inl 8, 0)), (1, .inl (.inl x1)), (2, .inl (.inl x2))], [.inl (.inl 0), .inr (.inl 8, 0)], σ)) rfl ?_
      exact t_X8_looked_b21 σ x1 x2 0 res h
    | false =>
      rw [hg7] at h
      dsimp only [cond] at h
      refine yG_f (C' := (16, [(0, .inr (.inl 8, 0)), (1, .inl (.inl x1)), (2, .inl (.inl x2))], [.inr (.inl 8, 0)], σ)) rfl hg7 ?_
      refine yG_n (n := 2) (C' := (21, [(0, .inr (.inl 8, 0)), (1, .inl (.inl x1)), (2, .inl (.inl x2))], [.inl (.inl 1), .inr (.inl 8, 0)], σ)) rfl ?_
      exact t_X8_looked_b21 σ x1 x2 1 res h
set_option maxRecDepth 100000 in
set_option maxHeartbeats 4000000 in
theorem m_X8_looked {N : Nat} {X : zXT} (hX : zXok X) (hN : zXn X) (l : Launch) {sh : List yH} : yMet X vwCl yct sh l yX8_looked wsX8_looked { frames := 2, cells := 0, slots := 0, locals := 89 } (F_X8_looked N) :=
  ymeth (tb := tb_X8_looked N) (pr := pr_X8_looked) (rt := 1) (own := RX8) hX (by decide +kernel) rfl rfl ⟨Nat.le_of_ble_eq_true rfl, Nat.le_of_ble_eq_true rfl⟩
    (zfl_all (List.forall_mem_cons.mpr ⟨zfl_X8 (fun w h => List.mem_cons_of_mem _ (List.mem_append_right _ h)) (List.mem_of_getElem? (i := 1) rfl) (by decide) (by decide), List.forall_mem_cons.mpr ⟨zfl_X8 (fun w h => List.mem_cons_of_mem _ (List.mem_append_right _ h)) (List.mem_of_getElem? (i := 2) rfl) (by decide) (by decide), List.forall_mem_cons.mpr ⟨zfl_X8 (fun w h => List.mem_cons_of_mem _ (List.mem_append_right _ h)) (List.mem_of_getElem? (i := 3) rfl) (by decide) (by decide), fun _ h => absurd h List.not_mem_nil⟩⟩⟩))
    (zco_all (fun _ h => absurd h List.not_mem_nil)) (zlc_all (fun _ h => absurd h List.not_mem_nil))
    (List.forall_mem_cons.mpr ⟨ycal_V hX (m_X8_needs hX hN l) rfl (fun s args hts => cwV 2 hts gX8_looked_X8_needs rfl rfl rfl (by decide +kernel) ⟨Nat.le_of_ble_eq_true rfl, Nat.le_of_ble_eq_true rfl⟩), fun _ h => absurd h List.not_mem_nil⟩)
    (List.forall_mem_cons.mpr ⟨ycal_S hX (m_X8_in hX hN l) (fun s args hts => va_cwS 3 hts gX8_looked_X8_in rfl rfl rfl (by decide +kernel) ⟨Nat.le_of_ble_eq_true rfl, Nat.le_of_ble_eq_true rfl⟩), fun _ h => absurd h List.not_mem_nil⟩)
    (zmm_all (fun _ h => absurd h List.not_mem_nil)) (fun _ h => absurd h List.not_mem_nil) (zpr_all hp_X8_looked) (fun as σ res h => by
      unfold F_X8_looked at h
      split at h
      · rename_i x1 x2
        cases hr : f_X8_looked N σ x1 x2 with
        | none => rw [hr] at h; cases h
        | some r =>
          rw [hr] at h
          cases h
          exact ⟨Nat.le_of_ble_eq_true rfl, t_X8_looked σ x1 x2 r hr⟩
      · cases h)
