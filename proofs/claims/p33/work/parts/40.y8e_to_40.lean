section
noncomputable def pr_X8_firstDraft : List (Nat × Instr × Nat) := [(0, .iconst 0, 1), (1, .istore_n 1, 1), (2, .iload_n 1, 1), (3, .sipush 131, 3), (6, .if_icmp .ge 16, 3), (9, .aload_n 0, 1), (10, .getfield 23, 3), (13, .iload_n 1, 1), (14, .iconst 0, 1), (15, .iastore, 1), (16, .iinc 1 1, 3), (19, .goto (-17), 3), (22, .iconst 0, 1), (23, .istore_n 1, 1), (24, .iload_n 1, 1), (25, .iconst 3, 1), (26, .if_icmp .ge 16, 3), (29, .aload_n 0, 1), (30, .getfield 29, 3), (33, .iload_n 1, 1), (34, .iconst 0, 1), (35, .iastore, 1), (36, .iinc 1 1, 3), (39, .goto (-15), 3), (42, .aload_n 0, 1), (43, .iconst 3, 1), (44, .putfield 59, 3), (47, .aload_n 0, 1), (48, .iconst 0, 1), (49, .putfield 63, 3), (52, .aload_n 0, 1), (53, .iconst 0, 1), (54, .putfield 67, 3), (57, .aload_n 0, 1), (58, .iconst 0, 1), (59, .putfield 70, 3), (62, .aload_n 0, 1), (63, .bipush (-4), 2), (65, .putfield 73, 3), (68, .aload_n 0, 1), (69, .bipush (-4), 2), (71, .putfield 76, 3), (74, .return_, 1)]
set_option maxRecDepth 100000 in
theorem hp_X8_firstDraft : pr_X8_firstDraft.all (fun x => decide (decode cX8_firstDraft x.1 = .ok x.2)) = true := by decide +kernel
noncomputable def f_X8_firstDraft_b24 (N : Nat) : Nat → yS → Int → Option (Int × yS) := yfix (fun _ _ => none) (fun ih σ x1 =>
    bif ycP .ge x1 3 then
      some (0, yw (yw (yw (yw (yw (yw σ 0 8 3) 0 9 0) 0 10 0) 0 11 0) 0 14 ((-4))) 0 15 ((-4)))
    else
      bif yin x1 3 then
        ih (yw σ 7 x1.toNat 0) (yad x1 1)
      else none)
theorem q_X8_firstDraft_b24 (N : Nat) (n : Nat) (σ : yS) (x1 : Int) : f_X8_firstDraft_b24 N (n + 1) σ x1 =
    (bif ycP .ge x1 3 then
      some (0, yw (yw (yw (yw (yw (yw σ 0 8 3) 0 9 0) 0 10 0) 0 11 0) 0 14 ((-4))) 0 15 ((-4)))
    else
      bif yin x1 3 then
        (f_X8_firstDraft_b24 N n) (yw σ 7 x1.toNat 0) (yad x1 1)
      else none) := rfl
noncomputable def f_X8_firstDraft_b2 (N : Nat) : Nat → yS → Int → Option (Int × yS) := yfix (fun _ _ => none) (fun ih σ x1 =>
    bif ycP .ge x1 131 then
      f_X8_firstDraft_b24 N N σ 0
    else
      bif yin x1 131 then
        ih (yw σ 5 x1.toNat 0) (yad x1 1)
      else none)
theorem q_X8_firstDraft_b2 (N : Nat) (n : Nat) (σ : yS) (x1 : Int) : f_X8_firstDraft_b2 N (n + 1) σ x1 =
    (bif ycP .ge x1 131 then
      f_X8_firstDraft_b24 N N σ 0
    else
      bif yin x1 131 then
        (f_X8_firstDraft_b2 N n) (yw σ 5 x1.toNat 0) (yad x1 1)
      else none) := rfl
noncomputable def f_X8_firstDraft (N : Nat) (σ : yS) : Option (Int × yS) :=
  f_X8_firstDraft_b2 N N σ 0
noncomputable def F_X8_firstDraft (N : Nat) : yF := fun as σ => match as with
  | [.inr (.inl 8, 0)] => (f_X8_firstDraft N σ).map (fun r => (none, r.2))
  | _ => none
theorem e_X8_firstDraft {N : Nat} {σ : yS} {r : Int × yS} (h : f_X8_firstDraft N σ = some r) : F_X8_firstDraft N [.inr (.inl 8, 0)] σ = some (none, r.2) := by
  show (f_X8_firstDraft N σ).map (fun r => ((none, r.2) : yR)) = _
  rw [h]
  rfl
noncomputable def tb_X8_firstDraft (N : Nat) : yTb := ([(23, 8, 7, 3), (29, 8, 13, 3), (59, 8, 8, 0), (63, 8, 9, 1), (67, 8, 10, 1), (70, 8, 11, 0), (73, 8, 14, 0), (76, 8, 15, 0)], [], [], [], [], [], [])
abbrev G_X8_firstDraft (N : Nat) (X : zXT) (sh : List yH) (l : Launch) (rm : Room) : yC → yR → Prop := yGoes X vwCl yct sh l rm cX8_firstDraft 2 wsX8_firstDraft RX8 (tb_X8_firstDraft N) pr_X8_firstDraft 0
set_option maxRecDepth 100000 in
set_option maxHeartbeats 4000000 in
theorem t_X8_firstDraft_b24 {N : Nat} {X : zXT} {sh : List yH} {l : Launch} {rm : Room} : ∀ (n : Nat) (σ : yS) (x1 : Int) (res : Int × yS), f_X8_firstDraft_b24 N n σ x1 = some res → G_X8_firstDraft N X sh l rm (24, [(0, .inr (.inl 8, 0)), (1, .inl (.inl x1))], [], σ) (none, res.2) := by
  intro n
  induction n with
  | zero => intro σ x1 res h; exact (yno h).elim
  | succ n ih =>
    intro σ x1 res h
    rw [q_X8_firstDraft_b24] at h
    refine yG_n (n := 2) (C' := (26, [(0, .inr (.inl 8, 0)), (1, .inl (.inl x1))], [.inl (.inl 3), .inl (.inl x1)], σ)) rfl ?_
    cases hg1 : ycP .ge x1 3 with
    | true =>
      rw [hg1] at h
      dsimp only [cond] at h
      refine yG_t (C' := (42, [(0, .inr (.inl 8, 0)), (1, .inl (.inl x1))], [], σ)) rfl hg1 ?_
      refine yG_n (n := 18) (C' := (74, [(0, .inr (.inl 8, 0)), (1, .inl (.inl x1))], [], yw (yw (yw (yw (yw (yw σ 0 8 3) 0 9 0) 0 10 0) 0 11 0) 0 14 ((-4))) 0 15 ((-4)))) rfl ?_
      have h := Option.some.inj h
      subst h
      dsimp only
      exact yG_r rfl rfl
    | false =>
      rw [hg1] at h
      dsimp only [cond] at h
      refine yG_f (C' := (29, [(0, .inr (.inl 8, 0)), (1, .inl (.inl x1))], [], σ)) rfl hg1 ?_
      refine yG_n (n := 4) (C' := (35, [(0, .inr (.inl 8, 0)), (1, .inl (.inl x1))], [.inl (.inl 0), .inl (.inl x1), .inr (.inr (0, 3), 7)], σ)) rfl ?_
      cases hg2 : yin x1 3 with
      | false => rw [hg2] at h; dsimp only [cond] at h; cases h
      | true =>
        rw [hg2] at h
        dsimp only [cond] at h
        refine yG_t (C' := (36, [(0, .inr (.inl 8, 0)), (1, .inl (.inl x1))], [], yw σ 7 x1.toNat 0)) rfl hg2 ?_
        refine yG_n (n := 2) (C' := (24, [(1, .inl (.inl (yad x1 1))), (0, .inr (.inl 8, 0))], [], yw σ 7 x1.toNat 0)) rfl ?_
        exact yG_w [1, 0] rfl (ih (yw σ 7 x1.toNat 0) (yad x1 1) res h)
set_option maxRecDepth 100000 in
set_option maxHeartbeats 4000000 in
theorem t_X8_firstDraft_b2 {N : Nat} {X : zXT} {sh : List yH} {l : Launch} {rm : Room} : ∀ (n : Nat) (σ : yS) (x1 : Int) (res : Int × yS), f_X8_firstDraft_b2 N n σ x1 = some res → G_X8_firstDraft N X sh l rm (2, [(0, .inr (.inl 8, 0)), (1, .inl (.inl x1))], [], σ) (none, res.2) := by
  intro n
  induction n with
  | zero => intro σ x1 res h; exact (yno h).elim
  | succ n ih =>
    intro σ x1 res h
    rw [q_X8_firstDraft_b2] at h
    refine yG_n (n := 2) (C' := (6, [(0, .inr (.inl 8, 0)), (1, .inl (.inl x1))], [.inl (.inl 131), .inl (.inl x1)], σ)) rfl ?_
    cases hg3 : ycP .ge x1 131 with
    | true =>
      rw [hg3] at h
      dsimp only [cond] at h
      refine yG_t (C' := (22, [(0, .inr (.inl 8, 0)), (1, .inl (.inl x1))], [], σ)) rfl hg3 ?_
      refine yG_n (n := 2) (C' := (24, [(1, .inl (.inl 0)), (0, .inr (.inl 8, 0))], [], σ)) rfl ?_
      exact yG_w [1, 0] rfl (t_X8_firstDraft_b24 N σ 0 res h)
    | false =>
      rw [hg3] at h
      dsimp only [cond] at h
      refine yG_f (C' := (9, [(0, .inr (.inl 8, 0)), (1, .inl (.inl x1))], [], σ)) rfl hg3 ?_
      refine yG_n (n := 4) (C' := (15, [(0, .inr (.inl 8, 0)), (1, .inl (.inl x1))], [.inl (.inl 0), .inl (.inl x1), .inr (.inr (0, 131), 5)], σ)) rfl ?_
      cases hg4 : yin x1 131 with
      | false => rw [hg4] at h; dsimp only [cond] at h; cases h
      | true =>
        rw [hg4] at h
        dsimp only [cond] at h
        refine yG_t (C' := (16, [(0, .inr (.inl 8, 0)), (1, .inl (.inl x1))], [], yw σ 5 x1.toNat 0)) rfl hg4 ?_
        refine yG_n (n := 2) (C' := (2, [(1, .inl (.inl (yad x1 1))), (0, .inr (.inl 8, 0))], [], yw σ 5 x1.toNat 0)) rfl ?_
        exact yG_w [1, 0] rfl (ih (yw σ 5 x1.toNat 0) (yad x1 1) res h)
set_option maxRecDepth 100000 in
set_option maxHeartbeats 4000000 in
theorem t_X8_firstDraft {N : Nat} {X : zXT} {sh : List yH} {l : Launch} {rm : Room} (σ : yS) (res : Int × yS) (h : f_X8_firstDraft N σ = some res) : G_X8_firstDraft N X sh l rm (0, [(0, .inr (.inl 8, 0))], [], σ) (none, res.2) := by
  unfold f_X8_firstDraft at h
  refine yG_n (n := 2) (C' := (2, [(1, .inl (.inl 0)), (0, .inr (.inl 8, 0))], [], σ)) rfl ?_
  exact yG_w [1, 0] rfl (t_X8_firstDraft_b2 N σ 0 res h)
set_option maxRecDepth 100000 in
set_option maxHeartbeats 4000000 in
theorem m_X8_firstDraft {N : Nat} {X : zXT} (hX : zXok X) (hN : zXn X) (l : Launch) {sh : List yH} : yMet X vwCl yct sh l yX8_firstDraft wsX8_firstDraft { frames := 1, cells := 0, slots := 0, locals := 64 } (F_X8_firstDraft N) :=
  ymeth (tb := tb_X8_firstDraft N) (pr := pr_X8_firstDraft) (rt := 0) (own := RX8) hX (by decide +kernel) rfl rfl ⟨Nat.le_of_ble_eq_true rfl, Nat.le_of_ble_eq_true rfl⟩
    (zfl_all (List.forall_mem_cons.mpr ⟨zfl_X8 (fun w h => List.mem_cons_of_mem _ (List.mem_append_right _ h)) (List.mem_of_getElem? (i := 1) rfl) (by decide) (by decide), List.forall_mem_cons.mpr ⟨zfl_X8 (fun w h => List.mem_cons_of_mem _ (List.mem_append_right _ h)) (List.mem_of_getElem? (i := 2) rfl) (by decide) (by decide), List.forall_mem_cons.mpr ⟨zfl_X8 (fun w h => List.mem_cons_of_mem _ (List.mem_append_right _ h)) (List.mem_of_getElem? (i := 3) rfl) (by decide) (by decide), List.forall_mem_cons.mpr ⟨zfl_X8 (fun w h => List.mem_cons_of_mem _ (List.mem_append_right _ h)) (List.mem_of_getElem? (i := 4) rfl) (by decide) (by decide), List.forall_mem_cons.mpr ⟨zfl_X8 (fun w h => List.mem_cons_of_mem _ (List.mem_append_right _ h)) (List.mem_of_getElem? (i := 5) rfl) (by decide) (by decide), List.forall_mem_cons.mpr ⟨zfl_X8 (fun w h => List.mem_cons_of_mem _ (List.mem_append_right _ h)) (List.mem_of_getElem? (i := 6) rfl) (by decide) (by decide), List.forall_mem_cons.mpr ⟨zfl_X8 (fun w h => List.mem_cons_of_mem _ (List.mem_append_right _ h)) (List.mem_of_getElem? (i := 7) rfl) (by decide) (by decide), List.forall_mem_cons.mpr ⟨zfl_X8 (fun w h => List.mem_cons_of_mem _ (List.mem_append_right _ h)) (List.mem_of_getElem? (i := 8) rfl) (by decide) (by decide), fun _ h => absurd h List.not_mem_nil⟩⟩⟩⟩⟩⟩⟩⟩))
    (zco_all (fun _ h => absurd h List.not_mem_nil)) (zlc_all (fun _ h => absurd h List.not_mem_nil))
    (fun _ h => absurd h List.not_mem_nil)
    (fun _ h => absurd h List.not_mem_nil)
    (zmm_all (fun _ h => absurd h List.not_mem_nil)) (fun _ h => absurd h List.not_mem_nil) (zpr_all hp_X8_firstDraft) (fun as σ res h => by
      unfold F_X8_firstDraft at h
      split at h
      · cases hr : f_X8_firstDraft N σ with
        | none => rw [hr] at h; cases h
        | some r =>
          rw [hr] at h
          cases h
          exact ⟨Nat.le_of_ble_eq_true rfl, t_X8_firstDraft σ r hr⟩
      · cases h)
noncomputable def pr_X8_fund : List (Nat × Instr × Nat) := [(0, .aload_n 0, 1), (1, .iload_n 1, 1), (2, .invokevirtual 205, 3), (5, .ifCond .eq 26, 3), (8, .iload_n 2, 1), (9, .i2l, 1), (10, .lconst 0, 1), (11, .ldc2_w 212, 3), (14, .invokestatic 90, 3), (17, .ifCond .eq 14, 3), (20, .aload_n 0, 1), (21, .iconst 0, 1), (22, .iload_n 1, 1), (23, .iadd, 1), (24, .iload_n 2, 1), (25, .invokevirtual 214, 3), (28, .goto 4, 3), (31, .iconst (-1), 1), (32, .ireturn, 1)]
set_option maxRecDepth 100000 in
theorem hp_X8_fund : pr_X8_fund.all (fun x => decide (decode cX8_fund x.1 = .ok x.2)) = true := by decide +kernel
noncomputable def f_X8_fund_b32 (N : Nat) (σ : yS) (s0 : Int) : Option (Int × yS) :=
  some (s0, σ)
noncomputable def f_X8_fund_b31 (N : Nat) (σ : yS) : Option (Int × yS) :=
  f_X8_fund_b32 N σ ((-1))
noncomputable def f_X8_fund (N : Nat) (σ : yS) (x1 : Int) (x2 : Int) : Option (Int × yS) :=
  match f_X8_isHouse N σ x1 with
  | none => none
  | some r1 => bif ycP .eq r1.1 0 then
      f_X8_fund_b31 N r1.2
    else
      match f_X8_in N r1.2 x2 0 99 with
      | none => none
      | some r2 => bif ycP .eq r2.1 0 then
          f_X8_fund_b31 N r2.2
        else
          match f_X8_becomes N r2.2 (yad 0 x1) x2 with
          | none => none
          | some r3 => f_X8_fund_b32 N r3.2 r3.1
noncomputable def F_X8_fund (N : Nat) : yF := fun as σ => match as with
  | [.inr (.inl 8, 0), .inl (.inl x1), .inl (.inl x2)] => (f_X8_fund N σ x1 x2).map (fun r => (some (.inl (.inl r.1)), r.2))
  | _ => none
theorem e_X8_fund {N : Nat} {σ : yS} {x1 : Int} {x2 : Int} {r : Int × yS} (h : f_X8_fund N σ x1 x2 = some r) : F_X8_fund N [.inr (.inl 8, 0), .inl (.inl x1), .inl (.inl x2)] σ = some (some (.inl (.inl r.1)), r.2) := by
  show (f_X8_fund N σ x1 x2).map (fun r => ((some (.inl (.inl r.1)), r.2) : yR)) = _
  rw [h]
  rfl
noncomputable def tb_X8_fund (N : Nat) : yTb := ([], [], [(212, 99)], [(205, 2, 8, F_X8_isHouse N), (214, 3, 8, F_X8_becomes N)], [(90, 3, F_X8_in N)], [], [])
abbrev G_X8_fund (N : Nat) (X : zXT) (sh : List yH) (l : Launch) (rm : Room) : yC → yR → Prop := yGoes X vwCl yct sh l rm cX8_fund 3 wsX8_fund RX8 (tb_X8_fund N) pr_X8_fund 1
set_option maxRecDepth 100000 in
set_option maxHeartbeats 4000000 in
theorem t_X8_fund_b32 {N : Nat} {X : zXT} {sh : List yH} {l : Launch} {rm : Room} (σ : yS) (s0 : Int) (res : Int × yS) (h : f_X8_fund_b32 N σ s0 = some res) : G_X8_fund N X sh l rm (32, [], [.inl (.inl s0)], σ) (some (.inl (.inl res.1)), res.2) := by
  unfold f_X8_fund_b32 at h
  have h := Option.some.inj h
  subst h
  dsimp only
  exact yG_r rfl rfl
set_option maxRecDepth 100000 in
set_option maxHeartbeats 4000000 in
theorem t_X8_fund_b31 {N : Nat} {X : zXT} {sh : List yH} {l : Launch} {rm : Room} (σ : yS) (res : Int × yS) (h : f_X8_fund_b31 N σ = some res) : G_X8_fund N X sh l rm (31, [], [], σ) (some (.inl (.inl res.1)), res.2) := by
  unfold f_X8_fund_b31 at h
  refine yG_n (n := 1) (C' := (32, [], [.inl (.inl ((-1)))], σ)) rfl ?_
  exact t_X8_fund_b32 σ ((-1)) res h
set_option maxRecDepth 100000 in
set_option maxHeartbeats 4000000 in
theorem t_X8_fund {N : Nat} {X : zXT} {sh : List yH} {l : Launch} {rm : Room} (σ : yS) (x1 : Int) (x2 : Int) (res : Int × yS) (h : f_X8_fund N σ x1 x2 = some res) : G_X8_fund N X sh l rm (0, [(0, .inr (.inl 8, 0)), (1, .inl (.inl x1)), (2, .inl (.inl x2))], [], σ) (some (.inl (.inl res.1)), res.2) := by
  unfold f_X8_fund at h
  refine yG_n (n := 2) (C' := (2, [(0, .inr (.inl 8, 0)), (1, .inl (.inl x1)), (2, .inl (.inl x2))], [.inl (.inl x1), .inr (.inl 8, 0)], σ)) rfl ?_
  cases hr1 : f_X8_isHouse N σ x1 with
  | none => rw [hr1] at h; dsimp only at h; cases h
  | some r1 =>
    rw [hr1] at h
    dsimp only at h
    refine yG_c (C1 := (5, [(0, .inr (.inl 8, 0)), (1, .inl (.inl x1)), (2, .inl (.inl x2))], [.inl (.inl r1.1)], r1.2)) rfl (e_X8_isHouse hr1) rfl ?_
    cases hg2 : ycP .eq r1.1 0 with
    | true =>
      rw [hg2] at h
      dsimp only [cond] at h
      refine yG_t (C' := (31, [(0, .inr (.inl 8, 0)), (1, .inl (.inl x1)), (2, .inl (.inl x2))], [], r1.2)) rfl hg2 ?_
      exact yG_w [] rfl (t_X8_fund_b31 r1.2 res h)
    | false =>
      rw [hg2] at h
      dsimp only [cond] at h
      refine yG_f (C' := (8, [(0, .inr (.inl 8, 0)), (1, .inl (.inl x1)), (2, .inl (.inl x2))], [], r1.2)) rfl hg2 ?_
      refine yG_n (n := 4) (C' := (14, [(0, .inr (.inl 8, 0)), (1, .inl (.inl x1)), (2, .inl (.inl x2))], [.inl (.inr 99), .inl (.inr 0), .inl (.inr x2)], r1.2)) rfl ?_
      cases hr3 : f_X8_in N r1.2 x2 0 99 with
      | none => rw [hr3] at h; dsimp only at h; cases h
      | some r2 =>
        rw [hr3] at h
        dsimp only at h
        refine yG_c (C1 := (17, [(0, .inr (.inl 8, 0)), (1, .inl (.inl x1)), (2, .inl (.inl x2))], [.inl (.inl r2.1)], r2.2)) rfl (e_X8_in hr3) rfl ?_
        cases hg4 : ycP .eq r2.1 0 with
        | true =>
          rw [hg4] at h
          dsimp only [cond] at h
          refine yG_t (C' := (31, [(0, .inr (.inl 8, 0)), (1, .inl (.inl x1)), (2, .inl (.inl x2))], [], r2.2)) rfl hg4 ?_
          exact yG_w [] rfl (t_X8_fund_b31 r2.2 res h)
        | false =>
          rw [hg4] at h
          dsimp only [cond] at h
          refine yG_f (C' := (20, [(0, .inr (.inl 8, 0)), (1, .inl (.inl x1)), (2, .inl (.inl x2))], [], r2.2)) rfl hg4 ?_
          refine yG_n (n := 5) (C' := (25, [(0, .inr (.inl 8, 0)), (1, .inl (.inl x1)), (2, .inl (.inl x2))], [.inl (.inl x2), .inl (.inl (yad 0 x1)), .inr (.inl 8, 0)], r2.2)) rfl ?_
          cases hr5 : f_X8_becomes N r2.2 (yad 0 x1) x2 with
          | none => rw [hr5] at h; dsimp only at h; cases h
          | some r3 =>
            rw [hr5] at h
            dsimp only at h
            refine yG_c (C1 := (28, [(0, .inr (.inl 8, 0)), (1, .inl (.inl x1)), (2, .inl (.inl x2))], [.inl (.inl r3.1)], r3.2)) rfl (e_X8_becomes hr5) rfl ?_
            refine yG_n (n := 1) (C' := (32, [(0, .inr (.inl 8, 0)), (1, .inl (.inl x1)), (2, .inl (.inl x2))], [.inl (.inl r3.1)], r3.2)) rfl ?_
            exact yG_w [] rfl (t_X8_fund_b32 r3.2 r3.1 res h)
set_option maxRecDepth 100000 in
set_option maxHeartbeats 4000000 in
theorem m_X8_fund {N : Nat} {X : zXT} (hX : zXok X) (hN : zXn X) (l : Launch) {sh : List yH} : yMet X vwCl yct sh l yX8_fund wsX8_fund { frames := 3, cells := 0, slots := 0, locals := 110 } (F_X8_fund N) :=
  ymeth (tb := tb_X8_fund N) (pr := pr_X8_fund) (rt := 1) (own := RX8) hX (by decide +kernel) rfl rfl ⟨Nat.le_of_ble_eq_true rfl, Nat.le_of_ble_eq_true rfl⟩
    (zfl_all (fun _ h => absurd h List.not_mem_nil))
    (zco_all (fun _ h => absurd h List.not_mem_nil)) (zlc_all (List.forall_mem_cons.mpr ⟨(List.mem_of_getElem? (i := 1) rfl), fun _ h => absurd h List.not_mem_nil⟩))
    (List.forall_mem_cons.mpr ⟨ycal_V hX (m_X8_isHouse hX hN l) rfl (fun s args hts => cwV 1 hts gX8_fund_X8_isHouse rfl rfl rfl (by decide +kernel) ⟨Nat.le_of_ble_eq_true rfl, Nat.le_of_ble_eq_true rfl⟩), List.forall_mem_cons.mpr ⟨ycal_V hX (m_X8_becomes hX hN l) rfl (fun s args hts => cwV 2 hts gX8_fund_X8_becomes rfl rfl rfl (by decide +kernel) ⟨Nat.le_of_ble_eq_true rfl, Nat.le_of_ble_eq_true rfl⟩), fun _ h => absurd h List.not_mem_nil⟩⟩)
    (List.forall_mem_cons.mpr ⟨ycal_S hX (m_X8_in hX hN l) (fun s args hts => va_cwS 3 hts gX8_fund_X8_in rfl rfl rfl (by decide +kernel) ⟨Nat.le_of_ble_eq_true rfl, Nat.le_of_ble_eq_true rfl⟩), fun _ h => absurd h List.not_mem_nil⟩)
    (zmm_all (fun _ h => absurd h List.not_mem_nil)) (fun _ h => absurd h List.not_mem_nil) (zpr_all hp_X8_fund) (fun as σ res h => by
      unfold F_X8_fund at h
      split at h
      · rename_i x1 x2
        cases hr : f_X8_fund N σ x1 x2 with
        | none => rw [hr] at h; cases h
        | some r =>
          rw [hr] at h
          cases h
          exact ⟨Nat.le_of_ble_eq_true rfl, t_X8_fund σ x1 x2 r hr⟩
      · cases h)
noncomputable def pr_X8_go : List (Nat × Instr × Nat) := [(0, .iload_n 1, 1), (1, .i2l, 1), (2, .lconst 0, 1), (3, .ldc2_w 264, 3), (6, .invokestatic 90, 3), (9, .ifCond .ne 5, 3), (12, .iconst (-1), 1), (13, .ireturn, 1), (14, .aload_n 0, 1), (15, .getfield 7, 3), (18, .bipush 127, 2), (20, .iaload, 1), (21, .iload_n 1, 1), (22, .iadd, 1), (23, .sipush 999, 3), (26, .if_icmp .le 6, 3), (29, .bipush (-3), 2), (31, .ireturn, 1), (32, .aload_n 0, 1), (33, .invokevirtual 266, 3), (36, .aload_n 0, 1), (37, .iload_n 1, 1), (38, .invokevirtual 269, 3), (41, .iconst 0, 1), (42, .istore_n 2, 1), (43, .iload_n 2, 1), (44, .sipush 131, 3), (47, .if_icmp .ge 21, 3), (50, .aload_n 0, 1), (51, .getfield 7, 3), (54, .iload_n 2, 1), (55, .aload_n 0, 1), (56, .getfield 13, 3), (59, .iload_n 2, 1), (60, .iaload, 1), (61, .iastore, 1), (62, .iinc 2 1, 3), (65, .goto (-22), 3), (68, .aload_n 0, 1), (69, .getfield 239, 3), (72, .ireturn, 1)]
set_option maxRecDepth 100000 in
theorem hp_X8_go : pr_X8_go.all (fun x => decide (decode cX8_go x.1 = .ok x.2)) = true := by decide +kernel
noncomputable def f_X8_go_b43 (N : Nat) : Nat → yS → Int → Option (Int × yS) := yfix (fun _ _ => none) (fun ih σ x2 =>
    bif ycP .ge x2 131 then
      some (σ.1 0 26, σ)
    else
      bif yin x2 131 then
        bif yin x2 393 then
          ih (yw σ 1 x2.toNat (σ.1 2 x2.toNat)) (yad x2 1)
        else none
      else none)
theorem q_X8_go_b43 (N : Nat) (n : Nat) (σ : yS) (x2 : Int) : f_X8_go_b43 N (n + 1) σ x2 =
    (bif ycP .ge x2 131 then
      some (σ.1 0 26, σ)
    else
      bif yin x2 131 then
        bif yin x2 393 then
          (f_X8_go_b43 N n) (yw σ 1 x2.toNat (σ.1 2 x2.toNat)) (yad x2 1)
        else none
      else none) := rfl
noncomputable def f_X8_go (N : Nat) (σ : yS) (x1 : Int) : Option (Int × yS) :=
  match f_X8_in N σ x1 0 60 with
  | none => none
  | some r1 => bif ycP .ne r1.1 0 then
      bif ycP .le (yad (r1.2.1 1 127) x1) 999 then
        match f_X8_starts N r1.2 with
        | none => none
        | some r2 => match f_X8_daysAll N r2.2 x1 with
          | none => none
          | some r3 => f_X8_go_b43 N N r3.2 0
      else
        some ((-3), r1.2)
    else
      some ((-1), r1.2)
noncomputable def F_X8_go (N : Nat) : yF := fun as σ => match as with
  | [.inr (.inl 8, 0), .inl (.inl x1)] => (f_X8_go N σ x1).map (fun r => (some (.inl (.inl r.1)), r.2))
  | _ => none
theorem e_X8_go {N : Nat} {σ : yS} {x1 : Int} {r : Int × yS} (h : f_X8_go N σ x1 = some r) : F_X8_go N [.inr (.inl 8, 0), .inl (.inl x1)] σ = some (some (.inl (.inl r.1)), r.2) := by
  show (f_X8_go N σ x1).map (fun r => ((some (.inl (.inl r.1)), r.2) : yR)) = _
  rw [h]
  rfl
noncomputable def tb_X8_go (N : Nat) : yTb := ([(7, 8, 0, 3), (13, 8, 1, 3), (239, 8, 26, 0)], [], [(264, 60)], [(266, 1, 8, F_X8_starts N), (269, 2, 8, F_X8_daysAll N)], [(90, 3, F_X8_in N)], [], [])
abbrev G_X8_go (N : Nat) (X : zXT) (sh : List yH) (l : Launch) (rm : Room) : yC → yR → Prop := yGoes X vwCl yct sh l rm cX8_go 3 wsX8_go RX8 (tb_X8_go N) pr_X8_go 1
set_option maxRecDepth 100000 in
set_option maxHeartbeats 4000000 in
theorem t_X8_go_b43 {N : Nat} {X : zXT} {sh : List yH} {l : Launch} {rm : Room} : ∀ (n : Nat) (σ : yS) (x2 : Int) (res : Int × yS), f_X8_go_b43 N n σ x2 = some res → G_X8_go N X sh l rm (43, [(0, .inr (.inl 8, 0)), (2, .inl (.inl x2))], [], σ) (some (.inl (.inl res.1)), res.2) := by
  intro n
  induction n with
  | zero => intro σ x2 res h; exact (yno h).elim
  | succ n ih =>
    intro σ x2 res h
    rw [q_X8_go_b43] at h
    refine yG_n (n := 2) (C' := (47, [(0, .inr (.inl 8, 0)), (2, .inl (.inl x2))], [.inl (.inl 131), .inl (.inl x2)], σ)) rfl ?_
    cases hg1 : ycP .ge x2 131 with
    | true =>
      rw [hg1] at h
      dsimp only [cond] at h
      refine yG_t (C' := (68, [(0, .inr (.inl 8, 0)), (2, .inl (.inl x2))], [], σ)) rfl hg1 ?_
      refine yG_n (n := 2) (C' := (72, [(0, .inr (.inl 8, 0)), (2, .inl (.inl x2))], [.inl (.inl (σ.1 0 26))], σ)) rfl ?_
      have h := Option.some.inj h
      subst h
      dsimp only
      exact yG_r rfl rfl
    | false =>
      rw [hg1] at h
      dsimp only [cond] at h
      refine yG_f (C' := (50, [(0, .inr (.inl 8, 0)), (2, .inl (.inl x2))], [], σ)) rfl hg1 ?_
      refine yG_n (n := 6) (C' := (60, [(0, .inr (.inl 8, 0)), (2, .inl (.inl x2))], [.inl (.inl x2), .inr (.inr (0, 131), 2), .inl (.inl x2), .inr (.inr (0, 393), 1)], σ)) rfl ?_
      cases hg2 : yin x2 131 with
      | false => rw [hg2] at h; dsimp only [cond] at h; cases h
      | true =>
        rw [hg2] at h
        dsimp only [cond] at h
        refine yG_t (C' := (61, [(0, .inr (.inl 8, 0)), (2, .inl (.inl x2))], [.inl (.inl (σ.1 2 x2.toNat)), .inl (.inl x2), .inr (.inr (0, 393), 1)], σ)) rfl hg2 ?_
        cases hg3 : yin x2 393 with
        | false => rw [hg3] at h; dsimp only [cond] at h; cases h
        | true =>
          rw [hg3] at h
          dsimp only [cond] at h
          refine yG_t (C' := (62, [(0, .inr (.inl 8, 0)), (2, .inl (.inl x2))], [], yw σ 1 x2.toNat (σ.1 2 x2.toNat))) rfl hg3 ?_
          refine yG_n (n := 2) (C' := (43, [(2, .inl (.inl (yad x2 1))), (0, .inr (.inl 8, 0))], [], yw σ 1 x2.toNat (σ.1 2 x2.toNat))) rfl ?_
          exact yG_w [1, 0] rfl (ih (yw σ 1 x2.toNat (σ.1 2 x2.toNat)) (yad x2 1) res h)
set_option maxRecDepth 100000 in
set_option maxHeartbeats 4000000 in
theorem t_X8_go {N : Nat} {X : zXT} {sh : List yH} {l : Launch} {rm : Room} (σ : yS) (x1 : Int) (res : Int × yS) (h : f_X8_go N σ x1 = some res) : G_X8_go N X sh l rm (0, [(0, .inr (.inl 8, 0)), (1, .inl (.inl x1))], [], σ) (some (.inl (.inl res.1)), res.2) := by
  unfold f_X8_go at h
  refine yG_n (n := 4) (C' := (6, [(0, .inr (.inl 8, 0)), (1, .inl (.inl x1))], [.inl (.inr 60), .inl (.inr 0), .inl (.inr x1)], σ)) rfl ?_
  cases hr4 : f_X8_in N σ x1 0 60 with
  | none => rw [hr4] at h; dsimp only at h; cases h
  | some r1 =>
    rw [hr4] at h
    dsimp only at h
    refine yG_c (C1 := (9, [(0, .inr (.inl 8, 0)), (1, .inl (.inl x1))], [.inl (.inl r1.1)], r1.2)) rfl (e_X8_in hr4) rfl ?_
    cases hg5 : ycP .ne r1.1 0 with
    | true =>
      rw [hg5] at h
      dsimp only [cond] at h
      refine yG_t (C' := (14, [(0, .inr (.inl 8, 0)), (1, .inl (.inl x1))], [], r1.2)) rfl hg5 ?_
      refine yG_n (n := 7) (C' := (26, [(0, .inr (.inl 8, 0)), (1, .inl (.inl x1))], [.inl (.inl 999), .inl (.inl (yad (r1.2.1 1 127) x1))], r1.2)) rfl ?_
      cases hg6 : ycP .le (yad (r1.2.1 1 127) x1) 999 with
      | true =>
        rw [hg6] at h
        dsimp only [cond] at h
        refine yG_t (C' := (32, [(0, .inr (.inl 8, 0)), (1, .inl (.inl x1))], [], r1.2)) rfl hg6 ?_
        refine yG_n (n := 1) (C' := (33, [(0, .inr (.inl 8, 0)), (1, .inl (.inl x1))], [.inr (.inl 8, 0)], r1.2)) rfl ?_
        cases hr7 : f_X8_starts N r1.2 with
        | none => rw [hr7] at h; dsimp only at h; cases h
        | some r2 =>
          rw [hr7] at h
          dsimp only at h
          refine yG_c (C1 := (36, [(0, .inr (.inl 8, 0)), (1, .inl (.inl x1))], [], r2.2)) rfl (e_X8_starts hr7) rfl ?_
          refine yG_n (n := 2) (C' := (38, [(0, .inr (.inl 8, 0)), (1, .inl (.inl x1))], [.inl (.inl x1), .inr (.inl 8, 0)], r2.2)) rfl ?_
          cases hr8 : f_X8_daysAll N r2.2 x1 with
          | none => rw [hr8] at h; dsimp only at h; cases h
          | some r3 =>
            rw [hr8] at h
            dsimp only at h
            refine yG_c (C1 := (41, [(0, .inr (.inl 8, 0)), (1, .inl (.inl x1))], [], r3.2)) rfl (e_X8_daysAll hr8) rfl ?_
            refine yG_n (n := 2) (C' := (43, [(2, .inl (.inl 0)), (0, .inr (.inl 8, 0)), (1, .inl (.inl x1))], [], r3.2)) rfl ?_
            exact yG_w [1, 0] rfl (t_X8_go_b43 N r3.2 0 res h)
      | false =>
        rw [hg6] at h
        dsimp only [cond] at h
        refine yG_f (C' := (29, [(0, .inr (.inl 8, 0)), (1, .inl (.inl x1))], [], r1.2)) rfl hg6 ?_
        refine yG_n (n := 1) (C' := (31, [(0, .inr (.inl 8, 0)), (1, .inl (.inl x1))], [.inl (.inl ((-3)))], r1.2)) rfl ?_
        have h := Option.some.inj h
        subst h
        dsimp only
        exact yG_r rfl rfl
    | false =>
      rw [hg5] at h
      dsimp only [cond] at h
      refine yG_f (C' := (12, [(0, .inr (.inl 8, 0)), (1, .inl (.inl x1))], [], r1.2)) rfl hg5 ?_
      refine yG_n (n := 1) (C' := (13, [(0, .inr (.inl 8, 0)), (1, .inl (.inl x1))], [.inl (.inl ((-1)))], r1.2)) rfl ?_
      have h := Option.some.inj h
      subst h
      dsimp only
      exact yG_r rfl rfl
set_option maxRecDepth 100000 in
set_option maxHeartbeats 4000000 in
theorem m_X8_go {N : Nat} {X : zXT} (hX : zXok X) (hN : zXn X) (l : Launch) {sh : List yH} : yMet X vwCl yct sh l yX8_go wsX8_go { frames := 6, cells := 0, slots := 0, locals := 177 } (F_X8_go N) :=
  ymeth (tb := tb_X8_go N) (pr := pr_X8_go) (rt := 1) (own := RX8) hX (by decide +kernel) rfl rfl ⟨Nat.le_of_ble_eq_true rfl, Nat.le_of_ble_eq_true rfl⟩
    (zfl_all (List.forall_mem_cons.mpr ⟨zfl_X8 (fun w h => List.mem_cons_of_mem _ (List.mem_append_right _ h)) (List.mem_of_getElem? (i := 2) rfl) (by decide) (by decide), List.forall_mem_cons.mpr ⟨zfl_X8 (fun w h => List.mem_cons_of_mem _ (List.mem_append_right _ h)) (List.mem_of_getElem? (i := 3) rfl) (by decide) (by decide), List.forall_mem_cons.mpr ⟨zfl_X8 (fun w h => List.mem_cons_of_mem _ (List.mem_append_right _ h)) (List.mem_of_getElem? (i := 4) rfl) (by decide) (by decide), fun _ h => absurd h List.not_mem_nil⟩⟩⟩))
    (zco_all (fun _ h => absurd h List.not_mem_nil)) (zlc_all (List.forall_mem_cons.mpr ⟨(List.mem_of_getElem? (i := 1) rfl), fun _ h => absurd h List.not_mem_nil⟩))
    (List.forall_mem_cons.mpr ⟨ycal_V hX (m_X8_starts hX hN l) rfl (fun s args hts => cwV 0 hts gX8_go_X8_starts rfl rfl rfl (by decide +kernel) ⟨Nat.le_of_ble_eq_true rfl, Nat.le_of_ble_eq_true rfl⟩), List.forall_mem_cons.mpr ⟨ycal_V hX (m_X8_daysAll hX hN l) rfl (fun s args hts => cwV 1 hts gX8_go_X8_daysAll rfl rfl rfl (by decide +kernel) ⟨Nat.le_of_ble_eq_true rfl, Nat.le_of_ble_eq_true rfl⟩), fun _ h => absurd h List.not_mem_nil⟩⟩)
    (List.forall_mem_cons.mpr ⟨ycal_S hX (m_X8_in hX hN l) (fun s args hts => va_cwS 3 hts gX8_go_X8_in rfl rfl rfl (by decide +kernel) ⟨Nat.le_of_ble_eq_true rfl, Nat.le_of_ble_eq_true rfl⟩), fun _ h => absurd h List.not_mem_nil⟩)
    (zmm_all (fun _ h => absurd h List.not_mem_nil)) (fun _ h => absurd h List.not_mem_nil) (zpr_all hp_X8_go) (fun as σ res h => by
      unfold F_X8_go at h
      split at h
      · rename_i x1
        cases hr : f_X8_go N σ x1 with
        | none => rw [hr] at h; cases h
        | some r =>
          rw [hr] at h
          cases h
          exact ⟨Nat.le_of_ble_eq_true rfl, t_X8_go σ x1 r hr⟩
      · cases h)
noncomputable def pr_X8_isKind : List (Nat × Instr × Nat) := [(0, .iload_n 0, 1), (1, .i2l, 1), (2, .lconst 0, 1), (3, .ldc2_w 193, 3), (6, .invokestatic 90, 3), (9, .ireturn, 1)]
set_option maxRecDepth 100000 in
theorem hp_X8_isKind : pr_X8_isKind.all (fun x => decide (decode cX8_isKind x.1 = .ok x.2)) = true := by decide +kernel
noncomputable def f_X8_isKind (N : Nat) (σ : yS) (x0 : Int) : Option (Int × yS) :=
  match f_X8_in N σ x0 0 4 with
  | none => none
  | some r1 => bif yb1 r1.1 then some (r1.1, r1.2) else none
noncomputable def F_X8_isKind (N : Nat) : yF := fun as σ => match as with
  | [.inl (.inl x0)] => (f_X8_isKind N σ x0).map (fun r => (some (.inl (.inl r.1)), r.2))
  | _ => none
theorem e_X8_isKind {N : Nat} {σ : yS} {x0 : Int} {r : Int × yS} (h : f_X8_isKind N σ x0 = some r) : F_X8_isKind N [.inl (.inl x0)] σ = some (some (.inl (.inl r.1)), r.2) := by
  show (f_X8_isKind N σ x0).map (fun r => ((some (.inl (.inl r.1)), r.2) : yR)) = _
  rw [h]
  rfl
noncomputable def tb_X8_isKind (N : Nat) : yTb := ([], [], [(193, 4)], [], [(90, 3, F_X8_in N)], [], [])
abbrev G_X8_isKind (N : Nat) (X : zXT) (sh : List yH) (l : Launch) (rm : Room) : yC → yR → Prop := yGoes X vwCl yct sh l rm cX8_isKind 1 wsX8_isKind RX8 (tb_X8_isKind N) pr_X8_isKind 2
set_option maxRecDepth 100000 in
set_option maxHeartbeats 4000000 in
theorem t_X8_isKind {N : Nat} {X : zXT} {sh : List yH} {l : Launch} {rm : Room} (σ : yS) (x0 : Int) (res : Int × yS) (h : f_X8_isKind N σ x0 = some res) : G_X8_isKind N X sh l rm (0, [(0, .inl (.inl x0))], [], σ) (some (.inl (.inl res.1)), res.2) := by
  unfold f_X8_isKind at h
  refine yG_n (n := 4) (C' := (6, [(0, .inl (.inl x0))], [.inl (.inr 4), .inl (.inr 0), .inl (.inr x0)], σ)) rfl ?_
  cases hr1 : f_X8_in N σ x0 0 4 with
  | none => rw [hr1] at h; dsimp only at h; cases h
  | some r1 =>
    rw [hr1] at h
    dsimp only at h
    refine yG_c (C1 := (9, [(0, .inl (.inl x0))], [.inl (.inl r1.1)], r1.2)) rfl (e_X8_in hr1) rfl ?_
    cases hg2 : yb1 r1.1 with
    | false => rw [hg2] at h; dsimp only [cond] at h; cases h
    | true =>
      rw [hg2] at h
      dsimp only [cond] at h
      have h := Option.some.inj h
      subst h
      dsimp only
      exact yG_r rfl hg2
set_option maxRecDepth 100000 in
set_option maxHeartbeats 4000000 in
theorem m_X8_isKind {N : Nat} {X : zXT} (hX : zXok X) (hN : zXn X) (l : Launch) {sh : List yH} : yMet X vwCl yct sh l yX8_isKind wsX8_isKind { frames := 2, cells := 0, slots := 0, locals := 89 } (F_X8_isKind N) :=
  ymeth (tb := tb_X8_isKind N) (pr := pr_X8_isKind) (rt := 2) (own := RX8) hX (by decide +kernel) rfl rfl ⟨Nat.le_of_ble_eq_true rfl, Nat.le_of_ble_eq_true rfl⟩
    (zfl_all (fun _ h => absurd h List.not_mem_nil))
    (zco_all (fun _ h => absurd h List.not_mem_nil)) (zlc_all (List.forall_mem_cons.mpr ⟨(List.mem_of_getElem? (i := 1) rfl), fun _ h => absurd h List.not_mem_nil⟩))
    (fun _ h => absurd h List.not_mem_nil)
    (List.forall_mem_cons.mpr ⟨ycal_S hX (m_X8_in hX hN l) (fun s args hts => va_cwS 3 hts gX8_isKind_X8_in rfl rfl rfl (by decide +kernel) ⟨Nat.le_of_ble_eq_true rfl, Nat.le_of_ble_eq_true rfl⟩), fun _ h => absurd h List.not_mem_nil⟩)
    (zmm_all (fun _ h => absurd h List.not_mem_nil)) (fun _ h => absurd h List.not_mem_nil) (zpr_all hp_X8_isKind) (fun as σ res h => by
      unfold F_X8_isKind at h
      split at h
      · rename_i x0
        cases hr : f_X8_isKind N σ x0 with
        | none => rw [hr] at h; cases h
        | some r =>
          rw [hr] at h
          cases h
          exact ⟨Nat.le_of_ble_eq_true rfl, t_X8_isKind σ x0 r hr⟩
      · cases h)
noncomputable def pr_X8_habit : List (Nat × Instr × Nat) := [(0, .aload_n 0, 1), (1, .iload_n 1, 1), (2, .invokevirtual 205, 3), (5, .ifCond .eq 31, 3), (8, .iload_n 2, 1), (9, .invokestatic 217, 3), (12, .ifCond .eq 24, 3), (15, .aload_n 0, 1), (16, .iload_n 3, 1), (17, .invokevirtual 209, 3), (20, .ifCond .eq 16, 3), (23, .iload 4, 2), (25, .i2l, 1), (26, .lconst 0, 1), (27, .ldc2_w 220, 3), (30, .invokestatic 90, 3), (33, .ifCond .ne 5, 3), (36, .iconst (-1), 1), (37, .ireturn, 1), (38, .aload_n 0, 1), (39, .getfield 7, 3), (42, .bipush 21, 2), (44, .iload_n 1, 1), (45, .iadd, 1), (46, .iload_n 2, 1), (47, .iastore, 1), (48, .aload_n 0, 1), (49, .getfield 7, 3), (52, .bipush 28, 2), (54, .iload_n 1, 1), (55, .iadd, 1), (56, .iload_n 3, 1), (57, .iastore, 1), (58, .aload_n 0, 1), (59, .bipush 35, 2), (61, .iload_n 1, 1), (62, .iadd, 1), (63, .iload 4, 2), (65, .invokevirtual 214, 3), (68, .ireturn, 1)]
set_option maxRecDepth 100000 in
theorem hp_X8_habit : pr_X8_habit.all (fun x => decide (decode cX8_habit x.1 = .ok x.2)) = true := by decide +kernel
noncomputable def f_X8_habit_b36 (N : Nat) (σ : yS) : Option (Int × yS) :=
  some ((-1), σ)
noncomputable def f_X8_habit (N : Nat) (σ : yS) (x1 : Int) (x2 : Int) (x3 : Int) (x4 : Int) : Option (Int × yS) :=
  match f_X8_isHouse N σ x1 with
  | none => none
  | some r1 => bif ycP .eq r1.1 0 then
      f_X8_habit_b36 N r1.2
    else
      match f_X8_isKind N r1.2 x2 with
      | none => none
      | some r2 => bif ycP .eq r2.1 0 then
          f_X8_habit_b36 N r2.2
        else
          match f_X8_isDeed N r2.2 x3 with
          | none => none
          | some r3 => bif ycP .eq r3.1 0 then
              f_X8_habit_b36 N r3.2
            else
              match f_X8_in N r3.2 x4 0 10 with
              | none => none
              | some r4 => bif ycP .ne r4.1 0 then
                  bif yin (yad 21 x1) 393 then
                    bif yin (yad 28 x1) 393 then
                      match f_X8_becomes N (yw (yw r4.2 1 (yad 21 x1).toNat x2) 1 (yad 28 x1).toNat x3) (yad 35 x1) x4 with
                      | none => none
                      | some r5 => some (r5.1, r5.2)
                    else none
                  else none
                else
                  f_X8_habit_b36 N r4.2
noncomputable def F_X8_habit (N : Nat) : yF := fun as σ => match as with
  | [.inr (.inl 8, 0), .inl (.inl x1), .inl (.inl x2), .inl (.inl x3), .inl (.inl x4)] => (f_X8_habit N σ x1 x2 x3 x4).map (fun r => (some (.inl (.inl r.1)), r.2))
  | _ => none
theorem e_X8_habit {N : Nat} {σ : yS} {x1 : Int} {x2 : Int} {x3 : Int} {x4 : Int} {r : Int × yS} (h : f_X8_habit N σ x1 x2 x3 x4 = some r) : F_X8_habit N [.inr (.inl 8, 0), .inl (.inl x1), .inl (.inl x2), .inl (.inl x3), .inl (.inl x4)] σ = some (some (.inl (.inl r.1)), r.2) := by
  show (f_X8_habit N σ x1 x2 x3 x4).map (fun r => ((some (.inl (.inl r.1)), r.2) : yR)) = _
  rw [h]
  rfl
noncomputable def tb_X8_habit (N : Nat) : yTb := ([(7, 8, 0, 3)], [], [(220, 10)], [(205, 2, 8, F_X8_isHouse N), (209, 2, 8, F_X8_isDeed N), (214, 3, 8, F_X8_becomes N)], [(90, 3, F_X8_in N), (217, 1, F_X8_isKind N)], [], [])
abbrev G_X8_habit (N : Nat) (X : zXT) (sh : List yH) (l : Launch) (rm : Room) : yC → yR → Prop := yGoes X vwCl yct sh l rm cX8_habit 5 wsX8_habit RX8 (tb_X8_habit N) pr_X8_habit 1
set_option maxRecDepth 100000 in
set_option maxHeartbeats 4000000 in
theorem t_X8_habit_b36 {N : Nat} {X : zXT} {sh : List yH} {l : Launch} {rm : Room} (σ : yS) (res : Int × yS) (h : f_X8_habit_b36 N σ = some res) : G_X8_habit N X sh l rm (36, [], [], σ) (some (.inl (.inl res.1)), res.2) := by
  unfold f_X8_habit_b36 at h
  refine yG_n (n := 1) (C' := (37, [], [.inl (.inl ((-1)))], σ)) rfl ?_
  have h := Option.some.inj h
  subst h
  dsimp only
  exact yG_r rfl rfl
set_option maxRecDepth 100000 in
set_option maxHeartbeats 4000000 in
theorem t_X8_habit {N : Nat} {X : zXT} {sh : List yH} {l : Launch} {rm : Room} (σ : yS) (x1 : Int) (x2 : Int) (x3 : Int) (x4 : Int) (res : Int × yS) (h : f_X8_habit N σ x1 x2 x3 x4 = some res) : G_X8_habit N X sh l rm (0, [(0, .inr (.inl 8, 0)), (1, .inl (.inl x1)), (2, .inl (.inl x2)), (3, .inl (.inl x3)), (4, .inl (.inl x4))], [], σ) (some (.inl (.inl res.1)), res.2) := by
  unfold f_X8_habit at h
  refine yG_n (n := 2) (C' := (2, [(0, .inr (.inl 8, 0)), (1, .inl (.inl x1)), (2, .inl (.inl x2)), (3, .inl (.inl x3)), (4, .inl (.inl x4))], [.inl (.inl x1), .inr (.inl 8, 0)], σ)) rfl ?_
  cases hr1 : f_X8_isHouse N σ x1 with
  | none => rw [hr1] at h; dsimp only at h; cases h
  | some r1 =>
    rw [hr1] at h
    dsimp only at h
    refine yG_c (C1 := (5, [(0, .inr (.inl 8, 0)), (1, .inl (.inl x1)), (2, .inl (.inl x2)), (3, .inl (.inl x3)), (4, .inl (.inl x4))], [.inl (.inl r1.1)], r1.2)) rfl (e_X8_isHouse hr1) rfl ?_
    cases hg2 : ycP .eq r1.1 0 with
    | true =>
      rw [hg2] at h
      dsimp only [cond] at h
      refine yG_t (C' := (36, [(0, .inr (.inl 8, 0)), (1, .inl (.inl x1)), (2, .inl (.inl x2)), (3, .inl (.inl x3)), (4, .inl (.inl x4))], [], r1.2)) rfl hg2 ?_
      exact yG_w [] rfl (t_X8_habit_b36 r1.2 res h)
    | false =>
      rw [hg2] at h
      dsimp only [cond] at h
      refine yG_f (C' := (8, [(0, .inr (.inl 8, 0)), (1, .inl (.inl x1)), (2, .inl (.inl x2)), (3, .inl (.inl x3)), (4, .inl (.inl x4))], [], r1.2)) rfl hg2 ?_
      refine yG_n (n := 1) (C' := (9, [(0, .inr (.inl 8, 0)), (1, .inl (.inl x1)), (2, .inl (.inl x2)), (3, .inl (.inl x3)), (4, .inl (.inl x4))], [.inl (.inl x2)], r1.2)) rfl ?_
      cases hr3 : f_X8_isKind N r1.2 x2 with
      | none => rw [hr3] at h; dsimp only at h; cases h
      | some r2 =>
        rw [hr3] at h
        dsimp only at h
        refine yG_c (C1 := (12, [(0, .inr (.inl 8, 0)), (1, .inl (.inl x1)), (2, .inl (.inl x2)), (3, .inl (.inl x3)), (4, .inl (.inl x4))], [.inl (.inl r2.1)], r2.2)) rfl (e_X8_isKind hr3) rfl ?_
        cases hg4 : ycP .eq r2.1 0 with
        | true =>
          rw [hg4] at h
          dsimp only [cond] at h
          refine yG_t (C' := (36, [(0, .inr (.inl 8, 0)), (1, .inl (.inl x1)), (2, .inl (.inl x2)), (3, .inl (.inl x3)), (4, .inl (.inl x4))], [], r2.2)) rfl hg4 ?_
          exact yG_w [] rfl (t_X8_habit_b36 r2.2 res h)
        | false =>
          rw [hg4] at h
          dsimp only [cond] at h
          refine yG_f (C' := (15, [(0, .inr (.inl 8, 0)), (1, .inl (.inl x1)), (2, .inl (.inl x2)), (3, .inl (.inl x3)), (4, .inl (.inl x4))], [], r2.2)) rfl hg4 ?_
          refine yG_n (n := 2) (C' := (17, [(0, .inr (.inl 8, 0)), (1, .inl (.inl x1)), (2, .inl (.inl x2)), (3, .inl (.inl x3)), (4, .inl (.inl x4))], [.inl (.inl x3), .inr (.inl 8, 0)], r2.2)) rfl ?_
          cases hr5 : f_X8_isDeed N r2.2 x3 with
          | none => rw [hr5] at h; dsimp only at h; cases h
          | some r3 =>
            rw [hr5] at h
            dsimp only at h
            refine yG_c (C1 := (20, [(0, .inr (.inl 8, 0)), (1, .inl (.inl x1)), (2, .inl (.inl x2)), (3, .inl (.inl x3)), (4, .inl (.inl x4))], [.inl (.inl r3.1)], r3.2)) rfl (e_X8_isDeed hr5) rfl ?_
            cases hg6 : ycP .eq r3.1 0 with
            | true =>
              rw [hg6] at h
              dsimp only [cond] at h
              refine yG_t (C' := (36, [(0, .inr (.inl 8, 0)), (1, .inl (.inl x1)), (2, .inl (.inl x2)), (3, .inl (.inl x3)), (4, .inl (.inl x4))], [], r3.2)) rfl hg6 ?_
              exact yG_w [] rfl (t_X8_habit_b36 r3.2 res h)
            | false =>
              rw [hg6] at h
              dsimp only [cond] at h
              refine yG_f (C' := (23, [(0, .inr (.inl 8, 0)), (1, .inl (.inl x1)), (2, .inl (.inl x2)), (3, .inl (.inl x3)), (4, .inl (.inl x4))], [], r3.2)) rfl hg6 ?_
              refine yG_n (n := 4) (C' := (30, [(0, .inr (.inl 8, 0)), (1, .inl (.inl x1)), (2, .inl (.inl x2)), (3, .inl (.inl x3)), (4, .inl (.inl x4))], [.inl (.inr 10), .inl (.inr 0), .inl (.inr x4)], r3.2)) rfl ?_
              cases hr7 : f_X8_in N r3.2 x4 0 10 with
              | none => rw [hr7] at h; dsimp only at h; cases h
              | some r4 =>
                rw [hr7] at h
                dsimp only at h
                refine yG_c (C1 := (33, [(0, .inr (.inl 8, 0)), (1, .inl (.inl x1)), (2, .inl (.inl x2)), (3, .inl (.inl x3)), (4, .inl (.inl x4))], [.inl (.inl r4.1)], r4.2)) rfl (e_X8_in hr7) rfl ?_
                cases hg8 : ycP .ne r4.1 0 with
                | true =>
                  rw [hg8] at h
                  dsimp only [cond] at h
                  refine yG_t (C' := (38, [(0, .inr (.inl 8, 0)), (1, .inl (.inl x1)), (2, .inl (.inl x2)), (3, .inl (.inl x3)), (4, .inl (.inl x4))], [], r4.2)) rfl hg8 ?_
                  refine yG_n (n := 6) (C' := (47, [(0, .inr (.inl 8, 0)), (1, .inl (.inl x1)), (2, .inl (.inl x2)), (3, .inl (.inl x3)), (4, .inl (.inl x4))], [.inl (.inl x2), .inl (.inl (yad 21 x1)), .inr (.inr (0, 393), 1)], r4.2)) rfl ?_
                  cases hg9 : yin (yad 21 x1) 393 with
                  | false => rw [hg9] at h; dsimp only [cond] at h; cases h
                  | true =>
                    rw [hg9] at h
                    dsimp only [cond] at h
                    refine yG_t (C' := (48, [(0, .inr (.inl 8, 0)), (1, .inl (.inl x1)), (2, .inl (.inl x2)), (3, .inl (.inl x3)), (4, .inl (.inl x4))], [], yw r4.2 1 (yad 21 x1).toNat x2)) rfl hg9 ?_
                    refine yG_n (n := 6) (C' := (57, [(0, .inr (.inl 8, 0)), (1, .inl (.inl x1)), (2, .inl (.inl x2)), (3, .inl (.inl x3)), (4, .inl (.inl x4))], [.inl (.inl x3), .inl (.inl (yad 28 x1)), .inr (.inr (0, 393), 1)], yw r4.2 1 (yad 21 x1).toNat x2)) rfl ?_
                    cases hg10 : yin (yad 28 x1) 393 with
                    | false => rw [hg10] at h; dsimp only [cond] at h; cases h
                    | true =>
                      rw [hg10] at h
                      dsimp only [cond] at h
                      refine yG_t (C' := (58, [(0, .inr (.inl 8, 0)), (1, .inl (.inl x1)), (2, .inl (.inl x2)), (3, .inl (.inl x3)), (4, .inl (.inl x4))], [], yw (yw r4.2 1 (yad 21 x1).toNat x2) 1 (yad 28 x1).toNat x3)) rfl hg10 ?_
                      refine yG_n (n := 5) (C' := (65, [(0, .inr (.inl 8, 0)), (1, .inl (.inl x1)), (2, .inl (.inl x2)), (3, .inl (.inl x3)), (4, .inl (.inl x4))], [.inl (.inl x4), .inl (.inl (yad 35 x1)), .inr (.inl 8, 0)], yw (yw r4.2 1 (yad 21 x1).toNat x2) 1 (yad 28 x1).toNat x3)) rfl ?_
                      cases hr11 : f_X8_becomes N (yw (yw r4.2 1 (yad 21 x1).toNat x2) 1 (yad 28 x1).toNat x3) (yad 35 x1) x4 with
                      | none => rw [hr11] at h; dsimp only at h; cases h
                      | some r5 =>
                        rw [hr11] at h
                        dsimp only at h
                        refine yG_c (C1 := (68, [(0, .inr (.inl 8, 0)), (1, .inl (.inl x1)), (2, .inl (.inl x2)), (3, .inl (.inl x3)), (4, .inl (.inl x4))], [.inl (.inl r5.1)], r5.2)) rfl (e_X8_becomes hr11) rfl ?_
                        have h := Option.some.inj h
                        subst h
                        dsimp only
                        exact yG_r rfl rfl
                | false =>
                  rw [hg8] at h
                  dsimp only [cond] at h
                  refine yG_f (C' := (36, [(0, .inr (.inl 8, 0)), (1, .inl (.inl x1)), (2, .inl (.inl x2)), (3, .inl (.inl x3)), (4, .inl (.inl x4))], [], r4.2)) rfl hg8 ?_
                  exact yG_w [] rfl (t_X8_habit_b36 r4.2 res h)
set_option maxRecDepth 100000 in
set_option maxHeartbeats 4000000 in
theorem m_X8_habit {N : Nat} {X : zXT} (hX : zXok X) (hN : zXn X) (l : Launch) {sh : List yH} : yMet X vwCl yct sh l yX8_habit wsX8_habit { frames := 3, cells := 0, slots := 0, locals := 110 } (F_X8_habit N) :=
  ymeth (tb := tb_X8_habit N) (pr := pr_X8_habit) (rt := 1) (own := RX8) hX (by decide +kernel) rfl rfl ⟨Nat.le_of_ble_eq_true rfl, Nat.le_of_ble_eq_true rfl⟩
    (zfl_all (List.forall_mem_cons.mpr ⟨zfl_X8 (fun w h => List.mem_cons_of_mem _ (List.mem_append_right _ h)) (List.mem_of_getElem? (i := 2) rfl) (by decide) (by decide), fun _ h => absurd h List.not_mem_nil⟩))
    (zco_all (fun _ h => absurd h List.not_mem_nil)) (zlc_all (List.forall_mem_cons.mpr ⟨(List.mem_of_getElem? (i := 1) rfl), fun _ h => absurd h List.not_mem_nil⟩))
    (List.forall_mem_cons.mpr ⟨ycal_V hX (m_X8_isHouse hX hN l) rfl (fun s args hts => cwV 1 hts gX8_habit_X8_isHouse rfl rfl rfl (by decide +kernel) ⟨Nat.le_of_ble_eq_true rfl, Nat.le_of_ble_eq_true rfl⟩), List.forall_mem_cons.mpr ⟨ycal_V hX (m_X8_isDeed hX hN l) rfl (fun s args hts => cwV 1 hts gX8_habit_X8_isDeed rfl rfl rfl (by decide +kernel) ⟨Nat.le_of_ble_eq_true rfl, Nat.le_of_ble_eq_true rfl⟩), List.forall_mem_cons.mpr ⟨ycal_V hX (m_X8_becomes hX hN l) rfl (fun s args hts => cwV 2 hts gX8_habit_X8_becomes rfl rfl rfl (by decide +kernel) ⟨Nat.le_of_ble_eq_true rfl, Nat.le_of_ble_eq_true rfl⟩), fun _ h => absurd h List.not_mem_nil⟩⟩⟩)
    (List.forall_mem_cons.mpr ⟨ycal_S hX (m_X8_in hX hN l) (fun s args hts => va_cwS 3 hts gX8_habit_X8_in rfl rfl rfl (by decide +kernel) ⟨Nat.le_of_ble_eq_true rfl, Nat.le_of_ble_eq_true rfl⟩), List.forall_mem_cons.mpr ⟨ycal_S hX (m_X8_isKind hX hN l) (fun s args hts => va_cwS 1 hts gX8_habit_X8_isKind rfl rfl rfl (by decide +kernel) ⟨Nat.le_of_ble_eq_true rfl, Nat.le_of_ble_eq_true rfl⟩), fun _ h => absurd h List.not_mem_nil⟩⟩)
    (zmm_all (fun _ h => absurd h List.not_mem_nil)) (fun _ h => absurd h List.not_mem_nil) (zpr_all hp_X8_habit) (fun as σ res h => by
      unfold F_X8_habit at h
      split at h
      · rename_i x1 x2 x3 x4
        cases hr : f_X8_habit N σ x1 x2 x3 x4 with
        | none => rw [hr] at h; cases h
        | some r =>
          rw [hr] at h
          cases h
          exact ⟨Nat.le_of_ble_eq_true rfl, t_X8_habit σ x1 x2 x3 x4 r hr⟩
      · cases h)
noncomputable def pr_X8_house : List (Nat × Instr × Nat) := [(0, .aload_n 0, 1), (1, .iload_n 1, 1), (2, .invokevirtual 205, 3), (5, .ifCond .ne 5, 3), (8, .iconst (-1), 1), (9, .ireturn, 1), (10, .iload_n 2, 1), (11, .i2l, 1), (12, .lconst 0, 1), (13, .ldc2_w 201, 3), (16, .invokestatic 90, 3), (19, .ifCond .eq 15, 3), (22, .aload_n 0, 1), (23, .getfield 7, 3), (26, .bipush 7, 2), (28, .iload_n 2, 1), (29, .imul, 1), (30, .iload_n 1, 1), (31, .iadd, 1), (32, .iaload, 1), (33, .ireturn, 1), (34, .aload_n 0, 1), (35, .iload_n 2, 1), (36, .bipush 10, 2), (38, .isub, 1), (39, .invokevirtual 209, 3), (42, .ifCond .eq 22, 3), (45, .aload_n 0, 1), (46, .getfield 7, 3), (49, .bipush 42, 2), (51, .iconst 5, 1), (52, .iload_n 1, 1), (53, .imul, 1), (54, .iadd, 1), (55, .iload_n 2, 1), (56, .iadd, 1), (57, .bipush 10, 2), (59, .isub, 1), (60, .iaload, 1), (61, .goto 4, 3), (64, .iconst (-1), 1), (65, .ireturn, 1)]
set_option maxRecDepth 100000 in
theorem hp_X8_house : pr_X8_house.all (fun x => decide (decode cX8_house x.1 = .ok x.2)) = true := by decide +kernel
noncomputable def f_X8_house_b65 (N : Nat) (σ : yS) (s0 : Int) : Option (Int × yS) :=
  some (s0, σ)
noncomputable def f_X8_house (N : Nat) (σ : yS) (x1 : Int) (x2 : Int) : Option (Int × yS) :=
  match f_X8_isHouse N σ x1 with
  | none => none
  | some r1 => bif ycP .ne r1.1 0 then
      match f_X8_in N r1.2 x2 0 5 with
      | none => none
      | some r2 => bif ycP .eq r2.1 0 then
          match f_X8_isDeed N r2.2 (ysu x2 10) with
          | none => none
          | some r3 => bif ycP .eq r3.1 0 then
              f_X8_house_b65 N r3.2 ((-1))
            else
              bif yin (ysu (yad (yad 42 (ymu 5 x1)) x2) 10) 393 then
                f_X8_house_b65 N r3.2 (r3.2.1 1 (ysu (yad (yad 42 (ymu 5 x1)) x2) 10).toNat)
              else none
        else
          bif yin (yad (ymu 7 x2) x1) 393 then
            some (r2.2.1 1 (yad (ymu 7 x2) x1).toNat, r2.2)
          else none
    else
      some ((-1), r1.2)
noncomputable def F_X8_house (N : Nat) : yF := fun as σ => match as with
  | [.inr (.inl 8, 0), .inl (.inl x1), .inl (.inl x2)] => (f_X8_house N σ x1 x2).map (fun r => (some (.inl (.inl r.1)), r.2))
  | _ => none
theorem e_X8_house {N : Nat} {σ : yS} {x1 : Int} {x2 : Int} {r : Int × yS} (h : f_X8_house N σ x1 x2 = some r) : F_X8_house N [.inr (.inl 8, 0), .inl (.inl x1), .inl (.inl x2)] σ = some (some (.inl (.inl r.1)), r.2) := by
  show (f_X8_house N σ x1 x2).map (fun r => ((some (.inl (.inl r.1)), r.2) : yR)) = _
  rw [h]
  rfl
noncomputable def tb_X8_house (N : Nat) : yTb := ([(7, 8, 0, 3)], [], [(201, 5)], [(205, 2, 8, F_X8_isHouse N), (209, 2, 8, F_X8_isDeed N)], [(90, 3, F_X8_in N)], [], [])
abbrev G_X8_house (N : Nat) (X : zXT) (sh : List yH) (l : Launch) (rm : Room) : yC → yR → Prop := yGoes X vwCl yct sh l rm cX8_house 3 wsX8_house RX8 (tb_X8_house N) pr_X8_house 1
set_option maxRecDepth 100000 in
set_option maxHeartbeats 4000000 in
theorem t_X8_house_b65 {N : Nat} {X : zXT} {sh : List yH} {l : Launch} {rm : Room} (σ : yS) (s0 : Int) (res : Int × yS) (h : f_X8_house_b65 N σ s0 = some res) : G_X8_house N X sh l rm (65, [], [.inl (.inl s0)], σ) (some (.inl (.inl res.1)), res.2) := by
  unfold f_X8_house_b65 at h
  have h := Option.some.inj h
  subst h
  dsimp only
  exact yG_r rfl rfl
set_option maxRecDepth 100000 in
set_option maxHeartbeats 4000000 in
theorem t_X8_house {N : Nat} {X : zXT} {sh : List yH} {l : Launch} {rm : Room} (σ : yS) (x1 : Int) (x2 : Int) (res : Int × yS) (h : f_X8_house N σ x1 x2 = some res) : G_X8_house N X sh l rm (0, [(0, .inr (.inl 8, 0)), (1, .inl (.inl x1)), (2, .inl (.inl x2))], [], σ) (some (.inl (.inl res.1)), res.2) := by
  unfold f_X8_house at h
  refine yG_n (n := 2) (C' := (2, [(0, .inr (.inl 8, 0)), (1, .inl (.inl x1)), (2, .inl (.inl x2))], [.inl (.inl x1), .inr (.inl 8, 0)], σ)) rfl ?_
  cases hr1 : f_X8_isHouse N σ x1 with
  | none => rw [hr1] at h; dsimp only at h; cases h
  | some r1 =>
    rw [hr1] at h
    dsimp only at h
    refine yG_c (C1 := (5, [(0, .inr (.inl 8, 0)), (1, .inl (.inl x1)), (2, .inl (.inl x2))], [.inl (.inl r1.1)], r1.2)) rfl (e_X8_isHouse hr1) rfl ?_
    cases hg2 : ycP .ne r1.1 0 with
    | true =>
      rw [hg2] at h
      dsimp only [cond] at h
      refine yG_t (C' := (10, [(0, .inr (.inl 8, 0)), (1, .inl (.inl x1)), (2, .inl (.inl x2))], [], r1.2)) rfl hg2 ?_
      refine yG_n (n := 4) (C' := (16, [(0, .inr (.inl 8, 0)), (1, .inl (.inl x1)), (2, .inl (.inl x2))], [.inl (.inr 5), .inl (.inr 0), .inl (.inr x2)], r1.2)) rfl ?_
      cases hr3 : f_X8_in N r1.2 x2 0 5 with
      | none => rw [hr3] at h; dsimp only at h; cases h
      | some r2 =>
        rw [hr3] at h
        dsimp only at h
        refine yG_c (C1 := (19, [(0, .inr (.inl 8, 0)), (1, .inl (.inl x1)), (2, .inl (.inl x2))], [.inl (.inl r2.1)], r2.2)) rfl (e_X8_in hr3) rfl ?_
        cases hg4 : ycP .eq r2.1 0 with
        | true =>
          rw [hg4] at h
          dsimp only [cond] at h
          refine yG_t (C' := (34, [(0, .inr (.inl 8, 0)), (1, .inl (.inl x1)), (2, .inl (.inl x2))], [], r2.2)) rfl hg4 ?_
          refine yG_n (n := 4) (C' := (39, [(0, .inr (.inl 8, 0)), (1, .inl (.inl x1)), (2, .inl (.inl x2))], [.inl (.inl (ysu x2 10)), .inr (.inl 8, 0)], r2.2)) rfl ?_
          cases hr5 : f_X8_isDeed N r2.2 (ysu x2 10) with
          | none => rw [hr5] at h; dsimp only at h; cases h
          | some r3 =>
            rw [hr5] at h
            dsimp only at h
            refine yG_c (C1 := (42, [(0, .inr (.inl 8, 0)), (1, .inl (.inl x1)), (2, .inl (.inl x2))], [.inl (.inl r3.1)], r3.2)) rfl (e_X8_isDeed hr5) rfl ?_
            cases hg6 : ycP .eq r3.1 0 with
            | true =>
              rw [hg6] at h
              dsimp only [cond] at h
              refine yG_t (C' := (64, [(0, .inr (.inl 8, 0)), (1, .inl (.inl x1)), (2, .inl (.inl x2))], [], r3.2)) rfl hg6 ?_
              refine yG_n (n := 1) (C' := (65, [(0, .inr (.inl 8, 0)), (1, .inl (.inl x1)), (2, .inl (.inl x2))], [.inl (.inl ((-1)))], r3.2)) rfl ?_
              exact yG_w [] rfl (t_X8_house_b65 r3.2 ((-1)) res h)
            | false =>
              rw [hg6] at h
              dsimp only [cond] at h
              refine yG_f (C' := (45, [(0, .inr (.inl 8, 0)), (1, .inl (.inl x1)), (2, .inl (.inl x2))], [], r3.2)) rfl hg6 ?_
              refine yG_n (n := 11) (C' := (60, [(0, .inr (.inl 8, 0)), (1, .inl (.inl x1)), (2, .inl (.inl x2))], [.inl (.inl (ysu (yad (yad 42 (ymu 5 x1)) x2) 10)), .inr (.inr (0, 393), 1)], r3.2)) rfl ?_
              cases hg7 : yin (ysu (yad (yad 42 (ymu 5 x1)) x2) 10) 393 with
              | false => rw [hg7] at h; dsimp only [cond] at h; cases h
              | true =>
                rw [hg7] at h
                dsimp only [cond] at h
                refine yG_t (C' := (61, [(0, .inr (.inl 8, 0)), (1, .inl (.inl x1)), (2, .inl (.inl x2))], [.inl (.inl (r3.2.1 1 (ysu (yad (yad 42 (ymu 5 x1)) x2) 10).toNat))], r3.2)) rfl hg7 ?_
                refine yG_n (n := 1) (C' := (65, [(0, .inr (.inl 8, 0)), (1, .inl (.inl x1)), (2, .inl (.inl x2))], [.inl (.inl (r3.2.1 1 (ysu (yad (yad 42 (ymu 5 x1)) x2) 10).toNat))], r3.2)) rfl ?_
                exact yG_w [] rfl (t_X8_house_b65 r3.2 (r3.2.1 1 (ysu (yad (yad 42 (ymu 5 x1)) x2) 10).toNat) res h)
        | false =>
          rw [hg4] at h
          dsimp only [cond] at h
          refine yG_f (C' := (22, [(0, .inr (.inl 8, 0)), (1, .inl (.inl x1)), (2, .inl (.inl x2))], [], r2.2)) rfl hg4 ?_
          refine yG_n (n := 7) (C' := (32, [(0, .inr (.inl 8, 0)), (1, .inl (.inl x1)), (2, .inl (.inl x2))], [.inl (.inl (yad (ymu 7 x2) x1)), .inr (.inr (0, 393), 1)], r2.2)) rfl ?_
          cases hg8 : yin (yad (ymu 7 x2) x1) 393 with
          | false => rw [hg8] at h; dsimp only [cond] at h; cases h
          | true =>
            rw [hg8] at h
            dsimp only [cond] at h
            refine yG_t (C' := (33, [(0, .inr (.inl 8, 0)), (1, .inl (.inl x1)), (2, .inl (.inl x2))], [.inl (.inl (r2.2.1 1 (yad (ymu 7 x2) x1).toNat))], r2.2)) rfl hg8 ?_
            have h := Option.some.inj h
            subst h
            dsimp only
            exact yG_r rfl rfl
    | false =>
      rw [hg2] at h
      dsimp only [cond] at h
      refine yG_f (C' := (8, [(0, .inr (.inl 8, 0)), (1, .inl (.inl x1)), (2, .inl (.inl x2))], [], r1.2)) rfl hg2 ?_
      refine yG_n (n := 1) (C' := (9, [(0, .inr (.inl 8, 0)), (1, .inl (.inl x1)), (2, .inl (.inl x2))], [.inl (.inl ((-1)))], r1.2)) rfl ?_
      have h := Option.some.inj h
      subst h
      dsimp only
      exact yG_r rfl rfl
set_option maxRecDepth 100000 in
set_option maxHeartbeats 4000000 in
theorem m_X8_house {N : Nat} {X : zXT} (hX : zXok X) (hN : zXn X) (l : Launch) {sh : List yH} : yMet X vwCl yct sh l yX8_house wsX8_house { frames := 3, cells := 0, slots := 0, locals := 110 } (F_X8_house N) :=
  ymeth (tb := tb_X8_house N) (pr := pr_X8_house) (rt := 1) (own := RX8) hX (by decide +kernel) rfl rfl ⟨Nat.le_of_ble_eq_true rfl, Nat.le_of_ble_eq_true rfl⟩
    (zfl_all (List.forall_mem_cons.mpr ⟨zfl_X8 (fun w h => List.mem_cons_of_mem _ (List.mem_append_right _ h)) (List.mem_of_getElem? (i := 2) rfl) (by decide) (by decide), fun _ h => absurd h List.not_mem_nil⟩))
    (zco_all (fun _ h => absurd h List.not_mem_nil)) (zlc_all (List.forall_mem_cons.mpr ⟨(List.mem_of_getElem? (i := 1) rfl), fun _ h => absurd h List.not_mem_nil⟩))
    (List.forall_mem_cons.mpr ⟨ycal_V hX (m_X8_isHouse hX hN l) rfl (fun s args hts => cwV 1 hts gX8_house_X8_isHouse rfl rfl rfl (by decide +kernel) ⟨Nat.le_of_ble_eq_true rfl, Nat.le_of_ble_eq_true rfl⟩), List.forall_mem_cons.mpr ⟨ycal_V hX (m_X8_isDeed hX hN l) rfl (fun s args hts => cwV 1 hts gX8_house_X8_isDeed rfl rfl rfl (by decide +kernel) ⟨Nat.le_of_ble_eq_true rfl, Nat.le_of_ble_eq_true rfl⟩), fun _ h => absurd h List.not_mem_nil⟩⟩)
    (List.forall_mem_cons.mpr ⟨ycal_S hX (m_X8_in hX hN l) (fun s args hts => va_cwS 3 hts gX8_house_X8_in rfl rfl rfl (by decide +kernel) ⟨Nat.le_of_ble_eq_true rfl, Nat.le_of_ble_eq_true rfl⟩), fun _ h => absurd h List.not_mem_nil⟩)
    (zmm_all (fun _ h => absurd h List.not_mem_nil)) (fun _ h => absurd h List.not_mem_nil) (zpr_all hp_X8_house) (fun as σ res h => by
      unfold F_X8_house at h
      split at h
      · rename_i x1 x2
        cases hr : f_X8_house N σ x1 x2 with
        | none => rw [hr] at h; cases h
        | some r =>
          rw [hr] at h
          cases h
          exact ⟨Nat.le_of_ble_eq_true rfl, t_X8_house σ x1 x2 r hr⟩
      · cases h)
noncomputable def pr_X8_keepDraft : List (Nat × Instr × Nat) := [(0, .iconst 0, 1), (1, .istore_n 1, 1), (2, .iload_n 1, 1), (3, .sipush 131, 3), (6, .if_icmp .ge 21, 3), (9, .aload_n 0, 1), (10, .getfield 7, 3), (13, .iload_n 1, 1), (14, .aload_n 0, 1), (15, .getfield 23, 3), (18, .iload_n 1, 1), (19, .iaload, 1), (20, .iastore, 1), (21, .iinc 1 1, 3), (24, .goto (-22), 3), (27, .aload_n 0, 1), (28, .aload_n 0, 1), (29, .getfield 59, 3), (32, .putfield 79, 3), (35, .aload_n 0, 1), (36, .aload_n 0, 1), (37, .getfield 63, 3), (40, .putfield 82, 3), (43, .aload_n 0, 1), (44, .aload_n 0, 1), (45, .getfield 70, 3), (48, .putfield 85, 3), (51, .iconst 0, 1), (52, .istore_n 1, 1), (53, .iload_n 1, 1), (54, .aload_n 0, 1), (55, .getfield 85, 3), (58, .if_icmp .ge 21, 3), (61, .aload_n 0, 1), (62, .getfield 20, 3), (65, .iload_n 1, 1), (66, .aload_n 0, 1), (67, .getfield 26, 3), (70, .iload_n 1, 1), (71, .iaload, 1), (72, .iastore, 1), (73, .iinc 1 1, 3), (76, .goto (-23), 3), (79, .aload_n 0, 1), (80, .getfield 16, 3), (83, .iconst 0, 1), (84, .iconst 0, 1), (85, .bastore, 1), (86, .aload_n 0, 1), (87, .getfield 16, 3), (90, .iconst 1, 1), (91, .iconst 0, 1), (92, .bastore, 1), (93, .return_, 1)]
set_option maxRecDepth 100000 in
theorem hp_X8_keepDraft : pr_X8_keepDraft.all (fun x => decide (decode cX8_keepDraft x.1 = .ok x.2)) = true := by decide +kernel
noncomputable def f_X8_keepDraft_b53 (N : Nat) : Nat → yS → Int → Option (Int × yS) := yfix (fun _ _ => none) (fun ih σ x1 =>
    bif ycP .ge x1 (σ.1 0 5) then
      some (0, yw (yw σ 3 0 0) 3 1 0)
    else
      bif yin x1 5 then
        ih (yw σ 4 x1.toNat (σ.1 6 x1.toNat)) (yad x1 1)
      else none)
theorem q_X8_keepDraft_b53 (N : Nat) (n : Nat) (σ : yS) (x1 : Int) : f_X8_keepDraft_b53 N (n + 1) σ x1 =
    (bif ycP .ge x1 (σ.1 0 5) then
      some (0, yw (yw σ 3 0 0) 3 1 0)
    else
      bif yin x1 5 then
        (f_X8_keepDraft_b53 N n) (yw σ 4 x1.toNat (σ.1 6 x1.toNat)) (yad x1 1)
      else none) := rfl
noncomputable def f_X8_keepDraft_b45 (N : Nat) (σ : yS) : Option (Int × yS) :=
  f_X8_keepDraft_b53 N N (yw σ 0 5 (σ.1 0 11)) 0
noncomputable def f_X8_keepDraft_b37 (N : Nat) (σ : yS) : Option (Int × yS) :=
  bif yb1 (σ.1 0 9) then
    f_X8_keepDraft_b45 N (yw σ 0 4 (σ.1 0 9))
  else none
noncomputable def f_X8_keepDraft_b2 (N : Nat) : Nat → yS → Int → Option (Int × yS) := yfix (fun _ _ => none) (fun ih σ x1 =>
    bif ycP .ge x1 131 then
      f_X8_keepDraft_b37 N (yw σ 0 3 (σ.1 0 8))
    else
      bif yin x1 131 then
        bif yin x1 393 then
          ih (yw σ 1 x1.toNat (σ.1 5 x1.toNat)) (yad x1 1)
        else none
      else none)
theorem q_X8_keepDraft_b2 (N : Nat) (n : Nat) (σ : yS) (x1 : Int) : f_X8_keepDraft_b2 N (n + 1) σ x1 =
    (bif ycP .ge x1 131 then
      f_X8_keepDraft_b37 N (yw σ 0 3 (σ.1 0 8))
    else
      bif yin x1 131 then
        bif yin x1 393 then
          (f_X8_keepDraft_b2 N n) (yw σ 1 x1.toNat (σ.1 5 x1.toNat)) (yad x1 1)
        else none
      else none) := rfl
noncomputable def f_X8_keepDraft (N : Nat) (σ : yS) : Option (Int × yS) :=
  f_X8_keepDraft_b2 N N σ 0
noncomputable def F_X8_keepDraft (N : Nat) : yF := fun as σ => match as with
  | [.inr (.inl 8, 0)] => (f_X8_keepDraft N σ).map (fun r => (none, r.2))
  | _ => none
theorem e_X8_keepDraft {N : Nat} {σ : yS} {r : Int × yS} (h : f_X8_keepDraft N σ = some r) : F_X8_keepDraft N [.inr (.inl 8, 0)] σ = some (none, r.2) := by
  show (f_X8_keepDraft N σ).map (fun r => ((none, r.2) : yR)) = _
  rw [h]
  rfl
noncomputable def tb_X8_keepDraft (N : Nat) : yTb := ([(7, 8, 0, 3), (16, 8, 2, 3), (20, 8, 6, 3), (23, 8, 7, 3), (26, 8, 12, 3), (59, 8, 8, 0), (63, 8, 9, 1), (70, 8, 11, 0), (79, 8, 3, 0), (82, 8, 4, 1), (85, 8, 5, 0)], [], [], [], [], [], [])
abbrev G_X8_keepDraft (N : Nat) (X : zXT) (sh : List yH) (l : Launch) (rm : Room) : yC → yR → Prop := yGoes X vwCl yct sh l rm cX8_keepDraft 2 wsX8_keepDraft RX8 (tb_X8_keepDraft N) pr_X8_keepDraft 0
set_option maxRecDepth 100000 in
set_option maxHeartbeats 4000000 in
theorem t_X8_keepDraft_b53 {N : Nat} {X : zXT} {sh : List yH} {l : Launch} {rm : Room} : ∀ (n : Nat) (σ : yS) (x1 : Int) (res : Int × yS), f_X8_keepDraft_b53 N n σ x1 = some res → G_X8_keepDraft N X sh l rm (53, [(0, .inr (.inl 8, 0)), (1, .inl (.inl x1))], [], σ) (none, res.2) := by
  intro n
  induction n with
  | zero => intro σ x1 res h; exact (yno h).elim
  | succ n ih =>
    intro σ x1 res h
    rw [q_X8_keepDraft_b53] at h
    refine yG_n (n := 3) (C' := (58, [(0, .inr (.inl 8, 0)), (1, .inl (.inl x1))], [.inl (.inl (σ.1 0 5)), .inl (.inl x1)], σ)) rfl ?_
    cases hg1 : ycP .ge x1 (σ.1 0 5) with
    | true =>
      rw [hg1] at h
      dsimp only [cond] at h
      refine yG_t (C' := (79, [(0, .inr (.inl 8, 0)), (1, .inl (.inl x1))], [], σ)) rfl hg1 ?_
      refine yG_n (n := 10) (C' := (93, [(0, .inr (.inl 8, 0)), (1, .inl (.inl x1))], [], yw (yw σ 3 0 0) 3 1 0)) rfl ?_
      have h := Option.some.inj h
      subst h
      dsimp only
      exact yG_r rfl rfl
    | false =>
      rw [hg1] at h
      dsimp only [cond] at h
      refine yG_f (C' := (61, [(0, .inr (.inl 8, 0)), (1, .inl (.inl x1))], [], σ)) rfl hg1 ?_
      refine yG_n (n := 6) (C' := (71, [(0, .inr (.inl 8, 0)), (1, .inl (.inl x1))], [.inl (.inl x1), .inr (.inr (0, 5), 6), .inl (.inl x1), .inr (.inr (0, 5), 4)], σ)) rfl ?_
      cases hg2 : yin x1 5 with
      | false => rw [hg2] at h; dsimp only [cond] at h; cases h
      | true =>
        rw [hg2] at h
        dsimp only [cond] at h
        refine yG_t (C' := (72, [(0, .inr (.inl 8, 0)), (1, .inl (.inl x1))], [.inl (.inl (σ.1 6 x1.toNat)), .inl (.inl x1), .inr (.inr (0, 5), 4)], σ)) rfl hg2 ?_
        refine yG_t (C' := (73, [(0, .inr (.inl 8, 0)), (1, .inl (.inl x1))], [], yw σ 4 x1.toNat (σ.1 6 x1.toNat))) rfl hg2 ?_
        refine yG_n (n := 2) (C' := (53, [(1, .inl (.inl (yad x1 1))), (0, .inr (.inl 8, 0))], [], yw σ 4 x1.toNat (σ.1 6 x1.toNat))) rfl ?_
        exact yG_w [1, 0] rfl (ih (yw σ 4 x1.toNat (σ.1 6 x1.toNat)) (yad x1 1) res h)
set_option maxRecDepth 100000 in
set_option maxHeartbeats 4000000 in
theorem t_X8_keepDraft_b45 {N : Nat} {X : zXT} {sh : List yH} {l : Launch} {rm : Room} (σ : yS) (res : Int × yS) (h : f_X8_keepDraft_b45 N σ = some res) : G_X8_keepDraft N X sh l rm (45, [(0, .inr (.inl 8, 0))], [.inr (.inl 8, 0), .inr (.inl 8, 0)], σ) (none, res.2) := by
  unfold f_X8_keepDraft_b45 at h
  refine yG_n (n := 4) (C' := (53, [(1, .inl (.inl 0)), (0, .inr (.inl 8, 0))], [], yw σ 0 5 (σ.1 0 11))) rfl ?_
  exact yG_w [1, 0] rfl (t_X8_keepDraft_b53 N (yw σ 0 5 (σ.1 0 11)) 0 res h)
set_option maxRecDepth 100000 in
set_option maxHeartbeats 4000000 in
theorem t_X8_keepDraft_b37 {N : Nat} {X : zXT} {sh : List yH} {l : Launch} {rm : Room} (σ : yS) (res : Int × yS) (h : f_X8_keepDraft_b37 N σ = some res) : G_X8_keepDraft N X sh l rm (37, [(0, .inr (.inl 8, 0))], [.inr (.inl 8, 0), .inr (.inl 8, 0)], σ) (none, res.2) := by
  unfold f_X8_keepDraft_b37 at h
  refine yG_n (n := 1) (C' := (40, [(0, .inr (.inl 8, 0))], [.inl (.inl (σ.1 0 9)), .inr (.inl 8, 0)], σ)) rfl ?_
  cases hg3 : yb1 (σ.1 0 9) with
  | false => rw [hg3] at h; dsimp only [cond] at h; cases h
  | true =>
    rw [hg3] at h
    dsimp only [cond] at h
    refine yG_t (C' := (43, [(0, .inr (.inl 8, 0))], [], yw σ 0 4 (σ.1 0 9))) rfl hg3 ?_
    refine yG_n (n := 2) (C' := (45, [(0, .inr (.inl 8, 0))], [.inr (.inl 8, 0), .inr (.inl 8, 0)], yw σ 0 4 (σ.1 0 9))) rfl ?_
    exact t_X8_keepDraft_b45 (yw σ 0 4 (σ.1 0 9)) res h
set_option maxRecDepth 100000 in
set_option maxHeartbeats 4000000 in
theorem t_X8_keepDraft_b2 {N : Nat} {X : zXT} {sh : List yH} {l : Launch} {rm : Room} : ∀ (n : Nat) (σ : yS) (x1 : Int) (res : Int × yS), f_X8_keepDraft_b2 N n σ x1 = some res → G_X8_keepDraft N X sh l rm (2, [(0, .inr (.inl 8, 0)), (1, .inl (.inl x1))], [], σ) (none, res.2) := by
  intro n
  induction n with
  | zero => intro σ x1 res h; exact (yno h).elim
  | succ n ih =>
    intro σ x1 res h
    rw [q_X8_keepDraft_b2] at h
    refine yG_n (n := 2) (C' := (6, [(0, .inr (.inl 8, 0)), (1, .inl (.inl x1))], [.inl (.inl 131), .inl (.inl x1)], σ)) rfl ?_
    cases hg4 : ycP .ge x1 131 with
    | true =>
      rw [hg4] at h
      dsimp only [cond] at h
      refine yG_t (C' := (27, [(0, .inr (.inl 8, 0)), (1, .inl (.inl x1))], [], σ)) rfl hg4 ?_
      refine yG_n (n := 6) (C' := (37, [(0, .inr (.inl 8, 0)), (1, .inl (.inl x1))], [.inr (.inl 8, 0), .inr (.inl 8, 0)], yw σ 0 3 (σ.1 0 8))) rfl ?_
      exact yG_w [0] rfl (t_X8_keepDraft_b37 (yw σ 0 3 (σ.1 0 8)) res h)
    | false =>
      rw [hg4] at h
      dsimp only [cond] at h
      refine yG_f (C' := (9, [(0, .inr (.inl 8, 0)), (1, .inl (.inl x1))], [], σ)) rfl hg4 ?_
      refine yG_n (n := 6) (C' := (19, [(0, .inr (.inl 8, 0)), (1, .inl (.inl x1))], [.inl (.inl x1), .inr (.inr (0, 131), 5), .inl (.inl x1), .inr (.inr (0, 393), 1)], σ)) rfl ?_
      cases hg5 : yin x1 131 with
      | false => rw [hg5] at h; dsimp only [cond] at h; cases h
      | true =>
        rw [hg5] at h
        dsimp only [cond] at h
        refine yG_t (C' := (20, [(0, .inr (.inl 8, 0)), (1, .inl (.inl x1))], [.inl (.inl (σ.1 5 x1.toNat)), .inl (.inl x1), .inr (.inr (0, 393), 1)], σ)) rfl hg5 ?_
        cases hg6 : yin x1 393 with
        | false => rw [hg6] at h; dsimp only [cond] at h; cases h
        | true =>
          rw [hg6] at h
          dsimp only [cond] at h
          refine yG_t (C' := (21, [(0, .inr (.inl 8, 0)), (1, .inl (.inl x1))], [], yw σ 1 x1.toNat (σ.1 5 x1.toNat))) rfl hg6 ?_
          refine yG_n (n := 2) (C' := (2, [(1, .inl (.inl (yad x1 1))), (0, .inr (.inl 8, 0))], [], yw σ 1 x1.toNat (σ.1 5 x1.toNat))) rfl ?_
          exact yG_w [1, 0] rfl (ih (yw σ 1 x1.toNat (σ.1 5 x1.toNat)) (yad x1 1) res h)
set_option maxRecDepth 100000 in
set_option maxHeartbeats 4000000 in
theorem t_X8_keepDraft {N : Nat} {X : zXT} {sh : List yH} {l : Launch} {rm : Room} (σ : yS) (res : Int × yS) (h : f_X8_keepDraft N σ = some res) : G_X8_keepDraft N X sh l rm (0, [(0, .inr (.inl 8, 0))], [], σ) (none, res.2) := by
  unfold f_X8_keepDraft at h
  refine yG_n (n := 2) (C' := (2, [(1, .inl (.inl 0)), (0, .inr (.inl 8, 0))], [], σ)) rfl ?_
  exact yG_w [1, 0] rfl (t_X8_keepDraft_b2 N σ 0 res h)
set_option maxRecDepth 100000 in
set_option maxHeartbeats 4000000 in
theorem m_X8_keepDraft {N : Nat} {X : zXT} (hX : zXok X) (hN : zXn X) (l : Launch) {sh : List yH} : yMet X vwCl yct sh l yX8_keepDraft wsX8_keepDraft { frames := 1, cells := 0, slots := 0, locals := 64 } (F_X8_keepDraft N) :=
  ymeth (tb := tb_X8_keepDraft N) (pr := pr_X8_keepDraft) (rt := 0) (own := RX8) hX (by decide +kernel) rfl rfl ⟨Nat.le_of_ble_eq_true rfl, Nat.le_of_ble_eq_true rfl⟩
    (zfl_all (List.forall_mem_cons.mpr ⟨zfl_X8 (fun w h => List.mem_cons_of_mem _ (List.mem_append_right _ h)) (List.mem_of_getElem? (i := 1) rfl) (by decide) (by decide), List.forall_mem_cons.mpr ⟨zfl_X8 (fun w h => List.mem_cons_of_mem _ (List.mem_append_right _ h)) (List.mem_of_getElem? (i := 11) rfl) (by decide) (by decide), List.forall_mem_cons.mpr ⟨zfl_X8 (fun w h => List.mem_cons_of_mem _ (List.mem_append_right _ h)) (List.mem_of_getElem? (i := 9) rfl) (by decide) (by decide), List.forall_mem_cons.mpr ⟨zfl_X8 (fun w h => List.mem_cons_of_mem _ (List.mem_append_right _ h)) (List.mem_of_getElem? (i := 2) rfl) (by decide) (by decide), List.forall_mem_cons.mpr ⟨zfl_X8 (fun w h => List.mem_cons_of_mem _ (List.mem_append_right _ h)) (List.mem_of_getElem? (i := 10) rfl) (by decide) (by decide), List.forall_mem_cons.mpr ⟨zfl_X8 (fun w h => List.mem_cons_of_mem _ (List.mem_append_right _ h)) (List.mem_of_getElem? (i := 3) rfl) (by decide) (by decide), List.forall_mem_cons.mpr ⟨zfl_X8 (fun w h => List.mem_cons_of_mem _ (List.mem_append_right _ h)) (List.mem_of_getElem? (i := 5) rfl) (by decide) (by decide), List.forall_mem_cons.mpr ⟨zfl_X8 (fun w h => List.mem_cons_of_mem _ (List.mem_append_right _ h)) (List.mem_of_getElem? (i := 7) rfl) (by decide) (by decide), List.forall_mem_cons.mpr ⟨zfl_X8 (fun w h => List.mem_cons_of_mem _ (List.mem_append_right _ h)) (List.mem_of_getElem? (i := 4) rfl) (by decide) (by decide), List.forall_mem_cons.mpr ⟨zfl_X8 (fun w h => List.mem_cons_of_mem _ (List.mem_append_right _ h)) (List.mem_of_getElem? (i := 6) rfl) (by decide) (by decide), List.forall_mem_cons.mpr ⟨zfl_X8 (fun w h => List.mem_cons_of_mem _ (List.mem_append_right _ h)) (List.mem_of_getElem? (i := 8) rfl) (by decide) (by decide), fun _ h => absurd h List.not_mem_nil⟩⟩⟩⟩⟩⟩⟩⟩⟩⟩⟩))
    (zco_all (fun _ h => absurd h List.not_mem_nil)) (zlc_all (fun _ h => absurd h List.not_mem_nil))
    (fun _ h => absurd h List.not_mem_nil)
    (fun _ h => absurd h List.not_mem_nil)
    (zmm_all (fun _ h => absurd h List.not_mem_nil)) (fun _ h => absurd h List.not_mem_nil) (zpr_all hp_X8_keepDraft) (fun as σ res h => by
      unfold F_X8_keepDraft at h
      split at h
      · cases hr : f_X8_keepDraft N σ with
        | none => rw [hr] at h; cases h
        | some r =>
          rw [hr] at h
          cases h
          exact ⟨Nat.le_of_ble_eq_true rfl, t_X8_keepDraft σ r hr⟩
      · cases h)
noncomputable def pr_X8_is : List (Nat × Instr × Nat) := [(0, .aload_n 0, 1), (1, .getfield 106, 3), (4, .aload_n 0, 1), (5, .getfield 100, 3), (8, .isub, 1), (9, .iload_n 1, 1), (10, .if_icmp .ne 48, 3), (13, .aload_n 0, 1), (14, .aload_n 0, 1), (15, .getfield 100, 3), (18, .invokevirtual 109, 3), (21, .iload_n 2, 1), (22, .if_icmp .ne 36, 3), (25, .aload_n 0, 1), (26, .aload_n 0, 1), (27, .getfield 100, 3), (30, .iconst 1, 1), (31, .iadd, 1), (32, .invokevirtual 109, 3), (35, .iload_n 3, 1), (36, .if_icmp .ne 22, 3), (39, .aload_n 0, 1), (40, .aload_n 0, 1), (41, .getfield 100, 3), (44, .iconst 2, 1), (45, .iadd, 1), (46, .invokevirtual 109, 3), (49, .iload 4, 2), (51, .if_icmp .ne 7, 3), (54, .iconst 1, 1), (55, .goto 4, 3), (58, .iconst 0, 1), (59, .ireturn, 1)]
set_option maxRecDepth 100000 in
theorem hp_X8_is : pr_X8_is.all (fun x => decide (decode cX8_is x.1 = .ok x.2)) = true := by decide +kernel
noncomputable def f_X8_is_b59 (N : Nat) (σ : yS) (s0 : Int) : Option (Int × yS) :=
  bif yb1 s0 then some (s0, σ) else none
noncomputable def f_X8_is_b58 (N : Nat) (σ : yS) : Option (Int × yS) :=
  f_X8_is_b59 N σ 0
noncomputable def f_X8_is (N : Nat) (σ : yS) (x1 : Int) (x2 : Int) (x3 : Int) (x4 : Int) : Option (Int × yS) :=
  bif ycP .ne (ysu (σ.1 0 18) (σ.1 0 19)) x1 then
    f_X8_is_b58 N σ
  else
    match f_X8_look N σ (σ.1 0 19) with
    | none => none
    | some r1 => bif ycP .ne r1.1 x2 then
        f_X8_is_b58 N r1.2
      else
        match f_X8_look N r1.2 (yad (r1.2.1 0 19) 1) with
        | none => none
        | some r2 => bif ycP .ne r2.1 x3 then
            f_X8_is_b58 N r2.2
          else
            match f_X8_look N r2.2 (yad (r2.2.1 0 19) 2) with
            | none => none
            | some r3 => bif ycP .ne r3.1 x4 then
                f_X8_is_b58 N r3.2
              else
                f_X8_is_b59 N r3.2 1
noncomputable def F_X8_is (N : Nat) : yF := fun as σ => match as with
  | [.inr (.inl 8, 0), .inl (.inl x1), .inl (.inl x2), .inl (.inl x3), .inl (.inl x4)] => (f_X8_is N σ x1 x2 x3 x4).map (fun r => (some (.inl (.inl r.1)), r.2))
  | _ => none
theorem e_X8_is {N : Nat} {σ : yS} {x1 : Int} {x2 : Int} {x3 : Int} {x4 : Int} {r : Int × yS} (h : f_X8_is N σ x1 x2 x3 x4 = some r) : F_X8_is N [.inr (.inl 8, 0), .inl (.inl x1), .inl (.inl x2), .inl (.inl x3), .inl (.inl x4)] σ = some (some (.inl (.inl r.1)), r.2) := by
  show (f_X8_is N σ x1 x2 x3 x4).map (fun r => ((some (.inl (.inl r.1)), r.2) : yR)) = _
  rw [h]
  rfl
noncomputable def tb_X8_is (N : Nat) : yTb := ([(100, 8, 19, 0), (106, 8, 18, 0)], [], [], [(109, 2, 8, F_X8_look N)], [], [], [])
abbrev G_X8_is (N : Nat) (X : zXT) (sh : List yH) (l : Launch) (rm : Room) : yC → yR → Prop := yGoes X vwCl yct sh l rm cX8_is 5 wsX8_is RX8 (tb_X8_is N) pr_X8_is 2
set_option maxRecDepth 100000 in
set_option maxHeartbeats 4000000 in
theorem t_X8_is_b59 {N : Nat} {X : zXT} {sh : List yH} {l : Launch} {rm : Room} (σ : yS) (s0 : Int) (res : Int × yS) (h : f_X8_is_b59 N σ s0 = some res) : G_X8_is N X sh l rm (59, [], [.inl (.inl s0)], σ) (some (.inl (.inl res.1)), res.2) := by
  unfold f_X8_is_b59 at h
  cases hg1 : yb1 s0 with
  | false => rw [hg1] at h; dsimp only [cond] at h; cases h
  | true =>
    rw [hg1] at h
    dsimp only [cond] at h
    have h := Option.some.inj h
    subst h
    dsimp only
    exact yG_r rfl hg1
set_option maxRecDepth 100000 in
set_option maxHeartbeats 4000000 in
theorem t_X8_is_b58 {N : Nat} {X : zXT} {sh : List yH} {l : Launch} {rm : Room} (σ : yS) (res : Int × yS) (h : f_X8_is_b58 N σ = some res) : G_X8_is N X sh l rm (58, [], [], σ) (some (.inl (.inl res.1)), res.2) := by
  unfold f_X8_is_b58 at h
  refine yG_n (n := 1) (C' := (59, [], [.inl (.inl 0)], σ)) rfl ?_
  exact t_X8_is_b59 σ 0 res h
set_option maxRecDepth 100000 in
set_option maxHeartbeats 4000000 in
theorem t_X8_is {N : Nat} {X : zXT} {sh : List yH} {l : Launch} {rm : Room} (σ : yS) (x1 : Int) (x2 : Int) (x3 : Int) (x4 : Int) (res : Int × yS) (h : f_X8_is N σ x1 x2 x3 x4 = some res) : G_X8_is N X sh l rm (0, [(0, .inr (.inl 8, 0)), (1, .inl (.inl x1)), (2, .inl (.inl x2)), (3, .inl (.inl x3)), (4, .inl (.inl x4))], [], σ) (some (.inl (.inl res.1)), res.2) := by
  unfold f_X8_is at h
  refine yG_n (n := 6) (C' := (10, [(0, .inr (.inl 8, 0)), (1, .inl (.inl x1)), (2, .inl (.inl x2)), (3, .inl (.inl x3)), (4, .inl (.inl x4))], [.inl (.inl x1), .inl (.inl (ysu (σ.1 0 18) (σ.1 0 19)))], σ)) rfl ?_
  cases hg2 : ycP .ne (ysu (σ.1 0 18) (σ.1 0 19)) x1 with
  | true =>
    rw [hg2] at h
    dsimp only [cond] at h
    refine yG_t (C' := (58, [(0, .inr (.inl 8, 0)), (1, .inl (.inl x1)), (2, .inl (.inl x2)), (3, .inl (.inl x3)), (4, .inl (.inl x4))], [], σ)) rfl hg2 ?_
    exact yG_w [] rfl (t_X8_is_b58 σ res h)
  | false =>
    rw [hg2] at h
    dsimp only [cond] at h
    refine yG_f (C' := (13, [(0, .inr (.inl 8, 0)), (1, .inl (.inl x1)), (2, .inl (.inl x2)), (3, .inl (.inl x3)), (4, .inl (.inl x4))], [], σ)) rfl hg2 ?_
    refine yG_n (n := 3) (C' := (18, [(0, .inr (.inl 8, 0)), (1, .inl (.inl x1)), (2, .inl (.inl x2)), (3, .inl (.inl x3)), (4, .inl (.inl x4))], [.inl (.inl (σ.1 0 19)), .inr (.inl 8, 0)], σ)) rfl ?_
    cases hr3 : f_X8_look N σ (σ.1 0 19) with
    | none => rw [hr3] at h; dsimp only at h; cases h
    | some r1 =>
      rw [hr3] at h
      dsimp only at h
      refine yG_c (C1 := (21, [(0, .inr (.inl 8, 0)), (1, .inl (.inl x1)), (2, .inl (.inl x2)), (3, .inl (.inl x3)), (4, .inl (.inl x4))], [.inl (.inl r1.1)], r1.2)) rfl (e_X8_look hr3) rfl ?_
      refine yG_n (n := 1) (C' := (22, [(0, .inr (.inl 8, 0)), (1, .inl (.inl x1)), (2, .inl (.inl x2)), (3, .inl (.inl x3)), (4, .inl (.inl x4))], [.inl (.inl x2), .inl (.inl r1.1)], r1.2)) rfl ?_
      cases hg4 : ycP .ne r1.1 x2 with
      | true =>
        rw [hg4] at h
        dsimp only [cond] at h
        refine yG_t (C' := (58, [(0, .inr (.inl 8, 0)), (1, .inl (.inl x1)), (2, .inl (.inl x2)), (3, .inl (.inl x3)), (4, .inl (.inl x4))], [], r1.2)) rfl hg4 ?_
        exact yG_w [] rfl (t_X8_is_b58 r1.2 res h)
      | false =>
        rw [hg4] at h
        dsimp only [cond] at h
        refine yG_f (C' := (25, [(0, .inr (.inl 8, 0)), (1, .inl (.inl x1)), (2, .inl (.inl x2)), (3, .inl (.inl x3)), (4, .inl (.inl x4))], [], r1.2)) rfl hg4 ?_
        refine yG_n (n := 5) (C' := (32, [(0, .inr (.inl 8, 0)), (1, .inl (.inl x1)), (2, .inl (.inl x2)), (3, .inl (.inl x3)), (4, .inl (.inl x4))], [.inl (.inl (yad (r1.2.1 0 19) 1)), .inr (.inl 8, 0)], r1.2)) rfl ?_
        cases hr5 : f_X8_look N r1.2 (yad (r1.2.1 0 19) 1) with
        | none => rw [hr5] at h; dsimp only at h; cases h
        | some r2 =>
          rw [hr5] at h
          dsimp only at h
          refine yG_c (C1 := (35, [(0, .inr (.inl 8, 0)), (1, .inl (.inl x1)), (2, .inl (.inl x2)), (3, .inl (.inl x3)), (4, .inl (.inl x4))], [.inl (.inl r2.1)], r2.2)) rfl (e_X8_look hr5) rfl ?_
          refine yG_n (n := 1) (C' := (36, [(0, .inr (.inl 8, 0)), (1, .inl (.inl x1)), (2, .inl (.inl x2)), (3, .inl (.inl x3)), (4, .inl (.inl x4))], [.inl (.inl x3), .inl (.inl r2.1)], r2.2)) rfl ?_
          cases hg6 : ycP .ne r2.1 x3 with
          | true =>
            rw [hg6] at h
            dsimp only [cond] at h
            refine yG_t (C' := (58, [(0, .inr (.inl 8, 0)), (1, .inl (.inl x1)), (2, .inl (.inl x2)), (3, .inl (.inl x3)), (4, .inl (.inl x4))], [], r2.2)) rfl hg6 ?_
            exact yG_w [] rfl (t_X8_is_b58 r2.2 res h)
          | false =>
            rw [hg6] at h
            dsimp only [cond] at h
            refine yG_f (C' := (39, [(0, .inr (.inl 8, 0)), (1, .inl (.inl x1)), (2, .inl (.inl x2)), (3, .inl (.inl x3)), (4, .inl (.inl x4))], [], r2.2)) rfl hg6 ?_
            refine yG_n (n := 5) (C' := (46, [(0, .inr (.inl 8, 0)), (1, .inl (.inl x1)), (2, .inl (.inl x2)), (3, .inl (.inl x3)), (4, .inl (.inl x4))], [.inl (.inl (yad (r2.2.1 0 19) 2)), .inr (.inl 8, 0)], r2.2)) rfl ?_
            cases hr7 : f_X8_look N r2.2 (yad (r2.2.1 0 19) 2) with
            | none => rw [hr7] at h; dsimp only at h; cases h
            | some r3 =>
              rw [hr7] at h
              dsimp only at h
              refine yG_c (C1 := (49, [(0, .inr (.inl 8, 0)), (1, .inl (.inl x1)), (2, .inl (.inl x2)), (3, .inl (.inl x3)), (4, .inl (.inl x4))], [.inl (.inl r3.1)], r3.2)) rfl (e_X8_look hr7) rfl ?_
              refine yG_n (n := 1) (C' := (51, [(0, .inr (.inl 8, 0)), (1, .inl (.inl x1)), (2, .inl (.inl x2)), (3, .inl (.inl x3)), (4, .inl (.inl x4))], [.inl (.inl x4), .inl (.inl r3.1)], r3.2)) rfl ?_
              cases hg8 : ycP .ne r3.1 x4 with
              | true =>
                rw [hg8] at h
                dsimp only [cond] at h
                refine yG_t (C' := (58, [(0, .inr (.inl 8, 0)), (1, .inl (.inl x1)), (2, .inl (.inl x2)), (3, .inl (.inl x3)), (4, .inl (.inl x4))], [], r3.2)) rfl hg8 ?_
                exact yG_w [] rfl (t_X8_is_b58 r3.2 res h)
              | false =>
                rw [hg8] at h
                dsimp only [cond] at h
                refine yG_f (C' := (54, [(0, .inr (.inl 8, 0)), (1, .inl (.inl x1)), (2, .inl (.inl x2)), (3, .inl (.inl x3)), (4, .inl (.inl x4))], [], r3.2)) rfl hg8 ?_
                refine yG_n (n := 2) (C' := (59, [(0, .inr (.inl 8, 0)), (1, .inl (.inl x1)), (2, .inl (.inl x2)), (3, .inl (.inl x3)), (4, .inl (.inl x4))], [.inl (.inl 1)], r3.2)) rfl ?_
                exact yG_w [] rfl (t_X8_is_b59 r3.2 1 res h)
set_option maxRecDepth 100000 in
set_option maxHeartbeats 4000000 in
theorem m_X8_is {N : Nat} {X : zXT} (hX : zXok X) (hN : zXn X) (l : Launch) {sh : List yH} : yMet X vwCl yct sh l yX8_is wsX8_is { frames := 2, cells := 0, slots := 0, locals := 85 } (F_X8_is N) :=
  ymeth (tb := tb_X8_is N) (pr := pr_X8_is) (rt := 2) (own := RX8) hX (by decide +kernel) rfl rfl ⟨Nat.le_of_ble_eq_true rfl, Nat.le_of_ble_eq_true rfl⟩
    (zfl_all (List.forall_mem_cons.mpr ⟨zfl_X8 (fun w h => List.mem_cons_of_mem _ (List.mem_append_right _ h)) (List.mem_of_getElem? (i := 2) rfl) (by decide) (by decide), List.forall_mem_cons.mpr ⟨zfl_X8 (fun w h => List.mem_cons_of_mem _ (List.mem_append_right _ h)) (List.mem_of_getElem? (i := 1) rfl) (by decide) (by decide), fun _ h => absurd h List.not_mem_nil⟩⟩))
    (zco_all (fun _ h => absurd h List.not_mem_nil)) (zlc_all (fun _ h => absurd h List.not_mem_nil))
    (List.forall_mem_cons.mpr ⟨ycal_V hX (m_X8_look hX hN l) rfl (fun s args hts => cwV 1 hts gX8_is_X8_look rfl rfl rfl (by decide +kernel) ⟨Nat.le_of_ble_eq_true rfl, Nat.le_of_ble_eq_true rfl⟩), fun _ h => absurd h List.not_mem_nil⟩)
    (fun _ h => absurd h List.not_mem_nil)
    (zmm_all (fun _ h => absurd h List.not_mem_nil)) (fun _ h => absurd h List.not_mem_nil) (zpr_all hp_X8_is) (fun as σ res h => by
      unfold F_X8_is at h
      split at h
      · rename_i x1 x2 x3 x4
        cases hr : f_X8_is N σ x1 x2 x3 x4 with
        | none => rw [hr] at h; cases h
        | some r =>
          rw [hr] at h
          cases h
          exact ⟨Nat.le_of_ble_eq_true rfl, t_X8_is σ x1 x2 x3 x4 r hr⟩
      · cases h)
noncomputable def pr_X8_isDeep : List (Nat × Instr × Nat) := [(0, .iload_n 0, 1), (1, .i2l, 1), (2, .lconst 0, 1), (3, .ldc2_w 195, 3), (6, .invokestatic 90, 3), (9, .ifCond .ne 9, 3), (12, .iload_n 0, 1), (13, .bipush 9, 2), (15, .if_icmp .ne 7, 3), (18, .iconst 1, 1), (19, .goto 4, 3), (22, .iconst 0, 1), (23, .ireturn, 1)]
set_option maxRecDepth 100000 in
theorem hp_X8_isDeep : pr_X8_isDeep.all (fun x => decide (decode cX8_isDeep x.1 = .ok x.2)) = true := by decide +kernel
noncomputable def f_X8_isDeep_b23 (N : Nat) (σ : yS) (s0 : Int) : Option (Int × yS) :=
  bif yb1 s0 then some (s0, σ) else none
noncomputable def f_X8_isDeep_b18 (N : Nat) (σ : yS) : Option (Int × yS) :=
  f_X8_isDeep_b23 N σ 1
noncomputable def f_X8_isDeep (N : Nat) (σ : yS) (x0 : Int) : Option (Int × yS) :=
  match f_X8_in N σ x0 0 3 with
  | none => none
  | some r1 => bif ycP .ne r1.1 0 then
      f_X8_isDeep_b18 N r1.2
    else
      bif ycP .ne x0 9 then
        f_X8_isDeep_b23 N r1.2 0
      else
        f_X8_isDeep_b18 N r1.2
noncomputable def F_X8_isDeep (N : Nat) : yF := fun as σ => match as with
  | [.inl (.inl x0)] => (f_X8_isDeep N σ x0).map (fun r => (some (.inl (.inl r.1)), r.2))
  | _ => none
theorem e_X8_isDeep {N : Nat} {σ : yS} {x0 : Int} {r : Int × yS} (h : f_X8_isDeep N σ x0 = some r) : F_X8_isDeep N [.inl (.inl x0)] σ = some (some (.inl (.inl r.1)), r.2) := by
  show (f_X8_isDeep N σ x0).map (fun r => ((some (.inl (.inl r.1)), r.2) : yR)) = _
  rw [h]
  rfl
noncomputable def tb_X8_isDeep (N : Nat) : yTb := ([], [], [(195, 3)], [], [(90, 3, F_X8_in N)], [], [])
abbrev G_X8_isDeep (N : Nat) (X : zXT) (sh : List yH) (l : Launch) (rm : Room) : yC → yR → Prop := yGoes X vwCl yct sh l rm cX8_isDeep 1 wsX8_isDeep RX8 (tb_X8_isDeep N) pr_X8_isDeep 2
set_option maxRecDepth 100000 in
set_option maxHeartbeats 4000000 in
theorem t_X8_isDeep_b23 {N : Nat} {X : zXT} {sh : List yH} {l : Launch} {rm : Room} (σ : yS) (s0 : Int) (res : Int × yS) (h : f_X8_isDeep_b23 N σ s0 = some res) : G_X8_isDeep N X sh l rm (23, [], [.inl (.inl s0)], σ) (some (.inl (.inl res.1)), res.2) := by
  unfold f_X8_isDeep_b23 at h
  cases hg1 : yb1 s0 with
  | false => rw [hg1] at h; dsimp only [cond] at h; cases h
  | true =>
    rw [hg1] at h
    dsimp only [cond] at h
    have h := Option.some.inj h
    subst h
    dsimp only
    exact yG_r rfl hg1
set_option maxRecDepth 100000 in
set_option maxHeartbeats 4000000 in
theorem t_X8_isDeep_b18 {N : Nat} {X : zXT} {sh : List yH} {l : Launch} {rm : Room} (σ : yS) (res : Int × yS) (h : f_X8_isDeep_b18 N σ = some res) : G_X8_isDeep N X sh l rm (18, [], [], σ) (some (.inl (.inl res.1)), res.2) := by
  unfold f_X8_isDeep_b18 at h
  refine yG_n (n := 2) (C' := (23, [], [.inl (.inl 1)], σ)) rfl ?_
  exact t_X8_isDeep_b23 σ 1 res h
set_option maxRecDepth 100000 in
set_option maxHeartbeats 4000000 in
theorem t_X8_isDeep {N : Nat} {X : zXT} {sh : List yH} {l : Launch} {rm : Room} (σ : yS) (x0 : Int) (res : Int × yS) (h : f_X8_isDeep N σ x0 = some res) : G_X8_isDeep N X sh l rm (0, [(0, .inl (.inl x0))], [], σ) (some (.inl (.inl res.1)), res.2) := by
  unfold f_X8_isDeep at h
  refine yG_n (n := 4) (C' := (6, [(0, .inl (.inl x0))], [.inl (.inr 3), .inl (.inr 0), .inl (.inr x0)], σ)) rfl ?_
  cases hr2 : f_X8_in N σ x0 0 3 with
  | none => rw [hr2] at h; dsimp only at h; cases h
  | some r1 =>
    rw [hr2] at h
    dsimp only at h
    refine yG_c (C1 := (9, [(0, .inl (.inl x0))], [.inl (.inl r1.1)], r1.2)) rfl (e_X8_in hr2) rfl ?_
    cases hg3 : ycP .ne r1.1 0 with
    | true =>
      rw [hg3] at h
      dsimp only [cond] at h
      refine yG_t (C' := (18, [(0, .inl (.inl x0))], [], r1.2)) rfl hg3 ?_
      exact yG_w [] rfl (t_X8_isDeep_b18 r1.2 res h)
    | false =>
      rw [hg3] at h
      dsimp only [cond] at h
      refine yG_f (C' := (12, [(0, .inl (.inl x0))], [], r1.2)) rfl hg3 ?_
      refine yG_n (n := 2) (C' := (15, [(0, .inl (.inl x0))], [.inl (.inl 9), .inl (.inl x0)], r1.2)) rfl ?_
      cases hg4 : ycP .ne x0 9 with
      | true =>
        rw [hg4] at h
        dsimp only [cond] at h
        refine yG_t (C' := (22, [(0, .inl (.inl x0))], [], r1.2)) rfl hg4 ?_
        refine yG_n (n := 1) (C' := (23, [(0, .inl (.inl x0))], [.inl (.inl 0)], r1.2)) rfl ?_
        exact yG_w [] rfl (t_X8_isDeep_b23 r1.2 0 res h)
      | false =>
        rw [hg4] at h
        dsimp only [cond] at h
        refine yG_f (C' := (18, [(0, .inl (.inl x0))], [], r1.2)) rfl hg4 ?_
        exact yG_w [] rfl (t_X8_isDeep_b18 r1.2 res h)
set_option maxRecDepth 100000 in
set_option maxHeartbeats 4000000 in
theorem m_X8_isDeep {N : Nat} {X : zXT} (hX : zXok X) (hN : zXn X) (l : Launch) {sh : List yH} : yMet X vwCl yct sh l yX8_isDeep wsX8_isDeep { frames := 2, cells := 0, slots := 0, locals := 89 } (F_X8_isDeep N) :=
  ymeth (tb := tb_X8_isDeep N) (pr := pr_X8_isDeep) (rt := 2) (own := RX8) hX (by decide +kernel) rfl rfl ⟨Nat.le_of_ble_eq_true rfl, Nat.le_of_ble_eq_true rfl⟩
    (zfl_all (fun _ h => absurd h List.not_mem_nil))
    (zco_all (fun _ h => absurd h List.not_mem_nil)) (zlc_all (List.forall_mem_cons.mpr ⟨(List.mem_of_getElem? (i := 1) rfl), fun _ h => absurd h List.not_mem_nil⟩))
    (fun _ h => absurd h List.not_mem_nil)
    (List.forall_mem_cons.mpr ⟨ycal_S hX (m_X8_in hX hN l) (fun s args hts => va_cwS 3 hts gX8_isDeep_X8_in rfl rfl rfl (by decide +kernel) ⟨Nat.le_of_ble_eq_true rfl, Nat.le_of_ble_eq_true rfl⟩), fun _ h => absurd h List.not_mem_nil⟩)
    (zmm_all (fun _ h => absurd h List.not_mem_nil)) (fun _ h => absurd h List.not_mem_nil) (zpr_all hp_X8_isDeep) (fun as σ res h => by
      unfold F_X8_isDeep at h
      split at h
      · rename_i x0
        cases hr : f_X8_isDeep N σ x0 with
        | none => rw [hr] at h; cases h
        | some r =>
          rw [hr] at h
          cases h
          exact ⟨Nat.le_of_ble_eq_true rfl, t_X8_isDeep σ x0 r hr⟩
      · cases h)
noncomputable def pr_X8_isSheet : List (Nat × Instr × Nat) := [(0, .iload_n 0, 1), (1, .i2l, 1), (2, .lconst 0, 1), (3, .ldc2_w 195, 3), (6, .invokestatic 90, 3), (9, .ifCond .eq 19, 3), (12, .iload_n 1, 1), (13, .i2l, 1), (14, .lconst 0, 1), (15, .ldc2_w 321, 3), (18, .invokestatic 90, 3), (21, .ifCond .eq 7, 3), (24, .iconst 1, 1), (25, .goto 4, 3), (28, .iconst 0, 1), (29, .ireturn, 1)]
set_option maxRecDepth 100000 in
theorem hp_X8_isSheet : pr_X8_isSheet.all (fun x => decide (decode cX8_isSheet x.1 = .ok x.2)) = true := by decide +kernel
noncomputable def f_X8_isSheet_b29 (N : Nat) (σ : yS) (s0 : Int) : Option (Int × yS) :=
  bif yb1 s0 then some (s0, σ) else none
noncomputable def f_X8_isSheet_b28 (N : Nat) (σ : yS) : Option (Int × yS) :=
  f_X8_isSheet_b29 N σ 0
noncomputable def f_X8_isSheet (N : Nat) (σ : yS) (x0 : Int) (x1 : Int) : Option (Int × yS) :=
  match f_X8_in N σ x0 0 3 with
  | none => none
  | some r1 => bif ycP .eq r1.1 0 then
      f_X8_isSheet_b28 N r1.2
    else
      match f_X8_in N r1.2 x1 0 2 with
      | none => none
      | some r2 => bif ycP .eq r2.1 0 then
          f_X8_isSheet_b28 N r2.2
        else
          f_X8_isSheet_b29 N r2.2 1
noncomputable def F_X8_isSheet (N : Nat) : yF := fun as σ => match as with
  | [.inl (.inl x0), .inl (.inl x1)] => (f_X8_isSheet N σ x0 x1).map (fun r => (some (.inl (.inl r.1)), r.2))
  | _ => none
theorem e_X8_isSheet {N : Nat} {σ : yS} {x0 : Int} {x1 : Int} {r : Int × yS} (h : f_X8_isSheet N σ x0 x1 = some r) : F_X8_isSheet N [.inl (.inl x0), .inl (.inl x1)] σ = some (some (.inl (.inl r.1)), r.2) := by
  show (f_X8_isSheet N σ x0 x1).map (fun r => ((some (.inl (.inl r.1)), r.2) : yR)) = _
  rw [h]
  rfl
noncomputable def tb_X8_isSheet (N : Nat) : yTb := ([], [], [(195, 3), (321, 2)], [], [(90, 3, F_X8_in N)], [], [])
abbrev G_X8_isSheet (N : Nat) (X : zXT) (sh : List yH) (l : Launch) (rm : Room) : yC → yR → Prop := yGoes X vwCl yct sh l rm cX8_isSheet 2 wsX8_isSheet RX8 (tb_X8_isSheet N) pr_X8_isSheet 2
set_option maxRecDepth 100000 in
set_option maxHeartbeats 4000000 in
theorem t_X8_isSheet_b29 {N : Nat} {X : zXT} {sh : List yH} {l : Launch} {rm : Room} (σ : yS) (s0 : Int) (res : Int × yS) (h : f_X8_isSheet_b29 N σ s0 = some res) : G_X8_isSheet N X sh l rm (29, [], [.inl (.inl s0)], σ) (some (.inl (.inl res.1)), res.2) := by
  unfold f_X8_isSheet_b29 at h
  cases hg1 : yb1 s0 with
  | false => rw [hg1] at h; dsimp only [cond] at h; cases h
  | true =>
    rw [hg1] at h
    dsimp only [cond] at h
    have h := Option.some.inj h
    subst h
    dsimp only
    exact yG_r rfl hg1
set_option maxRecDepth 100000 in
set_option maxHeartbeats 4000000 in
theorem t_X8_isSheet_b28 {N : Nat} {X : zXT} {sh : List yH} {l : Launch} {rm : Room} (σ : yS) (res : Int × yS) (h : f_X8_isSheet_b28 N σ = some res) : G_X8_isSheet N X sh l rm (28, [], [], σ) (some (.inl (.inl res.1)), res.2) := by
  unfold f_X8_isSheet_b28 at h
  refine yG_n (n := 1) (C' := (29, [], [.inl (.inl 0)], σ)) rfl ?_
  exact t_X8_isSheet_b29 σ 0 res h
set_option maxRecDepth 100000 in
set_option maxHeartbeats 4000000 in
theorem t_X8_isSheet {N : Nat} {X : zXT} {sh : List yH} {l : Launch} {rm : Room} (σ : yS) (x0 : Int) (x1 : Int) (res : Int × yS) (h : f_X8_isSheet N σ x0 x1 = some res) : G_X8_isSheet N X sh l rm (0, [(0, .inl (.inl x0)), (1, .inl (.inl x1))], [], σ) (some (.inl (.inl res.1)), res.2) := by
  unfold f_X8_isSheet at h
  refine yG_n (n := 4) (C' := (6, [(0, .inl (.inl x0)), (1, .inl (.inl x1))], [.inl (.inr 3), .inl (.inr 0), .inl (.inr x0)], σ)) rfl ?_
  cases hr2 : f_X8_in N σ x0 0 3 with
  | none => rw [hr2] at h; dsimp only at h; cases h
  | some r1 =>
    rw [hr2] at h
    dsimp only at h
    refine yG_c (C1 := (9, [(0, .inl (.inl x0)), (1, .inl (.inl x1))], [.inl (.inl r1.1)], r1.2)) rfl (e_X8_in hr2) rfl ?_
    cases hg3 : ycP .eq r1.1 0 with
    | true =>
      rw [hg3] at h
      dsimp only [cond] at h
      refine yG_t (C' := (28, [(0, .inl (.inl x0)), (1, .inl (.inl x1))], [], r1.2)) rfl hg3 ?_
      exact yG_w [] rfl (t_X8_isSheet_b28 r1.2 res h)
    | false =>
      rw [hg3] at h
      dsimp only [cond] at h
      refine yG_f (C' := (12, [(0, .inl (.inl x0)), (1, .inl (.inl x1))], [], r1.2)) rfl hg3 ?_
      refine yG_n (n := 4) (C' := (18, [(0, .inl (.inl x0)), (1, .inl (.inl x1))], [.inl (.inr 2), .inl (.inr 0), .inl (.inr x1)], r1.2)) rfl ?_
      cases hr4 : f_X8_in N r1.2 x1 0 2 with
      | none => rw [hr4] at h; dsimp only at h; cases h
      | some r2 =>
        rw [hr4] at h
        dsimp only at h
        refine yG_c (C1 := (21, [(0, .inl (.inl x0)), (1, .inl (.inl x1))], [.inl (.inl r2.1)], r2.2)) rfl (e_X8_in hr4) rfl ?_
        cases hg5 : ycP .eq r2.1 0 with
        | true =>
          rw [hg5] at h
          dsimp only [cond] at h
          refine yG_t (C' := (28, [(0, .inl (.inl x0)), (1, .inl (.inl x1))], [], r2.2)) rfl hg5 ?_
          exact yG_w [] rfl (t_X8_isSheet_b28 r2.2 res h)
        | false =>
          rw [hg5] at h
          dsimp only [cond] at h
          refine yG_f (C' := (24, [(0, .inl (.inl x0)), (1, .inl (.inl x1))], [], r2.2)) rfl hg5 ?_
          refine yG_n (n := 2) (C' := (29, [(0, .inl (.inl x0)), (1, .inl (.inl x1))], [.inl (.inl 1)], r2.2)) rfl ?_
          exact yG_w [] rfl (t_X8_isSheet_b29 r2.2 1 res h)
set_option maxRecDepth 100000 in
set_option maxHeartbeats 4000000 in
theorem m_X8_isSheet {N : Nat} {X : zXT} (hX : zXok X) (hN : zXn X) (l : Launch) {sh : List yH} : yMet X vwCl yct sh l yX8_isSheet wsX8_isSheet { frames := 2, cells := 0, slots := 0, locals := 89 } (F_X8_isSheet N) :=
  ymeth (tb := tb_X8_isSheet N) (pr := pr_X8_isSheet) (rt := 2) (own := RX8) hX (by decide +kernel) rfl rfl ⟨Nat.le_of_ble_eq_true rfl, Nat.le_of_ble_eq_true rfl⟩
    (zfl_all (fun _ h => absurd h List.not_mem_nil))
    (zco_all (fun _ h => absurd h List.not_mem_nil)) (zlc_all (List.forall_mem_cons.mpr ⟨(List.mem_of_getElem? (i := 1) rfl), List.forall_mem_cons.mpr ⟨(List.mem_of_getElem? (i := 2) rfl), fun _ h => absurd h List.not_mem_nil⟩⟩))
    (fun _ h => absurd h List.not_mem_nil)
    (List.forall_mem_cons.mpr ⟨ycal_S hX (m_X8_in hX hN l) (fun s args hts => va_cwS 3 hts gX8_isSheet_X8_in rfl rfl rfl (by decide +kernel) ⟨Nat.le_of_ble_eq_true rfl, Nat.le_of_ble_eq_true rfl⟩), fun _ h => absurd h List.not_mem_nil⟩)
    (zmm_all (fun _ h => absurd h List.not_mem_nil)) (fun _ h => absurd h List.not_mem_nil) (zpr_all hp_X8_isSheet) (fun as σ res h => by
      unfold F_X8_isSheet at h
      split at h
      · rename_i x0 x1
        cases hr : f_X8_isSheet N σ x0 x1 with
        | none => rw [hr] at h; cases h
        | some r =>
          rw [hr] at h
          cases h
          exact ⟨Nat.le_of_ble_eq_true rfl, t_X8_isSheet σ x0 x1 r hr⟩
      · cases h)
end
section
noncomputable def pr_X8_keep : List (Nat × Instr × Nat) := [(0, .iload_n 1, 1), (1, .i2l, 1), (2, .lconst 0, 1), (3, .lconst 1, 1), (4, .invokestatic 90, 3), (7, .ifCond .ne 5, 3), (10, .iconst (-1), 1), (11, .ireturn, 1), (12, .aload_n 0, 1), (13, .getfield 16, 3), (16, .iload_n 1, 1), (17, .baload, 1), (18, .invokestatic 197, 3), (21, .istore_n 2, 1), (22, .aload_n 0, 1), (23, .getfield 16, 3), (26, .iload_n 1, 1), (27, .iconst 1, 1), (28, .bastore, 1), (29, .aload_n 0, 1), (30, .sipush 131, 3), (33, .iload_n 1, 1), (34, .iconst 1, 1), (35, .iadd, 1), (36, .imul, 1), (37, .iconst 0, 1), (38, .invokevirtual 318, 3), (41, .iload_n 2, 1), (42, .ireturn, 1)]
set_option maxRecDepth 100000 in
theorem hp_X8_keep : pr_X8_keep.all (fun x => decide (decode cX8_keep x.1 = .ok x.2)) = true := by decide +kernel
noncomputable def f_X8_keep (N : Nat) (σ : yS) (x1 : Int) : Option (Int × yS) :=
  match f_X8_in N σ x1 0 1 with
  | none => none
  | some r1 => bif ycP .ne r1.1 0 then
      bif yin x1 2 then
        match f_X8_flag N r1.2 (r1.2.1 3 x1.toNat) with
        | none => none
        | some r2 => bif yinb x1 2 1 then
            match f_X8_copies N (yw r2.2 3 x1.toNat 1) (ymu 131 (yad x1 1)) 0 with
            | none => none
            | some r3 => some (r2.1, r3.2)
          else none
      else none
    else
      some ((-1), r1.2)
noncomputable def F_X8_keep (N : Nat) : yF := fun as σ => match as with
  | [.inr (.inl 8, 0), .inl (.inl x1)] => (f_X8_keep N σ x1).map (fun r => (some (.inl (.inl r.1)), r.2))
  | _ => none
theorem e_X8_keep {N : Nat} {σ : yS} {x1 : Int} {r : Int × yS} (h : f_X8_keep N σ x1 = some r) : F_X8_keep N [.inr (.inl 8, 0), .inl (.inl x1)] σ = some (some (.inl (.inl r.1)), r.2) := by
  show (f_X8_keep N σ x1).map (fun r => ((some (.inl (.inl r.1)), r.2) : yR)) = _
  rw [h]
  rfl
noncomputable def tb_X8_keep (N : Nat) : yTb := ([(16, 8, 2, 3)], [], [], [(318, 3, 8, F_X8_copies N)], [(90, 3, F_X8_in N), (197, 1, F_X8_flag N)], [], [])
abbrev G_X8_keep (N : Nat) (X : zXT) (sh : List yH) (l : Launch) (rm : Room) : yC → yR → Prop := yGoes X vwCl yct sh l rm cX8_keep 3 wsX8_keep RX8 (tb_X8_keep N) pr_X8_keep 1
set_option maxRecDepth 100000 in
set_option maxHeartbeats 4000000 in
theorem t_X8_keep {N : Nat} {X : zXT} {sh : List yH} {l : Launch} {rm : Room} (σ : yS) (x1 : Int) (res : Int × yS) (h : f_X8_keep N σ x1 = some res) : G_X8_keep N X sh l rm (0, [(0, .inr (.inl 8, 0)), (1, .inl (.inl x1))], [], σ) (some (.inl (.inl res.1)), res.2) := by
  unfold f_X8_keep at h
  refine yG_n (n := 4) (C' := (4, [(0, .inr (.inl 8, 0)), (1, .inl (.inl x1))], [.inl (.inr 1), .inl (.inr 0), .inl (.inr x1)], σ)) rfl ?_
  cases hr1 : f_X8_in N σ x1 0 1 with
  | none => rw [hr1] at h; dsimp only at h; cases h
  | some r1 =>
    rw [hr1] at h
    dsimp only at h
    refine yG_c (C1 := (7, [(0, .inr (.inl 8, 0)), (1, .inl (.inl x1))], [.inl (.inl r1.1)], r1.2)) rfl (e_X8_in hr1) rfl ?_
    cases hg2 : ycP .ne r1.1 0 with
    | true =>
      rw [hg2] at h
      dsimp only [cond] at h
      refine yG_t (C' := (12, [(0, .inr (.inl 8, 0)), (1, .inl (.inl x1))], [], r1.2)) rfl hg2 ?_
      refine yG_n (n := 3) (C' := (17, [(0, .inr (.inl 8, 0)), (1, .inl (.inl x1))], [.inl (.inl x1), .inr (.inr (1, 2), 3)], r1.2)) rfl ?_
      cases hg3 : yin x1 2 with
      | false => rw [hg3] at h; dsimp only [cond] at h; cases h
      | true =>
        rw [hg3] at h
        dsimp only [cond] at h
        refine yG_t (C' := (18, [(0, .inr (.inl 8, 0)), (1, .inl (.inl x1))], [.inl (.inl (r1.2.1 3 x1.toNat))], r1.2)) rfl hg3 ?_
        cases hr4 : f_X8_flag N r1.2 (r1.2.1 3 x1.toNat) with
        | none => rw [hr4] at h; dsimp only at h; cases h
        | some r2 =>
          rw [hr4] at h
          dsimp only at h
          refine yG_c (C1 := (21, [(0, .inr (.inl 8, 0)), (1, .inl (.inl x1))], [.inl (.inl r2.1)], r2.2)) rfl (e_X8_flag hr4) rfl ?_
          refine yG_n (n := 5) (C' := (28, [(2, .inl (.inl r2.1)), (0, .inr (.inl 8, 0)), (1, .inl (.inl x1))], [.inl (.inl 1), .inl (.inl x1), .inr (.inr (1, 2), 3)], r2.2)) rfl ?_
          cases hg5 : yinb x1 2 1 with
          | false => rw [hg5] at h; dsimp only [cond] at h; cases h
          | true =>
            rw [hg5] at h
            dsimp only [cond] at h
            refine yG_t (C' := (29, [(2, .inl (.inl r2.1)), (0, .inr (.inl 8, 0)), (1, .inl (.inl x1))], [], yw r2.2 3 x1.toNat 1)) rfl hg5 ?_
            refine yG_n (n := 7) (C' := (38, [(2, .inl (.inl r2.1)), (0, .inr (.inl 8, 0)), (1, .inl (.inl x1))], [.inl (.inl 0), .inl (.inl (ymu 131 (yad x1 1))), .inr (.inl 8, 0)], yw r2.2 3 x1.toNat 1)) rfl ?_
            cases hr6 : f_X8_copies N (yw r2.2 3 x1.toNat 1) (ymu 131 (yad x1 1)) 0 with
            | none => rw [hr6] at h; dsimp only at h; cases h
            | some r3 =>
              rw [hr6] at h
              dsimp only at h
              refine yG_c (C1 := (41, [(2, .inl (.inl r2.1)), (0, .inr (.inl 8, 0)), (1, .inl (.inl x1))], [], r3.2)) rfl (e_X8_copies hr6) rfl ?_
              refine yG_n (n := 1) (C' := (42, [(2, .inl (.inl r2.1)), (0, .inr (.inl 8, 0)), (1, .inl (.inl x1))], [.inl (.inl r2.1)], r3.2)) rfl ?_
              have h := Option.some.inj h
              subst h
              dsimp only
              exact yG_r rfl rfl
    | false =>
      rw [hg2] at h
      dsimp only [cond] at h
      refine yG_f (C' := (10, [(0, .inr (.inl 8, 0)), (1, .inl (.inl x1))], [], r1.2)) rfl hg2 ?_
      refine yG_n (n := 1) (C' := (11, [(0, .inr (.inl 8, 0)), (1, .inl (.inl x1))], [.inl (.inl ((-1)))], r1.2)) rfl ?_
      have h := Option.some.inj h
      subst h
      dsimp only
      exact yG_r rfl rfl
set_option maxRecDepth 100000 in
set_option maxHeartbeats 4000000 in
theorem m_X8_keep {N : Nat} {X : zXT} (hX : zXok X) (hN : zXn X) (l : Launch) {sh : List yH} : yMet X vwCl yct sh l yX8_keep wsX8_keep { frames := 2, cells := 0, slots := 0, locals := 89 } (F_X8_keep N) :=
  ymeth (tb := tb_X8_keep N) (pr := pr_X8_keep) (rt := 1) (own := RX8) hX (by decide +kernel) rfl rfl ⟨Nat.le_of_ble_eq_true rfl, Nat.le_of_ble_eq_true rfl⟩
    (zfl_all (List.forall_mem_cons.mpr ⟨zfl_X8 (fun w h => List.mem_cons_of_mem _ (List.mem_append_right _ h)) (List.mem_of_getElem? (i := 1) rfl) (by decide) (by decide), fun _ h => absurd h List.not_mem_nil⟩))
    (zco_all (fun _ h => absurd h List.not_mem_nil)) (zlc_all (fun _ h => absurd h List.not_mem_nil))
    (List.forall_mem_cons.mpr ⟨ycal_V hX (m_X8_copies hX hN l) rfl (fun s args hts => cwV 2 hts gX8_keep_X8_copies rfl rfl rfl (by decide +kernel) ⟨Nat.le_of_ble_eq_true rfl, Nat.le_of_ble_eq_true rfl⟩), fun _ h => absurd h List.not_mem_nil⟩)
    (List.forall_mem_cons.mpr ⟨ycal_S hX (m_X8_in hX hN l) (fun s args hts => va_cwS 3 hts gX8_keep_X8_in rfl rfl rfl (by decide +kernel) ⟨Nat.le_of_ble_eq_true rfl, Nat.le_of_ble_eq_true rfl⟩), List.forall_mem_cons.mpr ⟨ycal_S hX (m_X8_flag hX hN l) (fun s args hts => va_cwS 1 hts gX8_keep_X8_flag rfl rfl rfl (by decide +kernel) ⟨Nat.le_of_ble_eq_true rfl, Nat.le_of_ble_eq_true rfl⟩), fun _ h => absurd h List.not_mem_nil⟩⟩)
    (zmm_all (fun _ h => absurd h List.not_mem_nil)) (fun _ h => absurd h List.not_mem_nil) (zpr_all hp_X8_keep) (fun as σ res h => by
      unfold F_X8_keep at h
      split at h
      · rename_i x1
        cases hr : f_X8_keep N σ x1 with
        | none => rw [hr] at h; cases h
        | some r =>
          rw [hr] at h
          cases h
          exact ⟨Nat.le_of_ble_eq_true rfl, t_X8_keep σ x1 r hr⟩
      · cases h)
noncomputable def pr_X8_kindNow : List (Nat × Instr × Nat) := [(0, .aload_n 0, 1), (1, .iconst 5, 1), (2, .bipush 112, 2), (4, .bipush 108, 2), (6, .bipush 97, 2), (8, .invokevirtual 113, 3), (11, .ifCond .eq 17, 3), (14, .aload_n 0, 1), (15, .bipush 105, 2), (17, .bipush 110, 2), (19, .iconst 0, 1), (20, .invokevirtual 117, 3), (23, .ifCond .eq 5, 3), (26, .iconst 0, 1), (27, .ireturn, 1), (28, .aload_n 0, 1), (29, .iconst 4, 1), (30, .bipush 108, 2), (32, .bipush 101, 2), (34, .bipush 102, 2), (36, .invokevirtual 113, 3), (39, .ifCond .eq 16, 3), (42, .aload_n 0, 1), (43, .bipush 116, 2), (45, .iconst 0, 1), (46, .iconst 0, 1), (47, .invokevirtual 117, 3), (50, .ifCond .eq 5, 3), (53, .iconst 1, 1), (54, .ireturn, 1), (55, .aload_n 0, 1), (56, .iconst 5, 1), (57, .bipush 100, 2), (59, .bipush 114, 2), (61, .bipush 117, 2), (63, .invokevirtual 113, 3), (66, .ifCond .eq 17, 3), (69, .aload_n 0, 1), (70, .bipush 110, 2), (72, .bipush 107, 2), (74, .iconst 0, 1), (75, .invokevirtual 117, 3), (78, .ifCond .eq 5, 3), (81, .iconst 2, 1), (82, .ireturn, 1), (83, .aload_n 0, 1), (84, .iconst 5, 1), (85, .bipush 106, 2), (87, .bipush 111, 2), (89, .bipush 105, 2), (91, .invokevirtual 113, 3), (94, .ifCond .eq 19, 3), (97, .aload_n 0, 1), (98, .bipush 110, 2), (100, .bipush 116, 2), (102, .iconst 0, 1), (103, .invokevirtual 117, 3), (106, .ifCond .eq 7, 3), (109, .iconst 3, 1), (110, .goto 37, 3), (113, .aload_n 0, 1), (114, .bipush 6, 2), (116, .bipush 116, 2), (118, .bipush 104, 2), (120, .bipush 114, 2), (122, .invokevirtual 113, 3), (125, .ifCond .eq 20, 3), (128, .aload_n 0, 1), (129, .bipush 101, 2), (131, .bipush 97, 2), (133, .bipush 116, 2), (135, .invokevirtual 117, 3), (138, .ifCond .eq 7, 3), (141, .iconst 4, 1), (142, .goto 5, 3), (145, .bipush (-4), 2), (147, .ireturn, 1)]
set_option maxRecDepth 100000 in
theorem hp_X8_kindNow : pr_X8_kindNow.all (fun x => decide (decode cX8_kindNow x.1 = .ok x.2)) = true := by decide +kernel
noncomputable def f_X8_kindNow_b147 (N : Nat) (σ : yS) (s0 : Int) : Option (Int × yS) :=
  some (s0, σ)
noncomputable def f_X8_kindNow_b145 (N : Nat) (σ : yS) : Option (Int × yS) :=
  f_X8_kindNow_b147 N σ ((-4))
noncomputable def f_X8_kindNow_b113 (N : Nat) (σ : yS) : Option (Int × yS) :=
  match f_X8_is N σ 6 116 104 114 with
  | none => none
  | some r5 => bif ycP .eq r5.1 0 then
      f_X8_kindNow_b145 N r5.2
    else
      match f_X8_ends N r5.2 101 97 116 with
      | none => none
      | some r6 => bif ycP .eq r6.1 0 then
          f_X8_kindNow_b145 N r6.2
        else
          f_X8_kindNow_b147 N r6.2 4
noncomputable def f_X8_kindNow_b83 (N : Nat) (σ : yS) : Option (Int × yS) :=
  match f_X8_is N σ 5 106 111 105 with
  | none => none
  | some r4 => bif ycP .eq r4.1 0 then
      f_X8_kindNow_b113 N r4.2
    else
      match f_X8_ends N r4.2 110 116 0 with
      | none => none
      | some r7 => bif ycP .eq r7.1 0 then
          f_X8_kindNow_b113 N r7.2
        else
          f_X8_kindNow_b147 N r7.2 3
noncomputable def f_X8_kindNow_b55 (N : Nat) (σ : yS) : Option (Int × yS) :=
  match f_X8_is N σ 5 100 114 117 with
  | none => none
  | some r3 => bif ycP .eq r3.1 0 then
      f_X8_kindNow_b83 N r3.2
    else
      match f_X8_ends N r3.2 110 107 0 with
      | none => none
      | some r8 => bif ycP .eq r8.1 0 then
          f_X8_kindNow_b83 N r8.2
        else
          some (2, r8.2)
noncomputable def f_X8_kindNow_b28 (N : Nat) (σ : yS) : Option (Int × yS) :=
  match f_X8_is N σ 4 108 101 102 with
  | none => none
  | some r2 => bif ycP .eq r2.1 0 then
      f_X8_kindNow_b55 N r2.2
    else
      match f_X8_ends N r2.2 116 0 0 with
      | none => none
      | some r9 => bif ycP .eq r9.1 0 then
          f_X8_kindNow_b55 N r9.2
        else
          some (1, r9.2)
noncomputable def f_X8_kindNow (N : Nat) (σ : yS) : Option (Int × yS) :=
  match f_X8_is N σ 5 112 108 97 with
  | none => none
  | some r1 => bif ycP .eq r1.1 0 then
      f_X8_kindNow_b28 N r1.2
    else
      match f_X8_ends N r1.2 105 110 0 with
      | none => none
      | some r10 => bif ycP .eq r10.1 0 then
          f_X8_kindNow_b28 N r10.2
        else
          some (0, r10.2)
noncomputable def F_X8_kindNow (N : Nat) : yF := fun as σ => match as with
  | [.inr (.inl 8, 0)] => (f_X8_kindNow N σ).map (fun r => (some (.inl (.inl r.1)), r.2))
  | _ => none
theorem e_X8_kindNow {N : Nat} {σ : yS} {r : Int × yS} (h : f_X8_kindNow N σ = some r) : F_X8_kindNow N [.inr (.inl 8, 0)] σ = some (some (.inl (.inl r.1)), r.2) := by
  show (f_X8_kindNow N σ).map (fun r => ((some (.inl (.inl r.1)), r.2) : yR)) = _
  rw [h]
  rfl
noncomputable def tb_X8_kindNow (N : Nat) : yTb := ([], [], [], [(113, 5, 8, F_X8_is N), (117, 4, 8, F_X8_ends N)], [], [], [])
abbrev G_X8_kindNow (N : Nat) (X : zXT) (sh : List yH) (l : Launch) (rm : Room) : yC → yR → Prop := yGoes X vwCl yct sh l rm cX8_kindNow 1 wsX8_kindNow RX8 (tb_X8_kindNow N) pr_X8_kindNow 1
set_option maxRecDepth 100000 in
set_option maxHeartbeats 4000000 in
theorem t_X8_kindNow_b147 {N : Nat} {X : zXT} {sh : List yH} {l : Launch} {rm : Room} (σ : yS) (s0 : Int) (res : Int × yS) (h : f_X8_kindNow_b147 N σ s0 = some res) : G_X8_kindNow N X sh l rm (147, [], [.inl (.inl s0)], σ) (some (.inl (.inl res.1)), res.2) := by
  unfold f_X8_kindNow_b147 at h
  have h := Option.some.inj h
  subst h
  dsimp only
  exact yG_r rfl rfl
set_option maxRecDepth 100000 in
set_option maxHeartbeats 4000000 in
theorem t_X8_kindNow_b145 {N : Nat} {X : zXT} {sh : List yH} {l : Launch} {rm : Room} (σ : yS) (res : Int × yS) (h : f_X8_kindNow_b145 N σ = some res) : G_X8_kindNow N X sh l rm (145, [], [], σ) (some (.inl (.inl res.1)), res.2) := by
  unfold f_X8_kindNow_b145 at h
  refine yG_n (n := 1) (C' := (147, [], [.inl (.inl ((-4)))], σ)) rfl ?_
  exact t_X8_kindNow_b147 σ ((-4)) res h
set_option maxRecDepth 100000 in
set_option maxHeartbeats 4000000 in
theorem t_X8_kindNow_b113 {N : Nat} {X : zXT} {sh : List yH} {l : Launch} {rm : Room} (σ : yS) (res : Int × yS) (h : f_X8_kindNow_b113 N σ = some res) : G_X8_kindNow N X sh l rm (113, [(0, .inr (.inl 8, 0))], [], σ) (some (.inl (.inl res.1)), res.2) := by
  unfold f_X8_kindNow_b113 at h
  refine yG_n (n := 5) (C' := (122, [(0, .inr (.inl 8, 0))], [.inl (.inl 114), .inl (.inl 104), .inl (.inl 116), .inl (.inl 6), .inr (.inl 8, 0)], σ)) rfl ?_
  cases hr1 : f_X8_is N σ 6 116 104 114 with
  | none => rw [hr1] at h; dsimp only at h; cases h
  | some r5 =>
    rw [hr1] at h
    dsimp only at h
    refine yG_c (C1 := (125, [(0, .inr (.inl 8, 0))], [.inl (.inl r5.1)], r5.2)) rfl (e_X8_is hr1) rfl ?_
    cases hg2 : ycP .eq r5.1 0 with
    | true =>
      rw [hg2] at h
      dsimp only [cond] at h
      refine yG_t (C' := (145, [(0, .inr (.inl 8, 0))], [], r5.2)) rfl hg2 ?_
      exact yG_w [] rfl (t_X8_kindNow_b145 r5.2 res h)
    | false =>
      rw [hg2] at h
      dsimp only [cond] at h
      refine yG_f (C' := (128, [(0, .inr (.inl 8, 0))], [], r5.2)) rfl hg2 ?_
      refine yG_n (n := 4) (C' := (135, [(0, .inr (.inl 8, 0))], [.inl (.inl 116), .inl (.inl 97), .inl (.inl 101), .inr (.inl 8, 0)], r5.2)) rfl ?_
      cases hr3 : f_X8_ends N r5.2 101 97 116 with
      | none => rw [hr3] at h; dsimp only at h; cases h
      | some r6 =>
        rw [hr3] at h
        dsimp only at h
        refine yG_c (C1 := (138, [(0, .inr (.inl 8, 0))], [.inl (.inl r6.1)], r6.2)) rfl (e_X8_ends hr3) rfl ?_
        cases hg4 : ycP .eq r6.1 0 with
        | true =>
          rw [hg4] at h
          dsimp only [cond] at h
          refine yG_t (C' := (145, [(0, .inr (.inl 8, 0))], [], r6.2)) rfl hg4 ?_
          exact yG_w [] rfl (t_X8_kindNow_b145 r6.2 res h)
        | false =>
          rw [hg4] at h
          dsimp only [cond] at h
          refine yG_f (C' := (141, [(0, .inr (.inl 8, 0))], [], r6.2)) rfl hg4 ?_
          refine yG_n (n := 2) (C' := (147, [(0, .inr (.inl 8, 0))], [.inl (.inl 4)], r6.2)) rfl ?_
          exact yG_w [] rfl (t_X8_kindNow_b147 r6.2 4 res h)
set_option maxRecDepth 100000 in
set_option maxHeartbeats 4000000 in
theorem t_X8_kindNow_b83 {N : Nat} {X : zXT} {sh : List yH} {l : Launch} {rm : Room} (σ : yS) (res : Int × yS) (h : f_X8_kindNow_b83 N σ = some res) : G_X8_kindNow N X sh l rm (83, [(0, .inr (.inl 8, 0))], [], σ) (some (.inl (.inl res.1)), res.2) := by
  unfold f_X8_kindNow_b83 at h
  refine yG_n (n := 5) (C' := (91, [(0, .inr (.inl 8, 0))], [.inl (.inl 105), .inl (.inl 111), .inl (.inl 106), .inl (.inl 5), .inr (.inl 8, 0)], σ)) rfl ?_
  cases hr5 : f_X8_is N σ 5 106 111 105 with
  | none => rw [hr5] at h; dsimp only at h; cases h
  | some r4 =>
    rw [hr5] at h
    dsimp only at h
    refine yG_c (C1 := (94, [(0, .inr (.inl 8, 0))], [.inl (.inl r4.1)], r4.2)) rfl (e_X8_is hr5) rfl ?_
    cases hg6 : ycP .eq r4.1 0 with
    | true =>
      rw [hg6] at h
      dsimp only [cond] at h
      refine yG_t (C' := (113, [(0, .inr (.inl 8, 0))], [], r4.2)) rfl hg6 ?_
      exact t_X8_kindNow_b113 r4.2 res h
    | false =>
      rw [hg6] at h
      dsimp only [cond] at h
      refine yG_f (C' := (97, [(0, .inr (.inl 8, 0))], [], r4.2)) rfl hg6 ?_
      refine yG_n (n := 4) (C' := (103, [(0, .inr (.inl 8, 0))], [.inl (.inl 0), .inl (.inl 116), .inl (.inl 110), .inr (.inl 8, 0)], r4.2)) rfl ?_
      cases hr7 : f_X8_ends N r4.2 110 116 0 with
      | none => rw [hr7] at h; dsimp only at h; cases h
      | some r7 =>
        rw [hr7] at h
        dsimp only at h
        refine yG_c (C1 := (106, [(0, .inr (.inl 8, 0))], [.inl (.inl r7.1)], r7.2)) rfl (e_X8_ends hr7) rfl ?_
        cases hg8 : ycP .eq r7.1 0 with
        | true =>
          rw [hg8] at h
          dsimp only [cond] at h
          refine yG_t (C' := (113, [(0, .inr (.inl 8, 0))], [], r7.2)) rfl hg8 ?_
          exact t_X8_kindNow_b113 r7.2 res h
        | false =>
          rw [hg8] at h
          dsimp only [cond] at h
          refine yG_f (C' := (109, [(0, .inr (.inl 8, 0))], [], r7.2)) rfl hg8 ?_
          refine yG_n (n := 2) (C' := (147, [(0, .inr (.inl 8, 0))], [.inl (.inl 3)], r7.2)) rfl ?_
          exact yG_w [] rfl (t_X8_kindNow_b147 r7.2 3 res h)
set_option maxRecDepth 100000 in
set_option maxHeartbeats 4000000 in
theorem t_X8_kindNow_b55 {N : Nat} {X : zXT} {sh : List yH} {l : Launch} {rm : Room} (σ : yS) (res : Int × yS) (h : f_X8_kindNow_b55 N σ = some res) : G_X8_kindNow N X sh l rm (55, [(0, .inr (.inl 8, 0))], [], σ) (some (.inl (.inl res.1)), res.2) := by
  unfold f_X8_kindNow_b55 at h
  refine yG_n (n := 5) (C' := (63, [(0, .inr (.inl 8, 0))], [.inl (.inl 117), .inl (.inl 114), .inl (.inl 100), .inl (.inl 5), .inr (.inl 8, 0)], σ)) rfl ?_
  cases hr9 : f_X8_is N σ 5 100 114 117 with
  | none => rw [hr9] at h; dsimp only at h; cases h
  | some r3 =>
    rw [hr9] at h
    dsimp only at h
    refine yG_c (C1 := (66, [(0, .inr (.inl 8, 0))], [.inl (.inl r3.1)], r3.2)) rfl (e_X8_is hr9) rfl ?_
    cases hg10 : ycP .eq r3.1 0 with
    | true =>
      rw [hg10] at h
      dsimp only [cond] at h
      refine yG_t (C' := (83, [(0, .inr (.inl 8, 0))], [], r3.2)) rfl hg10 ?_
      exact t_X8_kindNow_b83 r3.2 res h
    | false =>
      rw [hg10] at h
      dsimp only [cond] at h
      refine yG_f (C' := (69, [(0, .inr (.inl 8, 0))], [], r3.2)) rfl hg10 ?_
      refine yG_n (n := 4) (C' := (75, [(0, .inr (.inl 8, 0))], [.inl (.inl 0), .inl (.inl 107), .inl (.inl 110), .inr (.inl 8, 0)], r3.2)) rfl ?_
      cases hr11 : f_X8_ends N r3.2 110 107 0 with
      | none => rw [hr11] at h; dsimp only at h; cases h
      | some r8 =>
        rw [hr11] at h
        dsimp only at h
        refine yG_c (C1 := (78, [(0, .inr (.inl 8, 0))], [.inl (.inl r8.1)], r8.2)) rfl (e_X8_ends hr11) rfl ?_
        cases hg12 : ycP .eq r8.1 0 with
        | true =>
          rw [hg12] at h
          dsimp only [cond] at h
          refine yG_t (C' := (83, [(0, .inr (.inl 8, 0))], [], r8.2)) rfl hg12 ?_
          exact t_X8_kindNow_b83 r8.2 res h
        | false =>
          rw [hg12] at h
          dsimp only [cond] at h
          refine yG_f (C' := (81, [(0, .inr (.inl 8, 0))], [], r8.2)) rfl hg12 ?_
          refine yG_n (n := 1) (C' := (82, [(0, .inr (.inl 8, 0))], [.inl (.inl 2)], r8.2)) rfl ?_
          have h := Option.some.inj h
          subst h
          dsimp only
          exact yG_r rfl rfl
set_option maxRecDepth 100000 in
set_option maxHeartbeats 4000000 in
theorem t_X8_kindNow_b28 {N : Nat} {X : zXT} {sh : List yH} {l : Launch} {rm : Room} (σ : yS) (res : Int × yS) (h : f_X8_kindNow_b28 N σ = some res) : G_X8_kindNow N X sh l rm (28, [(0, .inr (.inl 8, 0))], [], σ) (some (.inl (.inl res.1)), res.2) := by
  unfold f_X8_kindNow_b28 at h
  refine yG_n (n := 5) (C' := (36, [(0, .inr (.inl 8, 0))], [.inl (.inl 102), .inl (.inl 101), .inl (.inl 108), .inl (.inl 4), .inr (.inl 8, 0)], σ)) rfl ?_
  cases hr13 : f_X8_is N σ 4 108 101 102 with
  | none => rw [hr13] at h; dsimp only at h; cases h
  | some r2 =>
    rw [hr13] at h
    dsimp only at h
    refine yG_c (C1 := (39, [(0, .inr (.inl 8, 0))], [.inl (.inl r2.1)], r2.2)) rfl (e_X8_is hr13) rfl ?_
    cases hg14 : ycP .eq r2.1 0 with
    | true =>
      rw [hg14] at h
      dsimp only [cond] at h
      refine yG_t (C' := (55, [(0, .inr (.inl 8, 0))], [], r2.2)) rfl hg14 ?_
      exact t_X8_kindNow_b55 r2.2 res h
    | false =>
      rw [hg14] at h
      dsimp only [cond] at h
      refine yG_f (C' := (42, [(0, .inr (.inl 8, 0))], [], r2.2)) rfl hg14 ?_
      refine yG_n (n := 4) (C' := (47, [(0, .inr (.inl 8, 0))], [.inl (.inl 0), .inl (.inl 0), .inl (.inl 116), .inr (.inl 8, 0)], r2.2)) rfl ?_
      cases hr15 : f_X8_ends N r2.2 116 0 0 with
      | none => rw [hr15] at h; dsimp only at h; cases h
      | some r9 =>
        rw [hr15] at h
        dsimp only at h
        refine yG_c (C1 := (50, [(0, .inr (.inl 8, 0))], [.inl (.inl r9.1)], r9.2)) rfl (e_X8_ends hr15) rfl ?_
        cases hg16 : ycP .eq r9.1 0 with
        | true =>
          rw [hg16] at h
          dsimp only [cond] at h
          refine yG_t (C' := (55, [(0, .inr (.inl 8, 0))], [], r9.2)) rfl hg16 ?_
          exact t_X8_kindNow_b55 r9.2 res h
        | false =>
          rw [hg16] at h
          dsimp only [cond] at h
          refine yG_f (C' := (53, [(0, .inr (.inl 8, 0))], [], r9.2)) rfl hg16 ?_
          refine yG_n (n := 1) (C' := (54, [(0, .inr (.inl 8, 0))], [.inl (.inl 1)], r9.2)) rfl ?_
          have h := Option.some.inj h
          subst h
          dsimp only
          exact yG_r rfl rfl
set_option maxRecDepth 100000 in
set_option maxHeartbeats 4000000 in
theorem t_X8_kindNow {N : Nat} {X : zXT} {sh : List yH} {l : Launch} {rm : Room} (σ : yS) (res : Int × yS) (h : f_X8_kindNow N σ = some res) : G_X8_kindNow N X sh l rm (0, [(0, .inr (.inl 8, 0))], [], σ) (some (.inl (.inl res.1)), res.2) := by
  unfold f_X8_kindNow at h
  refine yG_n (n := 5) (C' := (8, [(0, .inr (.inl 8, 0))], [.inl (.inl 97), .inl (.inl 108), .inl (.inl 112), .inl (.inl 5), .inr (.inl 8, 0)], σ)) rfl ?_
  cases hr17 : f_X8_is N σ 5 112 108 97 with
  | none => rw [hr17] at h; dsimp only at h; cases h
  | some r1 =>
    rw [hr17] at h
    dsimp only at h
    refine yG_c (C1 := (11, [(0, .inr (.inl 8, 0))], [.inl (.inl r1.1)], r1.2)) rfl (e_X8_is hr17) rfl ?_
    cases hg18 : ycP .eq r1.1 0 with
    | true =>
      rw [hg18] at h
      dsimp only [cond] at h
      refine yG_t (C' := (28, [(0, .inr (.inl 8, 0))], [], r1.2)) rfl hg18 ?_
      exact t_X8_kindNow_b28 r1.2 res h
    | false =>
      rw [hg18] at h
      dsimp only [cond] at h
      refine yG_f (C' := (14, [(0, .inr (.inl 8, 0))], [], r1.2)) rfl hg18 ?_
      refine yG_n (n := 4) (C' := (20, [(0, .inr (.inl 8, 0))], [.inl (.inl 0), .inl (.inl 110), .inl (.inl 105), .inr (.inl 8, 0)], r1.2)) rfl ?_
      cases hr19 : f_X8_ends N r1.2 105 110 0 with
      | none => rw [hr19] at h; dsimp only at h; cases h
      | some r10 =>
        rw [hr19] at h
        dsimp only at h
        refine yG_c (C1 := (23, [(0, .inr (.inl 8, 0))], [.inl (.inl r10.1)], r10.2)) rfl (e_X8_ends hr19) rfl ?_
        cases hg20 : ycP .eq r10.1 0 with
        | true =>
          rw [hg20] at h
          dsimp only [cond] at h
          refine yG_t (C' := (28, [(0, .inr (.inl 8, 0))], [], r10.2)) rfl hg20 ?_
          exact t_X8_kindNow_b28 r10.2 res h
        | false =>
          rw [hg20] at h
          dsimp only [cond] at h
          refine yG_f (C' := (26, [(0, .inr (.inl 8, 0))], [], r10.2)) rfl hg20 ?_
          refine yG_n (n := 1) (C' := (27, [(0, .inr (.inl 8, 0))], [.inl (.inl 0)], r10.2)) rfl ?_
          have h := Option.some.inj h
          subst h
          dsimp only
          exact yG_r rfl rfl
set_option maxRecDepth 100000 in
set_option maxHeartbeats 4000000 in
theorem m_X8_kindNow {N : Nat} {X : zXT} (hX : zXok X) (hN : zXn X) (l : Launch) {sh : List yH} : yMet X vwCl yct sh l yX8_kindNow wsX8_kindNow { frames := 3, cells := 0, slots := 0, locals := 109 } (F_X8_kindNow N) :=
  ymeth (tb := tb_X8_kindNow N) (pr := pr_X8_kindNow) (rt := 1) (own := RX8) hX (by decide +kernel) rfl rfl ⟨Nat.le_of_ble_eq_true rfl, Nat.le_of_ble_eq_true rfl⟩
    (zfl_all (fun _ h => absurd h List.not_mem_nil))
    (zco_all (fun _ h => absurd h List.not_mem_nil)) (zlc_all (fun _ h => absurd h List.not_mem_nil))
    (List.forall_mem_cons.mpr ⟨ycal_V hX (m_X8_is hX hN l) rfl (fun s args hts => cwV 4 hts gX8_kindNow_X8_is rfl rfl rfl (by decide +kernel) ⟨Nat.le_of_ble_eq_true rfl, Nat.le_of_ble_eq_true rfl⟩), List.forall_mem_cons.mpr ⟨ycal_V hX (m_X8_ends hX hN l) rfl (fun s args hts => cwV 3 hts gX8_kindNow_X8_ends rfl rfl rfl (by decide +kernel) ⟨Nat.le_of_ble_eq_true rfl, Nat.le_of_ble_eq_true rfl⟩), fun _ h => absurd h List.not_mem_nil⟩⟩)
    (fun _ h => absurd h List.not_mem_nil)
    (zmm_all (fun _ h => absurd h List.not_mem_nil)) (fun _ h => absurd h List.not_mem_nil) (zpr_all hp_X8_kindNow) (fun as σ res h => by
      unfold F_X8_kindNow at h
      split at h
      · cases hr : f_X8_kindNow N σ with
        | none => rw [hr] at h; cases h
        | some r =>
          rw [hr] at h
          cases h
          exact ⟨Nat.le_of_ble_eq_true rfl, t_X8_kindNow σ r hr⟩
      · cases h)
noncomputable def pr_X8_lawyer : List (Nat × Instr × Nat) := [(0, .aload_n 0, 1), (1, .iload_n 1, 1), (2, .invokevirtual 205, 3), (5, .ifCond .eq 18, 3), (8, .aload_n 0, 1), (9, .bipush 14, 2), (11, .iload_n 1, 1), (12, .iadd, 1), (13, .iload_n 2, 1), (14, .invokestatic 197, 3), (17, .invokevirtual 214, 3), (20, .goto 4, 3), (23, .iconst (-1), 1), (24, .ireturn, 1)]
set_option maxRecDepth 100000 in
theorem hp_X8_lawyer : pr_X8_lawyer.all (fun x => decide (decode cX8_lawyer x.1 = .ok x.2)) = true := by decide +kernel
noncomputable def f_X8_lawyer_b24 (N : Nat) (σ : yS) (s0 : Int) : Option (Int × yS) :=
  some (s0, σ)
noncomputable def f_X8_lawyer (N : Nat) (σ : yS) (x1 : Int) (x2 : Int) : Option (Int × yS) :=
  match f_X8_isHouse N σ x1 with
  | none => none
  | some r1 => bif ycP .eq r1.1 0 then
      f_X8_lawyer_b24 N r1.2 ((-1))
    else
      match f_X8_flag N r1.2 x2 with
      | none => none
      | some r2 => match f_X8_becomes N r2.2 (yad 14 x1) r2.1 with
        | none => none
        | some r3 => f_X8_lawyer_b24 N r3.2 r3.1
noncomputable def F_X8_lawyer (N : Nat) : yF := fun as σ => match as with
  | [.inr (.inl 8, 0), .inl (.inl x1), .inl (.inl x2)] => (f_X8_lawyer N σ x1 x2).map (fun r => (some (.inl (.inl r.1)), r.2))
  | _ => none
theorem e_X8_lawyer {N : Nat} {σ : yS} {x1 : Int} {x2 : Int} {r : Int × yS} (h : f_X8_lawyer N σ x1 x2 = some r) : F_X8_lawyer N [.inr (.inl 8, 0), .inl (.inl x1), .inl (.inl x2)] σ = some (some (.inl (.inl r.1)), r.2) := by
  show (f_X8_lawyer N σ x1 x2).map (fun r => ((some (.inl (.inl r.1)), r.2) : yR)) = _
  rw [h]
  rfl
noncomputable def tb_X8_lawyer (N : Nat) : yTb := ([], [], [], [(205, 2, 8, F_X8_isHouse N), (214, 3, 8, F_X8_becomes N)], [(197, 1, F_X8_flag N)], [], [])
abbrev G_X8_lawyer (N : Nat) (X : zXT) (sh : List yH) (l : Launch) (rm : Room) : yC → yR → Prop := yGoes X vwCl yct sh l rm cX8_lawyer 3 wsX8_lawyer RX8 (tb_X8_lawyer N) pr_X8_lawyer 1
set_option maxRecDepth 100000 in
set_option maxHeartbeats 4000000 in
theorem t_X8_lawyer_b24 {N : Nat} {X : zXT} {sh : List yH} {l : Launch} {rm : Room} (σ : yS) (s0 : Int) (res : Int × yS) (h : f_X8_lawyer_b24 N σ s0 = some res) : G_X8_lawyer N X sh l rm (24, [], [.inl (.inl s0)], σ) (some (.inl (.inl res.1)), res.2) := by
  unfold f_X8_lawyer_b24 at h
  have h := Option.some.inj h
  subst h
  dsimp only
  exact yG_r rfl rfl
set_option maxRecDepth 100000 in
set_option maxHeartbeats 4000000 in
theorem t_X8_lawyer {N : Nat} {X : zXT} {sh : List yH} {l : Launch} {rm : Room} (σ : yS) (x1 : Int) (x2 : Int) (res : Int × yS) (h : f_X8_lawyer N σ x1 x2 = some res) : G_X8_lawyer N X sh l rm (0, [(0, .inr (.inl 8, 0)), (1, .inl (.inl x1)), (2, .inl (.inl x2))], [], σ) (some (.inl (.inl res.1)), res.2) := by
  unfold f_X8_lawyer at h
  refine yG_n (n := 2) (C' := (2, [(0, .inr (.inl 8, 0)), (1, .inl (.inl x1)), (2, .inl (.inl x2))], [.inl (.inl x1), .inr (.inl 8, 0)], σ)) rfl ?_
  cases hr1 : f_X8_isHouse N σ x1 with
  | none => rw [hr1] at h; dsimp only at h; cases h
  | some r1 =>
    rw [hr1] at h
    dsimp only at h
    refine yG_c (C1 := (5, [(0, .inr (.inl 8, 0)), (1, .inl (.inl x1)), (2, .inl (.inl x2))], [.inl (.inl r1.1)], r1.2)) rfl (e_X8_isHouse hr1) rfl ?_
    cases hg2 : ycP .eq r1.1 0 with
    | true =>
      rw [hg2] at h
      dsimp only [cond] at h
      refine yG_t (C' := (23, [(0, .inr (.inl 8, 0)), (1, .inl (.inl x1)), (2, .inl (.inl x2))], [], r1.2)) rfl hg2 ?_
      refine yG_n (n := 1) (C' := (24, [(0, .inr (.inl 8, 0)), (1, .inl (.inl x1)), (2, .inl (.inl x2))], [.inl (.inl ((-1)))], r1.2)) rfl ?_
      exact yG_w [] rfl (t_X8_lawyer_b24 r1.2 ((-1)) res h)
    | false =>
      rw [hg2] at h
      dsimp only [cond] at h
      refine yG_f (C' := (8, [(0, .inr (.inl 8, 0)), (1, .inl (.inl x1)), (2, .inl (.inl x2))], [], r1.2)) rfl hg2 ?_
      refine yG_n (n := 5) (C' := (14, [(0, .inr (.inl 8, 0)), (1, .inl (.inl x1)), (2, .inl (.inl x2))], [.inl (.inl x2), .inl (.inl (yad 14 x1)), .inr (.inl 8, 0)], r1.2)) rfl ?_
      cases hr3 : f_X8_flag N r1.2 x2 with
      | none => rw [hr3] at h; dsimp only at h; cases h
      | some r2 =>
        rw [hr3] at h
        dsimp only at h
        refine yG_c (C1 := (17, [(0, .inr (.inl 8, 0)), (1, .inl (.inl x1)), (2, .inl (.inl x2))], [.inl (.inl r2.1), .inl (.inl (yad 14 x1)), .inr (.inl 8, 0)], r2.2)) rfl (e_X8_flag hr3) rfl ?_
        cases hr4 : f_X8_becomes N r2.2 (yad 14 x1) r2.1 with
        | none => rw [hr4] at h; dsimp only at h; cases h
        | some r3 =>
          rw [hr4] at h
          dsimp only at h
          refine yG_c (C1 := (20, [(0, .inr (.inl 8, 0)), (1, .inl (.inl x1)), (2, .inl (.inl x2))], [.inl (.inl r3.1)], r3.2)) rfl (e_X8_becomes hr4) rfl ?_
          refine yG_n (n := 1) (C' := (24, [(0, .inr (.inl 8, 0)), (1, .inl (.inl x1)), (2, .inl (.inl x2))], [.inl (.inl r3.1)], r3.2)) rfl ?_
          exact yG_w [] rfl (t_X8_lawyer_b24 r3.2 r3.1 res h)
set_option maxRecDepth 100000 in
set_option maxHeartbeats 4000000 in
theorem m_X8_lawyer {N : Nat} {X : zXT} (hX : zXok X) (hN : zXn X) (l : Launch) {sh : List yH} : yMet X vwCl yct sh l yX8_lawyer wsX8_lawyer { frames := 3, cells := 0, slots := 0, locals := 110 } (F_X8_lawyer N) :=
  ymeth (tb := tb_X8_lawyer N) (pr := pr_X8_lawyer) (rt := 1) (own := RX8) hX (by decide +kernel) rfl rfl ⟨Nat.le_of_ble_eq_true rfl, Nat.le_of_ble_eq_true rfl⟩
    (zfl_all (fun _ h => absurd h List.not_mem_nil))
    (zco_all (fun _ h => absurd h List.not_mem_nil)) (zlc_all (fun _ h => absurd h List.not_mem_nil))
    (List.forall_mem_cons.mpr ⟨ycal_V hX (m_X8_isHouse hX hN l) rfl (fun s args hts => cwV 1 hts gX8_lawyer_X8_isHouse rfl rfl rfl (by decide +kernel) ⟨Nat.le_of_ble_eq_true rfl, Nat.le_of_ble_eq_true rfl⟩), List.forall_mem_cons.mpr ⟨ycal_V hX (m_X8_becomes hX hN l) rfl (fun s args hts => cwV 2 hts gX8_lawyer_X8_becomes rfl rfl rfl (by decide +kernel) ⟨Nat.le_of_ble_eq_true rfl, Nat.le_of_ble_eq_true rfl⟩), fun _ h => absurd h List.not_mem_nil⟩⟩)
    (List.forall_mem_cons.mpr ⟨ycal_S hX (m_X8_flag hX hN l) (fun s args hts => va_cwS 1 hts gX8_lawyer_X8_flag rfl rfl rfl (by decide +kernel) ⟨Nat.le_of_ble_eq_true rfl, Nat.le_of_ble_eq_true rfl⟩), fun _ h => absurd h List.not_mem_nil⟩)
    (zmm_all (fun _ h => absurd h List.not_mem_nil)) (fun _ h => absurd h List.not_mem_nil) (zpr_all hp_X8_lawyer) (fun as σ res h => by
      unfold F_X8_lawyer at h
      split at h
      · rename_i x1 x2
        cases hr : f_X8_lawyer N σ x1 x2 with
        | none => rw [hr] at h; cases h
        | some r =>
          rw [hr] at h
          cases h
          exact ⟨Nat.le_of_ble_eq_true rfl, t_X8_lawyer σ x1 x2 r hr⟩
      · cases h)
noncomputable def pr_X8_lay : List (Nat × Instr × Nat) := [(0, .iload_n 1, 1), (1, .iconst 0, 1), (2, .invokestatic 323, 3), (5, .ifCond .ne 5, 3), (8, .iconst (-1), 1), (9, .ireturn, 1), (10, .aload_n 0, 1), (11, .getfield 44, 3), (14, .iload_n 1, 1), (15, .iaload, 1), (16, .bipush (-4), 2), (18, .if_icmp .ne 6, 3), (21, .bipush (-11), 2), (23, .ireturn, 1), (24, .iload_n 2, 1), (25, .i2l, 1), (26, .lconst 0, 1), (27, .aload_n 0, 1), (28, .getfield 47, 3), (31, .iload_n 1, 1), (32, .iaload, 1), (33, .iconst 1, 1), (34, .isub, 1), (35, .i2l, 1), (36, .invokestatic 90, 3), (39, .ifCond .ne 6, 3), (42, .bipush (-12), 2), (44, .ireturn, 1), (45, .aload_n 0, 1), (46, .getfield 50, 3), (49, .bipush 40, 2), (51, .iload_n 1, 1), (52, .imul, 1), (53, .iload_n 2, 1), (54, .iadd, 1), (55, .aload_n 0, 1), (56, .getfield 44, 3), (59, .iload_n 1, 1), (60, .iaload, 1), (61, .ifCond .ne 8, 3), (64, .iload_n 3, 1), (65, .i2b, 1), (66, .goto 19, 3), (69, .aload_n 0, 1), (70, .getfield 44, 3), (73, .iload_n 1, 1), (74, .iaload, 1), (75, .iconst 1, 1), (76, .if_icmp .ne 8, 3), (79, .iload_n 3, 1), (80, .i2s, 1), (81, .goto 4, 3), (84, .iload_n 3, 1), (85, .iastore, 1), (86, .iconst 1, 1), (87, .ireturn, 1)]
set_option maxRecDepth 100000 in
theorem hp_X8_lay : pr_X8_lay.all (fun x => decide (decode cX8_lay x.1 = .ok x.2)) = true := by decide +kernel
noncomputable def f_X8_lay_b85 (N : Nat) (σ : yS) (s0 : Int) (s1 : Int) : Option (Int × yS) :=
  bif yin s1 160 then
    some (1, yw σ 14 s1.toNat s0)
  else none
noncomputable def f_X8_lay (N : Nat) (σ : yS) (x1 : Int) (x2 : Int) (x3 : Int) : Option (Int × yS) :=
  match f_X8_isSheet N σ x1 0 with
  | none => none
  | some r1 => bif ycP .ne r1.1 0 then
      bif yin x1 4 then
        bif ycP .ne (r1.2.1 12 x1.toNat) ((-4)) then
          match f_X8_in N r1.2 x2 0 (ysu (r1.2.1 13 x1.toNat) 1) with
          | none => none
          | some r2 => bif ycP .ne r2.1 0 then
              bif ycP .ne (r2.2.1 12 x1.toNat) 0 then
                bif ycP .ne (r2.2.1 12 x1.toNat) 1 then
                  f_X8_lay_b85 N r2.2 x3 (yad (ymu 40 x1) x2)
                else
                  f_X8_lay_b85 N r2.2 (yi16 x3) (yad (ymu 40 x1) x2)
              else
                f_X8_lay_b85 N r2.2 (yi8 x3) (yad (ymu 40 x1) x2)
            else
              some ((-12), r2.2)
        else
          some ((-11), r1.2)
      else none
    else
      some ((-1), r1.2)
noncomputable def F_X8_lay (N : Nat) : yF := fun as σ => match as with
  | [.inr (.inl 8, 0), .inl (.inl x1), .inl (.inl x2), .inl (.inl x3)] => (f_X8_lay N σ x1 x2 x3).map (fun r => (some (.inl (.inl r.1)), r.2))
  | _ => none
theorem e_X8_lay {N : Nat} {σ : yS} {x1 : Int} {x2 : Int} {x3 : Int} {r : Int × yS} (h : f_X8_lay N σ x1 x2 x3 = some r) : F_X8_lay N [.inr (.inl 8, 0), .inl (.inl x1), .inl (.inl x2), .inl (.inl x3)] σ = some (some (.inl (.inl r.1)), r.2) := by
  show (f_X8_lay N σ x1 x2 x3).map (fun r => ((some (.inl (.inl r.1)), r.2) : yR)) = _
  rw [h]
  rfl
noncomputable def tb_X8_lay (N : Nat) : yTb := ([(44, 8, 29, 3), (47, 8, 30, 3), (50, 8, 31, 3)], [], [], [], [(90, 3, F_X8_in N), (323, 2, F_X8_isSheet N)], [], [])
abbrev G_X8_lay (N : Nat) (X : zXT) (sh : List yH) (l : Launch) (rm : Room) : yC → yR → Prop := yGoes X vwCl yct sh l rm cX8_lay 4 wsX8_lay RX8 (tb_X8_lay N) pr_X8_lay 1
set_option maxRecDepth 100000 in
set_option maxHeartbeats 4000000 in
theorem t_X8_lay_b85 {N : Nat} {X : zXT} {sh : List yH} {l : Launch} {rm : Room} (σ : yS) (s0 : Int) (s1 : Int) (res : Int × yS) (h : f_X8_lay_b85 N σ s0 s1 = some res) : G_X8_lay N X sh l rm (85, [], [.inl (.inl s0), .inl (.inl s1), .inr (.inr (0, 160), 14)], σ) (some (.inl (.inl res.1)), res.2) := by
  unfold f_X8_lay_b85 at h
  cases hg1 : yin s1 160 with
  | false => rw [hg1] at h; dsimp only [cond] at h; cases h
  | true =>
    rw [hg1] at h
    dsimp only [cond] at h
    refine yG_t (C' := (86, [], [], yw σ 14 s1.toNat s0)) rfl hg1 ?_
    refine yG_n (n := 1) (C' := (87, [], [.inl (.inl 1)], yw σ 14 s1.toNat s0)) rfl ?_
    have h := Option.some.inj h
    subst h
    dsimp only
    exact yG_r rfl rfl
set_option maxRecDepth 100000 in
set_option maxHeartbeats 4000000 in
theorem t_X8_lay {N : Nat} {X : zXT} {sh : List yH} {l : Launch} {rm : Room} (σ : yS) (x1 : Int) (x2 : Int) (x3 : Int) (res : Int × yS) (h : f_X8_lay N σ x1 x2 x3 = some res) : G_X8_lay N X sh l rm (0, [(0, .inr (.inl 8, 0)), (1, .inl (.inl x1)), (2, .inl (.inl x2)), (3, .inl (.inl x3))], [], σ) (some (.inl (.inl res.1)), res.2) := by
  unfold f_X8_lay at h
  refine yG_n (n := 2) (C' := (2, [(0, .inr (.inl 8, 0)), (1, .inl (.inl x1)), (2, .inl (.inl x2)), (3, .inl (.inl x3))], [.inl (.inl 0), .inl (.inl x1)], σ)) rfl ?_
  cases hr2 : f_X8_isSheet N σ x1 0 with
  | none => rw [hr2] at h; dsimp only at h; cases h
  | some r1 =>
    rw [hr2] at h
    dsimp only at h
    refine yG_c (C1 := (5, [(0, .inr (.inl 8, 0)), (1, .inl (.inl x1)), (2, .inl (.inl x2)), (3, .inl (.inl x3))], [.inl (.inl r1.1)], r1.2)) rfl (e_X8_isSheet hr2) rfl ?_
    cases hg3 : ycP .ne r1.1 0 with
    | true =>
      rw [hg3] at h
      dsimp only [cond] at h
      refine yG_t (C' := (10, [(0, .inr (.inl 8, 0)), (1, .inl (.inl x1)), (2, .inl (.inl x2)), (3, .inl (.inl x3))], [], r1.2)) rfl hg3 ?_
      refine yG_n (n := 3) (C' := (15, [(0, .inr (.inl 8, 0)), (1, .inl (.inl x1)), (2, .inl (.inl x2)), (3, .inl (.inl x3))], [.inl (.inl x1), .inr (.inr (0, 4), 12)], r1.2)) rfl ?_
      cases hg4 : yin x1 4 with
      | false => rw [hg4] at h; dsimp only [cond] at h; cases h
      | true =>
        rw [hg4] at h
        dsimp only [cond] at h
        refine yG_t (C' := (16, [(0, .inr (.inl 8, 0)), (1, .inl (.inl x1)), (2, .inl (.inl x2)), (3, .inl (.inl x3))], [.inl (.inl (r1.2.1 12 x1.toNat))], r1.2)) rfl hg4 ?_
        refine yG_n (n := 1) (C' := (18, [(0, .inr (.inl 8, 0)), (1, .inl (.inl x1)), (2, .inl (.inl x2)), (3, .inl (.inl x3))], [.inl (.inl ((-4))), .inl (.inl (r1.2.1 12 x1.toNat))], r1.2)) rfl ?_
        cases hg5 : ycP .ne (r1.2.1 12 x1.toNat) ((-4)) with
        | true =>
          rw [hg5] at h
          dsimp only [cond] at h
          refine yG_t (C' := (24, [(0, .inr (.inl 8, 0)), (1, .inl (.inl x1)), (2, .inl (.inl x2)), (3, .inl (.inl x3))], [], r1.2)) rfl hg5 ?_
          refine yG_n (n := 6) (C' := (32, [(0, .inr (.inl 8, 0)), (1, .inl (.inl x1)), (2, .inl (.inl x2)), (3, .inl (.inl x3))], [.inl (.inl x1), .inr (.inr (0, 4), 13), .inl (.inr 0), .inl (.inr x2)], r1.2)) rfl ?_
          refine yG_t (C' := (33, [(0, .inr (.inl 8, 0)), (1, .inl (.inl x1)), (2, .inl (.inl x2)), (3, .inl (.inl x3))], [.inl (.inl (r1.2.1 13 x1.toNat)), .inl (.inr 0), .inl (.inr x2)], r1.2)) rfl hg4 ?_
          refine yG_n (n := 3) (C' := (36, [(0, .inr (.inl 8, 0)), (1, .inl (.inl x1)), (2, .inl (.inl x2)), (3, .inl (.inl x3))], [.inl (.inr (ysu (r1.2.1 13 x1.toNat) 1)), .inl (.inr 0), .inl (.inr x2)], r1.2)) rfl ?_
          cases hr6 : f_X8_in N r1.2 x2 0 (ysu (r1.2.1 13 x1.toNat) 1) with
          | none => rw [hr6] at h; dsimp only at h; cases h
          | some r2 =>
            rw [hr6] at h
            dsimp only at h
            refine yG_c (C1 := (39, [(0, .inr (.inl 8, 0)), (1, .inl (.inl x1)), (2, .inl (.inl x2)), (3, .inl (.inl x3))], [.inl (.inl r2.1)], r2.2)) rfl (e_X8_in hr6) rfl ?_
            cases hg7 : ycP .ne r2.1 0 with
            | true =>
              rw [hg7] at h
              dsimp only [cond] at h
              refine yG_t (C' := (45, [(0, .inr (.inl 8, 0)), (1, .inl (.inl x1)), (2, .inl (.inl x2)), (3, .inl (.inl x3))], [], r2.2)) rfl hg7 ?_
              refine yG_n (n := 10) (C' := (60, [(0, .inr (.inl 8, 0)), (1, .inl (.inl x1)), (2, .inl (.inl x2)), (3, .inl (.inl x3))], [.inl (.inl x1), .inr (.inr (0, 4), 12), .inl (.inl (yad (ymu 40 x1) x2)), .inr (.inr (0, 160), 14)], r2.2)) rfl ?_
              refine yG_t (C' := (61, [(0, .inr (.inl 8, 0)), (1, .inl (.inl x1)), (2, .inl (.inl x2)), (3, .inl (.inl x3))], [.inl (.inl (r2.2.1 12 x1.toNat)), .inl (.inl (yad (ymu 40 x1) x2)), .inr (.inr (0, 160), 14)], r2.2)) rfl hg4 ?_
              cases hg8 : ycP .ne (r2.2.1 12 x1.toNat) 0 with
              | true =>
                rw [hg8] at h
                dsimp only [cond] at h
                refine yG_t (C' := (69, [(0, .inr (.inl 8, 0)), (1, .inl (.inl x1)), (2, .inl (.inl x2)), (3, .inl (.inl x3))], [.inl (.inl (yad (ymu 40 x1) x2)), .inr (.inr (0, 160), 14)], r2.2)) rfl hg8 ?_
                refine yG_n (n := 3) (C' := (74, [(0, .inr (.inl 8, 0)), (1, .inl (.inl x1)), (2, .inl (.inl x2)), (3, .inl (.inl x3))], [.inl (.inl x1), .inr (.inr (0, 4), 12), .inl (.inl (yad (ymu 40 x1) x2)), .inr (.inr (0, 160), 14)], r2.2)) rfl ?_
                refine yG_t (C' := (75, [(0, .inr (.inl 8, 0)), (1, .inl (.inl x1)), (2, .inl (.inl x2)), (3, .inl (.inl x3))], [.inl (.inl (r2.2.1 12 x1.toNat)), .inl (.inl (yad (ymu 40 x1) x2)), .inr (.inr (0, 160), 14)], r2.2)) rfl hg4 ?_
                refine yG_n (n := 1) (C' := (76, [(0, .inr (.inl 8, 0)), (1, .inl (.inl x1)), (2, .inl (.inl x2)), (3, .inl (.inl x3))], [.inl (.inl 1), .inl (.inl (r2.2.1 12 x1.toNat)), .inl (.inl (yad (ymu 40 x1) x2)), .inr (.inr (0, 160), 14)], r2.2)) rfl ?_
                cases hg9 : ycP .ne (r2.2.1 12 x1.toNat) 1 with
                | true =>
                  rw [hg9] at h
                  dsimp only [cond] at h
                  refine yG_t (C' := (84, [(0, .inr (.inl 8, 0)), (1, .inl (.inl x1)), (2, .inl (.inl x2)), (3, .inl (.inl x3))], [.inl (.inl (yad (ymu 40 x1) x2)), .inr (.inr (0, 160), 14)], r2.2)) rfl hg9 ?_
                  refine yG_n (n := 1) (C' := (85, [(0, .inr (.inl 8, 0)), (1, .inl (.inl x1)), (2, .inl (.inl x2)), (3, .inl (.inl x3))], [.inl (.inl x3), .inl (.inl (yad (ymu 40 x1) x2)), .inr (.inr (0, 160), 14)], r2.2)) rfl ?_
                  exact yG_w [] rfl (t_X8_lay_b85 r2.2 x3 (yad (ymu 40 x1) x2) res h)
                | false =>
                  rw [hg9] at h
                  dsimp only [cond] at h
                  refine yG_f (C' := (79, [(0, .inr (.inl 8, 0)), (1, .inl (.inl x1)), (2, .inl (.inl x2)), (3, .inl (.inl x3))], [.inl (.inl (yad (ymu 40 x1) x2)), .inr (.inr (0, 160), 14)], r2.2)) rfl hg9 ?_
                  refine yG_n (n := 3) (C' := (85, [(0, .inr (.inl 8, 0)), (1, .inl (.inl x1)), (2, .inl (.inl x2)), (3, .inl (.inl x3))], [.inl (.inl (yi16 x3)), .inl (.inl (yad (ymu 40 x1) x2)), .inr (.inr (0, 160), 14)], r2.2)) rfl ?_
                  exact yG_w [] rfl (t_X8_lay_b85 r2.2 (yi16 x3) (yad (ymu 40 x1) x2) res h)
              | false =>
                rw [hg8] at h
                dsimp only [cond] at h
                refine yG_f (C' := (64, [(0, .inr (.inl 8, 0)), (1, .inl (.inl x1)), (2, .inl (.inl x2)), (3, .inl (.inl x3))], [.inl (.inl (yad (ymu 40 x1) x2)), .inr (.inr (0, 160), 14)], r2.2)) rfl hg8 ?_
                refine yG_n (n := 3) (C' := (85, [(0, .inr (.inl 8, 0)), (1, .inl (.inl x1)), (2, .inl (.inl x2)), (3, .inl (.inl x3))], [.inl (.inl (yi8 x3)), .inl (.inl (yad (ymu 40 x1) x2)), .inr (.inr (0, 160), 14)], r2.2)) rfl ?_
                exact yG_w [] rfl (t_X8_lay_b85 r2.2 (yi8 x3) (yad (ymu 40 x1) x2) res h)
            | false =>
              rw [hg7] at h
              dsimp only [cond] at h
              refine yG_f (C' := (42, [(0, .inr (.inl 8, 0)), (1, .inl (.inl x1)), (2, .inl (.inl x2)), (3, .inl (.inl x3))], [], r2.2)) rfl hg7 ?_
              refine yG_n (n := 1) (C' := (44, [(0, .inr (.inl 8, 0)), (1, .inl (.inl x1)), (2, .inl (.inl x2)), (3, .inl (.inl x3))], [.inl (.inl ((-12)))], r2.2)) rfl ?_
              have h := Option.some.inj h
              subst h
              dsimp only
              exact yG_r rfl rfl
        | false =>
          rw [hg5] at h
          dsimp only [cond] at h
          refine yG_f (C' := (21, [(0, .inr (.inl 8, 0)), (1, .inl (.inl x1)), (2, .inl (.inl x2)), (3, .inl (.inl x3))], [], r1.2)) rfl hg5 ?_
          refine yG_n (n := 1) (C' := (23, [(0, .inr (.inl 8, 0)), (1, .inl (.inl x1)), (2, .inl (.inl x2)), (3, .inl (.inl x3))], [.inl (.inl ((-11)))], r1.2)) rfl ?_
          have h := Option.some.inj h
          subst h
          dsimp only
          exact yG_r rfl rfl
    | false =>
      rw [hg3] at h
      dsimp only [cond] at h
      refine yG_f (C' := (8, [(0, .inr (.inl 8, 0)), (1, .inl (.inl x1)), (2, .inl (.inl x2)), (3, .inl (.inl x3))], [], r1.2)) rfl hg3 ?_
      refine yG_n (n := 1) (C' := (9, [(0, .inr (.inl 8, 0)), (1, .inl (.inl x1)), (2, .inl (.inl x2)), (3, .inl (.inl x3))], [.inl (.inl ((-1)))], r1.2)) rfl ?_
      have h := Option.some.inj h
      subst h
      dsimp only
      exact yG_r rfl rfl
set_option maxRecDepth 100000 in
set_option maxHeartbeats 4000000 in
theorem m_X8_lay {N : Nat} {X : zXT} (hX : zXok X) (hN : zXn X) (l : Launch) {sh : List yH} : yMet X vwCl yct sh l yX8_lay wsX8_lay { frames := 3, cells := 0, slots := 0, locals := 110 } (F_X8_lay N) :=
  ymeth (tb := tb_X8_lay N) (pr := pr_X8_lay) (rt := 1) (own := RX8) hX (by decide +kernel) rfl rfl ⟨Nat.le_of_ble_eq_true rfl, Nat.le_of_ble_eq_true rfl⟩
    (zfl_all (List.forall_mem_cons.mpr ⟨zfl_X8 (fun w h => List.mem_cons_of_mem _ (List.mem_append_right _ h)) (List.mem_of_getElem? (i := 1) rfl) (by decide) (by decide), List.forall_mem_cons.mpr ⟨zfl_X8 (fun w h => List.mem_cons_of_mem _ (List.mem_append_right _ h)) (List.mem_of_getElem? (i := 2) rfl) (by decide) (by decide), List.forall_mem_cons.mpr ⟨zfl_X8 (fun w h => List.mem_cons_of_mem _ (List.mem_append_right _ h)) (List.mem_of_getElem? (i := 3) rfl) (by decide) (by decide), fun _ h => absurd h List.not_mem_nil⟩⟩⟩))
    (zco_all (fun _ h => absurd h List.not_mem_nil)) (zlc_all (fun _ h => absurd h List.not_mem_nil))
    (fun _ h => absurd h List.not_mem_nil)
    (List.forall_mem_cons.mpr ⟨ycal_S hX (m_X8_in hX hN l) (fun s args hts => va_cwS 3 hts gX8_lay_X8_in rfl rfl rfl (by decide +kernel) ⟨Nat.le_of_ble_eq_true rfl, Nat.le_of_ble_eq_true rfl⟩), List.forall_mem_cons.mpr ⟨ycal_S hX (m_X8_isSheet hX hN l) (fun s args hts => va_cwS 2 hts gX8_lay_X8_isSheet rfl rfl rfl (by decide +kernel) ⟨Nat.le_of_ble_eq_true rfl, Nat.le_of_ble_eq_true rfl⟩), fun _ h => absurd h List.not_mem_nil⟩⟩)
    (zmm_all (fun _ h => absurd h List.not_mem_nil)) (fun _ h => absurd h List.not_mem_nil) (zpr_all hp_X8_lay) (fun as σ res h => by
      unfold F_X8_lay at h
      split at h
      · rename_i x1 x2 x3
        cases hr : f_X8_lay N σ x1 x2 x3 with
        | none => rw [hr] at h; cases h
        | some r =>
          rw [hr] at h
          cases h
          exact ⟨Nat.le_of_ble_eq_true rfl, t_X8_lay σ x1 x2 x3 r hr⟩
      · cases h)
noncomputable def pr_X8_ofHouses : List (Nat × Instr × Nat) := [(0, .aload_n 0, 1), (1, .iconst 5, 1), (2, .bipush 104, 2), (4, .bipush 111, 2), (6, .bipush 117, 2), (8, .invokevirtual 113, 3), (11, .ifCond .eq 17, 3), (14, .aload_n 0, 1), (15, .bipush 115, 2), (17, .bipush 101, 2), (19, .iconst 0, 1), (20, .invokevirtual 117, 3), (23, .ifCond .eq 5, 3), (26, .iconst 0, 1), (27, .ireturn, 1), (28, .aload_n 0, 1), (29, .bipush 6, 2), (31, .bipush 108, 2), (33, .bipush 97, 2), (35, .bipush 119, 2), (37, .invokevirtual 113, 3), (40, .ifCond .eq 18, 3), (43, .aload_n 0, 1), (44, .bipush 121, 2), (46, .bipush 101, 2), (48, .bipush 114, 2), (50, .invokevirtual 117, 3), (53, .ifCond .eq 5, 3), (56, .iconst 1, 1), (57, .ireturn, 1), (58, .aload_n 0, 1), (59, .iconst 5, 1), (60, .bipush 104, 2), (62, .bipush 97, 2), (64, .bipush 98, 2), (66, .invokevirtual 113, 3), (69, .ifCond .eq 19, 3), (72, .aload_n 0, 1), (73, .bipush 105, 2), (75, .bipush 116, 2), (77, .iconst 0, 1), (78, .invokevirtual 117, 3), (81, .ifCond .eq 7, 3), (84, .iconst 2, 1), (85, .goto 5, 3), (88, .bipush (-4), 2), (90, .ireturn, 1)]
set_option maxRecDepth 100000 in
theorem hp_X8_ofHouses : pr_X8_ofHouses.all (fun x => decide (decode cX8_ofHouses x.1 = .ok x.2)) = true := by decide +kernel
noncomputable def f_X8_ofHouses_b90 (N : Nat) (σ : yS) (s0 : Int) : Option (Int × yS) :=
  some (s0, σ)
noncomputable def f_X8_ofHouses_b88 (N : Nat) (σ : yS) : Option (Int × yS) :=
  f_X8_ofHouses_b90 N σ ((-4))
noncomputable def f_X8_ofHouses_b58 (N : Nat) (σ : yS) : Option (Int × yS) :=
  match f_X8_is N σ 5 104 97 98 with
  | none => none
  | some r3 => bif ycP .eq r3.1 0 then
      f_X8_ofHouses_b88 N r3.2
    else
      match f_X8_ends N r3.2 105 116 0 with
      | none => none
      | some r4 => bif ycP .eq r4.1 0 then
          f_X8_ofHouses_b88 N r4.2
        else
          f_X8_ofHouses_b90 N r4.2 2
noncomputable def f_X8_ofHouses_b28 (N : Nat) (σ : yS) : Option (Int × yS) :=
  match f_X8_is N σ 6 108 97 119 with
  | none => none
  | some r2 => bif ycP .eq r2.1 0 then
      f_X8_ofHouses_b58 N r2.2
    else
      match f_X8_ends N r2.2 121 101 114 with
      | none => none
      | some r5 => bif ycP .eq r5.1 0 then
          f_X8_ofHouses_b58 N r5.2
        else
          some (1, r5.2)
noncomputable def f_X8_ofHouses (N : Nat) (σ : yS) : Option (Int × yS) :=
  match f_X8_is N σ 5 104 111 117 with
  | none => none
  | some r1 => bif ycP .eq r1.1 0 then
      f_X8_ofHouses_b28 N r1.2
    else
      match f_X8_ends N r1.2 115 101 0 with
      | none => none
      | some r6 => bif ycP .eq r6.1 0 then
          f_X8_ofHouses_b28 N r6.2
        else
          some (0, r6.2)
noncomputable def F_X8_ofHouses (N : Nat) : yF := fun as σ => match as with
  | [.inr (.inl 8, 0)] => (f_X8_ofHouses N σ).map (fun r => (some (.inl (.inl r.1)), r.2))
  | _ => none
theorem e_X8_ofHouses {N : Nat} {σ : yS} {r : Int × yS} (h : f_X8_ofHouses N σ = some r) : F_X8_ofHouses N [.inr (.inl 8, 0)] σ = some (some (.inl (.inl r.1)), r.2) := by
  show (f_X8_ofHouses N σ).map (fun r => ((some (.inl (.inl r.1)), r.2) : yR)) = _
  rw [h]
  rfl
noncomputable def tb_X8_ofHouses (N : Nat) : yTb := ([], [], [], [(113, 5, 8, F_X8_is N), (117, 4, 8, F_X8_ends N)], [], [], [])
abbrev G_X8_ofHouses (N : Nat) (X : zXT) (sh : List yH) (l : Launch) (rm : Room) : yC → yR → Prop := yGoes X vwCl yct sh l rm cX8_ofHouses 1 wsX8_ofHouses RX8 (tb_X8_ofHouses N) pr_X8_ofHouses 1
set_option maxRecDepth 100000 in
set_option maxHeartbeats 4000000 in
theorem t_X8_ofHouses_b90 {N : Nat} {X : zXT} {sh : List yH} {l : Launch} {rm : Room} (σ : yS) (s0 : Int) (res : Int × yS) (h : f_X8_ofHouses_b90 N σ s0 = some res) : G_X8_ofHouses N X sh l rm (90, [], [.inl (.inl s0)], σ) (some (.inl (.inl res.1)), res.2) := by
  unfold f_X8_ofHouses_b90 at h
  have h := Option.some.inj h
  subst h
  dsimp only
  exact yG_r rfl rfl
set_option maxRecDepth 100000 in
set_option maxHeartbeats 4000000 in
theorem t_X8_ofHouses_b88 {N : Nat} {X : zXT} {sh : List yH} {l : Launch} {rm : Room} (σ : yS) (res : Int × yS) (h : f_X8_ofHouses_b88 N σ = some res) : G_X8_ofHouses N X sh l rm (88, [], [], σ) (some (.inl (.inl res.1)), res.2) := by
  unfold f_X8_ofHouses_b88 at h
  refine yG_n (n := 1) (C' := (90, [], [.inl (.inl ((-4)))], σ)) rfl ?_
  exact t_X8_ofHouses_b90 σ ((-4)) res h
set_option maxRecDepth 100000 in
set_option maxHeartbeats 4000000 in
theorem t_X8_ofHouses_b58 {N : Nat} {X : zXT} {sh : List yH} {l : Launch} {rm : Room} (σ : yS) (res : Int × yS) (h : f_X8_ofHouses_b58 N σ = some res) : G_X8_ofHouses N X sh l rm (58, [(0, .inr (.inl 8, 0))], [], σ) (some (.inl (.inl res.1)), res.2) := by
  unfold f_X8_ofHouses_b58 at h
  refine yG_n (n := 5) (C' := (66, [(0, .inr (.inl 8, 0))], [.inl (.inl 98), .inl (.inl 97), .inl (.inl 104), .inl (.inl 5), .inr (.inl 8, 0)], σ)) rfl ?_
  cases hr1 : f_X8_is N σ 5 104 97 98 with
  | none => rw [hr1] at h; dsimp only at h; cases h
  | some r3 =>
    rw [hr1] at h
    dsimp only at h
    refine yG_c (C1 := (69, [(0, .inr (.inl 8, 0))], [.inl (.inl r3.1)], r3.2)) rfl (e_X8_is hr1) rfl ?_
    cases hg2 : ycP .eq r3.1 0 with
    | true =>
      rw [hg2] at h
      dsimp only [cond] at h
      refine yG_t (C' := (88, [(0, .inr (.inl 8, 0))], [], r3.2)) rfl hg2 ?_
      exact yG_w [] rfl (t_X8_ofHouses_b88 r3.2 res h)
    | false =>
      rw [hg2] at h
      dsimp only [cond] at h
      refine yG_f (C' := (72, [(0, .inr (.inl 8, 0))], [], r3.2)) rfl hg2 ?_
      refine yG_n (n := 4) (C' := (78, [(0, .inr (.inl 8, 0))], [.inl (.inl 0), .inl (.inl 116), .inl (.inl 105), .inr (.inl 8, 0)], r3.2)) rfl ?_
      cases hr3 : f_X8_ends N r3.2 105 116 0 with
      | none => rw [hr3] at h; dsimp only at h; cases h
      | some r4 =>
        rw [hr3] at h
        dsimp only at h
        refine yG_c (C1 := (81, [(0, .inr (.inl 8, 0))], [.inl (.inl r4.1)], r4.2)) rfl (e_X8_ends hr3) rfl ?_
        cases hg4 : ycP .eq r4.1 0 with
        | true =>
          rw [hg4] at h
          dsimp only [cond] at h
          refine yG_t (C' := (88, [(0, .inr (.inl 8, 0))], [], r4.2)) rfl hg4 ?_
          exact yG_w [] rfl (t_X8_ofHouses_b88 r4.2 res h)
        | false =>
          rw [hg4] at h
          dsimp only [cond] at h
          refine yG_f (C' := (84, [(0, .inr (.inl 8, 0))], [], r4.2)) rfl hg4 ?_
          refine yG_n (n := 2) (C' := (90, [(0, .inr (.inl 8, 0))], [.inl (.inl 2)], r4.2)) rfl ?_
          exact yG_w [] rfl (t_X8_ofHouses_b90 r4.2 2 res h)
set_option maxRecDepth 100000 in
set_option maxHeartbeats 4000000 in
theorem t_X8_ofHouses_b28 {N : Nat} {X : zXT} {sh : List yH} {l : Launch} {rm : Room} (σ : yS) (res : Int × yS) (h : f_X8_ofHouses_b28 N σ = some res) : G_X8_ofHouses N X sh l rm (28, [(0, .inr (.inl 8, 0))], [], σ) (some (.inl (.inl res.1)), res.2) := by
  unfold f_X8_ofHouses_b28 at h
  refine yG_n (n := 5) (C' := (37, [(0, .inr (.inl 8, 0))], [.inl (.inl 119), .inl (.inl 97), .inl (.inl 108), .inl (.inl 6), .inr (.inl 8, 0)], σ)) rfl ?_
  cases hr5 : f_X8_is N σ 6 108 97 119 with
  | none => rw [hr5] at h; dsimp only at h; cases h
  | some r2 =>
    rw [hr5] at h
    dsimp only at h
    refine yG_c (C1 := (40, [(0, .inr (.inl 8, 0))], [.inl (.inl r2.1)], r2.2)) rfl (e_X8_is hr5) rfl ?_
    cases hg6 : ycP .eq r2.1 0 with
    | true =>
      rw [hg6] at h
      dsimp only [cond] at h
      refine yG_t (C' := (58, [(0, .inr (.inl 8, 0))], [], r2.2)) rfl hg6 ?_
      exact t_X8_ofHouses_b58 r2.2 res h
    | false =>
      rw [hg6] at h
      dsimp only [cond] at h
      refine yG_f (C' := (43, [(0, .inr (.inl 8, 0))], [], r2.2)) rfl hg6 ?_
      refine yG_n (n := 4) (C' := (50, [(0, .inr (.inl 8, 0))], [.inl (.inl 114), .inl (.inl 101), .inl (.inl 121), .inr (.inl 8, 0)], r2.2)) rfl ?_
      cases hr7 : f_X8_ends N r2.2 121 101 114 with
      | none => rw [hr7] at h; dsimp only at h; cases h
      | some r5 =>
        rw [hr7] at h
        dsimp only at h
        refine yG_c (C1 := (53, [(0, .inr (.inl 8, 0))], [.inl (.inl r5.1)], r5.2)) rfl (e_X8_ends hr7) rfl ?_
        cases hg8 : ycP .eq r5.1 0 with
        | true =>
          rw [hg8] at h
          dsimp only [cond] at h
          refine yG_t (C' := (58, [(0, .inr (.inl 8, 0))], [], r5.2)) rfl hg8 ?_
          exact t_X8_ofHouses_b58 r5.2 res h
        | false =>
          rw [hg8] at h
          dsimp only [cond] at h
          refine yG_f (C' := (56, [(0, .inr (.inl 8, 0))], [], r5.2)) rfl hg8 ?_
          refine yG_n (n := 1) (C' := (57, [(0, .inr (.inl 8, 0))], [.inl (.inl 1)], r5.2)) rfl ?_
          have h := Option.some.inj h
          subst h
          dsimp only
          exact yG_r rfl rfl
set_option maxRecDepth 100000 in
set_option maxHeartbeats 4000000 in
theorem t_X8_ofHouses {N : Nat} {X : zXT} {sh : List yH} {l : Launch} {rm : Room} (σ : yS) (res : Int × yS) (h : f_X8_ofHouses N σ = some res) : G_X8_ofHouses N X sh l rm (0, [(0, .inr (.inl 8, 0))], [], σ) (some (.inl (.inl res.1)), res.2) := by
  unfold f_X8_ofHouses at h
  refine yG_n (n := 5) (C' := (8, [(0, .inr (.inl 8, 0))], [.inl (.inl 117), .inl (.inl 111), .inl (.inl 104), .inl (.inl 5), .inr (.inl 8, 0)], σ)) rfl ?_
  cases hr9 : f_X8_is N σ 5 104 111 117 with
  | none => rw [hr9] at h; dsimp only at h; cases h
  | some r1 =>
    rw [hr9] at h
    dsimp only at h
    refine yG_c (C1 := (11, [(0, .inr (.inl 8, 0))], [.inl (.inl r1.1)], r1.2)) rfl (e_X8_is hr9) rfl ?_
    cases hg10 : ycP .eq r1.1 0 with
    | true =>
      rw [hg10] at h
      dsimp only [cond] at h
      refine yG_t (C' := (28, [(0, .inr (.inl 8, 0))], [], r1.2)) rfl hg10 ?_
      exact t_X8_ofHouses_b28 r1.2 res h
    | false =>
      rw [hg10] at h
      dsimp only [cond] at h
      refine yG_f (C' := (14, [(0, .inr (.inl 8, 0))], [], r1.2)) rfl hg10 ?_
      refine yG_n (n := 4) (C' := (20, [(0, .inr (.inl 8, 0))], [.inl (.inl 0), .inl (.inl 101), .inl (.inl 115), .inr (.inl 8, 0)], r1.2)) rfl ?_
      cases hr11 : f_X8_ends N r1.2 115 101 0 with
      | none => rw [hr11] at h; dsimp only at h; cases h
      | some r6 =>
        rw [hr11] at h
        dsimp only at h
        refine yG_c (C1 := (23, [(0, .inr (.inl 8, 0))], [.inl (.inl r6.1)], r6.2)) rfl (e_X8_ends hr11) rfl ?_
        cases hg12 : ycP .eq r6.1 0 with
        | true =>
          rw [hg12] at h
          dsimp only [cond] at h
          refine yG_t (C' := (28, [(0, .inr (.inl 8, 0))], [], r6.2)) rfl hg12 ?_
          exact t_X8_ofHouses_b28 r6.2 res h
        | false =>
          rw [hg12] at h
          dsimp only [cond] at h
          refine yG_f (C' := (26, [(0, .inr (.inl 8, 0))], [], r6.2)) rfl hg12 ?_
          refine yG_n (n := 1) (C' := (27, [(0, .inr (.inl 8, 0))], [.inl (.inl 0)], r6.2)) rfl ?_
          have h := Option.some.inj h
          subst h
          dsimp only
          exact yG_r rfl rfl
set_option maxRecDepth 100000 in
set_option maxHeartbeats 4000000 in
theorem m_X8_ofHouses {N : Nat} {X : zXT} (hX : zXok X) (hN : zXn X) (l : Launch) {sh : List yH} : yMet X vwCl yct sh l yX8_ofHouses wsX8_ofHouses { frames := 3, cells := 0, slots := 0, locals := 109 } (F_X8_ofHouses N) :=
  ymeth (tb := tb_X8_ofHouses N) (pr := pr_X8_ofHouses) (rt := 1) (own := RX8) hX (by decide +kernel) rfl rfl ⟨Nat.le_of_ble_eq_true rfl, Nat.le_of_ble_eq_true rfl⟩
    (zfl_all (fun _ h => absurd h List.not_mem_nil))
    (zco_all (fun _ h => absurd h List.not_mem_nil)) (zlc_all (fun _ h => absurd h List.not_mem_nil))
    (List.forall_mem_cons.mpr ⟨ycal_V hX (m_X8_is hX hN l) rfl (fun s args hts => cwV 4 hts gX8_ofHouses_X8_is rfl rfl rfl (by decide +kernel) ⟨Nat.le_of_ble_eq_true rfl, Nat.le_of_ble_eq_true rfl⟩), List.forall_mem_cons.mpr ⟨ycal_V hX (m_X8_ends hX hN l) rfl (fun s args hts => cwV 3 hts gX8_ofHouses_X8_ends rfl rfl rfl (by decide +kernel) ⟨Nat.le_of_ble_eq_true rfl, Nat.le_of_ble_eq_true rfl⟩), fun _ h => absurd h List.not_mem_nil⟩⟩)
    (fun _ h => absurd h List.not_mem_nil)
    (zmm_all (fun _ h => absurd h List.not_mem_nil)) (fun _ h => absurd h List.not_mem_nil) (zpr_all hp_X8_ofHouses) (fun as σ res h => by
      unfold F_X8_ofHouses at h
      split at h
      · cases hr : f_X8_ofHouses N σ with
        | none => rw [hr] at h; cases h
        | some r =>
          rw [hr] at h
          cases h
          exact ⟨Nat.le_of_ble_eq_true rfl, t_X8_ofHouses σ r hr⟩
      · cases h)
noncomputable def pr_X8_lineNow : List (Nat × Instr × Nat) := [(0, .aload_n 0, 1), (1, .iconst 3, 1), (2, .bipush 114, 2), (4, .bipush 111, 2), (6, .bipush 119, 2), (8, .invokevirtual 113, 3), (11, .ifCond .eq 5, 3), (14, .iconst 3, 1), (15, .ireturn, 1), (16, .aload_n 0, 1), (17, .iconst 4, 1), (18, .bipush 114, 2), (20, .bipush 105, 2), (22, .bipush 110, 2), (24, .invokevirtual 113, 3), (27, .ifCond .eq 16, 3), (30, .aload_n 0, 1), (31, .bipush 103, 2), (33, .iconst 0, 1), (34, .iconst 0, 1), (35, .invokevirtual 117, 3), (38, .ifCond .eq 5, 3), (41, .iconst 4, 1), (42, .ireturn, 1), (43, .aload_n 0, 1), (44, .iconst 4, 1), (45, .bipush 100, 2), (47, .bipush 101, 2), (49, .bipush 101, 2), (51, .invokevirtual 113, 3), (54, .ifCond .eq 16, 3), (57, .aload_n 0, 1), (58, .bipush 100, 2), (60, .iconst 0, 1), (61, .iconst 0, 1), (62, .invokevirtual 117, 3), (65, .ifCond .eq 5, 3), (68, .iconst 5, 1), (69, .ireturn, 1), (70, .aload_n 0, 1), (71, .iconst 3, 1), (72, .bipush 118, 2), (74, .bipush 111, 2), (76, .bipush 119, 2), (78, .invokevirtual 113, 3), (81, .ifCond .eq 6, 3), (84, .bipush 6, 2), (86, .ireturn, 1), (87, .aload_n 0, 1), (88, .iconst 4, 1), (89, .bipush 119, 2), (91, .bipush 97, 2), (93, .bipush 110, 2), (95, .invokevirtual 113, 3), (98, .ifCond .eq 19, 3), (101, .aload_n 0, 1), (102, .bipush 116, 2), (104, .iconst 0, 1), (105, .iconst 0, 1), (106, .invokevirtual 117, 3), (109, .ifCond .eq 8, 3), (112, .bipush 7, 2), (114, .goto 7, 3), (117, .aload_n 0, 1), (118, .invokevirtual 121, 3), (121, .ireturn, 1)]
set_option maxRecDepth 100000 in
theorem hp_X8_lineNow : pr_X8_lineNow.all (fun x => decide (decode cX8_lineNow x.1 = .ok x.2)) = true := by decide +kernel
noncomputable def f_X8_lineNow_b121 (N : Nat) (σ : yS) (s0 : Int) : Option (Int × yS) :=
  some (s0, σ)
noncomputable def f_X8_lineNow_b117 (N : Nat) (σ : yS) : Option (Int × yS) :=
  match f_X8_ofHouses N σ with
  | none => none
  | some r6 => f_X8_lineNow_b121 N r6.2 r6.1
noncomputable def f_X8_lineNow_b70 (N : Nat) (σ : yS) : Option (Int × yS) :=
  match f_X8_is N σ 3 118 111 119 with
  | none => none
  | some r4 => bif ycP .eq r4.1 0 then
      match f_X8_is N r4.2 4 119 97 110 with
      | none => none
      | some r5 => bif ycP .eq r5.1 0 then
          f_X8_lineNow_b117 N r5.2
        else
          match f_X8_ends N r5.2 116 0 0 with
          | none => none
          | some r7 => bif ycP .eq r7.1 0 then
              f_X8_lineNow_b117 N r7.2
            else
              f_X8_lineNow_b121 N r7.2 7
    else
      some (6, r4.2)
noncomputable def f_X8_lineNow_b43 (N : Nat) (σ : yS) : Option (Int × yS) :=
  match f_X8_is N σ 4 100 101 101 with
  | none => none
  | some r3 => bif ycP .eq r3.1 0 then
      f_X8_lineNow_b70 N r3.2
    else
      match f_X8_ends N r3.2 100 0 0 with
      | none => none
      | some r8 => bif ycP .eq r8.1 0 then
          f_X8_lineNow_b70 N r8.2
        else
          some (5, r8.2)
noncomputable def f_X8_lineNow (N : Nat) (σ : yS) : Option (Int × yS) :=
  match f_X8_is N σ 3 114 111 119 with
  | none => none
  | some r1 => bif ycP .eq r1.1 0 then
      match f_X8_is N r1.2 4 114 105 110 with
      | none => none
      | some r2 => bif ycP .eq r2.1 0 then
          f_X8_lineNow_b43 N r2.2
        else
          match f_X8_ends N r2.2 103 0 0 with
          | none => none
          | some r9 => bif ycP .eq r9.1 0 then
              f_X8_lineNow_b43 N r9.2
            else
              some (4, r9.2)
    else
      some (3, r1.2)
noncomputable def F_X8_lineNow (N : Nat) : yF := fun as σ => match as with
  | [.inr (.inl 8, 0)] => (f_X8_lineNow N σ).map (fun r => (some (.inl (.inl r.1)), r.2))
  | _ => none
theorem e_X8_lineNow {N : Nat} {σ : yS} {r : Int × yS} (h : f_X8_lineNow N σ = some r) : F_X8_lineNow N [.inr (.inl 8, 0)] σ = some (some (.inl (.inl r.1)), r.2) := by
  show (f_X8_lineNow N σ).map (fun r => ((some (.inl (.inl r.1)), r.2) : yR)) = _
  rw [h]
  rfl
noncomputable def tb_X8_lineNow (N : Nat) : yTb := ([], [], [], [(113, 5, 8, F_X8_is N), (117, 4, 8, F_X8_ends N), (121, 1, 8, F_X8_ofHouses N)], [], [], [])
abbrev G_X8_lineNow (N : Nat) (X : zXT) (sh : List yH) (l : Launch) (rm : Room) : yC → yR → Prop := yGoes X vwCl yct sh l rm cX8_lineNow 1 wsX8_lineNow RX8 (tb_X8_lineNow N) pr_X8_lineNow 1
set_option maxRecDepth 100000 in
set_option maxHeartbeats 4000000 in
theorem t_X8_lineNow_b121 {N : Nat} {X : zXT} {sh : List yH} {l : Launch} {rm : Room} (σ : yS) (s0 : Int) (res : Int × yS) (h : f_X8_lineNow_b121 N σ s0 = some res) : G_X8_lineNow N X sh l rm (121, [], [.inl (.inl s0)], σ) (some (.inl (.inl res.1)), res.2) := by
  unfold f_X8_lineNow_b121 at h
  have h := Option.some.inj h
  subst h
  dsimp only
  exact yG_r rfl rfl
set_option maxRecDepth 100000 in
set_option maxHeartbeats 4000000 in
theorem t_X8_lineNow_b117 {N : Nat} {X : zXT} {sh : List yH} {l : Launch} {rm : Room} (σ : yS) (res : Int × yS) (h : f_X8_lineNow_b117 N σ = some res) : G_X8_lineNow N X sh l rm (117, [(0, .inr (.inl 8, 0))], [], σ) (some (.inl (.inl res.1)), res.2) := by
  unfold f_X8_lineNow_b117 at h
  refine yG_n (n := 1) (C' := (118, [(0, .inr (.inl 8, 0))], [.inr (.inl 8, 0)], σ)) rfl ?_
  cases hr1 : f_X8_ofHouses N σ with
  | none => rw [hr1] at h; dsimp only at h; cases h
  | some r6 =>
    rw [hr1] at h
    dsimp only at h
    refine yG_c (C1 := (121, [(0, .inr (.inl 8, 0))], [.inl (.inl r6.1)], r6.2)) rfl (e_X8_ofHouses hr1) rfl ?_
    exact yG_w [] rfl (t_X8_lineNow_b121 r6.2 r6.1 res h)
set_option maxRecDepth 100000 in
set_option maxHeartbeats 4000000 in
theorem t_X8_lineNow_b70 {N : Nat} {X : zXT} {sh : List yH} {l : Launch} {rm : Room} (σ : yS) (res : Int × yS) (h : f_X8_lineNow_b70 N σ = some res) : G_X8_lineNow N X sh l rm (70, [(0, .inr (.inl 8, 0))], [], σ) (some (.inl (.inl res.1)), res.2) := by
  unfold f_X8_lineNow_b70 at h
  refine yG_n (n := 5) (C' := (78, [(0, .inr (.inl 8, 0))], [.inl (.inl 119), .inl (.inl 111), .inl (.inl 118), .inl (.inl 3), .inr (.inl 8, 0)], σ)) rfl ?_
  cases hr2 : f_X8_is N σ 3 118 111 119 with
  | none => rw [hr2] at h; dsimp only at h; cases h
  | some r4 =>
    rw [hr2] at h
    dsimp only at h
    refine yG_c (C1 := (81, [(0, .inr (.inl 8, 0))], [.inl (.inl r4.1)], r4.2)) rfl (e_X8_is hr2) rfl ?_
    cases hg3 : ycP .eq r4.1 0 with
    | true =>
      rw [hg3] at h
      dsimp only [cond] at h
      refine yG_t (C' := (87, [(0, .inr (.inl 8, 0))], [], r4.2)) rfl hg3 ?_
      refine yG_n (n := 5) (C' := (95, [(0, .inr (.inl 8, 0))], [.inl (.inl 110), .inl (.inl 97), .inl (.inl 119), .inl (.inl 4), .inr (.inl 8, 0)], r4.2)) rfl ?_
      cases hr4 : f_X8_is N r4.2 4 119 97 110 with
      | none => rw [hr4] at h; dsimp only at h; cases h
      | some r5 =>
        rw [hr4] at h
        dsimp only at h
        refine yG_c (C1 := (98, [(0, .inr (.inl 8, 0))], [.inl (.inl r5.1)], r5.2)) rfl (e_X8_is hr4) rfl ?_
        cases hg5 : ycP .eq r5.1 0 with
        | true =>
          rw [hg5] at h
          dsimp only [cond] at h
          refine yG_t (C' := (117, [(0, .inr (.inl 8, 0))], [], r5.2)) rfl hg5 ?_
          exact t_X8_lineNow_b117 r5.2 res h
        | false =>
          rw [hg5] at h
          dsimp only [cond] at h
          refine yG_f (C' := (101, [(0, .inr (.inl 8, 0))], [], r5.2)) rfl hg5 ?_
          refine yG_n (n := 4) (C' := (106, [(0, .inr (.inl 8, 0))], [.inl (.inl 0), .inl (.inl 0), .inl (.inl 116), .inr (.inl 8, 0)], r5.2)) rfl ?_
          cases hr6 : f_X8_ends N r5.2 116 0 0 with
          | none => rw [hr6] at h; dsimp only at h; cases h
          | some r7 =>
            rw [hr6] at h
            dsimp only at h
            refine yG_c (C1 := (109, [(0, .inr (.inl 8, 0))], [.inl (.inl r7.1)], r7.2)) rfl (e_X8_ends hr6) rfl ?_
            cases hg7 : ycP .eq r7.1 0 with
            | true =>
              rw [hg7] at h
              dsimp only [cond] at h
              refine yG_t (C' := (117, [(0, .inr (.inl 8, 0))], [], r7.2)) rfl hg7 ?_
              exact t_X8_lineNow_b117 r7.2 res h
            | false =>
              rw [hg7] at h
              dsimp only [cond] at h
              refine yG_f (C' := (112, [(0, .inr (.inl 8, 0))], [], r7.2)) rfl hg7 ?_
              refine yG_n (n := 2) (C' := (121, [(0, .inr (.inl 8, 0))], [.inl (.inl 7)], r7.2)) rfl ?_
              exact yG_w [] rfl (t_X8_lineNow_b121 r7.2 7 res h)
    | false =>
      rw [hg3] at h
      dsimp only [cond] at h
      refine yG_f (C' := (84, [(0, .inr (.inl 8, 0))], [], r4.2)) rfl hg3 ?_
      refine yG_n (n := 1) (C' := (86, [(0, .inr (.inl 8, 0))], [.inl (.inl 6)], r4.2)) rfl ?_
      have h := Option.some.inj h
      subst h
      dsimp only
      exact yG_r rfl rfl
set_option maxRecDepth 100000 in
set_option maxHeartbeats 4000000 in
theorem t_X8_lineNow_b43 {N : Nat} {X : zXT} {sh : List yH} {l : Launch} {rm : Room} (σ : yS) (res : Int × yS) (h : f_X8_lineNow_b43 N σ = some res) : G_X8_lineNow N X sh l rm (43, [(0, .inr (.inl 8, 0))], [], σ) (some (.inl (.inl res.1)), res.2) := by
  unfold f_X8_lineNow_b43 at h
  refine yG_n (n := 5) (C' := (51, [(0, .inr (.inl 8, 0))], [.inl (.inl 101), .inl (.inl 101), .inl (.inl 100), .inl (.inl 4), .inr (.inl 8, 0)], σ)) rfl ?_
  cases hr8 : f_X8_is N σ 4 100 101 101 with
  | none => rw [hr8] at h; dsimp only at h; cases h
  | some r3 =>
    rw [hr8] at h
    dsimp only at h
    refine yG_c (C1 := (54, [(0, .inr (.inl 8, 0))], [.inl (.inl r3.1)], r3.2)) rfl (e_X8_is hr8) rfl ?_
    cases hg9 : ycP .eq r3.1 0 with
    | true =>
      rw [hg9] at h
      dsimp only [cond] at h
      refine yG_t (C' := (70, [(0, .inr (.inl 8, 0))], [], r3.2)) rfl hg9 ?_
      exact t_X8_lineNow_b70 r3.2 res h
    | false =>
      rw [hg9] at h
      dsimp only [cond] at h
      refine yG_f (C' := (57, [(0, .inr (.inl 8, 0))], [], r3.2)) rfl hg9 ?_
      refine yG_n (n := 4) (C' := (62, [(0, .inr (.inl 8, 0))], [.inl (.inl 0), .inl (.inl 0), .inl (.inl 100), .inr (.inl 8, 0)], r3.2)) rfl ?_
      cases hr10 : f_X8_ends N r3.2 100 0 0 with
      | none => rw [hr10] at h; dsimp only at h; cases h
      | some r8 =>
        rw [hr10] at h
        dsimp only at h
        refine yG_c (C1 := (65, [(0, .inr (.inl 8, 0))], [.inl (.inl r8.1)], r8.2)) rfl (e_X8_ends hr10) rfl ?_
        cases hg11 : ycP .eq r8.1 0 with
        | true =>
          rw [hg11] at h
          dsimp only [cond] at h
          refine yG_t (C' := (70, [(0, .inr (.inl 8, 0))], [], r8.2)) rfl hg11 ?_
          exact t_X8_lineNow_b70 r8.2 res h
        | false =>
          rw [hg11] at h
          dsimp only [cond] at h
          refine yG_f (C' := (68, [(0, .inr (.inl 8, 0))], [], r8.2)) rfl hg11 ?_
          refine yG_n (n := 1) (C' := (69, [(0, .inr (.inl 8, 0))], [.inl (.inl 5)], r8.2)) rfl ?_
          have h := Option.some.inj h
          subst h
          dsimp only
          exact yG_r rfl rfl
set_option maxRecDepth 100000 in
set_option maxHeartbeats 4000000 in
theorem t_X8_lineNow {N : Nat} {X : zXT} {sh : List yH} {l : Launch} {rm : Room} (σ : yS) (res : Int × yS) (h : f_X8_lineNow N σ = some res) : G_X8_lineNow N X sh l rm (0, [(0, .inr (.inl 8, 0))], [], σ) (some (.inl (.inl res.1)), res.2) := by
  unfold f_X8_lineNow at h
  refine yG_n (n := 5) (C' := (8, [(0, .inr (.inl 8, 0))], [.inl (.inl 119), .inl (.inl 111), .inl (.inl 114), .inl (.inl 3), .inr (.inl 8, 0)], σ)) rfl ?_
  cases hr12 : f_X8_is N σ 3 114 111 119 with
  | none => rw [hr12] at h; dsimp only at h; cases h
  | some r1 =>
    rw [hr12] at h
    dsimp only at h
    refine yG_c (C1 := (11, [(0, .inr (.inl 8, 0))], [.inl (.inl r1.1)], r1.2)) rfl (e_X8_is hr12) rfl ?_
    cases hg13 : ycP .eq r1.1 0 with
    | true =>
      rw [hg13] at h
      dsimp only [cond] at h
      refine yG_t (C' := (16, [(0, .inr (.inl 8, 0))], [], r1.2)) rfl hg13 ?_
      refine yG_n (n := 5) (C' := (24, [(0, .inr (.inl 8, 0))], [.inl (.inl 110), .inl (.inl 105), .inl (.inl 114), .inl (.inl 4), .inr (.inl 8, 0)], r1.2)) rfl ?_
      cases hr14 : f_X8_is N r1.2 4 114 105 110 with
      | none => rw [hr14] at h; dsimp only at h; cases h
      | some r2 =>
        rw [hr14] at h
        dsimp only at h
        refine yG_c (C1 := (27, [(0, .inr (.inl 8, 0))], [.inl (.inl r2.1)], r2.2)) rfl (e_X8_is hr14) rfl ?_
        cases hg15 : ycP .eq r2.1 0 with
        | true =>
          rw [hg15] at h
          dsimp only [cond] at h
          refine yG_t (C' := (43, [(0, .inr (.inl 8, 0))], [], r2.2)) rfl hg15 ?_
          exact t_X8_lineNow_b43 r2.2 res h
        | false =>
          rw [hg15] at h
          dsimp only [cond] at h
          refine yG_f (C' := (30, [(0, .inr (.inl 8, 0))], [], r2.2)) rfl hg15 ?_
          refine yG_n (n := 4) (C' := (35, [(0, .inr (.inl 8, 0))], [.inl (.inl 0), .inl (.inl 0), .inl (.inl 103), .inr (.inl 8, 0)], r2.2)) rfl ?_
          cases hr16 : f_X8_ends N r2.2 103 0 0 with
          | none => rw [hr16] at h; dsimp only at h; cases h
          | some r9 =>
            rw [hr16] at h
            dsimp only at h
            refine yG_c (C1 := (38, [(0, .inr (.inl 8, 0))], [.inl (.inl r9.1)], r9.2)) rfl (e_X8_ends hr16) rfl ?_
            cases hg17 : ycP .eq r9.1 0 with
            | true =>
              rw [hg17] at h
              dsimp only [cond] at h
              refine yG_t (C' := (43, [(0, .inr (.inl 8, 0))], [], r9.2)) rfl hg17 ?_
              exact t_X8_lineNow_b43 r9.2 res h
            | false =>
              rw [hg17] at h
              dsimp only [cond] at h
              refine yG_f (C' := (41, [(0, .inr (.inl 8, 0))], [], r9.2)) rfl hg17 ?_
              refine yG_n (n := 1) (C' := (42, [(0, .inr (.inl 8, 0))], [.inl (.inl 4)], r9.2)) rfl ?_
              have h := Option.some.inj h
              subst h
              dsimp only
              exact yG_r rfl rfl
    | false =>
      rw [hg13] at h
      dsimp only [cond] at h
      refine yG_f (C' := (14, [(0, .inr (.inl 8, 0))], [], r1.2)) rfl hg13 ?_
      refine yG_n (n := 1) (C' := (15, [(0, .inr (.inl 8, 0))], [.inl (.inl 3)], r1.2)) rfl ?_
      have h := Option.some.inj h
      subst h
      dsimp only
      exact yG_r rfl rfl
set_option maxRecDepth 100000 in
set_option maxHeartbeats 4000000 in
theorem m_X8_lineNow {N : Nat} {X : zXT} (hX : zXok X) (hN : zXn X) (l : Launch) {sh : List yH} : yMet X vwCl yct sh l yX8_lineNow wsX8_lineNow { frames := 4, cells := 0, slots := 0, locals := 129 } (F_X8_lineNow N) :=
  ymeth (tb := tb_X8_lineNow N) (pr := pr_X8_lineNow) (rt := 1) (own := RX8) hX (by decide +kernel) rfl rfl ⟨Nat.le_of_ble_eq_true rfl, Nat.le_of_ble_eq_true rfl⟩
    (zfl_all (fun _ h => absurd h List.not_mem_nil))
    (zco_all (fun _ h => absurd h List.not_mem_nil)) (zlc_all (fun _ h => absurd h List.not_mem_nil))
    (List.forall_mem_cons.mpr ⟨ycal_V hX (m_X8_is hX hN l) rfl (fun s args hts => cwV 4 hts gX8_lineNow_X8_is rfl rfl rfl (by decide +kernel) ⟨Nat.le_of_ble_eq_true rfl, Nat.le_of_ble_eq_true rfl⟩), List.forall_mem_cons.mpr ⟨ycal_V hX (m_X8_ends hX hN l) rfl (fun s args hts => cwV 3 hts gX8_lineNow_X8_ends rfl rfl rfl (by decide +kernel) ⟨Nat.le_of_ble_eq_true rfl, Nat.le_of_ble_eq_true rfl⟩), List.forall_mem_cons.mpr ⟨ycal_V hX (m_X8_ofHouses hX hN l) rfl (fun s args hts => cwV 0 hts gX8_lineNow_X8_ofHouses rfl rfl rfl (by decide +kernel) ⟨Nat.le_of_ble_eq_true rfl, Nat.le_of_ble_eq_true rfl⟩), fun _ h => absurd h List.not_mem_nil⟩⟩⟩)
    (fun _ h => absurd h List.not_mem_nil)
    (zmm_all (fun _ h => absurd h List.not_mem_nil)) (fun _ h => absurd h List.not_mem_nil) (zpr_all hp_X8_lineNow) (fun as σ res h => by
      unfold F_X8_lineNow at h
      split at h
      · cases hr : f_X8_lineNow N σ with
        | none => rw [hr] at h; cases h
        | some r =>
          rw [hr] at h
          cases h
          exact ⟨Nat.le_of_ble_eq_true rfl, t_X8_lineNow σ r hr⟩
      · cases h)
noncomputable def pr_X8_needs : List (Nat × Instr × Nat) := [(0, .iload_n 1, 1), (1, .ifCond .ne 23, 3), (4, .aload_n 0, 1), (5, .getfield 97, 3), (8, .ifCond .ne 16, 3), (11, .aload_n 0, 1), (12, .iload_n 2, 1), (13, .putfield 97, 3), (16, .aload_n 0, 1), (17, .aload_n 0, 1), (18, .getfield 100, 3), (21, .putfield 103, 3), (24, .return_, 1)]
set_option maxRecDepth 100000 in
theorem hp_X8_needs : pr_X8_needs.all (fun x => decide (decode cX8_needs x.1 = .ok x.2)) = true := by decide +kernel
noncomputable def f_X8_needs_b24 (N : Nat) (σ : yS) : Option (Int × yS) :=
  some (0, σ)
noncomputable def f_X8_needs_b18 (N : Nat) (σ : yS) : Option (Int × yS) :=
  f_X8_needs_b24 N (yw σ 0 23 (σ.1 0 19))
noncomputable def f_X8_needs (N : Nat) (σ : yS) (x1 : Int) (x2 : Int) : Option (Int × yS) :=
  bif ycP .ne x1 0 then
    f_X8_needs_b24 N σ
  else
    bif ycP .ne (σ.1 0 22) 0 then
      f_X8_needs_b24 N σ
    else
      f_X8_needs_b18 N (yw σ 0 22 x2)
noncomputable def F_X8_needs (N : Nat) : yF := fun as σ => match as with
  | [.inr (.inl 8, 0), .inl (.inl x1), .inl (.inl x2)] => (f_X8_needs N σ x1 x2).map (fun r => (none, r.2))
  | _ => none
theorem e_X8_needs {N : Nat} {σ : yS} {x1 : Int} {x2 : Int} {r : Int × yS} (h : f_X8_needs N σ x1 x2 = some r) : F_X8_needs N [.inr (.inl 8, 0), .inl (.inl x1), .inl (.inl x2)] σ = some (none, r.2) := by
  show (f_X8_needs N σ x1 x2).map (fun r => ((none, r.2) : yR)) = _
  rw [h]
  rfl
noncomputable def tb_X8_needs (N : Nat) : yTb := ([(97, 8, 22, 0), (100, 8, 19, 0), (103, 8, 23, 0)], [], [], [], [], [], [])
abbrev G_X8_needs (N : Nat) (X : zXT) (sh : List yH) (l : Launch) (rm : Room) : yC → yR → Prop := yGoes X vwCl yct sh l rm cX8_needs 3 wsX8_needs RX8 (tb_X8_needs N) pr_X8_needs 0
set_option maxRecDepth 100000 in
set_option maxHeartbeats 4000000 in
theorem t_X8_needs_b24 {N : Nat} {X : zXT} {sh : List yH} {l : Launch} {rm : Room} (σ : yS) (res : Int × yS) (h : f_X8_needs_b24 N σ = some res) : G_X8_needs N X sh l rm (24, [], [], σ) (none, res.2) := by
  unfold f_X8_needs_b24 at h
  have h := Option.some.inj h
  subst h
  dsimp only
  exact yG_r rfl rfl
set_option maxRecDepth 100000 in
set_option maxHeartbeats 4000000 in
theorem t_X8_needs_b18 {N : Nat} {X : zXT} {sh : List yH} {l : Launch} {rm : Room} (σ : yS) (res : Int × yS) (h : f_X8_needs_b18 N σ = some res) : G_X8_needs N X sh l rm (18, [], [.inr (.inl 8, 0), .inr (.inl 8, 0)], σ) (none, res.2) := by
  unfold f_X8_needs_b18 at h
  refine yG_n (n := 2) (C' := (24, [], [], yw σ 0 23 (σ.1 0 19))) rfl ?_
  exact t_X8_needs_b24 (yw σ 0 23 (σ.1 0 19)) res h
set_option maxRecDepth 100000 in
set_option maxHeartbeats 4000000 in
theorem t_X8_needs {N : Nat} {X : zXT} {sh : List yH} {l : Launch} {rm : Room} (σ : yS) (x1 : Int) (x2 : Int) (res : Int × yS) (h : f_X8_needs N σ x1 x2 = some res) : G_X8_needs N X sh l rm (0, [(0, .inr (.inl 8, 0)), (1, .inl (.inl x1)), (2, .inl (.inl x2))], [], σ) (none, res.2) := by
  unfold f_X8_needs at h
  refine yG_n (n := 1) (C' := (1, [(0, .inr (.inl 8, 0)), (1, .inl (.inl x1)), (2, .inl (.inl x2))], [.inl (.inl x1)], σ)) rfl ?_
  cases hg1 : ycP .ne x1 0 with
  | true =>
    rw [hg1] at h
    dsimp only [cond] at h
    refine yG_t (C' := (24, [(0, .inr (.inl 8, 0)), (1, .inl (.inl x1)), (2, .inl (.inl x2))], [], σ)) rfl hg1 ?_
    exact yG_w [] rfl (t_X8_needs_b24 σ res h)
  | false =>
    rw [hg1] at h
    dsimp only [cond] at h
    refine yG_f (C' := (4, [(0, .inr (.inl 8, 0)), (1, .inl (.inl x1)), (2, .inl (.inl x2))], [], σ)) rfl hg1 ?_
    refine yG_n (n := 2) (C' := (8, [(0, .inr (.inl 8, 0)), (1, .inl (.inl x1)), (2, .inl (.inl x2))], [.inl (.inl (σ.1 0 22))], σ)) rfl ?_
    cases hg2 : ycP .ne (σ.1 0 22) 0 with
    | true =>
      rw [hg2] at h
      dsimp only [cond] at h
      refine yG_t (C' := (24, [(0, .inr (.inl 8, 0)), (1, .inl (.inl x1)), (2, .inl (.inl x2))], [], σ)) rfl hg2 ?_
      exact yG_w [] rfl (t_X8_needs_b24 σ res h)
    | false =>
      rw [hg2] at h
      dsimp only [cond] at h
      refine yG_f (C' := (11, [(0, .inr (.inl 8, 0)), (1, .inl (.inl x1)), (2, .inl (.inl x2))], [], σ)) rfl hg2 ?_
      refine yG_n (n := 5) (C' := (18, [(0, .inr (.inl 8, 0)), (1, .inl (.inl x1)), (2, .inl (.inl x2))], [.inr (.inl 8, 0), .inr (.inl 8, 0)], yw σ 0 22 x2)) rfl ?_
      exact yG_w [] rfl (t_X8_needs_b18 (yw σ 0 22 x2) res h)
set_option maxRecDepth 100000 in
set_option maxHeartbeats 4000000 in
theorem m_X8_needs {N : Nat} {X : zXT} (hX : zXok X) (hN : zXn X) (l : Launch) {sh : List yH} : yMet X vwCl yct sh l yX8_needs wsX8_needs { frames := 1, cells := 0, slots := 0, locals := 64 } (F_X8_needs N) :=
  ymeth (tb := tb_X8_needs N) (pr := pr_X8_needs) (rt := 0) (own := RX8) hX (by decide +kernel) rfl rfl ⟨Nat.le_of_ble_eq_true rfl, Nat.le_of_ble_eq_true rfl⟩
    (zfl_all (List.forall_mem_cons.mpr ⟨zfl_X8 (fun w h => List.mem_cons_of_mem _ (List.mem_append_right _ h)) (List.mem_of_getElem? (i := 1) rfl) (by decide) (by decide), List.forall_mem_cons.mpr ⟨zfl_X8 (fun w h => List.mem_cons_of_mem _ (List.mem_append_right _ h)) (List.mem_of_getElem? (i := 2) rfl) (by decide) (by decide), List.forall_mem_cons.mpr ⟨zfl_X8 (fun w h => List.mem_cons_of_mem _ (List.mem_append_right _ h)) (List.mem_of_getElem? (i := 3) rfl) (by decide) (by decide), fun _ h => absurd h List.not_mem_nil⟩⟩⟩))
    (zco_all (fun _ h => absurd h List.not_mem_nil)) (zlc_all (fun _ h => absurd h List.not_mem_nil))
    (fun _ h => absurd h List.not_mem_nil)
    (fun _ h => absurd h List.not_mem_nil)
    (zmm_all (fun _ h => absurd h List.not_mem_nil)) (fun _ h => absurd h List.not_mem_nil) (zpr_all hp_X8_needs) (fun as σ res h => by
      unfold F_X8_needs at h
      split at h
      · rename_i x1 x2
        cases hr : f_X8_needs N σ x1 x2 with
        | none => rw [hr] at h; cases h
        | some r =>
          rw [hr] at h
          cases h
          exact ⟨Nat.le_of_ble_eq_true rfl, t_X8_needs σ x1 x2 r hr⟩
      · cases h)
noncomputable def pr_X8_looked : List (Nat × Instr × Nat) := [(0, .aload_n 0, 1), (1, .getfield 97, 3), (4, .ifCond .ne 21, 3), (7, .aload_n 0, 1), (8, .aload_n 0, 1), (9, .getfield 125, 3), (12, .iconst 2, 1), (13, .if_icmp .ne 7, 3), (16, .iconst 1, 1), (17, .goto 4, 3), (20, .iconst 0, 1), (21, .iconst 2, 1), (22, .invokevirtual 139, 3), (25, .aload_n 0, 1), (26, .getfield 97, 3), (29, .ifCond .ne 20, 3), (32, .aload_n 0, 1), (33, .aload_n 0, 1), (34, .getfield 136, 3), (37, .i2l, 1), (38, .iload_n 1, 1), (39, .i2l, 1), (40, .iload_n 2, 1), (41, .i2l, 1), (42, .invokestatic 90, 3), (45, .iconst 3, 1), (46, .invokevirtual 139, 3), (49, .aload_n 0, 1), (50, .getfield 97, 3), (53, .ifCond .ne 10, 3), (56, .aload_n 0, 1), (57, .getfield 136, 3), (60, .goto 4, 3), (63, .iconst 0, 1), (64, .ireturn, 1)]
set_option maxRecDepth 100000 in
theorem hp_X8_looked : pr_X8_looked.all (fun x => decide (decode cX8_looked x.1 = .ok x.2)) = true := by decide +kernel
noncomputable def f_X8_looked_b64 (N : Nat) (σ : yS) (s0 : Int) : Option (Int × yS) :=
  some (s0, σ)
noncomputable def f_X8_looked_b49 (N : Nat) (σ : yS) : Option (Int × yS) :=
  bif ycP .ne (σ.1 0 22) 0 then
    f_X8_looked_b64 N σ 0
  else
    f_X8_looked_b64 N σ (σ.1 0 21)
noncomputable def f_X8_looked_b25 (N : Nat) (σ : yS) (x1 : Int) (x2 : Int) : Option (Int × yS) :=
  bif ycP .ne (σ.1 0 22) 0 then
    f_X8_looked_b49 N σ
  else
    match f_X8_in N σ (σ.1 0 21) x1 x2 with
    | none => none
    | some r1 => match f_X8_needs N r1.2 r1.1 3 with
      | none => none
      | some r2 => f_X8_looked_b49 N r2.2
noncomputable def f_X8_looked_b21 (N : Nat) (σ : yS) (x1 : Int) (x2 : Int) (s0 : Int) : Option (Int × yS) :=
  match f_X8_needs N σ s0 2 with
  | none => none
  | some r3 => f_X8_looked_b25 N r3.2 x1 x2
noncomputable def f_X8_looked (N : Nat) (σ : yS) (x1 : Int) (x2 : Int) : Option (Int × yS) :=
  bif ycP .ne (σ.1 0 22) 0 then
    f_X8_looked_b25 N σ x1 x2
  else
    bif ycP .ne (σ.1 0 20) 2 then
      f_X8_looked_b21 N σ x1 x2 0
    else
      f_X8_looked_b21 N σ x1 x2 1
noncomputable def F_X8_looked (N : Nat) : yF := fun as σ => match as with
  | [.inr (.inl 8, 0), .inl (.inl x1), .inl (.inl x2)] => (f_X8_looked N σ x1 x2).map (fun r => (some (.inl (.inl r.1)), r.2))
  | _ => none
theorem e_X8_looked {N : Nat} {σ : yS} {x1 : Int} {x2 : Int} {r : Int × yS} (h : f_X8_looked N σ x1 x2 = some r) : F_X8_looked N [.inr (.inl 8, 0), .inl (.inl x1), .inl (.inl x2)] σ = some (some (.inl (.inl r.1)), r.2) := by
  show (f_X8_looked N σ x1 x2).map (fun r => ((some (.inl (.inl r.1)), r.2) : yR)) = _
  rw [h]
  rfl
noncomputable def tb_X8_looked (N : Nat) : yTb := ([(97, 8, 22, 0), (125, 8, 20, 0), (136, 8, 21, 0)], [], [], [(139, 3, 8, F_X8_needs N)], [(90, 3, F_X8_in N)], [], [])
abbrev G_X8_looked (N : Nat) (X : zXT) (sh : List yH) (l : Launch) (rm : Room) : yC → yR → Prop := yGoes X vwCl yct sh l rm cX8_looked 3 wsX8_looked RX8 (tb_X8_looked N) pr_X8_looked 1
set_option maxRecDepth 100000 in
set_option maxHeartbeats 4000000 in
theorem t_X8_looked_b64 {N : Nat} {X : zXT} {sh : List yH} {l : Launch} {rm : Room} (σ : yS) (s0 : Int) (res : Int × yS) (h : f_X8_looked_b64 N σ s0 = some res) : G_X8_looked N X sh l rm (64, [], [.inl (.inl s0)], σ) (some (.inl (.inl res.1)), res.2) := by
  unfold f_X8_looked_b64 at h
  have h := Option.some.inj h
  subst h
  dsimp only
  exact yG_r rfl rfl
set_option maxRecDepth 100000 in
set_option maxHeartbeats 4000000 in
theorem t_X8_looked_b49 {N : Nat} {X : zXT} {sh : List yH} {l : Launch} {rm : Room} (σ : yS) (res : Int × yS) (h : f_X8_looked_b49 N σ = some res) : G_X8_looked N X sh l rm (49, [(0, .inr (.inl 8, 0))], [], σ) (some (.inl (.inl res.1)), res.2) := by
  unfold f_X8_looked_b49 at h
  refine yG_n (n := 2) (C' := (53, [(0, .inr (.inl 8, 0))], [.inl (.inl (σ.1 0 22))], σ)) rfl ?_
  cases hg1 : ycP .ne (σ.1 0 22) 0 with
  | true =>
    rw [hg1] at h
    dsimp only [cond] at h
    refine yG_t (C' := (63, [(0, .inr (.inl 8, 0))], [], σ)) rfl hg1 ?_
    refine yG_n (n := 1) (C' := (64, [(0, .inr (.inl 8, 0))], [.inl (.inl 0)], σ)) rfl ?_
    exact yG_w [] rfl (t_X8_looked_b64 σ 0 res h)
  | false =>
    rw [hg1] at h
    dsimp only [cond] at h
    refine yG_f (C' := (56, [(0, .inr (.inl 8, 0))], [], σ)) rfl hg1 ?_
    refine yG_n (n := 3) (C' := (64, [(0, .inr (.inl 8, 0))], [.inl (.inl (σ.1 0 21))], σ)) rfl ?_
    exact yG_w [] rfl (t_X8_looked_b64 σ (σ.1 0 21) res h)
set_option maxRecDepth 100000 in
set_option maxHeartbeats 4000000 in
theorem t_X8_looked_b25 {N : Nat} {X : zXT} {sh : List yH} {l : Launch} {rm : Room} (σ : yS) (x1 : Int) (x2 : Int) (res : Int × yS) (h : f_X8_looked_b25 N σ x1 x2 = some res) : G_X8_looked N X sh l rm (25, [(0, .inr (.inl 8, 0)), (1, .inl (.inl x1)), (2, .inl (.inl x2))], [], σ) (some (.inl (.inl res.1)), res.2) := by
  unfold f_X8_looked_b25 at h
  refine yG_n (n := 2) (C' := (29, [(0, .inr (.inl 8, 0)), (1, .inl (.inl x1)), (2, .inl (.inl x2))], [.inl (.inl (σ.1 0 22))], σ)) rfl ?_
  cases hg2 : ycP .ne (σ.1 0 22) 0 with
  | true =>
    rw [hg2] at h
    dsimp only [cond] at h
    refine yG_t (C' := (49, [(0, .inr (.inl 8, 0)), (1, .inl (.inl x1)), (2, .inl (.inl x2))], [], σ)) rfl hg2 ?_
    exact yG_w [0] rfl (t_X8_looked_b49 σ res h)
  | false =>
    rw [hg2] at h
    dsimp only [cond] at h
    refine yG_f (C' := (32, [(0, .inr (.inl 8, 0)), (1, .inl (.inl x1)), (2, .inl (.inl x2))], [], σ)) rfl hg2 ?_
    refine yG_n (n := 8) (C' := (42, [(0, .inr (.inl 8, 0)), (1, .inl (.inl x1)), (2, .inl (.inl x2))], [.inl (.inr x2), .inl (.inr x1), .inl (.inr (σ.1 0 21)), .inr (.inl 8, 0)], σ)) rfl ?_
    cases hr3 : f_X8_in N σ (σ.1 0 21) x1 x2 with
    | none => rw [hr3] at h; dsimp only at h; cases h
    | some r1 =>
      rw [hr3] at h
      dsimp only at h
      refine yG_c (C1 := (45, [(0, .inr (.inl 8, 0)), (1, .inl (.inl x1)), (2, .inl (.inl x2))], [.inl (.inl r1.1), .inr (.inl 8, 0)], r1.2)) rfl (e_X8_in hr3) rfl ?_
      refine yG_n (n := 1) (C' := (46, [(0, .inr (.inl 8, 0)), (1, .inl (.inl x1)), (2, .inl (.inl x2))], [.inl (.inl 3), .inl (.inl r1.1), .inr (.inl 8, 0)], r1.2)) rfl ?_
      cases hr4 : f_X8_needs N r1.2 r1.1 3 with
      | none => rw [hr4] at h; dsimp only at h; cases h
      | some r2 =>
        rw [hr4] at h
        dsimp only at h
        refine yG_c (C1 := (49, [(0, .inr (.inl 8, 0)), (1, .inl (.inl x1)), (2, .inl (.inl x2))], [], r2.2)) rfl (e_X8_needs hr4) rfl ?_
        exact yG_w [0] rfl (t_X8_looked_b49 r2.2 res h)
set_option maxRecDepth 100000 in
set_option maxHeartbeats 4000000 in
theorem t_X8_looked_b21 {N : Nat} {X : zXT} {sh : List yH} {l : Launch} {rm : Room} (σ : yS) (x1 : Int) (x2 : Int) (s0 : Int) (res : Int × yS) (h : f_X8_looked_b21 N σ x1 x2 s0 = some res) : G_X8_looked N X sh l rm (21, [(0, .inr (.inl 8, 0)), (1, .inl (.inl x1)), (2, .inl (.inl x2))], [.inl (.inl s0), .inr (.inl 8, 0)], σ) (some (.inl (.inl res.1)), res.2) := by
  unfold f_X8_looked_b21 at h
  refine yG_n (n := 1) (C' := (22, [(0, .inr (.inl 8, 0)), (1, .inl (.inl x1)), (2, .inl (.inl x2))], [.inl (.inl 2), .inl (.inl s0), .inr (.inl 8, 0)], σ)) rfl ?_
  cases hr5 : f_X8_needs N σ s0 2 with
  | none => rw [hr5] at h; dsimp only at h; cases h
  | some r3 =>
    rw [hr5] at h
    dsimp only at h
    refine yG_c (C1 := (25, [(0, .inr (.inl 8, 0)), (1, .inl (.inl x1)), (2, .inl (.inl x2))], [], r3.2)) rfl (e_X8_needs hr5) rfl ?_
    exact t_X8_looked_b25 r3.2 x1 x2 res h
set_option maxRecDepth 100000 in
set_option maxHeartbeats 4000000 in
theorem t_X8_looked {N : Nat} {X : zXT} {sh : List yH} {l : Launch} {rm : Room} (σ : yS) (x1 : Int) (x2 : Int) (res : Int × yS) (h : f_X8_looked N σ x1 x2 = some res) : G_X8_looked N X sh l rm (0, [(0, .inr (.inl 8, 0)), (1, .inl (.inl x1)), (2, .inl (.inl x2))], [], σ) (some (.inl (.inl res.1)), res.2) := by
  unfold f_X8_looked at h
  refine yG_n (n := 2) (C' := (4, [(0, .inr (.inl 8, 0)), (1, .inl (.inl x1)), (2, .inl (.inl x2))], [.inl (.inl (σ.1 0 22))], σ)) rfl ?_
  cases hg6 : ycP .ne (σ.1 0 22) 0 with
  | true =>
    rw [hg6] at h
    dsimp only [cond] at h
    refine yG_t (C' := (25, [(0, .inr (.inl 8, 0)), (1, .inl (.inl x1)), (2, .inl (.inl x2))], [], σ)) rfl hg6 ?_
    exact t_X8_looked_b25 σ x1 x2 res h
  | false =>
    rw [hg6] at h
    dsimp only [cond] at h
    refine yG_f (C' := (7, [(0, .inr (.inl 8, 0)), (1, .inl (.inl x1)), (2, .inl (.inl x2))], [], σ)) rfl hg6 ?_
    refine yG_n (n := 4) (C' := (13, [(0, .inr (.inl 8, 0)), (1, .inl (.inl x1)), (2, .inl (.inl x2))], [.inl (.inl 2), .inl (.inl (σ.1 0 20)), .inr (.inl 8, 0)], σ)) rfl ?_
    cases hg7 : ycP .ne (σ.1 0 20) 2 with
    | true =>
      rw [hg7] at h
      dsimp only [cond] at h
      refine yG_t (C' := (20, [(0, .inr (.inl 8, 0)), (1, .inl (.inl x1)), (2, .inl (.inl x2))], [.inr (.inl 8, 0)], σ)) rfl hg7 ?_
      refine yG_n (n := 1) (C' := (21, [(0, .inr (.inl 8, 0)), (1, .inl (.inl x1)), (2, .inl (.inl x2))], [.inl (.inl 0), .inr (.inl 8, 0)], σ)) rfl ?_
      exact t_X8_looked_b21 σ x1 x2 0 res h
    | false =>
      rw [hg7] at h
      dsimp only [cond] at h
      refine yG_f (C' := (16, [(0, .inr (.inl 8, 0)), (1, .inl (.inl x1)), (2, .inl (.inl x2))], [.inr (.inl 8, 0)], σ)) rfl hg7 ?_
      refine yG_n (n := 2) (C' := (21, [(0, .inr (.inl 8, 0)), (1, .inl (.inl x1)), (2, .inl (.inl x2))], [.inl (.inl 1), .inr (.inl 8, 0)], σ)) rfl ?_
      exact t_X8_looked_b21 σ x1 x2 1 res h
set_option maxRecDepth 100000 in
set_option maxHeartbeats 4000000 in
theorem m_X8_looked {N : Nat} {X : zXT} (hX : zXok X) (hN : zXn X) (l : Launch) {sh : List yH} : yMet X vwCl yct sh l yX8_looked wsX8_looked { frames := 2, cells := 0, slots := 0, locals := 89 } (F_X8_looked N) :=
  ymeth (tb := tb_X8_looked N) (pr := pr_X8_looked) (rt := 1) (own := RX8) hX (by decide +kernel) rfl rfl ⟨Nat.le_of_ble_eq_true rfl, Nat.le_of_ble_eq_true rfl⟩
    (zfl_all (List.forall_mem_cons.mpr ⟨zfl_X8 (fun w h => List.mem_cons_of_mem _ (List.mem_append_right _ h)) (List.mem_of_getElem? (i := 1) rfl) (by decide) (by decide), List.forall_mem_cons.mpr ⟨zfl_X8 (fun w h => List.mem_cons_of_mem _ (List.mem_append_right _ h)) (List.mem_of_getElem? (i := 2) rfl) (by decide) (by decide), List.forall_mem_cons.mpr ⟨zfl_X8 (fun w h => List.mem_cons_of_mem _ (List.mem_append_right _ h)) (List.mem_of_getElem? (i := 3) rfl) (by decide) (by decide), fun _ h => absurd h List.not_mem_nil⟩⟩⟩))
    (zco_all (fun _ h => absurd h List.not_mem_nil)) (zlc_all (fun _ h => absurd h List.not_mem_nil))
    (List.forall_mem_cons.mpr ⟨ycal_V hX (m_X8_needs hX hN l) rfl (fun s args hts => cwV 2 hts gX8_looked_X8_needs rfl rfl rfl (by decide +kernel) ⟨Nat.le_of_ble_eq_true rfl, Nat.le_of_ble_eq_true rfl⟩), fun _ h => absurd h List.not_mem_nil⟩)
    (List.forall_mem_cons.mpr ⟨ycal_S hX (m_X8_in hX hN l) (fun s args hts => va_cwS 3 hts gX8_looked_X8_in rfl rfl rfl (by decide +kernel) ⟨Nat.le_of_ble_eq_true rfl, Nat.le_of_ble_eq_true rfl⟩), fun _ h => absurd h List.not_mem_nil⟩)
    (zmm_all (fun _ h => absurd h List.not_mem_nil)) (fun _ h => absurd h List.not_mem_nil) (zpr_all hp_X8_looked) (fun as σ res h => by
      unfold F_X8_looked at h
      split at h
      · rename_i x1 x2
        cases hr : f_X8_looked N σ x1 x2 with
        | none => rw [hr] at h; cases h
        | some r =>
          rw [hr] at h
          cases h
          exact ⟨Nat.le_of_ble_eq_true rfl, t_X8_looked σ x1 x2 r hr⟩
      · cases h)
end
