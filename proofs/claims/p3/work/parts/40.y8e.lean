noncomputable def pr_X8_firstDraft : List (Nat × Instr × Nat) := [(0, .iconst 0, 1), (1, .istore_n 1, 1), (2, .iload_n 1, 1), (3, .sipush 131, 3), (6, .if_icmp .ge 16, 3), (9, .aload_n 0, 1), (10, .getfield 23, 3), (13, .iload_n 1, 1), (14, .iconst 0, 1), (15, .iastore, 1), (16, .iinc 1 1, 3), (19, .goto (-17), 3), (22, .iconst 0, 1), (23, .istore_n 1, 1), (24, .iload_n 1, 1), (25, .iconst 3, 1), (26, .if_icmp .ge 16, 3), (29, .aload_n 0, 1), (30, .getfield 29, 3), (33, .iload_n 1, 1), (34, .iconst 0, 1), (35, .iastore, 1), (36, .iinc 1 1, 3), (39, .goto (-15), 3), (42, .aload_n 0, 1), (43, .iconst 3, 1), (44, .putfield 59, 3), (47, .aload_n 0, 1), (48, .iconst 0, 1), (49, .putfield 63, 3), (52, .aload_n 0, 1), (53, .iconst 0, 1), (54, .putfield 67, 3), (57, .aload_n 0, 1), (58, .iconst 0, 1), (59, .putfield 70, 3), (62, .aload_n 0, 1), (63, .bipush (-4), 2), (65, .putfield 73, 3), (68, .aload_n 0, 1), (69, .bipush (-4), 2), (71, .putfield 76, 3), (74, .return_, 1)]
set_option maxRecDepth 100000 in
theorem hp_X8_firstDraft : pr_X8_firstDraft.all (fun x => decide (decode cX8_firstDraft x.1 = .ok x.2)) = true := by decide +kernel
noncomputable def f_X8_firstDraft_b24 (N : Nat) : Nat → yS → Int → Option (Int × yS) := yfix (fun _ _ => none) (fun ih σ x1 =>
    bif ycP .ge x1 3 then
      some (0, yw (yw (yw (yw (yw (yw σ 0 8 3) 0 9 0) 0 10 0) 0 11 0) 0 14 ((-4))) 0 15 ((-4)))
    else
      bif yin x1 3 then
        ih (yw σ 7 x1.toNat 0) (yad x1 1)
      else none)
theorem q_X8_firstDraft_b24 (N : Nat) (n : Nat) (σ : yS) (x1 : Int) : f_X8_firstDraft_b24 N (n + 1) σ x1 =
    (bif ycP .ge x1 3 then
      some (0, yw (yw (yw (yw (yw (yw σ 0 8 3) 0 9 0) 0 10 0) 0 11 0) 0 14 ((-4))) 0 15 ((-4)))
    else
      bif yin x1 3 then
        (f_X8_firstDraft_b24 N n) (yw σ 7 x1.toNat 0) (yad x1 1)
      else none) := rfl
noncomputable def f_X8_firstDraft_b2 (N : Nat) : Nat → yS → Int → Option (Int × yS) := yfix (fun _ _ => none) (fun ih σ x1 =>
    bif ycP .ge x1 131 then
      f_X8_firstDraft_b24 N N σ 0
    else
      bif yin x1 131 then
        ih (yw σ 5 x1.toNat 0) (yad x1 1)
      else none)
theorem q_X8_firstDraft_b2 (N : Nat) (n : Nat) (σ : yS) (x1 : Int) : f_X8_firstDraft_b2 N (n + 1) σ x1 =
    (bif ycP .ge x1 131 then
      f_X8_firstDraft_b24 N N σ 0
    else
      bif yin x1 131 then
        (f_X8_firstDraft_b2 N n) (yw σ 5 x1.toNat 0) (yad x1 1)
      else none) := rfl
noncomputable def f_X8_firstDraft (N : Nat) (σ : yS) : Option (Int × yS) :=
  f_X8_firstDraft_b2 N N σ 0
noncomputable def F_X8_firstDraft (N : Nat) : yF := fun as σ => match as with
  | [.inr (.inl 8, 0)] => (f_X8_firstDraft N σ).map (fun r => (none, r.2))
  | _ => none
theorem e_X8_firstDraft {N : Nat} {σ : yS} {r : Int × yS} (h : f_X8_firstDraft N σ = some r) : F_X8_firstDraft N [.inr (.inl 8, 0)] σ = some (none, r.2) := by
  show (f_X8_firstDraft N σ).map (fun r => ((none, r.2) : yR)) = _
  rw [h]
  rfl
noncomputable def tb_X8_firstDraft (N : Nat) : yTb := ([(23, 8, 7, 3), (29, 8, 13, 3), (59, 8, 8, 0), (63, 8, 9, 1), (67, 8, 10, 1), (70, 8, 11, 0), (73, 8, 14, 0), (76, 8, 15, 0)], [], [], [], [], [], [])
abbrev G_X8_firstDraft (N : Nat) (X : zXT) (sh : List yH) (l : Launch) (rm : Room) : yC → yR → Prop := yGoes X vwCl yct sh l rm cX8_firstDraft 2 wsX8_firstDraft RX8 (tb_X8_firstDraft N) pr_X8_firstDraft 0
set_option maxRecDepth 100000 in
set_option maxHeartbeats 4000000 in
theorem t_X8_firstDraft_b24 {N : Nat} {X : zXT} {sh : List yH} {l : Launch} {rm : Room} : ∀ (n : Nat) (σ : yS) (x1 : Int) (res : Int × yS), f_X8_firstDraft_b24 N n σ x1 = some res → G_X8_firstDraft N X sh l rm (24, [(0, .inr (.inl 8, 0)), (1, .inl (.inl x1))], [], σ) (none, res.2) := by
  intro n
  induction n with
  | zero => intro σ x1 res h; exact (yno h).elim
  | succ n ih =>
    intro σ x1 res h
    rw [q_X8_firstDraft_b24] at h
    refine yG_n (n := 2) (C' := (26, [(0, .inr (.inl 8, 0)), (1, .inl (.inl x1))], [.inl (.inl 3), .inl (.inl x1)], σ)) rfl ?_
    cases hg1 : ycP .ge x1 3 with
    | true =>
      rw [hg1] at h
      dsimp only [cond] at h
      refine yG_t (C' := (42, [(0, .inr (.inl 8, 0)), (1, .inl (.inl x1))], [], σ)) rfl hg1 ?_
      refine yG_n (n := 18) (C' := (74, [(0, .inr (.inl 8, 0)), (1, .inl (.inl x1))], [], yw (yw (yw (yw (yw (yw σ 0 8 3) 0 9 0) 0 10 0) 0 11 0) 0 14 ((-4))) 0 15 ((-4)))) rfl ?_
      have h := Option.some.inj h
      subst h
      dsimp only
      exact yG_r rfl rfl
    | false =>
      rw [hg1] at h
      dsimp only [cond] at h
      refine yG_f (C' := (29, [(0, .inr (.inl 8, 0)), (1, .inl (.inl x1))], [], σ)) rfl hg1 ?_
      refine yG_n (n := 4) (C' := (35, [(0, .inr (.inl 8, 0)), (1, .inl (.inl x1))], [.inl (.inl 0), .inl (.inl x1), .inr (.inr (0, 3), 7)], σ)) rfl ?_
      cases hg2 : yin x1 3 with
      | false => rw [hg2] at h; dsimp only [cond] at h; cases h
      | true =>
        rw [hg2] at h
        dsimp only [cond] at h
        refine yG_t (C' := (36, [(0, .inr (.inl 8, 0)), (1, .inl (.inl x1))], [], yw σ 7 x1.toNat 0)) rfl hg2 ?_
        refine yG_n (n := 2) (C' := (24, [(1, .inl (.inl (yad x1 1))), (0, .inr (.inl 8, 0))], [], yw σ 7 x1.toNat 0)) rfl ?_
        exact yG_w [1, 0] rfl (ih (yw σ 7 x1.toNat 0) (yad x1 1) res h)
set_option maxRecDepth 100000 in
set_option maxHeartbeats 4000000 in
theorem t_X8_firstDraft_b2 {N : Nat} {X : zXT} {sh : List yH} {l : Launch} {rm : Room} : ∀ (n : Nat) (σ : yS) (x1 : Int) (res : Int × yS), f_X8_firstDraft_b2 N n σ x1 = some res → G_X8_firstDraft N X sh l rm (2, [(0, .inr (.inl 8, 0)), (1, .inl (.inl x1))], [], σ) (none, res.2) := by
  intro n
  induction n with
  | zero => intro σ x1 res h; exact (yno h).elim
  | succ n ih =>
    intro σ x1 res h
    rw [q_X8_firstDraft_b2] at h
    refine yG_n (n := 2) (C' := (6, [(0, .inr (.inl 8, 0)), (1, .inl (.inl x1))], [.inl (.inl 131), .inl (.inl x1)], σ)) rfl ?_
    cases hg3 : ycP .ge x1 131 with
    | true =>
      rw [hg3] at h
      dsimp only [cond] at h
      refine yG_t (C' := (22, [(0, .inr (.inl 8, 0)), (1, .inl (.inl x1))], [], σ)) rfl hg3 ?_
      refine yG_n (n := 2) (C' := (24, [(1, .inl (.inl 0)), (0, .inr (.inl 8, 0))], [], σ)) rfl ?_
      exact yG_w [1, 0] rfl (t_X8_firstDraft_b24 N σ 0 res h)
    | false =>
      rw [hg3] at h
      dsimp only [cond] at h
      refine yG_f (C' := (9, [(0, .inr (.inl 8, 0)), (1, .inl (.inl x1))], [], σ)) rfl hg3 ?_
      refine yG_n (n := 4) (C' := (15, [(0, .inr (.inl 8, 0)), (1, .inl (.inl x1))], [.inl (.inl 0), .inl (.inl x1), .inr (.inr (0, 131), 5)], σ)) rfl ?_
      cases hg4 : yin x1 131 with
      | false => rw [hg4] at h; dsimp only [cond] at h; cases h
      | true =>
        rw [hg4] at h
        dsimp only [cond] at h
        refine yG_t (C' := (16, [(0, .inr (.inl 8, 0)), (1, .inl (.inl x1))], [], yw σ 5 x1.toNat 0)) rfl hg4 ?_
        refine yG_n (n := 2) (C' := (2, [(1, .inl (.inl (yad x1 1))), (0, .inr (.inl 8, 0))], [], yw σ 5 x1.toNat 0)) rfl ?_
        exact yG_w [1, 0] rfl (ih (yw σ 5 x1.toNat 0) (yad x1 1) res h)
set_option maxRecDepth 100000 in
set_option maxHeartbeats 4000000 in
theorem t_X8_firstDraft {N : Nat} {X : zXT} {sh : List yH} {l : Launch} {rm : Room} (σ : yS) (res : Int × yS) (h : f_X8_firstDraft N σ = some res) : G_X8_firstDraft N X sh l rm (0, [(0, .inr (.inl 8, 0))], [], σ) (none, res.2) := by
  unfold f_X8_firstDraft at h
  refine yG_n (n := 2) (C' := (2, [(1, .inl (.inl 0)), (0, .inr (.inl 8, 0))], [], σ)) rfl ?_
  exact yG_w [1, 0] rfl (t_X8_firstDraft_b2 N σ 0 res h)
set_option maxRecDepth 100000 in
set_option maxHeartbeats 4000000 in
theorem m_X8_firstDraft {N : Nat} {X : zXT} (hX : zXok X) (hN : zXn X) (l : Launch) {sh : List yH} : yMet X vwCl yct sh l yX8_firstDraft wsX8_firstDraft { frames := 1, cells := 0, slots := 0, locals := 64 } (F_X8_firstDraft N) :=
  ymeth (tb := tb_X8_firstDraft N) (pr := pr_X8_firstDraft) (rt := 0) (own := RX8) hX (by decide +kernel) rfl rfl ⟨Nat.le_of_ble_eq_true rfl, Nat.le_of_ble_eq_true rfl⟩
    (zfl_all (List.forall_mem_cons.mpr ⟨zfl_X8 (fun w h => List.mem_cons_of_mem _ (List.mem_append_right _ h)) (List.mem_of_getElem? (i := 1) rfl) (by decide) (by decide), List.forall_mem_cons.mpr ⟨zfl_X8 (fun w h => List.mem_cons_of_mem _ (List.mem_append_right _ h)) (List.mem_of_getElem? (i := 2) rfl) (by decide) (by decide), List.forall_mem_cons.mpr ⟨zfl_X8 (fun w h => List.mem_cons_of_mem _ (List.mem_append_right _ h)) (List.mem_of_getElem? (i := 3) rfl) (by decide) (by decide), List.forall_mem_cons.mpr ⟨zfl_X8 (fun w h => List.mem_cons_of_mem _ (List.mem_append_right _ h)) (List.mem_of_getElem? (i := 4) rfl) (by decide) (by decide), List.forall_mem_cons.mpr ⟨zfl_X8 (fun w h => List.mem_cons_of_mem _ (List.mem_append_right _ h)) (List.mem_of_getElem? (i := 5) rfl) (by decide) (by decide), List.forall_mem_cons.mpr ⟨zfl_X8 (fun w h => List.mem_cons_of_mem _ (List.mem_append_right _ h)) (List.mem_of_getElem? (i := 6) rfl) (by decide) (by decide), List.forall_mem_cons.mpr ⟨zfl_X8 (fun w h => List.mem_cons_of_mem _ (List.mem_append_right _ h)) (List.mem_of_getElem? (i := 7) rfl) (by decide) (by decide), List.forall_mem_cons.mpr ⟨zfl_X8 (fun w h => List.mem_cons_of_mem _ (List.mem_append_right _ h)) (List.mem_of_getElem? (i := 8) rfl) (by decide) (by decide), fun _ h => absurd h List.not_mem_nil⟩⟩⟩⟩⟩⟩⟩⟩))
    (zco_all (fun _ h => absurd h List.not_mem_nil)) (zlc_all (fun _ h => absurd h List.not_mem_nil))
    (fun _ h => absurd h List.not_mem_nil)
    (fun _ h => absurd h List.not_mem_nil)
    (zmm_all (fun _ h => absurd h List.not_mem_nil)) (fun _ h => absurd h List.not_mem_nil) (zpr_all hp_X8_firstDraft) (fun as σ res h => by
      unfold F_X8_firstDraft at h
      split at h
      · cases hr : f_X8_firstDraft N σ with
        | none => rw [hr] at h; cases h
        | some r =>
          rw [hr] at h
          cases h
          exact ⟨Nat.le_of_ble_eq_true rfl, t_X8_firstDraft σ r hr⟩
      · cases h)
noncomputable def pr_X8_fund : List (Nat × Instr × Nat) := [(0, .aload_n 0, 1), (1, .iload_n 1, 1), (2, .invokevirtual 205, 3), (5, .ifCond .eq 26, 3), (8, .iload_n 2, 1), (9, .i2l, 1), (10, .lconst 0, 1), (11, .ldc2_w 212, 3), (14, .invokestatic 90, 3), (17, .ifCond .eq 14, 3), (20, .aload_n 0, 1), (21, .iconst 0, 1), (22, .iload_n 1, 1), (23, .iadd, 1), (24, .iload_n 2, 1), (25, .invokevirtual 214, 3), (28, .goto 4, 3), (31, .iconst (-1), 1), (32, .ireturn, 1)]
set_option maxRecDepth 100000 in
theorem hp_X8_fund : pr_X8_fund.all (fun x => decide (decode cX8_fund x.1 = .ok x.2)) = true := by decide +kernel
noncomputable def f_X8_fund_b32 (N : Nat) (σ : yS) (s0 : Int) : Option (Int × yS) :=
  some (s0, σ)
noncomputable def f_X8_fund_b31 (N : Nat) (σ : yS) : Option (Int × yS) :=
  f_X8_fund_b32 N σ ((-1))
noncomputable def f_X8_fund (N : Nat) (σ : yS) (x1 : Int) (x2 : Int) : Option (Int × yS) :=
  match f_X8_isHouse N σ x1 with
  | none => none
  | some r1 => bif ycP .eq r1.1 0 then
      f_X8_fund_b31 N r1.2
    else
      match f_X8_in N r1.2 x2 0 99 with
      | none => none
      | some r2 => bif ycP .eq r2.1 0 then
          f_X8_fund_b31 N r2.2
        else
          match f_X8_becomes N r2.2 (yad 0 x1) x2 with
          | none => none
          | some r3 => f_X8_fund_b32 N r3.2 r3.1
noncomputable def F_X8_fund (N : Nat) : yF := fun as σ => match as with
  | [.inr (.inl 8, 0), .inl (.inl x1), .inl (.inl x2)] => (f_X8_fund N σ x1 x2).map (fun r => (some (.inl (.inl r.1)), r.2))
  | _ => none
theorem e_X8_fund {N : Nat} {σ : yS} {x1 : Int} {x2 : Int} {r : Int × yS} (h : f_X8_fund N σ x1 x2 = some r) : F_X8_fund N [.inr (.inl 8, 0), .inl (.inl x1), .inl (.inl x2)] σ = some (some (.inl (.inl r.1)), r.2) := by
  show (f_X8_fund N σ x1 x2).map (fun r => ((some (.inl (.inl r.1)), r.2) : yR)) = _
  rw [h]
  rfl
noncomputable def tb_X8_fund (N : Nat) : yTb := ([], [], [(212, 99)], [(205, 2, 8, F_X8_isHouse N), (214, 3, 8, F_X8_becomes N)], [(90, 3, F_X8_in N)], [], [])
abbrev G_X8_fund (N : Nat) (X : zXT) (sh : List yH) (l : Launch) (rm : Room) : yC → yR → Prop := yGoes X vwCl yct sh l rm cX8_fund 3 wsX8_fund RX8 (tb_X8_fund N) pr_X8_fund 1
set_option maxRecDepth 100000 in
set_option maxHeartbeats 4000000 in
theorem t_X8_fund_b32 {N : Nat} {X : zXT} {sh : List yH} {l : Launch} {rm : Room} (σ : yS) (s0 : Int) (res : Int × yS) (h : f_X8_fund_b32 N σ s0 = some res) : G_X8_fund N X sh l rm (32, [], [.inl (.inl s0)], σ) (some (.inl (.inl res.1)), res.2) := by
  unfold f_X8_fund_b32 at h
  have h := Option.some.inj h
  subst h
  dsimp only
  exact yG_r rfl rfl
set_option maxRecDepth 100000 in
set_option maxHeartbeats 4000000 in
theorem t_X8_fund_b31 {N : Nat} {X : zXT} {sh : List yH} {l : Launch} {rm : Room} (σ : yS) (res : Int × yS) (h : f_X8_fund_b31 N σ = some res) : G_X8_fund N X sh l rm (31, [], [], σ) (some (.inl (.inl res.1)), res.2) := by
  unfold f_X8_fund_b31 at h
  refine yG_n (n := 1) (C' := (32, [], [.inl (.inl ((-1)))], σ)) rfl ?_
  exact t_X8_fund_b32 σ ((-1)) res h
set_option maxRecDepth 100000 in
set_option maxHeartbeats 4000000 in
theorem t_X8_fund {N : Nat} {X : zXT} {sh : List yH} {l : Launch} {rm : Room} (σ : yS) (x1 : Int) (x2 : Int) (res : Int × yS) (h : f_X8_fund N σ x1 x2 = some res) : G_X8_fund N X sh l rm (0, [(0, .inr (.inl 8, 0)), (1, .inl (.inl x1)), (2, .inl (.inl x2))], [], σ) (some (.inl (.inl res.1)), res.2) := by
  unfold f_X8_fund at h
  refine yG_n (n := 2) (C' := (2, [(0, .inr (.inl 8, 0)), (1, .inl (.inl x1)), (2, .inl (.inl x2))], [.inl (.inl x1), .inr (.inl 8, 0)], σ)) rfl ?_
  cases hr1 : f_X8_isHouse N σ x1 with
  | none => rw [hr1] at h; dsimp only at h; cases h
  | some r1 =>
    rw [hr1] at h
    dsimp only at h
    refine yG_c (C1 := (5, [(0, .inr (.inl 8, 0)), (1, .inl (.inl x1)), (2, .inl (.inl x2))], [.inl (.inl r1.1)], r1.2)) rfl (e_X8_isHouse hr1) rfl ?_
    cases hg2 : ycP .eq r1.1 0 with
    | true =>
      rw [hg2] at h
      dsimp only [cond] at h
      refine yG_t (C' := (31, [(0, .inr (.inl 8, 0)), (1, .inl (.inl x1)), (2, .inl (.inl x2))], [], r1.2)) rfl hg2 ?_
      exact yG_w [] rfl (t_X8_fund_b31 r1.2 res h)
    | false =>
      rw [hg2] at h
      dsimp only [cond] at h
      refine yG_f (C' := (8, [(0, .inr (.inl 8, 0)), (1, .inl (.inl x1)), (2, .inl (.inl x2))], [], r1.2)) rfl hg2 ?_
      refine yG_n (n := 4) (C' := (14, [(0, .inr (.inl 8, 0)), (1, .inl (.inl x1)), (2, .inl (.inl x2))], [.inl (.inr 99), .inl (.inr 0), .inl (.inr x2)], r1.2)) rfl ?_
      cases hr3 : f_X8_in N r1.2 x2 0 99 with
      | none => rw [hr3] at h; dsimp only at h; cases h
      | some r2 =>
        rw [hr3] at h
        dsimp only at h
        refine yG_c (C1 := (17, [(0, .inr (.inl 8, 0)), (1, .inl (.inl x1)), (2, .inl (.inl x2))], [.inl (.inl r2.1)], r2.2)) rfl (e_X8_in hr3) rfl ?_
        cases hg4 : ycP .eq r2.1 0 with
        | true =>
          rw [hg4] at h
          dsimp only [cond] at h
          refine yG_t (C' := (31, [(0, .inr (.inl 8, 0)), (1, .inl (.inl x1)), (2, .inl (.inl x2))], [], r2.2)) rfl hg4 ?_
          exact yG_w [] rfl (t_X8_fund_b31 r2.2 res h)
        | false =>
          rw [hg4] at h
          dsimp only [cond] at h
          refine yG_f (C' := (20, [(0, .inr (.inl 8, 0)), (1, .inl (.inl x1)), (2, .inl (.inl x2))], [], r2.2)) rfl hg4 ?_
          refine yG_n (n := 5) (C' := (25, [(0, .inr (.inl 8, 0)), (1, .inl (.inl x1)), (2, .inl (.inl x2))], [.inl (.inl x2), .inl (.inl (yad 0 x1)), .inr (.inl 8, 0)], r2.2)) rfl ?_
          cases hr5 : f_X8_becomes N r2.2 (yad 0 x1) x2 with
          | none => rw [hr5] at h; dsimp only at h; cases h
          | some r3 =>
            rw [hr5] at h
            dsimp only at h
            refine yG_c (C1 := (28, [(0, .inr (.inl 8, 0)), (1, .inl (.inl x1)), (2, .inl (.inl x2))], [.inl (.inl r3.1)], r3.2)) rfl (e_X8_becomes hr5) rfl ?_
            refine yG_n (n := 1) (C' := (32, [(0, .inr (.inl 8, 0)), (1, .inl (.inl x1)), (2, .inl (.inl x2))], [.inl (.inl r3.1)], r3.2)) rfl ?_
            exact yG_w [] rfl (t_X8_fund_b32 r3.2 r3.1 res h)
set_option maxRecDepth 100000 in
set_option maxHeartbeats 4000000 in
theorem m_X8_fund {N : Nat} {X : zXT} (hX : zXok X) (hN : zXn X) (l : Launch) {sh : List yH} : yMet X vwCl yct sh l yX8_fund wsX8_fund { frames := 3, cells := 0, slots := 0, locals := 110 } (F_X8_fund N) :=
  ymeth (tb := tb_X8_fund N) (pr := pr_X8_fund) (rt := 1) (own := RX8) hX (by decide +kernel) rfl rfl ⟨Nat.le_of_ble_eq_true rfl, Nat.le_of_ble_eq_true rfl⟩
    (zfl_all (fun _ h => absurd h List.not_mem_nil))
    (zco_all (fun _ h => absurd h List.not_mem_nil)) (zlc_all (List.forall_mem_cons.mpr ⟨(List.mem_of_getElem? (i := 1) rfl), fun _ h => absurd h List.not_mem_nil⟩))
    (List.forall_mem_cons.mpr ⟨ycal_V hX (m_X8_isHouse hX hN l) rfl (fun s args hts => cwV 1 hts gX8_fund_X8_isHouse rfl rfl rfl (by decide +kernel) ⟨Nat.le_of_ble_eq_true rfl, Nat.le_of_ble_eq_true rfl⟩), List.forall_mem_cons.mpr ⟨ycal_V hX (m_X8_becomes hX hN l) rfl (fun s args hts => cwV 2 hts gX8_fund_X8_becomes rfl rfl rfl (by decide +kernel) ⟨Nat.le_of_ble_eq_true rfl, Nat.le_of_ble_eq_true rfl⟩), fun _ h => absurd h List.not_mem_nil⟩⟩)
    (List.forall_mem_cons.mpr ⟨ycal_S hX (m_X8_in hX hN l) (fun s args hts => va_cwS 3 hts gX8_fund_X8_in rfl rfl rfl (by decide +kernel) ⟨Nat.le_of_ble_eq_true rfl, Nat.le_of_ble_eq_true rfl⟩), fun _ h => absurd h List.not_mem_nil⟩)
    (zmm_all (fun _ h => absurd h List.not_mem_nil)) (fun _ h => absurd h List.not_mem_nil) (zpr_all hp_X8_fund) (fun as σ res h => by
      unfold F_X8_fund at h
      split at h
      · rename_i x1 x2
        cases hr : f_X8_fund N σ x1 x2 with
        | none => rw [hr] at h; cases h
        | some r =>
          rw [hr] at h
          cases h
          exact ⟨Nat.le_of_ble_eq_true rfl, t_X8_fund σ x1 x2 r hr⟩
      · cases h)
noncomputable def pr_X8_go : List (Nat × Instr × Nat) := [(0, .iload_n 1, 1), (1, .i2l, 1), (2, .lconst 0, 1), (3, .ldc2_w 264, 3), (6, .invokestatic 90, 3), (9, .ifCond .ne 5, 3), (12, .iconst (-1), 1), (13, .ireturn, 1), (14, .aload_n 0, 1), (15, .getfield 7, 3), (18, .bipush 127, 2), (20, .iaload, 1), (21, .iload_n 1, 1), (22, .iadd, 1), (23, .sipush 999, 3), (26, .if_icmp .le 6, 3), (29, .bipush (-3), 2), (31, .ireturn, 1), (32, .aload_n 0, 1), (33, .invokevirtual 266, 3), (36, .aload_n 0, 1), (37, .iload_n 1, 1), (38, .invokevirtual 269, 3), (41, .iconst 0, 1), (42, .istore_n 2, 1), (43, .iload_n 2, 1), (44, .sipush 131, 3), (47, .if_icmp .ge 21, 3), (50, .aload_n 0, 1), (51, .getfield 7, 3), (54, .iload_n 2, 1), (55, .aload_n 0, 1), (56, .getfield 13, 3), (59, .iload_n 2, 1), (60, .iaload, 1), (61, .iastore, 1), (62, .iinc 2 1, 3), (65, .goto (-22), 3), (68, .aload_n 0, 1), (69, .getfield 239, 3), (72, .ireturn, 1)]
set_option maxRecDepth 100000 in
theorem hp_X8_go : pr_X8_go.all (fun x => decide (decode cX8_go x.1 = .ok x.2)) = true := by decide +kernel
noncomputable def f_X8_go_b43 (N : Nat) : Nat → yS → Int → Option (Int × yS) := yfix (fun _ _ => none) (fun ih σ x2 =>
    bif ycP .ge x2 131 then
      some (σ.1 0 26, σ)
    else
      bif yin x2 131 then
        bif yin x2 393 then
          ih (yw σ 1 x2.toNat (σ.1 2 x2.toNat)) (yad x2 1)
        else none
      else none)
theorem q_X8_go_b43 (N : Nat) (n : Nat) (σ : yS) (x2 : Int) : f_X8_go_b43 N (n + 1) σ x2 =
    (bif ycP .ge x2 131 then
      some (σ.1 0 26, σ)
    else
      bif yin x2 131 then
        bif yin x2 393 then
          (f_X8_go_b43 N n) (yw σ 1 x2.toNat (σ.1 2 x2.toNat)) (yad x2 1)
        else none
      else none) := rfl
noncomputable def f_X8_go (N : Nat) (σ : yS) (x1 : Int) : Option (Int × yS) :=
  match f_X8_in N σ x1 0 60 with
  | none => none
  | some r1 => bif ycP .ne r1.1 0 then
      bif ycP .le (yad (r1.2.1 1 127) x1) 999 then
        match f_X8_starts N r1.2 with
        | none => none
        | some r2 => match f_X8_daysAll N r2.2 x1 with
          | none => none
          | some r3 => f_X8_go_b43 N N r3.2 0
      else
        some ((-3), r1.2)
    else
      some ((-1), r1.2)
noncomputable def F_X8_go (N : Nat) : yF := fun as σ => match as with
  | [.inr (.inl 8, 0), .inl (.inl x1)] => (f_X8_go N σ x1).map (fun r => (some (.inl (.inl r.1)), r.2))
  | _ => none
theorem e_X8_go {N : Nat} {σ : yS} {x1 : Int} {r : Int × yS} (h : f_X8_go N σ x1 = some r) : F_X8_go N [.inr (.inl 8, 0), .inl (.inl x1)] σ = some (some (.inl (.inl r.1)), r.2) := by
  show (f_X8_go N σ x1).map (fun r => ((some (.inl (.inl r.1)), r.2) : yR)) = _
  rw [h]
  rfl
noncomputable def tb_X8_go (N : Nat) : yTb := ([(7, 8, 0, 3), (13, 8, 1, 3), (239, 8, 26, 0)], [], [(264, 60)], [(266, 1, 8, F_X8_starts N), (269, 2, 8, F_X8_daysAll N)], [(90, 3, F_X8_in N)], [], [])
abbrev G_X8_go (N : Nat) (X : zXT) (sh : List yH) (l : Launch) (rm : Room) : yC → yR → Prop := yGoes X vwCl yct sh l rm cX8_go 3 wsX8_go RX8 (tb_X8_go N) pr_X8_go 1
set_option maxRecDepth 100000 in
set_option maxHeartbeats 4000000 in
theorem t_X8_go_b43 {N : Nat} {X : zXT} {sh : List yH} {l : Launch} {rm : Room} : ∀ (n : Nat) (σ : yS) (x2 : Int) (res : Int × yS), f_X8_go_b43 N n σ x2 = some res → G_X8_go N X sh l rm (43, [(0, .inr (.inl 8, 0)), (2, .inl (.inl x2))], [], σ) (some (.inl (.inl res.1)), res.2) := by
  intro n
  induction n with
  | zero => intro σ x2 res h; exact (yno h).elim
  | succ n ih =>
    intro σ x2 res h
    rw [q_X8_go_b43] at h
    refine yG_n (n := 2) (C' := (47, [(0, .inr (.inl 8, 0)), (2, .inl (.inl x2))], [.inl (.inl 131), .inl (.inl x2)], σ)) rfl ?_
    cases hg1 : ycP .ge x2 131 with
    | true =>
      rw [hg1] at h
      dsimp only [cond] at h
      refine yG_t (C' := (68, [(0, .inr (.inl 8, 0)), (2, .inl (.inl x2))], [], σ)) rfl hg1 ?_
      refine yG_n (n := 2) (C' := (72, [(0, .inr (.inl 8, 0)), (2, .inl (.inl x2))], [.inl (.inl (σ.1 0 26))], σ)) rfl ?_
      have h := Option.some.inj h
      subst h
      dsimp only
      exact yG_r rfl rfl
    | false =>
      rw [hg1] at h
      dsimp only [cond] at h
      refine yG_f (C' := (50, [(0, .inr (.inl 8, 0)), (2, .inl (.inl x2))], [], σ)) rfl hg1 ?_
      refine yG_n (n := 6) (C' := (60, [(0, .inr (.inl 8, 0)), (2, .inl (.inl x2))], [.inl (.inl x2), .inr (.inr (0, 131), 2), .inl (.inl x2), .inr (.inr (0, 393), 1)], σ)) rfl ?_
      cases hg2 : yin x2 131 with
      | false => rw [hg2] at h; dsimp only [cond] at h; cases h
      | true =>
        rw [hg2] at h
        dsimp only [cond] at h
        refine yG_t (C' := (61, [(0, .inr (.inl 8, 0)), (2, .inl (.inl x2))], [.inl (.inl (σ.1 2 x2.toNat)), .inl (.inl x2), .inr (.inr (0, 393), 1)], σ)) rfl hg2 ?_
        cases hg3 : yin x2 393 with
        | false => rw [hg3] at h; dsimp only [cond] at h; cases h
        | true =>
          rw [hg3] at h
          dsimp only [cond] at h
          refine yG_t (C' := (62, [(0, .inr (.inl 8, 0)), (2, .inl (.inl x2))], [], yw σ 1 x2.toNat (σ.1 2 x2.toNat))) rfl hg3 ?_
          refine yG_n (n := 2) (C' := (43, [(2, .inl (.inl (yad x2 1))), (0, .inr (.inl 8, 0))], [], yw σ 1 x2.toNat (σ.1 2 x2.toNat))) rfl ?_
          exact yG_w [1, 0] rfl (ih (yw σ 1 x2.toNat (σ.1 2 x2.toNat)) (yad x2 1) res h)
set_option maxRecDepth 100000 in
set_option maxHeartbeats 4000000 in
theorem t_X8_go {N : Nat} {X : zXT} {sh : List yH} {l : Launch} {rm : Room} (σ : yS) (x1 : Int) (res : Int × yS) (h : f_X8_go N σ x1 = some res) : G_X8_go N X sh l rm (0, [(0, .inr (.inl 8, 0)), (1, .inl (.inl x1))], [], σ) (some (.inl (.inl res.1)), res.2) := by
  unfold f_X8_go at h
  refine yG_n (n := 4) (C' := (6, [(0, .inr (.inl 8, 0)), (1, .inl (.inl x1))], [.inl (.inr 60), .inl (.inr 0), .inl (.inr x1)], σ)) rfl ?_
  cases hr4 : f_X8_in N σ x1 0 60 with
  | none => rw [hr4] at h; dsimp only at h; cases h
  | some r1 =>
    rw [hr4] at h
    dsimp only at h
    refine yG_c (C1 := (9, [(0, .inr (.inl 8, 0)), (1, .inl (.inl x1))], [.inl (.inl r1.1)], r1.2)) rfl (e_X8_in hr4) rfl ?_
    cases hg5 : ycP .ne r1.1 0 with
    | true =>
      rw [hg5] at h
      dsimp only [cond] at h
      refine yG_t (C' := (14, [(0, .inr (.inl 8, 0)), (1, .inl (.inl x1))], [], r1.2)) rfl hg5 ?_
      refine yG_n (n := 7) (C' := (26, [(0, .inr (.inl 8, 0)), (1, .inl (.inl x1))], [.inl (.inl 999), .inl (.inl (yad (r1.2.1 1 127) x1))], r1.2)) rfl ?_
      cases hg6 : ycP .le (yad (r1.2.1 1 127) x1) 999 with
      | true =>
        rw [hg6] at h
        dsimp only [cond] at h
        refine yG_t (C' := (32, [(0, .inr (.inl 8, 0)), (1, .inl (.inl x1))], [], r1.2)) rfl hg6 ?_
        refine yG_n (n := 1) (C' := (33, [(0, .inr (.inl 8, 0)), (1, .inl (.inl x1))], [.inr (.inl 8, 0)], r1.2)) rfl ?_
        cases hr7 : f_X8_starts N r1.2 with
        | none => rw [hr7] at h; dsimp only at h; cases h
        | some r2 =>
          rw [hr7] at h
          dsimp only at h
          refine yG_c (C1 := (36, [(0, .inr (.inl 8, 0)), (1, .inl (.inl x1))], [], r2.2)) rfl (e_X8_starts hr7) rfl ?_
          refine yG_n (n := 2) (C' := (38, [(0, .inr (.inl 8, 0)), (1, .inl (.inl x1))], [.inl (.inl x1), .inr (.inl 8, 0)], r2.2)) rfl ?_
          cases hr8 : f_X8_daysAll N r2.2 x1 with
          | none => rw [hr8] at h; dsimp only at h; cases h
          | some r3 =>
            rw [hr8] at h
            dsimp only at h
            refine yG_c (C1 := (41, [(0, .inr (.inl 8, 0)), (1, .inl (.inl x1))], [], r3.2)) rfl (e_X8_daysAll hr8) rfl ?_
            refine yG_n (n := 2) (C' := (43, [(2, .inl (.inl 0)), (0, .inr (.inl 8, 0)), (1, .inl (.inl x1))], [], r3.2)) rfl ?_
            exact yG_w [1, 0] rfl (t_X8_go_b43 N r3.2 0 res h)
      | false =>
        rw [hg6] at h
        dsimp only [cond] at h
        refine yG_f (C' := (29, [(0, .inr (.inl 8, 0)), (1, .inl (.inl x1))], [], r1.2)) rfl hg6 ?_
        refine yG_n (n := 1) (C' := (31, [(0, .inr (.inl 8, 0)), (1, .inl (.inl x1))], [.inl (.inl ((-3)))], r1.2)) rfl ?_
        have h := Option.some.inj h
        subst h
        dsimp only
        exact yG_r rfl rfl
    | false =>
      rw [hg5] at h
      dsimp only [cond] at h
      refine yG_f (C' := (12, [(0, .inr (.inl 8, 0)), (1, .inl (.inl x1))], [], r1.2)) rfl hg5 ?_
      refine yG_n (n := 1) (C' := (13, [(0, .inr (.inl 8, 0)), (1, .inl (.inl x1))], [.inl (.inl ((-1)))], r1.2)) rfl ?_
      have h := Option.some.inj h
      subst h
      dsimp only
      exact yG_r rfl rfl
set_option maxRecDepth 100000 in
set_option maxHeartbeats 4000000 in
theorem m_X8_go {N : Nat} {X : zXT} (hX : zXok X) (hN : zXn X) (l : Launch) {sh : List yH} : yMet X vwCl yct sh l yX8_go wsX8_go { frames := 6, cells := 0, slots := 0, locals := 177 } (F_X8_go N) :=
  ymeth (tb := tb_X8_go N) (pr := pr_X8_go) (rt := 1) (own := RX8) hX (by decide +kernel) rfl rfl ⟨Nat.le_of_ble_eq_true rfl, Nat.le_of_ble_eq_true rfl⟩
    (zfl_all (List.forall_mem_cons.mpr ⟨zfl_X8 (fun w h => List.mem_cons_of_mem _ (List.mem_append_right _ h)) (List.mem_of_getElem? (i := 2) rfl) (by decide) (by decide), List.forall_mem_cons.mpr ⟨zfl_X8 (fun w h => List.mem_cons_of_mem _ (List.mem_append_right _ h)) (List.mem_of_getElem? (i := 3) rfl) (by decide) (by decide), List.forall_mem_cons.mpr ⟨zfl_X8 (fun w h => List.mem_cons_of_mem _ (List.mem_append_right _ h)) (List.mem_of_getElem? (i := 4) rfl) (by decide) (by decide), fun _ h => absurd h List.not_mem_nil⟩⟩⟩))
    (zco_all (fun _ h => absurd h List.not_mem_nil)) (zlc_all (List.forall_mem_cons.mpr ⟨(List.mem_of_getElem? (i := 1) rfl), fun _ h => absurd h List.not_mem_nil⟩))
    (List.forall_mem_cons.mpr ⟨ycal_V hX (m_X8_starts hX hN l) rfl (fun s args hts => cwV 0 hts gX8_go_X8_starts rfl rfl rfl (by decide +kernel) ⟨Nat.le_of_ble_eq_true rfl, Nat.le_of_ble_eq_true rfl⟩), List.forall_mem_cons.mpr ⟨ycal_V hX (m_X8_daysAll hX hN l) rfl (fun s args hts => cwV 1 hts gX8_go_X8_daysAll rfl rfl rfl (by decide +kernel) ⟨Nat.le_of_ble_eq_true rfl, Nat.le_of_ble_eq_true rfl⟩), fun _ h => absurd h List.not_mem_nil⟩⟩)
    (List.forall_mem_cons.mpr ⟨ycal_S hX (m_X8_in hX hN l) (fun s args hts => va_cwS 3 hts gX8_go_X8_in rfl rfl rfl (by decide +kernel) ⟨Nat.le_of_ble_eq_true rfl, Nat.le_of_ble_eq_true rfl⟩), fun _ h => absurd h List.not_mem_nil⟩)
    (zmm_all (fun _ h => absurd h List.not_mem_nil)) (fun _ h => absurd h List.not_mem_nil) (zpr_all hp_X8_go) (fun as σ res h => by
      unfold F_X8_go at h
      split at h
      · rename_i x1
        cases hr : f_X8_go N σ x1 with
        | none => rw [hr] at h; cases h
        | some r =>
          rw [hr] at h
          cases h
          exact ⟨Nat.le_of_ble_eq_true rfl, t_X8_go σ x1 r hr⟩
      · cases h)
noncomputable def pr_X8_isKind : List (Nat × Instr × Nat) := [(0, .iload_n 0, 1), (1, .i2l, 1), (2, .lconst 0, 1), (3, .ldc2_w 193, 3), (6, .invokestatic 90, 3), (9, .ireturn, 1)]
set_option maxRecDepth 100000 in
theorem hp_X8_isKind : pr_X8_isKind.all (fun x => decide (decode cX8_isKind x.1 = .ok x.2)) = true := by decide +kernel
noncomputable def f_X8_isKind (N : Nat) (σ : yS) (x0 : Int) : Option (Int × yS) :=
  match f_X8_in N σ x0 0 4 with
  | none => none
  | some r1 => bif yb1 r1.1 then some (r1.1, r1.2) else none
noncomputable def F_X8_isKind (N : Nat) : yF := fun as σ => match as with
  | [.inl (.inl x0)] => (f_X8_isKind N σ x0).map (fun r => (some (.inl (.inl r.1)), r.2))
  | _ => none
theorem e_X8_isKind {N : Nat} {σ : yS} {x0 : Int} {r : Int × yS} (h : f_X8_isKind N σ x0 = some r) : F_X8_isKind N [.inl (.inl x0)] σ = some (some (.inl (.inl r.1)), r.2) := by
  show (f_X8_isKind N σ x0).map (fun r => ((some (.inl (.inl r.1)), r.2) : yR)) = _
  rw [h]
  rfl
noncomputable def tb_X8_isKind (N : Nat) : yTb := ([], [], [(193, 4)], [], [(90, 3, F_X8_in N)], [], [])
abbrev G_X8_isKind (N : Nat) (X : zXT) (sh : List yH) (l : Launch) (rm : Room) : yC → yR → Prop := yGoes X vwCl yct sh l rm cX8_isKind 1 wsX8_isKind RX8 (tb_X8_isKind N) pr_X8_isKind 2
set_option maxRecDepth 100000 in
set_option maxHeartbeats 4000000 in
theorem t_X8_isKind {N : Nat} {X : zXT} {sh : List yH} {l : Launch} {rm : Room} (σ : yS) (x0 : Int) (res : Int × yS) (h : f_X8_isKind N σ x0 = some res) : G_X8_isKind N X sh l rm (0, [(0, .inl (.inl x0))], [], σ) (some (.inl (.inl res.1)), res.2) := by
  unfold f_X8_isKind at h
  refine yG_n (n := 4) (C' := (6, [(0, .inl (.inl x0))], [.inl (.inr 4), .inl (.inr 0), .inl (.inr x0)], σ)) rfl ?_
  cases hr1 : f_X8_in N σ x0 0 4 with
  | none => rw [hr1] at h; dsimp only at h; cases h
  | some r1 =>
    rw [hr1] at h
    dsimp only at h
    refine yG_c (C1 := (9, [(0, .inl (.inl x0))], [.inl (.inl r1.1)], r1.2)) rfl (e_X8_in hr1) rfl ?_
    cases hg2 : yb1 r1.1 with
    | false => rw [hg2] at h; dsimp only [cond] at h; cases h
    | true =>
      rw [hg2] at h
      dsimp only [cond] at h
      have h := Option.some.inj h
      subst h
      dsimp only
      exact yG_r rfl hg2
set_option maxRecDepth 100000 in
set_option maxHeartbeats 4000000 in
theorem m_X8_isKind {N : Nat} {X : zXT} (hX : zXok X) (hN : zXn X) (l : Launch) {sh : List yH} : yMet X vwCl yct sh l yX8_isKind wsX8_isKind { frames := 2, cells := 0, slots := 0, locals := 89 } (F_X8_isKind N) :=
  ymeth (tb := tb_X8_isKind N) (pr := pr_X8_isKind) (rt := 2) (own := RX8) hX (by decide +kernel) rfl rfl ⟨Nat.le_of_ble_eq_true rfl, Nat.le_of_ble_eq_true rfl⟩
    (zfl_all (fun _ h => absurd h List.not_mem_nil))
    (zco_all (fun _ h => absurd h List.not_mem_nil)) (zlc_all (List.forall_mem_cons.mpr ⟨(List.mem_of_getElem? (i := 1) rfl), fun _ h => absurd h List.not_mem_nil⟩))
    (fun _ h => absurd h List.not_mem_nil)
    (List.forall_mem_cons.mpr ⟨ycal_S hX (m_X8_in hX hN l) (fun s args hts => va_cwS 3 hts gX8_isKind_X8_in rfl rfl rfl (by decide +kernel) ⟨Nat.le_of_ble_eq_true rfl, Nat.le_of_ble_eq_true rfl⟩), fun _ h => absurd h List.not_mem_nil⟩)
    (zmm_all (fun _ h => absurd h List.not_mem_nil)) (fun _ h => absurd h List.not_mem_nil) (zpr_all hp_X8_isKind) (fun as σ res h => by
      unfold F_X8_isKind at h
      split at h
      · rename_i x0
        cases hr : f_X8_isKind N σ x0 with
        | none => rw [hr] at h; cases h
        | some r =>
          rw [hr] at h
          cases h
          exact ⟨Nat.le_of_ble_eq_true rfl, t_X8_isKind σ x0 r hr⟩
      · cases h)
noncomputable def pr_X8_habit : List (Nat × Instr × Nat) := [(0, .aload_n 0, 1), (1, .iload_n 1, 1), (2, .invokevirtual 205, 3), (5, .ifCond .eq 31, 3), (8, .iload_n 2, 1), (9, .invokestatic 217, 3), (12, .ifCond .eq 24, 3), (15, .aload_n 0, 1), (16, .iload_n 3, 1), (17, .invokevirtual 209, 3), (20, .ifCond .eq 16, 3), (23, .iload 4, 2), (25, .i2l, 1), (26, .lconst 0, 1), (27, .ldc2_w 220, 3), (30, .invokestatic 90, 3), (33, .ifCond .ne 5, 3), (36, .iconst (-1), 1), (37, .ireturn, 1), (38, .aload_n 0, 1), (39, .getfield 7, 3), (42, .bipush 21, 2), (44, .iload_n 1, 1), (45, .iadd, 1), (46, .iload_n 2, 1), (47, .iastore, 1), (48, .aload_n 0, 1), (49, .getfield 7, 3), (52, .bipush 28, 2), (54, .iload_n 1, 1), (55, .iadd, 1), (56, .iload_n 3, 1), (57, .iastore, 1), (58, .aload_n 0, 1), (59, .bipush 35, 2), (61, .iload_n 1, 1), (62, .iadd, 1), (63, .iload 4, 2), (65, .invokevirtual 214, 3), (68, .ireturn, 1)]
set_option maxRecDepth 100000 in
theorem hp_X8_habit : pr_X8_habit.all (fun x => decide (decode cX8_habit x.1 = .ok x.2)) = true := by decide +kernel
noncomputable def f_X8_habit_b36 (N : Nat) (σ : yS) : Option (Int × yS) :=
  some ((-1), σ)
noncomputable def f_X8_habit (N : Nat) (σ : yS) (x1 : Int) (x2 : Int) (x3 : Int) (x4 : Int) : Option (Int × yS) :=
  match f_X8_isHouse N σ x1 with
  | none => none
  | some r1 => bif ycP .eq r1.1 0 then
      f_X8_habit_b36 N r1.2
    else
      match f_X8_isKind N r1.2 x2 with
      | none => none
      | some r2 => bif ycP .eq r2.1 0 then
          f_X8_habit_b36 N r2.2
        else
          match f_X8_isDeed N r2.2 x3 with
          | none => none
          | some r3 => bif ycP .eq r3.1 0 then
              f_X8_habit_b36 N r3.2
            else
              match f_X8_in N r3.2 x4 0 10 with
              | none => none
              | some r4 => bif ycP .ne r4.1 0 then
                  bif yin (yad 21 x1) 393 then
                    bif yin (yad 28 x1) 393 then
                      match f_X8_becomes N (yw (yw r4.2 1 (yad 21 x1).toNat x2) 1 (yad 28 x1).toNat x3) (yad 35 x1) x4 with
                      | none => none
                      | some r5 => some (r5.1, r5.2)
                    else none
                  else none
                else
                  f_X8_habit_b36 N r4.2
noncomputable def F_X8_habit (N : Nat) : yF := fun as σ => match as with
  | [.inr (.inl 8, 0), .inl (.inl x1), .inl (.inl x2), .inl (.inl x3), .inl (.inl x4)] => (f_X8_habit N σ x1 x2 x3 x4).map (fun r => (some (.inl (.inl r.1)), r.2))
  | _ => none
theorem e_X8_habit {N : Nat} {σ : yS} {x1 : Int} {x2 : Int} {x3 : Int} {x4 : Int} {r : Int × yS} (h : f_X8_habit N σ x1 x2 x3 x4 = some r) : F_X8_habit N [.inr (.inl 8, 0), .inl (.inl x1), .inl (.inl x2), .inl (.inl x3), .inl (.inl x4)] σ = some (some (.inl (.inl r.1)), r.2) := by
  show (f_X8_habit N σ x1 x2 x3 x4).map (fun r => ((some (.inl (.inl r.1)), r.2) : yR)) = _
  rw [h]
  rfl
noncomputable def tb_X8_habit (N : Nat) : yTb := ([(7, 8, 0, 3)], [], [(220, 10)], [(205, 2, 8, F_X8_isHouse N), (209, 2, 8, F_X8_isDeed N), (214, 3, 8, F_X8_becomes N)], [(90, 3, F_X8_in N), (217, 1, F_X8_isKind N)], [], [])
abbrev G_X8_habit (N : Nat) (X : zXT) (sh : List yH) (l : Launch) (rm : Room) : yC → yR → Prop := yGoes X vwCl yct sh l rm cX8_habit 5 wsX8_habit RX8 (tb_X8_habit N) pr_X8_habit 1
set_option maxRecDepth 100000 in
set_option maxHeartbeats 4000000 in
theorem t_X8_habit_b36 {N : Nat} {X : zXT} {sh : List yH} {l : Launch} {rm : Room} (σ : yS) (res : Int × yS) (h : f_X8_habit_b36 N σ = some res) : G_X8_habit N X sh l rm (36, [], [], σ) (some (.inl (.inl res.1)), res.2) := by
  unfold f_X8_habit_b36 at h
  refine yG_n (n := 1) (C' := (37, [], [.inl (.inl ((-1)))], σ)) rfl ?_
  have h := Option.some.inj h
  subst h
  dsimp only
  exact yG_r rfl rfl
set_option maxRecDepth 100000 in
set_option maxHeartbeats 4000000 in
theorem t_X8_habit {N : Nat} {X : zXT} {sh : List yH} {l : Launch} {rm : Room} (σ : yS) (x1 : Int) (x2 : Int) (x3 : Int) (x4 : Int) (res : Int × yS) (h : f_X8_habit N σ x1 x2 x3 x4 = some res) : G_X8_habit N X sh l rm (0, [(0, .inr (.inl 8, 0)), (1, .inl (.inl x1)), (2, .inl (.inl x2)), (3, .inl (.inl x3)), (4, .inl (.inl x4))], [], σ) (some (.inl (.inl res.1)), res.2) := by
  unfold f_X8_habit at h
  refine yG_n (n := 2) (C' := (2, [(0, .inr (.inl 8, 0)), (1, .inl (.inl x1)), (2, .inl (.inl x2)), (3, .inl (.inl x3)), (4, .inl (.inl x4))], [.inl (.inl x1), .inr (.inl 8, 0)], σ)) rfl ?_
  cases hr1 : f_X8_isHouse N σ x1 with
  | none => rw [hr1] at h; dsimp only at h; cases h
  | some r1 =>
    rw [hr1] at h
    dsimp only at h
    refine yG_c (C1 := (5, [(0, .inr (.inl 8, 0)), (1, .inl (.inl x1)), (2, .inl (.inl x2)), (3, .inl (.inl x3)), (4, .inl (.inl x4))], [.inl (.inl r1.1)], r1.2)) rfl (e_X8_isHouse hr1) rfl ?_
    cases hg2 : ycP .eq r1.1 0 with
    | true =>
      rw [hg2] at h
      dsimp only [cond] at h
      refine yG_t (C' := (36, [(0, .inr (.inl 8, 0)), (1, .inl (.inl x1)), (2, .inl (.inl x2)), (3, .inl (.inl x3)), (4, .inl (.inl x4))], [], r1.2)) rfl hg2 ?_
      exact yG_w [] rfl (t_X8_habit_b36 r1.2 res h)
    | false =>
      rw [hg2] at h
      dsimp only [cond] at h
      refine yG_f (C' := (8, [(0, .inr (.inl 8, 0)), (1, .inl (.inl x1)), (2, .inl (.inl x2)), (3, .inl (.inl x3)), (4, .inl (.inl x4))], [], r1.2)) rfl hg2 ?_
      refine yG_n (n := 1) (C' := (9, [(0, .inr (.inl 8, 0)), (1, .inl (.inl x1)), (2, .inl (.inl x2)), (3, .inl (.inl x3)), (4, .inl (.inl x4))], [.inl (.inl x2)], r1.2)) rfl ?_
      cases hr3 : f_X8_isKind N r1.2 x2 with
      | none => rw [hr3] at h; dsimp only at h; cases h
      | some r2 =>
        rw [hr3] at h
        dsimp only at h
        refine yG_c (C1 := (12, [(0, .inr (.inl 8, 0)), (1, .inl (.inl x1)), (2, .inl (.inl x2)), (3, .inl (.inl x3)), (4, .inl (.inl x4))], [.inl (.inl r2.1)], r2.2)) rfl (e_X8_isKind hr3) rfl ?_
        cases hg4 : ycP .eq r2.1 0 with
        | true =>
          rw [hg4] at h
          dsimp only [cond] at h
          refine yG_t (C' := (36, [(0, .inr (.inl 8, 0)), (1, .inl (.inl x1)), (2, .inl (.inl x2)), (3, .inl (.inl x3)), (4, .inl (.inl x4))], [], r2.2)) rfl hg4 ?_
          exact yG_w [] rfl (t_X8_habit_b36 r2.2 res h)
        | false =>
          rw [hg4] at h
          dsimp only [cond] at h
          refine yG_f (C' := (15, [(0, .inr (.inl 8, 0)), (1, .inl (.inl x1)), (2, .inl (.inl x2)), (3, .inl (.inl x3)), (4, .inl (.inl x4))], [], r2.2)) rfl hg4 ?_
          refine yG_n (n := 2) (C' := (17, [(0, .inr (.inl 8, 0)), (1, .inl (.inl x1)), (2, .inl (.inl x2)), (3, .inl (.inl x3)), (4, .inl (.inl x4))], [.inl (.inl x3), .inr (.inl 8, 0)], r2.2)) rfl ?_
          cases hr5 : f_X8_isDeed N r2.2 x3 with
          | none => rw [hr5] at h; dsimp only at h; cases h
          | some r3 =>
            rw [hr5] at h
            dsimp only at h
            refine yG_c (C1 := (20, [(0, .inr (.inl 8, 0)), (1, .inl (.inl x1)), (2, .inl (.inl x2)), (3, .inl (.inl x3)), (4, .inl (.inl x4))], [.inl (.inl r3.1)], r3.2)) rfl (e_X8_isDeed hr5) rfl ?_
            cases hg6 : ycP .eq r3.1 0 with
            | true =>
              rw [hg6] at h
              dsimp only [cond] at h
              refine yG_t (C' := (36, [(0, .inr (.inl 8, 0)), (1, .inl (.inl x1)), (2, .inl (.inl x2)), (3, .inl (.inl x3)), (4, .inl (.inl x4))], [], r3.2)) rfl hg6 ?_
              exact yG_w [] rfl (t_X8_habit_b36 r3.2 res h)
            | false =>
              rw [hg6] at h
              dsimp only [cond] at h
              refine yG_f (C' := (23, [(0, .inr (.inl 8, 0)), (1, .inl (.inl x1)), (2, .inl (.inl x2)), (3, .inl (.inl x3)), (4, .inl (.inl x4))], [], r3.2)) rfl hg6 ?_
              refine yG_n (n := 4) (C' := (30, [(0, .inr (.inl 8, 0)), (1, .inl (.inl x1)), (2, .inl (.inl x2)), (3, .inl (.inl x3)), (4, .inl (.inl x4))], [.inl (.inr 10), .inl (.inr 0), .inl (.inr x4)], r3.2)) rfl ?_
              cases hr7 : f_X8_in N r3.2 x4 0 10 with
              | none => rw [hr7] at h; dsimp only at h; cases h
              | some r4 =>
                rw [hr7] at h
                dsimp only at h
                refine yG_c (C1 := (33, [(0, .inr (.inl 8, 0)), (1, .inl (.inl x1)), (2, .inl (.inl x2)), (3, .inl (.inl x3)), (4, .inl (.inl x4))], [.inl (.inl r4.1)], r4.2)) rfl (e_X8_in hr7) rfl ?_
                cases hg8 : ycP .ne r4.1 0 with
                | true =>
                  rw [hg8] at h
                  dsimp only [cond] at h
                  refine yG_t (C' := (38, [(0, .inr (.inl 8, 0)), (1, .inl (.inl x1)), (2, .inl (.inl x2)), (3, .inl (.inl x3)), (4, .inl (.inl x4))], [], r4.2)) rfl hg8 ?_
                  refine yG_n (n := 6) (C' := (47, [(0, .inr (.inl 8, 0)), (1, .inl (.inl x1)), (2, .inl (.inl x2)), (3, .inl (.inl x3)), (4, .inl (.inl x4))], [.inl (.inl x2), .inl (.inl (yad 21 x1)), .inr (.inr (0, 393), 1)], r4.2)) rfl ?_
                  cases hg9 : yin (yad 21 x1) 393 with
                  | false => rw [hg9] at h; dsimp only [cond] at h; cases h
                  | true =>
                    rw [hg9] at h
                    dsimp only [cond] at h
                    refine yG_t (C' := (48, [(0, .inr (.inl 8, 0)), (1, .inl (.inl x1)), (2, .inl (.inl x2)), (3, .inl (.inl x3)), (4, .inl (.inl x4))], [], yw r4.2 1 (yad 21 x1).toNat x2)) rfl hg9 ?_
                    refine yG_n (n := 6) (C' := (57, [(0, .inr (.inl 8, 0)), (1, .inl (.inl x1)), (2, .inl (.inl x2)), (3, .inl (.inl x3)), (4, .inl (.inl x4))], [.inl (.inl x3), .inl (.inl (yad 28 x1)), .inr (.inr (0, 393), 1)], yw r4.2 1 (yad 21 x1).toNat x2)) rfl ?_
                    cases hg10 : yin (yad 28 x1) 393 with
                    | false => rw [hg10] at h; dsimp only [cond] at h; cases h
                    | true =>
                      rw [hg10] at h
                      dsimp only [cond] at h
                      refine yG_t (C' := (58, [(0, .inr (.inl 8, 0)), (1, .inl (.inl x1)), (2, .inl (.inl x2)), (3, .inl (.inl x3)), (4, .inl (.inl x4))], [], yw (yw r4.2 1 (yad 21 x1).toNat x2) 1 (yad 28 x1).toNat x3)) rfl hg10 ?_
                      refine yG_n (n := 5) (C' := (65, [(0, .inr (.inl 8, 0)), (1, .inl (.inl x1)), (2, .inl (.inl x2)), (3, .inl (.inl x3)), (4, .inl (.inl x4))], [.inl (.inl x4), .inl (.inl (yad 35 x1)), .inr (.inl 8, 0)], yw (yw r4.2 1 (yad 21 x1).toNat x2) 1 (yad 28 x1).toNat x3)) rfl ?_
                      cases hr11 : f_X8_becomes N (yw (yw r4.2 1 (yad 21 x1).toNat x2) 1 (yad 28 x1).toNat x3) (yad 35 x1) x4 with
                      | none => rw [hr11] at h; dsimp only at h; cases h
                      | some r5 =>
                        rw [hr11] at h
                        dsimp only at h
                        refine yG_c (C1 := (68, [(0, .inr (.inl 8, 0)), (1, .inl (.inl x1)), (2, .inl (.inl x2)), (3, .inl (.inl x3)), (4, .inl (.inl x4))], [.inl (.inl r5.1)], r5.2)) rfl (e_X8_becomes hr11) rfl ?_
                        have h := Option.some.inj h
                        subst h
                        dsimp only
                        exact yG_r rfl rfl
                | false =>
                  rw [hg8] at h
                  dsimp only [cond] at h
                  refine yG_f (C' := (36, [(0, .inr (.inl 8, 0)), (1, .inl (.inl x1)), (2, .inl (.inl x2)), (3, .inl (.inl x3)), (4, .inl (.inl x4))], [], r4.2)) rfl hg8 ?_
                  exact yG_w [] rfl (t_X8_habit_b36 r4.2 res h)
set_option maxRecDepth 100000 in
set_option maxHeartbeats 4000000 in
theorem m_X8_habit {N : Nat} {X : zXT} (hX : zXok X) (hN : zXn X) (l : Launch) {sh : List yH} : yMet X vwCl yct sh l yX8_habit wsX8_habit { frames := 3, cells := 0, slots := 0, locals := 110 } (F_X8_habit N) :=
  ymeth (tb := tb_X8_habit N) (pr := pr_X8_habit) (rt := 1) (own := RX8) hX (by decide +kernel) rfl rfl ⟨Nat.le_of_ble_eq_true rfl, Nat.le_of_ble_eq_true rfl⟩
    (zfl_all (List.forall_mem_cons.mpr ⟨zfl_X8 (fun w h => List.mem_cons_of_mem _ (List.mem_append_right _ h)) (List.mem_of_getElem? (i := 2) rfl) (by decide) (by decide), fun _ h => absurd h List.not_mem_nil⟩))
    (zco_all (fun _ h => absurd h List.not_mem_nil)) (zlc_all (List.forall_mem_cons.mpr ⟨(List.mem_of_getElem? (i := 1) rfl), fun _ h => absurd h List.not_mem_nil⟩))
    (List.forall_mem_cons.mpr ⟨ycal_V hX (m_X8_isHouse hX hN l) rfl (fun s args hts => cwV 1 hts gX8_habit_X8_isHouse rfl rfl rfl (by decide +kernel) ⟨Nat.le_of_ble_eq_true rfl, Nat.le_of_ble_eq_true rfl⟩), List.forall_mem_cons.mpr ⟨ycal_V hX (m_X8_isDeed hX hN l) rfl (fun s args hts => cwV 1 hts gX8_habit_X8_isDeed rfl rfl rfl (by decide +kernel) ⟨Nat.le_of_ble_eq_true rfl, Nat.le_of_ble_eq_true rfl⟩), List.forall_mem_cons.mpr ⟨ycal_V hX (m_X8_becomes hX hN l) rfl (fun s args hts => cwV 2 hts gX8_habit_X8_becomes rfl rfl rfl (by decide +kernel) ⟨Nat.le_of_ble_eq_true rfl, Nat.le_of_ble_eq_true rfl⟩), fun _ h => absurd h List.not_mem_nil⟩⟩⟩)
    (List.forall_mem_cons.mpr ⟨ycal_S hX (m_X8_in hX hN l) (fun s args hts => va_cwS 3 hts gX8_habit_X8_in rfl rfl rfl (by decide +kernel) ⟨Nat.le_of_ble_eq_true rfl, Nat.le_of_ble_eq_true rfl⟩), List.forall_mem_cons.mpr ⟨ycal_S hX (m_X8_isKind hX hN l) (fun s args hts => va_cwS 1 hts gX8_habit_X8_isKind rfl rfl rfl (by decide +kernel) ⟨Nat.le_of_ble_eq_true rfl, Nat.le_of_ble_eq_true rfl⟩), fun _ h => absurd h List.not_mem_nil⟩⟩)
    (zmm_all (fun _ h => absurd h List.not_mem_nil)) (fun _ h => absurd h List.not_mem_nil) (zpr_all hp_X8_habit) (fun as σ res h => by
      unfold F_X8_habit at h
      split at h
      · rename_i x1 x2 x3 x4
        cases hr : f_X8_habit N σ x1 x2 x3 x4 with
        | none => rw [hr] at h; cases h
        | some r =>
          rw [hr] at h
          cases h
          exact ⟨Nat.le_of_ble_eq_true rfl, t_X8_habit σ x1 x2 x3 x4 r hr⟩
      · cases h)
noncomputable def pr_X8_house : List (Nat × Instr × Nat) := [(0, .aload_n 0, 1), (1, .iload_n 1, 1), (2, .invokevirtual 205, 3), (5, .ifCond .ne 5, 3), (8, .iconst (-1), 1), (9, .ireturn, 1), (10, .iload_n 2, 1), (11, .i2l, 1), (12, .lconst 0, 1), (13, .ldc2_w 201, 3), (16, .invokestatic 90, 3), (19, .ifCond .eq 15, 3), (22, .aload_n 0, 1), (23, .getfield 7, 3), (26, .bipush 7, 2), (28, .iload_n 2, 1), (29, .imul, 1), (30, .iload_n 1, 1), (31, .iadd, 1), (32, .iaload, 1), (33, .ireturn, 1), (34, .aload_n 0, 1), (35, .iload_n 2, 1), (36, .bipush 10, 2), (38, .isub, 1), (39, .invokevirtual 209, 3), (42, .ifCond .eq 22, 3), (45, .aload_n 0, 1), (46, .getfield 7, 3), (49, .bipush 42, 2), (51, .iconst 5, 1), (52, .iload_n 1, 1), (53, .imul, 1), (54, .iadd, 1), (55, .iload_n 2, 1), (56, .iadd, 1), (57, .bipush 10, 2), (59, .isub, 1), (60, .iaload, 1), (61, .goto 4, 3), (64, .iconst (-1), 1), (65, .ireturn, 1)]
set_option maxRecDepth 100000 in
theorem hp_X8_house : pr_X8_house.all (fun x => decide (decode cX8_house x.1 = .ok x.2)) = true := by decide +kernel
noncomputable def f_X8_house_b65 (N : Nat) (σ : yS) (s0 : Int) : Option (Int × yS) :=
  some (s0, σ)
noncomputable def f_X8_house (N : Nat) (σ : yS) (x1 : Int) (x2 : Int) : Option (Int × yS) :=
  match f_X8_isHouse N σ x1 with
  | none => none
  | some r1 => bif ycP .ne r1.1 0 then
      match f_X8_in N r1.2 x2 0 5 with
      | none => none
      | some r2 => bif ycP .eq r2.1 0 then
          match f_X8_isDeed N r2.2 (ysu x2 10) with
          | none => none
          | some r3 => bif ycP .eq r3.1 0 then
              f_X8_house_b65 N r3.2 ((-1))
            else
              bif yin (ysu (yad (yad 42 (ymu 5 x1)) x2) 10) 393 then
                f_X8_house_b65 N r3.2 (r3.2.1 1 (ysu (yad (yad 42 (ymu 5 x1)) x2) 10).toNat)
              else none
        else
          bif yin (yad (ymu 7 x2) x1) 393 then
            some (r2.2.1 1 (yad (ymu 7 x2) x1).toNat, r2.2)
          else none
    else
      some ((-1), r1.2)
noncomputable def F_X8_house (N : Nat) : yF := fun as σ => match as with
  | [.inr (.inl 8, 0), .inl (.inl x1), .inl (.inl x2)] => (f_X8_house N σ x1 x2).map (fun r => (some (.inl (.inl r.1)), r.2))
  | _ => none
theorem e_X8_house {N : Nat} {σ : yS} {x1 : Int} {x2 : Int} {r : Int × yS} (h : f_X8_house N σ x1 x2 = some r) : F_X8_house N [.inr (.inl 8, 0), .inl (.inl x1), .inl (.inl x2)] σ = some (some (.inl (.inl r.1)), r.2) := by
  show (f_X8_house N σ x1 x2).map (fun r => ((some (.inl (.inl r.1)), r.2) : yR)) = _
  rw [h]
  rfl
noncomputable def tb_X8_house (N : Nat) : yTb := ([(7, 8, 0, 3)], [], [(201, 5)], [(205, 2, 8, F_X8_isHouse N), (209, 2, 8, F_X8_isDeed N)], [(90, 3, F_X8_in N)], [], [])
abbrev G_X8_house (N : Nat) (X : zXT) (sh : List yH) (l : Launch) (rm : Room) : yC → yR → Prop := yGoes X vwCl yct sh l rm cX8_house 3 wsX8_house RX8 (tb_X8_house N) pr_X8_house 1
set_option maxRecDepth 100000 in
set_option maxHeartbeats 4000000 in
theorem t_X8_house_b65 {N : Nat} {X : zXT} {sh : List yH} {l : Launch} {rm : Room} (σ : yS) (s0 : Int) (res : Int × yS) (h : f_X8_house_b65 N σ s0 = some res) : G_X8_house N X sh l rm (65, [], [.inl (.inl s0)], σ) (some (.inl (.inl res.1)), res.2) := by
  unfold f_X8_house_b65 at h
  have h := Option.some.inj h
  subst h
  dsimp only
  exact yG_r rfl rfl
set_option maxRecDepth 100000 in
set_option maxHeartbeats 4000000 in
theorem t_X8_house {N : Nat} {X : zXT} {sh : List yH} {l : Launch} {rm : Room} (σ : yS) (x1 : Int) (x2 : Int) (res : Int × yS) (h : f_X8_house N σ x1 x2 = some res) : G_X8_house N X sh l rm (0, [(0, .inr (.inl 8, 0)), (1, .inl (.inl x1)), (2, .inl (.inl x2))], [], σ) (some (.inl (.inl res.1)), res.2) := by
  unfold f_X8_house at h
  refine yG_n (n := 2) (C' := (2, [(0, .inr (.inl 8, 0)), (1, .inl (.inl x1)), (2, .inl (.inl x2))], [.inl (.inl x1), .inr (.inl 8, 0)], σ)) rfl ?_
  cases hr1 : f_X8_isHouse N σ x1 with
  | none => rw [hr1] at h; dsimp only at h; cases h
  | some r1 =>
    rw [hr1] at h
    dsimp only at h
    refine yG_c (C1 := (5, [(0, .inr (.inl 8, 0)), (1, .inl (.inl x1)), (2, .inl (.inl x2))], [.inl (.inl r1.1)], r1.2)) rfl (e_X8_isHouse hr1) rfl ?_
    cases hg2 : ycP .ne r1.1 0 with
    | true =>
      rw [hg2] at h
      dsimp only [cond] at h
      refine yG_t (C' := (10, [(0, .inr (.inl 8, 0)), (1, .inl (.inl x1)), (2, .inl (.inl x2))], [], r1.2)) rfl hg2 ?_
      refine yG_n (n := 4) (C' := (16, [(0, .inr (.inl 8, 0)), (1, .inl (.inl x1)), (2, .inl (.inl x2))], [.inl (.inr 5), .inl (.inr 0), .inl (.inr x2)], r1.2)) rfl ?_
      cases hr3 : f_X8_in N r1.2 x2 0 5 with
      | none => rw [hr3] at h; dsimp only at h; cases h
      | some r2 =>
        rw [hr3] at h
        dsimp only at h
        refine yG_c (C1 := (19, [(0, .inr (.inl 8, 0)), (1, .inl (.inl x1)), (2, .inl (.inl x2))], [.inl (.inl r2.1)], r2.2)) rfl (e_X8_in hr3) rfl ?_
        cases hg4 : ycP .eq r2.1 0 with
        | true =>
          rw [hg4] at h
          dsimp only [cond] at h
          refine yG_t (C' := (34, [(0, .inr (.inl 8, 0)), (1, .inl (.inl x1)), (2, .inl (.inl x2))], [], r2.2)) rfl hg4 ?_
          refine yG_n (n := 4) (C' := (39, [(0, .inr (.inl 8, 0)), (1, .inl (.inl x1)), (2, .inl (.inl x2))], [.inl (.inl (ysu x2 10)), .inr (.inl 8, 0)], r2.2)) rfl ?_
          cases hr5 : f_X8_isDeed N r2.2 (ysu x2 10) with
          | none => rw [hr5] at h; dsimp only at h; cases h
          | some r3 =>
            rw [hr5] at h
            dsimp only at h
            refine yG_c (C1 := (42, [(0, .inr (.inl 8, 0)), (1, .inl (.inl x1)), (2, .inl (.inl x2))], [.inl (.inl r3.1)], r3.2)) rfl (e_X8_isDeed hr5) rfl ?_
            cases hg6 : ycP .eq r3.1 0 with
            | true =>
              rw [hg6] at h
              dsimp only [cond] at h
              refine yG_t (C' := (64, [(0, .inr (.inl 8, 0)), (1, .inl (.inl x1)), (2, .inl (.inl x2))], [], r3.2)) rfl hg6 ?_
              refine yG_n (n := 1) (C' := (65, [(0, .inr (.inl 8, 0)), (1, .inl (.inl x1)), (2, .inl (.inl x2))], [.inl (.inl ((-1)))], r3.2)) rfl ?_
              exact yG_w [] rfl (t_X8_house_b65 r3.2 ((-1)) res h)
            | false =>
              rw [hg6] at h
              dsimp only [cond] at h
              refine yG_f (C' := (45, [(0, .inr (.inl 8, 0)), (1, .inl (.inl x1)), (2, .inl (.inl x2))], [], r3.2)) rfl hg6 ?_
              refine yG_n (n := 11) (C' := (60, [(0, .inr (.inl 8, 0)), (1, .inl (.inl x1)), (2, .inl (.inl x2))], [.inl (.inl (ysu (yad (yad 42 (ymu 5 x1)) x2) 10)), .inr (.inr (0, 393), 1)], r3.2)) rfl ?_
              cases hg7 : yin (ysu (yad (yad 42 (ymu 5 x1)) x2) 10) 393 with
              | false => rw [hg7] at h; dsimp only [cond] at h; cases h
              | true =>
                rw [hg7] at h
                dsimp only [cond] at h
                refine yG_t (C' := (61, [(0, .inr (.inl 8, 0)), (1, .inl (.inl x1)), (2, .inl (.inl x2))], [.inl (.inl (r3.2.1 1 (ysu (yad (yad 42 (ymu 5 x1)) x2) 10).toNat))], r3.2)) rfl hg7 ?_
                refine yG_n (n := 1) (C' := (65, [(0, .inr (.inl 8, 0)), (1, .inl (.inl x1)), (2, .inl (.inl x2))], [.inl (.inl (r3.2.1 1 (ysu (yad (yad 42 (ymu 5 x1)) x2) 10).toNat))], r3.2)) rfl ?_
                exact yG_w [] rfl (t_X8_house_b65 r3.2 (r3.2.1 1 (ysu (yad (yad 42 (ymu 5 x1)) x2) 10).toNat) res h)
        | false =>
          rw [hg4] at h
          dsimp only [cond] at h
          refine yG_f (C' := (22, [(0, .inr (.inl 8, 0)), (1, .inl (.inl x1)), (2, .inl (.inl x2))], [], r2.2)) rfl hg4 ?_
          refine yG_n (n := 7) (C' := (32, [(0, .inr (.inl 8, 0)), (1, .inl (.inl x1)), (2, .inl (.inl x2))], [.inl (.inl (yad (ymu 7 x2) x1)), .inr (.inr (0, 393), 1)], r2.2)) rfl ?_
          cases hg8 : yin (yad (ymu 7 x2) x1) 393 with
          | false => rw [hg8] at h; dsimp only [cond] at h; cases h
          | true =>
            rw [hg8] at h
            dsimp only [cond] at h
            refine yG_t (C' := (33, [(0, .inr (.inl 8, 0)), (1, .inl (.inl x1)), (2, .inl (.inl x2))], [.inl (.inl (r2.2.1 1 (yad (ymu 7 x2) x1).toNat))], r2.2)) rfl hg8 ?_
            have h := Option.some.inj h
            subst h
            dsimp only
            exact yG_r rfl rfl
    | false =>
      rw [hg2] at h
      dsimp only [cond] at h
      refine yG_f (C' := (8, [(0, .inr (.inl 8, 0)), (1, .inl (.inl x1)), (2, .inl (.inl x2))], [], r1.2)) rfl hg2 ?_
      refine yG_n (n := 1) (C' := (9, [(0, .inr (.inl 8, 0)), (1, .inl (.inl x1)), (2, .inl (.inl x2))], [.inl (.inl ((-1)))], r1.2)) rfl ?_
      have h := Option.some.inj h
      subst h
      dsimp only
      exact yG_r rfl rfl
set_option maxRecDepth 100000 in
set_option maxHeartbeats 4000000 in
theorem m_X8_house {N : Nat} {X : zXT} (hX : zXok X) (hN : zXn X) (l : Launch) {sh : List yH} : yMet X vwCl yct sh l yX8_house wsX8_house { frames := 3, cells := 0, slots := 0, locals := 110 } (F_X8_house N) :=
  ymeth (tb := tb_X8_house N) (pr := pr_X8_house) (rt := 1) (own := RX8) hX (by decide +kernel) rfl rfl ⟨Nat.le_of_ble_eq_true rfl, Nat.le_of_ble_eq_true rfl⟩
    (zfl_all (List.forall_mem_cons.mpr ⟨zfl_X8 (fun w h => List.mem_cons_of_mem _ (List.mem_append_right _ h)) (List.mem_of_getElem? (i := 2) rfl) (by decide) (by decide), fun _ h => absurd h List.not_mem_nil⟩))
    (zco_all (fun _ h => absurd h List.not_mem_nil)) (zlc_all (List.forall_mem_cons.mpr ⟨(List.mem_of_getElem? (i := 1) rfl), fun _ h => absurd h List.not_mem_nil⟩))
    (List.forall_mem_cons.mpr ⟨ycal_V hX (m_X8_isHouse hX hN l) rfl (fun s args hts => cwV 1 hts gX8_house_X8_isHouse rfl rfl rfl (by decide +kernel) ⟨Nat.le_of_ble_eq_true rfl, Nat.le_of_ble_eq_true rfl⟩), List.forall_mem_cons.mpr ⟨ycal_V hX (m_X8_isDeed hX hN l) rfl (fun s args hts => cwV 1 hts gX8_house_X8_isDeed rfl rfl rfl (by decide +kernel) ⟨Nat.le_of_ble_eq_true rfl, Nat.le_of_ble_eq_true rfl⟩), fun _ h => absurd h List.not_mem_nil⟩⟩)
    (List.forall_mem_cons.mpr ⟨ycal_S hX (m_X8_in hX hN l) (fun s args hts => va_cwS 3 hts gX8_house_X8_in rfl rfl rfl (by decide +kernel) ⟨Nat.le_of_ble_eq_true rfl, Nat.le_of_ble_eq_true rfl⟩), fun _ h => absurd h List.not_mem_nil⟩)
    (zmm_all (fun _ h => absurd h List.not_mem_nil)) (fun _ h => absurd h List.not_mem_nil) (zpr_all hp_X8_house) (fun as σ res h => by
      unfold F_X8_house at h
      split at h
      · rename_i x1 x2
        cases hr : f_X8_house N σ x1 x2 with
        | none => rw [hr] at h; cases h
        | some r =>
          rw [hr] at h
          cases h
          exact ⟨Nat.le_of_ble_eq_true rfl, t_X8_house σ x1 x2 r hr⟩
      · cases h)
noncomputable def pr_X8_keepDraft : List (Nat × Instr × Nat) := [(0, .iconst 0, 1), (1, .istore_n 1, 1), (2, .iload_n 1, 1), (3, .sipush 131, 3), (6, .if_icmp .ge 21, 3), (9, .aload_n 0, 1), (10, .getfield 7, 3), (13, .iload_n 1, 1), (14, .aload_n 0, 1), (15, .getfield 23, 3), (18, .iload_n 1, 1), (19, .iaload, 1), (20, .iastore, 1), (21, .iinc 1 1, 3), (24, .goto (-22), 3), (27, .aload_n 0, 1), (28, .aload_n 0, 1), (29, .getfield 59, 3), (32, .putfield 79, 3), (35, .aload_n 0, 1), (36, .aload_n 0, 1), (37, .getfield 63, 3), (40, .putfield 82, 3), (43, .aload_n 0, 1), (44, .aload_n 0, 1), (45, .getfield 70, 3), (48, .putfield 85, 3), (51, .iconst 0, 1), (52, .istore_n 1, 1), (53, .iload_n 1, 1), (54, .aload_n 0, 1), (55, .getfield 85, 3), (58, .if_icmp .ge 21, 3), (61, .aload_n 0, 1), (62, .getfield 20, 3), (65, .iload_n 1, 1), (66, .aload_n 0, 1), (67, .getfield 26, 3), (70, .iload_n 1, 1), (71, .iaload, 1), (72, .iastore, 1), (73, .iinc 1 1, 3), (76, .goto (-23), 3), (79, .aload_n 0, 1), (80, .getfield 16, 3), (83, .iconst 0, 1), (84, .iconst 0, 1), (85, .bastore, 1), (86, .aload_n 0, 1), (87, .getfield 16, 3), (90, .iconst 1, 1), (91, .iconst 0, 1), (92, .bastore, 1), (93, .return_, 1)]
set_option maxRecDepth 100000 in
theorem hp_X8_keepDraft : pr_X8_keepDraft.all (fun x => decide (decode cX8_keepDraft x.1 = .ok x.2)) = true := by decide +kernel
noncomputable def f_X8_keepDraft_b53 (N : Nat) : Nat → yS → Int → Option (Int × yS) := yfix (fun _ _ => none) (fun ih σ x1 =>
    bif ycP .ge x1 (σ.1 0 5) then
      some (0, yw (yw σ 3 0 0) 3 1 0)
    else
      bif yin x1 5 then
        ih (yw σ 4 x1.toNat (σ.1 6 x1.toNat)) (yad x1 1)
      else none)
theorem q_X8_keepDraft_b53 (N : Nat) (n : Nat) (σ : yS) (x1 : Int) : f_X8_keepDraft_b53 N (n + 1) σ x1 =
    (bif ycP .ge x1 (σ.1 0 5) then
      some (0, yw (yw σ 3 0 0) 3 1 0)
    else
      bif yin x1 5 then
        (f_X8_keepDraft_b53 N n) (yw σ 4 x1.toNat (σ.1 6 x1.toNat)) (yad x1 1)
      else none) := rfl
noncomputable def f_X8_keepDraft_b45 (N : Nat) (σ : yS) : Option (Int × yS) :=
  f_X8_keepDraft_b53 N N (yw σ 0 5 (σ.1 0 11)) 0
noncomputable def f_X8_keepDraft_b37 (N : Nat) (σ : yS) : Option (Int × yS) :=
  bif yb1 (σ.1 0 9) then
    f_X8_keepDraft_b45 N (yw σ 0 4 (σ.1 0 9))
  else none
noncomputable def f_X8_keepDraft_b2 (N : Nat) : Nat → yS → Int → Option (Int × yS) := yfix (fun _ _ => none) (fun ih σ x1 =>
    bif ycP .ge x1 131 then
      f_X8_keepDraft_b37 N (yw σ 0 3 (σ.1 0 8))
    else
      bif yin x1 131 then
        bif yin x1 393 then
          ih (yw σ 1 x1.toNat (σ.1 5 x1.toNat)) (yad x1 1)
        else none
      else none)
theorem q_X8_keepDraft_b2 (N : Nat) (n : Nat) (σ : yS) (x1 : Int) : f_X8_keepDraft_b2 N (n + 1) σ x1 =
    (bif ycP .ge x1 131 then
      f_X8_keepDraft_b37 N (yw σ 0 3 (σ.1 0 8))
    else
      bif yin x1 131 then
        bif yin x1 393 then
          (f_X8_keepDraft_b2 N n) (yw σ 1 x1.toNat (σ.1 5 x1.toNat)) (yad x1 1)
        else none
      else none) := rfl
noncomputable def f_X8_keepDraft (N : Nat) (σ : yS) : Option (Int × yS) :=
  f_X8_keepDraft_b2 N N σ 0
noncomputable def F_X8_keepDraft (N : Nat) : yF := fun as σ => match as with
  | [.inr (.inl 8, 0)] => (f_X8_keepDraft N σ).map (fun r => (none, r.2))
  | _ => none
theorem e_X8_keepDraft {N : Nat} {σ : yS} {r : Int × yS} (h : f_X8_keepDraft N σ = some r) : F_X8_keepDraft N [.inr (.inl 8, 0)] σ = some (none, r.2) := by
  show (f_X8_keepDraft N σ).map (fun r => ((none, r.2) : yR)) = _
  rw [h]
  rfl
noncomputable def tb_X8_keepDraft (N : Nat) : yTb := ([(7, 8, 0, 3), (16, 8, 2, 3), (20, 8, 6, 3), (23, 8, 7, 3), (26, 8, 12, 3), (59, 8, 8, 0), (63, 8, 9, 1), (70, 8, 11, 0), (79, 8, 3, 0), (82, 8, 4, 1), (85, 8, 5, 0)], [], [], [], [], [], [])
abbrev G_X8_keepDraft (N : Nat) (X : zXT) (sh : List yH) (l : Launch) (rm : Room) : yC → yR → Prop := yGoes X vwCl yct sh l rm cX8_keepDraft 2 wsX8_keepDraft RX8 (tb_X8_keepDraft N) pr_X8_keepDraft 0
set_option maxRecDepth 100000 in
set_option maxHeartbeats 4000000 in
theorem t_X8_keepDraft_b53 {N : Nat} {X : zXT} {sh : List yH} {l : Launch} {rm : Room} : ∀ (n : Nat) (σ : yS) (x1 : Int) (res : Int × yS), f_X8_keepDraft_b53 N n σ x1 = some res → G_X8_keepDraft N X sh l rm (53, [(0, .inr (.inl 8, 0)), (1, .inl (.inl x1))], [], σ) (none, res.2) := by
  intro n
  induction n with
  | zero => intro σ x1 res h; exact (yno h).elim
  | succ n ih =>
    intro σ x1 res h
    rw [q_X8_keepDraft_b53] at h
    refine yG_n (n := 3) (C' := (58, [(0, .inr (.inl 8, 0)), (1, .inl (.inl x1))], [.inl (.inl (σ.1 0 5)), .inl (.inl x1)], σ)) rfl ?_
    cases hg1 : ycP .ge x1 (σ.1 0 5) with
    | true =>
      rw [hg1] at h
      dsimp only [cond] at h
      refine yG_t (C' := (79, [(0, .inr (.inl 8, 0)), (1, .inl (.inl x1))], [], σ)) rfl hg1 ?_
      refine yG_n (n := 10) (C' := (93, [(0, .inr (.inl 8, 0)), (1, .inl (.inl x1))], [], yw (yw σ 3 0 0) 3 1 0)) rfl ?_
      have h := Option.some.inj h
      subst h
      dsimp only
      exact yG_r rfl rfl
    | false =>
      rw [hg1] at h
      dsimp only [cond] at h
      refine yG_f (C' := (61, [(0, .inr (.inl 8, 0)), (1, .inl (.inl x1))], [], σ)) rfl hg1 ?_
      refine yG_n (n := 6) (C' := (71, [(0, .inr (.inl 8, 0)), (1, .inl (.inl x1))], [.inl (.inl x1), .inr (.inr (0, 5), 6), .inl (.inl x1), .inr (.inr (0, 5), 4)], σ)) rfl ?_
      cases hg2 : yin x1 5 with
      | false => rw [hg2] at h; dsimp only [cond] at h; cases h
      | true =>
        rw [hg2] at h
        dsimp only [cond] at h
        refine yG_t (C' := (72, [(0, .inr (.inl 8, 0)), (1, .inl (.inl x1))], [.inl (.inl (σ.1 6 x1.toNat)), .inl (.inl x1), .inr (.inr (0, 5), 4)], σ)) rfl hg2 ?_
        refine yG_t (C' := (73, [(0, .inr (.inl 8, 0)), (1, .inl (.inl x1))], [], yw σ 4 x1.toNat (σ.1 6 x1.toNat))) rfl hg2 ?_
        refine yG_n (n := 2) (C' := (53, [(1, .inl (.inl (yad x1 1))), (0, .inr (.inl 8, 0))], [], yw σ 4 x1.toNat (σ.1 6 x1.toNat))) rfl ?_
        exact yG_w [1, 0] rfl (ih (yw σ 4 x1.toNat (σ.1 6 x1.toNat)) (yad x1 1) res h)
set_option maxRecDepth 100000 in
set_option maxHeartbeats 4000000 in
theorem t_X8_keepDraft_b45 {N : Nat} {X : zXT} {sh : List yH} {l : Launch} {rm : Room} (σ : yS) (res : Int × yS) (h : f_X8_keepDraft_b45 N σ = some res) : G_X8_keepDraft N X sh l rm (45, [(0, .inr (.inl 8, 0))], [.inr (.inl 8, 0), .inr (.inl 8, 0)], σ) (none, res.2) := by
  unfold f_X8_keepDraft_b45 at h
  refine yG_n (n := 4) (C' := (53, [(1, .inl (.inl 0)), (0, .inr (.inl 8, 0))], [], yw σ 0 5 (σ.1 0 11))) rfl ?_
  exact yG_w [1, 0] rfl (t_X8_keepDraft_b53 N (yw σ 0 5 (σ.1 0 11)) 0 res h)
set_option maxRecDepth 100000 in
set_option maxHeartbeats 4000000 in
theorem t_X8_keepDraft_b37 {N : Nat} {X : zXT} {sh : List yH} {l : Launch} {rm : Room} (σ : yS) (res : Int × yS) (h : f_X8_keepDraft_b37 N σ = some res) : G_X8_keepDraft N X sh l rm (37, [(0, .inr (.inl 8, 0))], [.inr (.inl 8, 0), .inr (.inl 8, 0)], σ) (none, res.2) := by
  unfold f_X8_keepDraft_b37 at h
  refine yG_n (n := 1) (C' := (40, [(0, .inr (.inl 8, 0))], [.inl (.inl (σ.1 0 9)), .inr (.inl 8, 0)], σ)) rfl ?_
  cases hg3 : yb1 (σ.1 0 9) with
  | false => rw [hg3] at h; dsimp only [cond] at h; cases h
  | true =>
    rw [hg3] at h
    dsimp only [cond] at h
    refine yG_t (C' := (43, [(0, .inr (.inl 8, 0))], [], yw σ 0 4 (σ.1 0 9))) rfl hg3 ?_
    refine yG_n (n := 2) (C' := (45, [(0, .inr (.inl 8, 0))], [.inr (.inl 8, 0), .inr (.inl 8, 0)], yw σ 0 4 (σ.1 0 9))) rfl ?_
    exact t_X8_keepDraft_b45 (yw σ 0 4 (σ.1 0 9)) res h
set_option maxRecDepth 100000 in
set_option maxHeartbeats 4000000 in
theorem t_X8_keepDraft_b2 {N : Nat} {X : zXT} {sh : List yH} {l : Launch} {rm : Room} : ∀ (n : Nat) (σ : yS) (x1 : Int) (res : Int × yS), f_X8_keepDraft_b2 N n σ x1 = some res → G_X8_keepDraft N X sh l rm (2, [(0, .inr (.inl 8, 0)), (1, .inl (.inl x1))], [], σ) (none, res.2) := by
  intro n
  induction n with
  | zero => intro σ x1 res h; exact (yno h).elim
  | succ n ih =>
    intro σ x1 res h
    rw [q_X8_keepDraft_b2] at h
    refine yG_n (n := 2) (C' := (6, [(0, .inr (.inl 8, 0)), (1, .inl (.inl x1))], [.inl (.inl 131), .inl (.inl x1)], σ)) rfl ?_
    cases hg4 : ycP .ge x1 131 with
    | true =>
      rw [hg4] at h
      dsimp only [cond] at h
      refine yG_t (C' := (27, [(0, .inr (.inl 8, 0)), (1, .inl (.inl x1))], [], σ)) rfl hg4 ?_
      refine yG_n (n := 6) (C' := (37, [(0, .inr (.inl 8, 0)), (1, .inl (.inl x1))], [.inr (.inl 8, 0), .inr (.inl 8, 0)], yw σ 0 3 (σ.1 0 8))) rfl ?_
      exact yG_w [0] rfl (t_X8_keepDraft_b37 (yw σ 0 3 (σ.1 0 8)) res h)
    | false =>
      rw [hg4] at h
      dsimp only [cond] at h
      refine yG_f (C' := (9, [(0, .inr (.inl 8, 0)), (1, .inl (.inl x1))], [], σ)) rfl hg4 ?_
      refine yG_n (n := 6) (C' := (19, [(0, .inr (.inl 8, 0)), (1, .inl (.inl x1))], [.inl (.inl x1), .inr (.inr (0, 131), 5), .inl (.inl x1), .inr (.inr (0, 393), 1)], σ)) rfl ?_
      cases hg5 : yin x1 131 with
      | false => rw [hg5] at h; dsimp only [cond] at h; cases h
      | true =>
        rw [hg5] at h
        dsimp only [cond] at h
        refine yG_t (C' := (20, [(0, .inr (.inl 8, 0)), (1, .inl (.inl x1))], [.inl (.inl (σ.1 5 x1.toNat)), .inl (.inl x1), .inr (.inr (0, 393), 1)], σ)) rfl hg5 ?_
        cases hg6 : yin x1 393 with
        | false => rw [hg6] at h; dsimp only [cond] at h; cases h
        | true =>
          rw [hg6] at h
          dsimp only [cond] at h
          refine yG_t (C' := (21, [(0, .inr (.inl 8, 0)), (1, .inl (.inl x1))], [], yw σ 1 x1.toNat (σ.1 5 x1.toNat))) rfl hg6 ?_
          refine yG_n (n := 2) (C' := (2, [(1, .inl (.inl (yad x1 1))), (0, .inr (.inl 8, 0))], [], yw σ 1 x1.toNat (σ.1 5 x1.toNat))) rfl ?_
          exact yG_w [1, 0] rfl (ih (yw σ 1 x1.toNat (σ.1 5 x1.toNat)) (yad x1 1) res h)
set_option maxRecDepth 100000 in
set_option maxHeartbeats 4000000 in
theorem t_X8_keepDraft {N : Nat} {X : zXT} {sh : List yH} {l : Launch} {rm : Room} (σ : yS) (res : Int × yS) (h : f_X8_keepDraft N σ = some res) : G_X8_keepDraft N X sh l rm (0, [(0, .inr (.inl 8, 0))], [], σ) (none, res.2) := by
  unfold f_X8_keepDraft at h
  refine yG_n (n := 2) (C' := (2, [(1, .inl (.inl 0)), (0, .inr (.inl 8, 0))], [], σ)) rfl ?_
  exact yG_w [1, 0] rfl (t_X8_keepDraft_b2 N σ 0 res h)
set_option maxRecDepth 100000 in
set_option maxHeartbeats 4000000 in
theorem m_X8_keepDraft {N : Nat} {X : zXT} (hX : zXok X) (hN : zXn X) (l : Launch) {sh : List yH} : yMet X vwCl yct sh l yX8_keepDraft wsX8_keepDraft { frames := 1, cells := 0, slots := 0, locals := 64 } (F_X8_keepDraft N) :=
  ymeth (tb := tb_X8_keepDraft N) (pr := pr_X8_keepDraft) (rt := 0) (own := RX8) hX (by decide +kernel) rfl rfl ⟨Nat.le_of_ble_eq_true rfl, Nat.le_of_ble_eq_true rfl⟩
    (zfl_all (List.forall_mem_cons.mpr ⟨zfl_X8 (fun w h => List.mem_cons_of_mem _ (List.mem_append_right _ h)) (List.mem_of_getElem? (i := 1) rfl) (by decide) (by decide), List.forall_mem_cons.mpr ⟨zfl_X8 (fun w h => List.mem_cons_of_mem _ (List.mem_append_right _ h)) (List.mem_of_getElem? (i := 11) rfl) (by decide) (by decide), List.forall_mem_cons.mpr ⟨zfl_X8 (fun w h => List.mem_cons_of_mem _ (List.mem_append_right _ h)) (List.mem_of_getElem? (i := 9) rfl) (by decide) (by decide), List.forall_mem_cons.mpr ⟨zfl_X8 (fun w h => List.mem_cons_of_mem _ (List.mem_append_right _ h)) (List.mem_of_getElem? (i := 2) rfl) (by decide) (by decide), List.forall_mem_cons.mpr ⟨zfl_X8 (fun w h => List.mem_cons_of_mem _ (List.mem_append_right _ h)) (List.mem_of_getElem? (i := 10) rfl) (by decide) (by decide), List.forall_mem_cons.mpr ⟨zfl_X8 (fun w h => List.mem_cons_of_mem _ (List.mem_append_right _ h)) (List.mem_of_getElem? (i := 3) rfl) (by decide) (by decide), List.forall_mem_cons.mpr ⟨zfl_X8 (fun w h => List.mem_cons_of_mem _ (List.mem_append_right _ h)) (List.mem_of_getElem? (i := 5) rfl) (by decide) (by decide), List.forall_mem_cons.mpr ⟨zfl_X8 (fun w h => List.mem_cons_of_mem _ (List.mem_append_right _ h)) (List.mem_of_getElem? (i := 7) rfl) (by decide) (by decide), List.forall_mem_cons.mpr ⟨zfl_X8 (fun w h => List.mem_cons_of_mem _ (List.mem_append_right _ h)) (List.mem_of_getElem? (i := 4) rfl) (by decide) (by decide), List.forall_mem_cons.mpr ⟨zfl_X8 (fun w h => List.mem_cons_of_mem _ (List.mem_append_right _ h)) (List.mem_of_getElem? (i := 6) rfl) (by decide) (by decide), List.forall_mem_cons.mpr ⟨zfl_X8 (fun w h => List.mem_cons_of_mem _ (List.mem_append_right _ h)) (List.mem_of_getElem? (i := 8) rfl) (by decide) (by decide), fun _ h => absurd h List.not_mem_nil⟩⟩⟩⟩⟩⟩⟩⟩⟩⟩⟩))
    (zco_all (fun _ h => absurd h List.not_mem_nil)) (zlc_all (fun _ h => absurd h List.not_mem_nil))
    (fun _ h => absurd h List.not_mem_nil)
    (fun _ h => absurd h List.not_mem_nil)
    (zmm_all (fun _ h => absurd h List.not_mem_nil)) (fun _ h => absurd h List.not_mem_nil) (zpr_all hp_X8_keepDraft) (fun as σ res h => by
      unfold F_X8_keepDraft at h
      split at h
      · cases hr : f_X8_keepDraft N σ with
        | none => rw [hr] at h; cases h
        | some r =>
          rw [hr] at h
          cases h
          exact ⟨Nat.le_of_ble_eq_true rfl, t_X8_keepDraft σ r hr⟩
      · cases h)
noncomputable def pr_X8_is : List (Nat × Instr × Nat) := [(0, .aload_n 0, 1), (1, .getfield 106, 3), (4, .aload_n 0, 1), (5, .getfield 100, 3), (8, .isub, 1), (9, .iload_n 1, 1), (10, .if_icmp .ne 48, 3), (13, .aload_n 0, 1), (14, .aload_n 0, 1), (15, .getfield 100, 3), (18, .invokevirtual 109, 3), (21, .iload_n 2, 1), (22, .if_icmp .ne 36, 3), (25, .aload_n 0, 1), (26, .aload_n 0, 1), (27, .getfield 100, 3), (30, .iconst 1, 1), (31, .iadd, 1), (32, .invokevirtual 109, 3), (35, .iload_n 3, 1), (36, .if_icmp .ne 22, 3), (39, .aload_n 0, 1), (40, .aload_n 0, 1), (41, .getfield 100, 3), (44, .iconst 2, 1), (45, .iadd, 1), (46, .invokevirtual 109, 3), (49, .iload 4, 2), (51, .if_icmp .ne 7, 3), (54, .iconst 1, 1), (55, .goto 4, 3), (58, .iconst 0, 1), (59, .ireturn, 1)]
set_option maxRecDepth 100000 in
theorem hp_X8_is : pr_X8_is.all (fun x => decide (decode cX8_is x.1 = .ok x.2)) = true := by decide +kernel
noncomputable def f_X8_is_b59 (N : Nat) (σ : yS) (s0 : Int) : Option (Int × yS) :=
  bif yb1 s0 then some (s0, σ) else none
noncomputable def f_X8_is_b58 (N : Nat) (σ : yS) : Option (Int × yS) :=
  f_X8_is_b59 N σ 0
noncomputable def f_X8_is (N : Nat) (σ : yS) (x1 : Int) (x2 : Int) (x3 : Int) (x4 : Int) : Option (Int × yS) :=
  bif ycP .ne (ysu (σ.1 0 18) (σ.1 0 19)) x1 then
    f_X8_is_b58 N σ
  else
    match f_X8_look N σ (σ.1 0 19) with
    | none => none
    | some r1 => bif ycP .ne r1.1 x2 then
        f_X8_is_b58 N r1.2
      else
        match f_X8_look N r1.2 (yad (r1.2.1 0 19) 1) with
        | none => none
        | some r2 => bif ycP .ne r2.1 x3 then
            f_X8_is_b58 N r2.2
          else
            match f_X8_look N r2.2 (yad (r2.2.1 0 19) 2) with
            | none => none
            | some r3 => bif ycP .ne r3.1 x4 then
                f_X8_is_b58 N r3.2
              else
                f_X8_is_b59 N r3.2 1
noncomputable def F_X8_is (N : Nat) : yF := fun as σ => match as with
  | [.inr (.inl 8, 0), .inl (.inl x1), .inl (.inl x2), .inl (.inl x3), .inl (.inl x4)] => (f_X8_is N σ x1 x2 x3 x4).map (fun r => (some (.inl (.inl r.1)), r.2))
  | _ => none
theorem e_X8_is {N : Nat} {σ : yS} {x1 : Int} {x2 : Int} {x3 : Int} {x4 : Int} {r : Int × yS} (h : f_X8_is N σ x1 x2 x3 x4 = some r) : F_X8_is N [.inr (.inl 8, 0), .inl (.inl x1), .inl (.inl x2), .inl (.inl x3), .inl (.inl x4)] σ = some (some (.inl (.inl r.1)), r.2) := by
  show (f_X8_is N σ x1 x2 x3 x4).map (fun r => ((some (.inl (.inl r.1)), r.2) : yR)) = _
  rw [h]
  rfl
noncomputable def tb_X8_is (N : Nat) : yTb := ([(100, 8, 19, 0), (106, 8, 18, 0)], [], [], [(109, 2, 8, F_X8_look N)], [], [], [])
abbrev G_X8_is (N : Nat) (X : zXT) (sh : List yH) (l : Launch) (rm : Room) : yC → yR → Prop := yGoes X vwCl yct sh l rm cX8_is 5 wsX8_is RX8 (tb_X8_is N) pr_X8_is 2
set_option maxRecDepth 100000 in
set_option maxHeartbeats 4000000 in
theorem t_X8_is_b59 {N : Nat} {X : zXT} {sh : List yH} {l : Launch} {rm : Room} (σ : yS) (s0 : Int) (res : Int × yS) (h : f_X8_is_b59 N σ s0 = some res) : G_X8_is N X sh l rm (59, [], [.inl (.inl s0)], σ) (some (.inl (.inl res.1)), res.2) := by
  unfold f_X8_is_b59 at h
  cases hg1 : yb1 s0 with
  | false => rw [hg1] at h; dsimp only [cond] at h; cases h
  | true =>
    rw [hg1] at h
    dsimp only [cond] at h
    have h := Option.some.inj h
    subst h
    dsimp only
    exact yG_r rfl hg1
set_option maxRecDepth 100000 in
set_option maxHeartbeats 4000000 in
theorem t_X8_is_b58 {N : Nat} {X : zXT} {sh : List yH} {l : Launch} {rm : Room} (σ : yS) (res : Int × yS) (h : f_X8_is_b58 N σ = some res) : G_X8_is N X sh l rm (58, [], [], σ) (some (.inl (.inl res.1)), res.2) := by
  unfold f_X8_is_b58 at h
  refine yG_n (n := 1) (C' := (59, [], [.inl (.inl 0)], σ)) rfl ?_
  exact t_X8_is_b59 σ 0 res h
set_option maxRecDepth 100000 in
set_option maxHeartbeats 4000000 in
theorem t_X8_is {N : Nat} {X : zXT} {sh : List yH} {l : Launch} {rm : Room} (σ : yS) (x1 : Int) (x2 : Int) (x3 : Int) (x4 : Int) (res : Int × yS) (h : f_X8_is N σ x1 x2 x3 x4 = some res) : G_X8_is N X sh l rm (0, [(0, .inr (.inl 8, 0)), (1, .inl (.inl x1)), (2, .inl (.inl x2)), (3, .inl (.inl x3)), (4, .inl (.inl x4))], [], σ) (some (.inl (.inl res.1)), res.2) := by
  unfold f_X8_is at h
  refine yG_n (n := 6) (C' := (10, [(0, .inr (.inl 8, 0)), (1, .inl (.inl x1)), (2, .inl (.inl x2)), (3, .inl (.inl x3)), (4, .inl (.inl x4))], [.inl (.inl x1), .inl (.inl (ysu (σ.1 0 18) (σ.1 0 19)))], σ)) rfl ?_
  cases hg2 : ycP .ne (ysu (σ.1 0 18) (σ.1 0 19)) x1 with
  | true =>
    rw [hg2] at h
    dsimp only [cond] at h
    refine yG_t (C' := (58, [(0, .inr (.inl 8, 0)), (1, .inl (.inl x1)), (2, .inl (.inl x2)), (3, .inl (.inl x3)), (4, .inl (.inl x4))], [], σ)) rfl hg2 ?_
    exact yG_w [] rfl (t_X8_is_b58 σ res h)
  | false =>
    rw [hg2] at h
    dsimp only [cond] at h
    refine yG_f (C' := (13, [(0, .inr (.inl 8, 0)), (1, .inl (.inl x1)), (2, .inl (.inl x2)), (3, .inl (.inl x3)), (4, .inl (.inl x4))], [], σ)) rfl hg2 ?_
    refine yG_n (n := 3) (C' := (18, [(0, .inr (.inl 8, 0)), (1, .inl (.inl x1)), (2, .inl (.inl x2)), (3, .inl (.inl x3)), (4, .inl (.inl x4))], [.inl (.inl (σ.1 0 19)), .inr (.inl 8, 0)], σ)) rfl ?_
    cases hr3 : f_X8_look N σ (σ.1 0 19) with
    | none => rw [hr3] at h; dsimp only at h; cases h
    | some r1 =>
      rw [hr3] at h
      dsimp only at h
      refine yG_c (C1 := (21, [(0, .inr (.inl 8, 0)), (1, .inl (.inl x1)), (2, .inl (.inl x2)), (3, .inl (.inl x3)), (4, .inl (.inl x4))], [.inl (.inl r1.1)], r1.2)) rfl (e_X8_look hr3) rfl ?_
      refine yG_n (n := 1) (C' := (22, [(0, .inr (.inl 8, 0)), (1, .inl (.inl x1)), (2, .inl (.inl x2)), (3, .inl (.inl x3)), (4, .inl (.inl x4))], [.inl (.inl x2), .inl (.inl r1.1)], r1.2)) rfl ?_
      cases hg4 : ycP .ne r1.1 x2 with
      | true =>
        rw [hg4] at h
        dsimp only [cond] at h
        refine yG_t (C' := (58, [(0, .inr (.inl 8, 0)), (1, .inl (.inl x1)), (2, .inl (.inl x2)), (3, .inl (.inl x3)), (4, .inl (.inl x4))], [], r1.2)) rfl hg4 ?_
        exact yG_w [] rfl (t_X8_is_b58 r1.2 res h)
      | false =>
        rw [hg4] at h
        dsimp only [cond] at h
        refine yG_f (C' := (25, [(0, .inr (.inl 8, 0)), (1, .inl (.inl x1)), (2, .inl (.inl x2)), (3, .inl (.inl x3)), (4, .inl (.inl x4))], [], r1.2)) rfl hg4 ?_
        refine yG_n (n := 5) (C' := (32, [(0, .inr (.inl 8, 0)), (1, .inl (.inl x1)), (2, .inl (.inl x2)), (3, .inl (.inl x3)), (4, .inl (.inl x4))], [.inl (.inl (yad (r1.2.1 0 19) 1)), .inr (.inl 8, 0)], r1.2)) rfl ?_
        cases hr5 : f_X8_look N r1.2 (yad (r1.2.1 0 19) 1) with
        | none => rw [hr5] at h; dsimp only at h; cases h
        | some r2 =>
          rw [hr5] at h
          dsimp only at h
          refine yG_c (C1 := (35, [(0, .inr (.inl 8, 0)), (1, .inl (.inl x1)), (2, .inl (.inl x2)), (3, .inl (.inl x3)), (4, .inl (.inl x4))], [.inl (.inl r2.1)], r2.2)) rfl (e_X8_look hr5) rfl ?_
          refine yG_n (n := 1) (C' := (36, [(0, .inr (.inl 8, 0)), (1, .inl (.inl x1)), (2, .inl (.inl x2)), (3, .inl (.inl x3)), (4, .inl (.inl x4))], [.inl (.inl x3), .inl (.inl r2.1)], r2.2)) rfl ?_
          cases hg6 : ycP .ne r2.1 x3 with
          | true =>
            rw [hg6] at h
            dsimp only [cond] at h
            refine yG_t (C' := (58, [(0, .inr (.inl 8, 0)), (1, .inl (.inl x1)), (2, .inl (.inl x2)), (3, .inl (.inl x3)), (4, .inl (.inl x4))], [], r2.2)) rfl hg6 ?_
            exact yG_w [] rfl (t_X8_is_b58 r2.2 res h)
          | false =>
            rw [hg6] at h
            dsimp only [cond] at h
            refine yG_f (C' := (39, [(0, .inr (.inl 8, 0)), (1, .inl (.inl x1)), (2, .inl (.inl x2)), (3, .inl (.inl x3)), (4, .inl (.inl x4))], [], r2.2)) rfl hg6 ?_
            refine yG_n (n := 5) (C' := (46, [(0, .inr (.inl 8, 0)), (1, .inl (.inl x1)), (2, .inl (.inl x2)), (3, .inl (.inl x3)), (4, .inl (.inl x4))], [.inl (.inl (yad (r2.2.1 0 19) 2)), .inr (.inl 8, 0)], r2.2)) rfl ?_
            cases hr7 : f_X8_look N r2.2 (yad (r2.2.1 0 19) 2) with
            | none => rw [hr7] at h; dsimp only at h; cases h
            | some r3 =>
              rw [hr7] at h
              dsimp only at h
              refine yG_c (C1 := (49, [(0, .inr (.inl 8, 0)), (1, .inl (.inl x1)), (2, .inl (.inl x2)), (3, .inl (.inl x3)), (4, .inl (.inl x4))], [.inl (.inl r3.1)], r3.2)) rfl (e_X8_look hr7) rfl ?_
              refine yG_n (n := 1) (C' := (51, [(0, .inr (.inl 8, 0)), (1, .inl (.inl x1)), (2, .inl (.inl x2)), (3, .inl (.inl x3)), (4, .inl (.inl x4))], [.inl (.inl x4), .inl (.inl r3.1)], r3.2)) rfl ?_
              cases hg8 : ycP .ne r3.1 x4 with
              | true =>
                rw [hg8] at h
                dsimp only [cond] at h
                refine yG_t (C' := (58, [(0, .inr (.inl 8, 0)), (1, .inl (.inl x1)), (2, .inl (.inl x2)), (3, .inl (.inl x3)), (4, .inl (.inl x4))], [], r3.2)) rfl hg8 ?_
                exact yG_w [] rfl (t_X8_is_b58 r3.2 res h)
              | false =>
                rw [hg8] at h
                dsimp only [cond] at h
                refine yG_f (C' := (54, [(0, .inr (.inl 8, 0)), (1, .inl (.inl x1)), (2, .inl (.inl x2)), (3, .inl (.inl x3)), (4, .inl (.inl x4))], [], r3.2)) rfl hg8 ?_
                refine yG_n (n := 2) (C' := (59, [(0, .inr (.inl 8, 0)), (1, .inl (.inl x1)), (2, .inl (.inl x2)), (3, .inl (.inl x3)), (4, .inl (.inl x4))], [.inl (.inl 1)], r3.2)) rfl ?_
                exact yG_w [] rfl (t_X8_is_b59 r3.2 1 res h)
set_option maxRecDepth 100000 in
set_option maxHeartbeats 4000000 in
theorem m_X8_is {N : Nat} {X : zXT} (hX : zXok X) (hN : zXn X) (l : Launch) {sh : List yH} : yMet X vwCl yct sh l yX8_is wsX8_is { frames := 2, cells := 0, slots := 0, locals := 85 } (F_X8_is N) :=
  ymeth (tb := tb_X8_is N) (pr := pr_X8_is) (rt := 2) (own := RX8) hX (by decide +kernel) rfl rfl ⟨Nat.le_of_ble_eq_true rfl, Nat.le_of_ble_eq_true rfl⟩
    (zfl_all (List.forall_mem_cons.mpr ⟨zfl_X8 (fun w h => List.mem_cons_of_mem _ (List.mem_append_right _ h)) (List.mem_of_getElem? (i := 2) rfl) (by decide) (by decide), List.forall_mem_cons.mpr ⟨zfl_X8 (fun w h => List.mem_cons_of_mem _ (List.mem_append_right _ h)) (List.mem_of_getElem? (i := 1) rfl) (by decide) (by decide), fun _ h => absurd h List.not_mem_nil⟩⟩))
    (zco_all (fun _ h => absurd h List.not_mem_nil)) (zlc_all (fun _ h => absurd h List.not_mem_nil))
    (List.forall_mem_cons.mpr ⟨ycal_V hX (m_X8_look hX hN l) rfl (fun s args hts => cwV 1 hts gX8_is_X8_look rfl rfl rfl (by decide +kernel) ⟨Nat.le_of_ble_eq_true rfl, Nat.le_of_ble_eq_true rfl⟩), fun _ h => absurd h List.not_mem_nil⟩)
    (fun _ h => absurd h List.not_mem_nil)
    (zmm_all (fun _ h => absurd h List.not_mem_nil)) (fun _ h => absurd h List.not_mem_nil) (zpr_all hp_X8_is) (fun as σ res h => by
      unfold F_X8_is at h
      split at h
      · rename_i x1 x2 x3 x4
        cases hr : f_X8_is N σ x1 x2 x3 x4 with
        | none => rw [hr] at h; cases h
        | some r =>
          rw [hr] at h
          cases h
          exact ⟨Nat.le_of_ble_eq_true rfl, t_X8_is σ x1 x2 x3 x4 r hr⟩
      · cases h)
noncomputable def pr_X8_isDeep : List (Nat × Instr × Nat) := [(0, .iload_n 0, 1), (1, .i2l, 1), (2, .lconst 0, 1), (3, .ldc2_w 195, 3), (6, .invokestatic 90, 3), (9, .ifCond .ne 9, 3), (12, .iload_n 0, 1), (13, .bipush 9, 2), (15, .if_icmp .ne 7, 3), (18, .iconst 1, 1), (19, .goto 4, 3), (22, .iconst 0, 1), (23, .ireturn, 1)]
set_option maxRecDepth 100000 in
theorem hp_X8_isDeep : pr_X8_isDeep.all (fun x => decide (decode cX8_isDeep x.1 = .ok x.2)) = true := by decide +kernel
noncomputable def f_X8_isDeep_b23 (N : Nat) (σ : yS) (s0 : Int) : Option (Int × yS) :=
  bif yb1 s0 then some (s0, σ) else none
noncomputable def f_X8_isDeep_b18 (N : Nat) (σ : yS) : Option (Int × yS) :=
  f_X8_isDeep_b23 N σ 1
noncomputable def f_X8_isDeep (N : Nat) (σ : yS) (x0 : Int) : Option (Int × yS) :=
  match f_X8_in N σ x0 0 3 with
  | none => none
  | some r1 => bif ycP .ne r1.1 0 then
      f_X8_isDeep_b18 N r1.2
    else
      bif ycP .ne x0 9 then
        f_X8_isDeep_b23 N r1.2 0
      else
        f_X8_isDeep_b18 N r1.2
noncomputable def F_X8_isDeep (N : Nat) : yF := fun as σ => match as with
  | [.inl (.inl x0)] => (f_X8_isDeep N σ x0).map (fun r => (some (.inl (.inl r.1)), r.2))
  | _ => none
theorem e_X8_isDeep {N : Nat} {σ : yS} {x0 : Int} {r : Int × yS} (h : f_X8_isDeep N σ x0 = some r) : F_X8_isDeep N [.inl (.inl x0)] σ = some (some (.inl (.inl r.1)), r.2) := by
  show (f_X8_isDeep N σ x0).map (fun r => ((some (.inl (.inl r.1)), r.2) : yR)) = _
  rw [h]
  rfl
noncomputable def tb_X8_isDeep (N : Nat) : yTb := ([], [], [(195, 3)], [], [(90, 3, F_X8_in N)], [], [])
abbrev G_X8_isDeep (N : Nat) (X : zXT) (sh : List yH) (l : Launch) (rm : Room) : yC → yR → Prop := yGoes X vwCl yct sh l rm cX8_isDeep 1 wsX8_isDeep RX8 (tb_X8_isDeep N) pr_X8_isDeep 2
set_option maxRecDepth 100000 in
set_option maxHeartbeats 4000000 in
theorem t_X8_isDeep_b23 {N : Nat} {X : zXT} {sh : List yH} {l : Launch} {rm : Room} (σ : yS) (s0 : Int) (res : Int × yS) (h : f_X8_isDeep_b23 N σ s0 = some res) : G_X8_isDeep N X sh l rm (23, [], [.inl (.inl s0)], σ) (some (.inl (.inl res.1)), res.2) := by
  unfold f_X8_isDeep_b23 at h
  cases hg1 : yb1 s0 with
  | false => rw [hg1] at h; dsimp only [cond] at h; cases h
  | true =>
    rw [hg1] at h
    dsimp only [cond] at h
    have h := Option.some.inj h
    subst h
    dsimp only
    exact yG_r rfl hg1
set_option maxRecDepth 100000 in
set_option maxHeartbeats 4000000 in
theorem t_X8_isDeep_b18 {N : Nat} {X : zXT} {sh : List yH} {l : Launch} {rm : Room} (σ : yS) (res : Int × yS) (h : f_X8_isDeep_b18 N σ = some res) : G_X8_isDeep N X sh l rm (18, [], [], σ) (some (.inl (.inl res.1)), res.2) := by
  unfold f_X8_isDeep_b18 at h
  refine yG_n (n := 2) (C' := (23, [], [.inl (.inl 1)], σ)) rfl ?_
  exact t_X8_isDeep_b23 σ 1 res h
set_option maxRecDepth 100000 in
set_option maxHeartbeats 4000000 in
theorem t_X8_isDeep {N : Nat} {X : zXT} {sh : List yH} {l : Launch} {rm : Room} (σ : yS) (x0 : Int) (res : Int × yS) (h : f_X8_isDeep N σ x0 = some res) : G_X8_isDeep N X sh l rm (0, [(0, .inl (.inl x0))], [], σ) (some (.inl (.inl res.1)), res.2) := by
  unfold f_X8_isDeep at h
  refine yG_n (n := 4) (C' := (6, [(0, .inl (.inl x0))], [.inl (.inr 3), .inl (.inr 0), .inl (.inr x0)], σ)) rfl ?_
  cases hr2 : f_X8_in N σ x0 0 3 with
  | none => rw [hr2] at h; dsimp only at h; cases h
  | some r1 =>
    rw [hr2] at h
    dsimp only at h
    refine yG_c (C1 := (9, [(0, .inl (.inl x0))], [.inl (.inl r1.1)], r1.2)) rfl (e_X8_in hr2) rfl ?_
    cases hg3 : ycP .ne r1.1 0 with
    | true =>
      rw [hg3] at h
      dsimp only [cond] at h
      refine yG_t (C' := (18, [(0, .inl (.inl x0))], [], r1.2)) rfl hg3 ?_
      exact yG_w [] rfl (t_X8_isDeep_b18 r1.2 res h)
    | false =>
      rw [hg3] at h
      dsimp only [cond] at h
      refine yG_f (C' := (12, [(0, .inl (.inl x0))], [], r1.2)) rfl hg3 ?_
      refine yG_n (n := 2) (C' := (15, [(0, .inl (.inl x0))], [.inl (.inl 9), .inl (.inl x0)], r1.2)) rfl ?_
      cases hg4 : ycP .ne x0 9 with
      | true =>
        rw [hg4] at h
        dsimp only [cond] at h
        refine yG_t (C' := (22, [(0, .inl (.inl x0))], [], r1.2)) rfl hg4 ?_
        refine yG_n (n := 1) (C' := (23, [(0, .inl (.inl x0))], [.inl (.inl 0)], r1.2)) rfl ?_
        exact yG_w [] rfl (t_X8_isDeep_b23 r1.2 0 res h)
      | false =>
        rw [hg4] at h
        dsimp only [cond] at h
        refine yG_f (C' := (18, [(0, .inl (.inl x0))], [], r1.2)) rfl hg4 ?_
        exact yG_w [] rfl (t_X8_isDeep_b18 r1.2 res h)
set_option maxRecDepth 100000 in
set_option maxHeartbeats 4000000 in
theorem m_X8_isDeep {N : Nat} {X : zXT} (hX : zXok X) (hN : zXn X) (l : Launch) {sh : List yH} : yMet X vwCl yct sh l yX8_isDeep wsX8_isDeep { frames := 2, cells := 0, slots := 0, locals := 89 } (F_X8_isDeep N) :=
  ymeth (tb := tb_X8_isDeep N) (pr := pr_X8_isDeep) (rt := 2) (own := RX8) hX (by decide +kernel) rfl rfl ⟨Nat.le_of_ble_eq_true rfl, Nat.le_of_ble_eq_true rfl⟩
    (zfl_all (fun _ h => absurd h List.not_mem_nil))
    (zco_all (fun _ h => absurd h List.not_mem_nil)) (zlc_all (List.forall_mem_cons.mpr ⟨(List.mem_of_getElem? (i := 1) rfl), fun _ h => absurd h List.not_mem_nil⟩))
    (fun _ h => absurd h List.not_mem_nil)
    (List.forall_mem_cons.mpr ⟨ycal_S hX (m_X8_in hX hN l) (fun s args hts => va_cwS 3 hts gX8_isDeep_X8_in rfl rfl rfl (by decide +kernel) ⟨Nat.le_of_ble_eq_true rfl, Nat.le_of_ble_eq_true rfl⟩), fun _ h => absurd h List.not_mem_nil⟩)
    (zmm_all (fun _ h => absurd h List.not_mem_nil)) (fun _ h => absurd h List.not_mem_nil) (zpr_all hp_X8_isDeep) (fun as σ res h => by
      unfold F_X8_isDeep at h
      split at h
      · rename_i x0
        cases hr : f_X8_isDeep N σ x0 with
        | none => rw [hr] at h; cases h
        | some r =>
          rw [hr] at h
          cases h
          exact ⟨Nat.le_of_ble_eq_true rfl, t_X8_isDeep σ x0 r hr⟩
      · cases h)
noncomputable def pr_X8_isSheet : List (Nat × Instr × Nat) := [(0, .iload_n 0, 1), (1, .i2l, 1), (2, .lconst 0, 1), (3, .ldc2_w 195, 3), (6, .invokestatic 90, 3), (9, .ifCond .eq 19, 3), (12, .iload_n 1, 1), (13, .i2l, 1), (14, .lconst 0, 1), (15, .ldc2_w 321, 3), (18, .invokestatic 90, 3), (21, .ifCond .eq 7, 3), (24, .iconst 1, 1), (25, .goto 4, 3), (28, .iconst 0, 1), (29, .ireturn, 1)]
set_option maxRecDepth 100000 in
theorem hp_X8_isSheet : pr_X8_isSheet.all (fun x => decide (decode cX8_isSheet x.1 = .ok x.2)) = true := by decide +kernel
noncomputable def f_X8_isSheet_b29 (N : Nat) (σ : yS) (s0 : Int) : Option (Int × yS) :=
  bif yb1 s0 then some (s0, σ) else none
noncomputable def f_X8_isSheet_b28 (N : Nat) (σ : yS) : Option (Int × yS) :=
  f_X8_isSheet_b29 N σ 0
noncomputable def f_X8_isSheet (N : Nat) (σ : yS) (x0 : Int) (x1 : Int) : Option (Int × yS) :=
  match f_X8_in N σ x0 0 3 with
  | none => none
  | some r1 => bif ycP .eq r1.1 0 then
      f_X8_isSheet_b28 N r1.2
    else
      match f_X8_in N r1.2 x1 0 2 with
      | none => none
      | some r2 => bif ycP .eq r2.1 0 then
          f_X8_isSheet_b28 N r2.2
        else
          f_X8_isSheet_b29 N r2.2 1
noncomputable def F_X8_isSheet (N : Nat) : yF := fun as σ => match as with
  | [.inl (.inl x0), .inl (.inl x1)] => (f_X8_isSheet N σ x0 x1).map (fun r => (some (.inl (.inl r.1)), r.2))
  | _ => none
theorem e_X8_isSheet {N : Nat} {σ : yS} {x0 : Int} {x1 : Int} {r : Int × yS} (h : f_X8_isSheet N σ x0 x1 = some r) : F_X8_isSheet N [.inl (.inl x0), .inl (.inl x1)] σ = some (some (.inl (.inl r.1)), r.2) := by
  show (f_X8_isSheet N σ x0 x1).map (fun r => ((some (.inl (.inl r.1)), r.2) : yR)) = _
  rw [h]
  rfl
noncomputable def tb_X8_isSheet (N : Nat) : yTb := ([], [], [(195, 3), (321, 2)], [], [(90, 3, F_X8_in N)], [], [])
abbrev G_X8_isSheet (N : Nat) (X : zXT) (sh : List yH) (l : Launch) (rm : Room) : yC → yR → Prop := yGoes X vwCl yct sh l rm cX8_isSheet 2 wsX8_isSheet RX8 (tb_X8_isSheet N) pr_X8_isSheet 2
set_option maxRecDepth 100000 in
set_option maxHeartbeats 4000000 in
theorem t_X8_isSheet_b29 {N : Nat} {X : zXT} {sh : List yH} {l : Launch} {rm : Room} (σ : yS) (s0 : Int) (res : Int × yS) (h : f_X8_isSheet_b29 N σ s0 = some res) : G_X8_isSheet N X sh l rm (29, [], [.inl (.inl s0)], σ) (some (.inl (.inl res.1)), res.2) := by
  unfold f_X8_isSheet_b29 at h
  cases hg1 : yb1 s0 with
  | false => rw [hg1] at h; dsimp only [cond] at h; cases h
  | true =>
    rw [hg1] at h
    dsimp only [cond] at h
    have h := Option.some.inj h
    subst h
    dsimp only
    exact yG_r rfl hg1
set_option maxRecDepth 100000 in
set_option maxHeartbeats 4000000 in
theorem t_X8_isSheet_b28 {N : Nat} {X : zXT} {sh : List yH} {l : Launch} {rm : Room} (σ : yS) (res : Int × yS) (h : f_X8_isSheet_b28 N σ = some res) : G_X8_isSheet N X sh l rm (28, [], [], σ) (some (.inl (.inl res.1)), res.2) := by
  unfold f_X8_isSheet_b28 at h
  refine yG_n (n := 1) (C' := (29, [], [.inl (.inl 0)], σ)) rfl ?_
  exact t_X8_isSheet_b29 σ 0 res h
set_option maxRecDepth 100000 in
set_option maxHeartbeats 4000000 in
theorem t_X8_isSheet {N : Nat} {X : zXT} {sh : List yH} {l : Launch} {rm : Room} (σ : yS) (x0 : Int) (x1 : Int) (res : Int × yS) (h : f_X8_isSheet N σ x0 x1 = some res) : G_X8_isSheet N X sh l rm (0, [(0, .inl (.inl x0)), (1, .inl (.inl x1))], [], σ) (some (.inl (.inl res.1)), res.2) := by
  unfold f_X8_isSheet at h
  refine yG_n (n := 4) (C' := (6, [(0, .inl (.inl x0)), (1, .inl (.inl x1))], [.inl (.inr 3), .inl (.inr 0), .inl (.inr x0)], σ)) rfl ?_
  cases hr2 : f_X8_in N σ x0 0 3 with
  | none => rw [hr2] at h; dsimp only at h; cases h
  | some r1 =>
    rw [hr2] at h
    dsimp only at h
    refine yG_c (C1 := (9, [(0, .inl (.inl x0)), (1, .inl (.inl x1))], [.inl (.inl r1.1)], r1.2)) rfl (e_X8_in hr2) rfl ?_
    cases hg3 : ycP .eq r1.1 0 with
    | true =>
      rw [hg3] at h
      dsimp only [cond] at h
      refine yG_t (C' := (28, [(0, .inl (.inl x0)), (1, .inl (.inl x1))], [], r1.2)) rfl hg3 ?_
      exact yG_w [] rfl (t_X8_isSheet_b28 r1.2 res h)
    | false =>
      rw [hg3] at h
      dsimp only [cond] at h
      refine yG_f (C' := (12, [(0, .inl (.inl x0)), (1, .inl (.inl x1))], [], r1.2)) rfl hg3 ?_
      refine yG_n (n := 4) (C' := (18, [(0, .inl (.inl x0)), (1, .inl (.inl x1))], [.inl (.inr 2), .inl (.inr 0), .inl (.inr x1)], r1.2)) rfl ?_
      cases hr4 : f_X8_in N r1.2 x1 0 2 with
      | none => rw [hr4] at h; dsimp only at h; cases h
      | some r2 =>
        rw [hr4] at h
        dsimp only at h
        refine yG_c (C1 := (21, [(0, .inl (.inl x0)), (1, .inl (.inl x1))], [.inl (.inl r2.1)], r2.2)) rfl (e_X8_in hr4) rfl ?_
        cases hg5 : ycP .eq r2.1 0 with
        | true =>
          rw [hg5] at h
          dsimp only [cond] at h
          refine yG_t (C' := (28, [(0, .inl (.inl x0)), (1, .inl (.inl x1))], [], r2.2)) rfl hg5 ?_
          exact yG_w [] rfl (t_X8_isSheet_b28 r2.2 res h)
        | false =>
          rw [hg5] at h
          dsimp only [cond] at h
          refine yG_f (C' := (24, [(0, .inl (.inl x0)), (1, .inl (.inl x1))], [], r2.2)) rfl hg5 ?_
          refine yG_n (n := 2) (C' := (29, [(0, .inl (.inl x0)), (1, .inl (.inl x1))], [.inl (.inl 1)], r2.2)) rfl ?_
          exact yG_w [] rfl (t_X8_isSheet_b29 r2.2 1 res h)
set_option maxRecDepth 100000 in
set_option maxHeartbeats 4000000 in
theorem m_X8_isSheet {N : Nat} {X : zXT} (hX : zXok X) (hN : zXn X) (l : Launch) {sh : List yH} : yMet X vwCl yct sh l yX8_isSheet wsX8_isSheet { frames := 2, cells := 0, slots := 0, locals := 89 } (F_X8_isSheet N) :=
  ymeth (tb := tb_X8_isSheet N) (pr := pr_X8_isSheet) (rt := 2) (own := RX8) hX (by decide +kernel) rfl rfl ⟨Nat.le_of_ble_eq_true rfl, Nat.le_of_ble_eq_true rfl⟩
    (zfl_all (fun _ h => absurd h List.not_mem_nil))
    (zco_all (fun _ h => absurd h List.not_mem_nil)) (zlc_all (List.forall_mem_cons.mpr ⟨(List.mem_of_getElem? (i := 1) rfl), List.forall_mem_cons.mpr ⟨(List.mem_of_getElem? (i := 2) rfl), fun _ h => absurd h List.not_mem_nil⟩⟩))
    (fun _ h => absurd h List.not_mem_nil)
    (List.forall_mem_cons.mpr ⟨ycal_S hX (m_X8_in hX hN l) (fun s args hts => va_cwS 3 hts gX8_isSheet_X8_in rfl rfl rfl (by decide +kernel) ⟨Nat.le_of_ble_eq_true rfl, Nat.le_of_ble_eq_true rfl⟩), fun _ h => absurd h List.not_mem_nil⟩)
    (zmm_all (fun _ h => absurd h List.not_mem_nil)) (fun _ h => absurd h List.not_mem_nil) (zpr_all hp_X8_isSheet) (fun as σ res h => by
      unfold F_X8_isSheet at h
      split at h
      · rename_i x0 x1
        cases hr : f_X8_isSheet N σ x0 x1 with
        | none => rw [hr] at h; cases h
        | some r =>
          rw [hr] at h
          cases h
          exact ⟨Nat.le_of_ble_eq_true rfl, t_X8_isSheet σ x0 x1 r hr⟩
      · cases h)
