noncomputable def pr_X7_end : List (Nat × Instr × Nat) := [(0, .iload_n 1, 1), (1, .iconst 0, 1), (2, .aload_n 0, 1), (3, .getfield 34, 3), (6, .getfield 59, 3), (9, .invokestatic 49, 3), (12, .ifCond .ne 5, 3), (15, .iconst (-1), 1), (16, .ireturn, 1), (17, .aload_n 0, 1), (18, .getfield 34, 3), (21, .getfield 59, 3), (24, .istore_n 2, 1), (25, .aload_n 0, 1), (26, .getfield 34, 3), (29, .iload_n 1, 1), (30, .putfield 59, 3), (33, .iload_n 2, 1), (34, .ireturn, 1)]
set_option maxRecDepth 100000 in
theorem hp_X7_end : pr_X7_end.all (fun x => decide (decode cX7_end x.1 = .ok x.2)) = true := by decide +kernel
noncomputable def f_X7_end (N : Nat) (σ : yS) (x1 : Int) : Option (Int × yS) :=
  match f_X7_within N σ x1 0 (σ.1 3 0) with
  | none => none
  | some r1 => bif ycP .ne r1.1 0 then
      some (r1.2.1 3 0, yw r1.2 3 0 x1)
    else
      some ((-1), r1.2)
noncomputable def F_X7_end (N : Nat) : yF := fun as σ => match as with
  | [.inr (.inl 7, 0), .inl (.inl x1)] => (f_X7_end N σ x1).map (fun r => (some (.inl (.inl r.1)), r.2))
  | _ => none
theorem e_X7_end {N : Nat} {σ : yS} {x1 : Int} {r : Int × yS} (h : f_X7_end N σ x1 = some r) : F_X7_end N [.inr (.inl 7, 0), .inl (.inl x1)] σ = some (some (.inl (.inl r.1)), r.2) := by
  show (f_X7_end N σ x1).map (fun r => ((some (.inl (.inl r.1)), r.2) : yR)) = _
  rw [h]
  rfl
noncomputable def tb_X7_end (N : Nat) : yTb := ([(34, 7, 4, 3), (59, 3, 0, 0)], [], [], [], [(49, 3, F_X7_within N)], [], [])
abbrev G_X7_end (N : Nat) (X : zXT) (sh : List yH) (l : Launch) (rm : Room) : yC → yR → Prop := yGoes X vwCl yct sh l rm cX7_end 3 wsX7_end RX7 (tb_X7_end N) pr_X7_end 1
set_option maxRecDepth 100000 in
set_option maxHeartbeats 4000000 in
theorem t_X7_end {N : Nat} {X : zXT} {sh : List yH} {l : Launch} {rm : Room} (σ : yS) (x1 : Int) (res : Int × yS) (h : f_X7_end N σ x1 = some res) : G_X7_end N X sh l rm (0, [(0, .inr (.inl 7, 0)), (1, .inl (.inl x1))], [], σ) (some (.inl (.inl res.1)), res.2) := by
  unfold f_X7_end at h
  refine yG_n (n := 5) (C' := (9, [(0, .inr (.inl 7, 0)), (1, .inl (.inl x1))], [.inl (.inl (σ.1 3 0)), .inl (.inl 0), .inl (.inl x1)], σ)) rfl ?_
  cases hr1 : f_X7_within N σ x1 0 (σ.1 3 0) with
  | none => rw [hr1] at h; dsimp only at h; cases h
  | some r1 =>
    rw [hr1] at h
    dsimp only at h
    refine yG_c (C1 := (12, [(0, .inr (.inl 7, 0)), (1, .inl (.inl x1))], [.inl (.inl r1.1)], r1.2)) rfl (e_X7_within hr1) rfl ?_
    cases hg2 : ycP .ne r1.1 0 with
    | true =>
      rw [hg2] at h
      dsimp only [cond] at h
      refine yG_t (C' := (17, [(0, .inr (.inl 7, 0)), (1, .inl (.inl x1))], [], r1.2)) rfl hg2 ?_
      refine yG_n (n := 9) (C' := (34, [(2, .inl (.inl (r1.2.1 3 0))), (0, .inr (.inl 7, 0)), (1, .inl (.inl x1))], [.inl (.inl (r1.2.1 3 0))], yw r1.2 3 0 x1)) rfl ?_
      have h := Option.some.inj h
      subst h
      dsimp only
      exact yG_r rfl rfl
    | false =>
      rw [hg2] at h
      dsimp only [cond] at h
      refine yG_f (C' := (15, [(0, .inr (.inl 7, 0)), (1, .inl (.inl x1))], [], r1.2)) rfl hg2 ?_
      refine yG_n (n := 1) (C' := (16, [(0, .inr (.inl 7, 0)), (1, .inl (.inl x1))], [.inl (.inl ((-1)))], r1.2)) rfl ?_
      have h := Option.some.inj h
      subst h
      dsimp only
      exact yG_r rfl rfl
set_option maxRecDepth 100000 in
set_option maxHeartbeats 4000000 in
theorem m_X7_end {N : Nat} {X : zXT} (hX : zXok X) (hN : zXn X) (l : Launch) {sh : List yH} : yMet X vwCl yct sh l yX7_end wsX7_end { frames := 2, cells := 0, slots := 0, locals := 86 } (F_X7_end N) :=
  ymeth (tb := tb_X7_end N) (pr := pr_X7_end) (rt := 1) (own := RX7) hX (by decide +kernel) rfl rfl ⟨Nat.le_of_ble_eq_true rfl, Nat.le_of_ble_eq_true rfl⟩
    (zfl_all (List.forall_mem_cons.mpr ⟨zfl_X7 (fun w h => List.mem_cons_of_mem _ (List.mem_append_left _ (List.mem_append_right _ h))) (List.mem_of_getElem? (i := 1) rfl) (by decide) (by decide), List.forall_mem_cons.mpr ⟨zfl_X3 (fun w h => List.mem_cons_of_mem _ (List.mem_append_right _ h)) (List.mem_of_getElem? (i := 2) rfl) (by decide) (by decide), fun _ h => absurd h List.not_mem_nil⟩⟩))
    (zco_all (fun _ h => absurd h List.not_mem_nil)) (zlc_all (fun _ h => absurd h List.not_mem_nil))
    (fun _ h => absurd h List.not_mem_nil)
    (List.forall_mem_cons.mpr ⟨ycal_S hX (m_X7_within hX hN l) (fun s args hts => va_cwS 3 hts gX7_end_X7_within rfl rfl rfl (by decide +kernel) ⟨Nat.le_of_ble_eq_true rfl, Nat.le_of_ble_eq_true rfl⟩), fun _ h => absurd h List.not_mem_nil⟩)
    (zmm_all (fun _ h => absurd h List.not_mem_nil)) (fun _ h => absurd h List.not_mem_nil) (zpr_all hp_X7_end) (fun as σ res h => by
      unfold F_X7_end at h
      split at h
      · rename_i x1
        cases hr : f_X7_end N σ x1 with
        | none => rw [hr] at h; cases h
        | some r =>
          rw [hr] at h
          cases h
          exact ⟨Nat.le_of_ble_eq_true rfl, t_X7_end σ x1 r hr⟩
      · cases h)
noncomputable def pr_X4_shiftSet : List (Nat × Instr × Nat) := [(0, .iconst 1, 1), (1, .aload_n 0, 1), (2, .getfield 9, 3), (5, .ishl, 1), (6, .iconst 1, 1), (7, .isub, 1), (8, .istore_n 3, 1), (9, .aload_n 0, 1), (10, .getfield 61, 3), (13, .ifCond .eq 40, 3), (16, .aload_n 0, 1), (17, .getfield 9, 3), (20, .ifCond .le 33, 3), (23, .iload_n 2, 1), (24, .aload_n 0, 1), (25, .getfield 9, 3), (28, .iadd, 1), (29, .aload_n 0, 1), (30, .getfield 9, 3), (33, .irem, 1), (34, .istore 4, 2), (36, .iload_n 1, 1), (37, .iload 4, 2), (39, .ishl, 1), (40, .iload_n 1, 1), (41, .aload_n 0, 1), (42, .getfield 9, 3), (45, .iload 4, 2), (47, .isub, 1), (48, .ishr, 1), (49, .ior, 1), (50, .iload_n 3, 1), (51, .iand, 1), (52, .ireturn, 1), (53, .iload_n 2, 1), (54, .ifCond .ge 10, 3), (57, .iload_n 1, 1), (58, .iload_n 2, 1), (59, .ineg, 1), (60, .ishr, 1), (61, .goto 6, 3), (64, .iload_n 1, 1), (65, .iload_n 2, 1), (66, .ishl, 1), (67, .iload_n 3, 1), (68, .iand, 1), (69, .ireturn, 1)]
set_option maxRecDepth 100000 in
theorem hp_X4_shiftSet : pr_X4_shiftSet.all (fun x => decide (decode cX4_shiftSet x.1 = .ok x.2)) = true := by decide +kernel
noncomputable def f_X4_shiftSet_b67 (N : Nat) (σ : yS) (x3 : Int) (s0 : Int) : Option (Int × yS) :=
  some (yan s0 x3, σ)
noncomputable def f_X4_shiftSet_b53 (N : Nat) (σ : yS) (x1 : Int) (x2 : Int) (x3 : Int) : Option (Int × yS) :=
  bif ycP .ge x2 0 then
    f_X4_shiftSet_b67 N σ x3 (ysl x1 x2)
  else
    f_X4_shiftSet_b67 N σ x3 (ysr x1 (yne x2))
noncomputable def f_X4_shiftSet (N : Nat) (σ : yS) (x0 : Nat) (x1 : Int) (x2 : Int) : Option (Int × yS) :=
  bif ycP .eq (σ.1 x0 1) 0 then
    f_X4_shiftSet_b53 N σ x1 x2 (ysu (ysl 1 (σ.1 x0 0)) 1)
  else
    bif ycP .le (σ.1 x0 0) 0 then
      f_X4_shiftSet_b53 N σ x1 x2 (ysu (ysl 1 (σ.1 x0 0)) 1)
    else
      bif ynz (σ.1 x0 0) then
        some (yan (yor (ysl x1 (yrm (yad x2 (σ.1 x0 0)) (σ.1 x0 0))) (ysr x1 (ysu (σ.1 x0 0) (yrm (yad x2 (σ.1 x0 0)) (σ.1 x0 0))))) (ysu (ysl 1 (σ.1 x0 0)) 1), σ)
      else none
noncomputable def F_X4_shiftSet (N : Nat) : yF := fun as σ => match as with
  | [.inr (.inl 4, x0), .inl (.inl x1), .inl (.inl x2)] => (f_X4_shiftSet N σ x0 x1 x2).map (fun r => (some (.inl (.inl r.1)), r.2))
  | _ => none
theorem e_X4_shiftSet {N : Nat} {σ : yS} {x0 : Nat} {x1 : Int} {x2 : Int} {r : Int × yS} (h : f_X4_shiftSet N σ x0 x1 x2 = some r) : F_X4_shiftSet N [.inr (.inl 4, x0), .inl (.inl x1), .inl (.inl x2)] σ = some (some (.inl (.inl r.1)), r.2) := by
  show (f_X4_shiftSet N σ x0 x1 x2).map (fun r => ((some (.inl (.inl r.1)), r.2) : yR)) = _
  rw [h]
  rfl
noncomputable def tb_X4_shiftSet (N : Nat) : yTb := ([(9, 4, 0, 0), (61, 4, 1, 1)], [], [], [], [], [], [])
abbrev G_X4_shiftSet (N : Nat) (X : zXT) (sh : List yH) (l : Launch) (rm : Room) : yC → yR → Prop := yGoes X vwCl yct sh l rm cX4_shiftSet 5 wsX4_shiftSet RX4 (tb_X4_shiftSet N) pr_X4_shiftSet 1
set_option maxRecDepth 100000 in
set_option maxHeartbeats 4000000 in
theorem t_X4_shiftSet_b67 {N : Nat} {X : zXT} {sh : List yH} {l : Launch} {rm : Room} (σ : yS) (x3 : Int) (s0 : Int) (res : Int × yS) (h : f_X4_shiftSet_b67 N σ x3 s0 = some res) : G_X4_shiftSet N X sh l rm (67, [(3, .inl (.inl x3))], [.inl (.inl s0)], σ) (some (.inl (.inl res.1)), res.2) := by
  unfold f_X4_shiftSet_b67 at h
  refine yG_n (n := 2) (C' := (69, [(3, .inl (.inl x3))], [.inl (.inl (yan s0 x3))], σ)) rfl ?_
  have h := Option.some.inj h
  subst h
  dsimp only
  exact yG_r rfl rfl
set_option maxRecDepth 100000 in
set_option maxHeartbeats 4000000 in
theorem t_X4_shiftSet_b53 {N : Nat} {X : zXT} {sh : List yH} {l : Launch} {rm : Room} (σ : yS) (x1 : Int) (x2 : Int) (x3 : Int) (res : Int × yS) (h : f_X4_shiftSet_b53 N σ x1 x2 x3 = some res) : G_X4_shiftSet N X sh l rm (53, [(1, .inl (.inl x1)), (2, .inl (.inl x2)), (3, .inl (.inl x3))], [], σ) (some (.inl (.inl res.1)), res.2) := by
  unfold f_X4_shiftSet_b53 at h
  refine yG_n (n := 1) (C' := (54, [(1, .inl (.inl x1)), (2, .inl (.inl x2)), (3, .inl (.inl x3))], [.inl (.inl x2)], σ)) rfl ?_
  cases hg1 : ycP .ge x2 0 with
  | true =>
    rw [hg1] at h
    dsimp only [cond] at h
    refine yG_t (C' := (64, [(1, .inl (.inl x1)), (2, .inl (.inl x2)), (3, .inl (.inl x3))], [], σ)) rfl hg1 ?_
    refine yG_n (n := 3) (C' := (67, [(1, .inl (.inl x1)), (2, .inl (.inl x2)), (3, .inl (.inl x3))], [.inl (.inl (ysl x1 x2))], σ)) rfl ?_
    exact yG_w [2] rfl (t_X4_shiftSet_b67 σ x3 (ysl x1 x2) res h)
  | false =>
    rw [hg1] at h
    dsimp only [cond] at h
    refine yG_f (C' := (57, [(1, .inl (.inl x1)), (2, .inl (.inl x2)), (3, .inl (.inl x3))], [], σ)) rfl hg1 ?_
    refine yG_n (n := 5) (C' := (67, [(1, .inl (.inl x1)), (2, .inl (.inl x2)), (3, .inl (.inl x3))], [.inl (.inl (ysr x1 (yne x2)))], σ)) rfl ?_
    exact yG_w [2] rfl (t_X4_shiftSet_b67 σ x3 (ysr x1 (yne x2)) res h)
set_option maxRecDepth 100000 in
set_option maxHeartbeats 4000000 in
theorem t_X4_shiftSet {N : Nat} {X : zXT} {sh : List yH} {l : Launch} {rm : Room} (σ : yS) (x0 : Nat) (x1 : Int) (x2 : Int) (res : Int × yS) (h : f_X4_shiftSet N σ x0 x1 x2 = some res) : G_X4_shiftSet N X sh l rm (0, [(0, .inr (.inl 4, x0)), (1, .inl (.inl x1)), (2, .inl (.inl x2))], [], σ) (some (.inl (.inl res.1)), res.2) := by
  unfold f_X4_shiftSet at h
  refine yG_n (n := 9) (C' := (13, [(3, .inl (.inl (ysu (ysl 1 (σ.1 x0 0)) 1))), (0, .inr (.inl 4, x0)), (1, .inl (.inl x1)), (2, .inl (.inl x2))], [.inl (.inl (σ.1 x0 1))], σ)) rfl ?_
  cases hg2 : ycP .eq (σ.1 x0 1) 0 with
  | true =>
    rw [hg2] at h
    dsimp only [cond] at h
    refine yG_t (C' := (53, [(3, .inl (.inl (ysu (ysl 1 (σ.1 x0 0)) 1))), (0, .inr (.inl 4, x0)), (1, .inl (.inl x1)), (2, .inl (.inl x2))], [], σ)) rfl hg2 ?_
    exact yG_w [2, 3, 0] rfl (t_X4_shiftSet_b53 σ x1 x2 (ysu (ysl 1 (σ.1 x0 0)) 1) res h)
  | false =>
    rw [hg2] at h
    dsimp only [cond] at h
    refine yG_f (C' := (16, [(3, .inl (.inl (ysu (ysl 1 (σ.1 x0 0)) 1))), (0, .inr (.inl 4, x0)), (1, .inl (.inl x1)), (2, .inl (.inl x2))], [], σ)) rfl hg2 ?_
    refine yG_n (n := 2) (C' := (20, [(3, .inl (.inl (ysu (ysl 1 (σ.1 x0 0)) 1))), (0, .inr (.inl 4, x0)), (1, .inl (.inl x1)), (2, .inl (.inl x2))], [.inl (.inl (σ.1 x0 0))], σ)) rfl ?_
    cases hg3 : ycP .le (σ.1 x0 0) 0 with
    | true =>
      rw [hg3] at h
      dsimp only [cond] at h
      refine yG_t (C' := (53, [(3, .inl (.inl (ysu (ysl 1 (σ.1 x0 0)) 1))), (0, .inr (.inl 4, x0)), (1, .inl (.inl x1)), (2, .inl (.inl x2))], [], σ)) rfl hg3 ?_
      exact yG_w [2, 3, 0] rfl (t_X4_shiftSet_b53 σ x1 x2 (ysu (ysl 1 (σ.1 x0 0)) 1) res h)
    | false =>
      rw [hg3] at h
      dsimp only [cond] at h
      refine yG_f (C' := (23, [(3, .inl (.inl (ysu (ysl 1 (σ.1 x0 0)) 1))), (0, .inr (.inl 4, x0)), (1, .inl (.inl x1)), (2, .inl (.inl x2))], [], σ)) rfl hg3 ?_
      refine yG_n (n := 6) (C' := (33, [(3, .inl (.inl (ysu (ysl 1 (σ.1 x0 0)) 1))), (0, .inr (.inl 4, x0)), (1, .inl (.inl x1)), (2, .inl (.inl x2))], [.inl (.inl (σ.1 x0 0)), .inl (.inl (yad x2 (σ.1 x0 0)))], σ)) rfl ?_
      cases hg4 : ynz (σ.1 x0 0) with
      | false => rw [hg4] at h; dsimp only [cond] at h; cases h
      | true =>
        rw [hg4] at h
        dsimp only [cond] at h
        refine yG_t (C' := (34, [(3, .inl (.inl (ysu (ysl 1 (σ.1 x0 0)) 1))), (0, .inr (.inl 4, x0)), (1, .inl (.inl x1)), (2, .inl (.inl x2))], [.inl (.inl (yrm (yad x2 (σ.1 x0 0)) (σ.1 x0 0)))], σ)) rfl hg4 ?_
        refine yG_n (n := 13) (C' := (52, [(4, .inl (.inl (yrm (yad x2 (σ.1 x0 0)) (σ.1 x0 0)))), (3, .inl (.inl (ysu (ysl 1 (σ.1 x0 0)) 1))), (0, .inr (.inl 4, x0)), (1, .inl (.inl x1)), (2, .inl (.inl x2))], [.inl (.inl (yan (yor (ysl x1 (yrm (yad x2 (σ.1 x0 0)) (σ.1 x0 0))) (ysr x1 (ysu (σ.1 x0 0) (yrm (yad x2 (σ.1 x0 0)) (σ.1 x0 0))))) (ysu (ysl 1 (σ.1 x0 0)) 1)))], σ)) rfl ?_
        have h := Option.some.inj h
        subst h
        dsimp only
        exact yG_r rfl rfl
set_option maxRecDepth 100000 in
set_option maxHeartbeats 4000000 in
theorem m_X4_shiftSet {N : Nat} {X : zXT} (hX : zXok X) (hN : zXn X) (l : Launch) {sh : List yH} : yMet X vwCl yct sh l yX4_shiftSet wsX4_shiftSet { frames := 1, cells := 0, slots := 0, locals := 64 } (F_X4_shiftSet N) :=
  ymeth (tb := tb_X4_shiftSet N) (pr := pr_X4_shiftSet) (rt := 1) (own := RX4) hX (by decide +kernel) rfl rfl ⟨Nat.le_of_ble_eq_true rfl, Nat.le_of_ble_eq_true rfl⟩
    (zfl_all (List.forall_mem_cons.mpr ⟨zfl_X4 (fun w h => List.mem_cons_of_mem _ (List.mem_append_right _ h)) (List.mem_of_getElem? (i := 1) rfl) (by decide) (by decide), List.forall_mem_cons.mpr ⟨zfl_X4 (fun w h => List.mem_cons_of_mem _ (List.mem_append_right _ h)) (List.mem_of_getElem? (i := 2) rfl) (by decide) (by decide), fun _ h => absurd h List.not_mem_nil⟩⟩))
    (zco_all (fun _ h => absurd h List.not_mem_nil)) (zlc_all (fun _ h => absurd h List.not_mem_nil))
    (fun _ h => absurd h List.not_mem_nil)
    (fun _ h => absurd h List.not_mem_nil)
    (zmm_all (fun _ h => absurd h List.not_mem_nil)) (fun _ h => absurd h List.not_mem_nil) (zpr_all hp_X4_shiftSet) (fun as σ res h => by
      unfold F_X4_shiftSet at h
      split at h
      · rename_i x0 x1 x2
        cases hr : f_X4_shiftSet N σ x0 x1 x2 with
        | none => rw [hr] at h; cases h
        | some r =>
          rw [hr] at h
          cases h
          exact ⟨Nat.le_of_ble_eq_true rfl, t_X4_shiftSet σ x0 x1 x2 r hr⟩
      · cases h)
noncomputable def pr_X4_fallSet : List (Nat × Instr × Nat) := [(0, .iconst 0, 1), (1, .istore 4, 2), (3, .iconst 0, 1), (4, .istore 5, 2), (6, .iload 5, 2), (8, .iload_n 2, 1), (9, .invokestatic 108, 3), (12, .if_icmp .ge 25, 3), (15, .iload 4, 2), (17, .aload_n 0, 1), (18, .iload_n 1, 1), (19, .iload_n 2, 1), (20, .iload 5, 2), (22, .invokestatic 115, 3), (25, .invokevirtual 153, 3), (28, .ior, 1), (29, .istore 4, 2), (31, .iinc 5 1, 3), (34, .goto (-28), 3), (37, .iload 4, 2), (39, .iload_n 3, 1), (40, .iconst (-1), 1), (41, .ixor, 1), (42, .iand, 1), (43, .ireturn, 1)]
set_option maxRecDepth 100000 in
theorem hp_X4_fallSet : pr_X4_fallSet.all (fun x => decide (decode cX4_fallSet x.1 = .ok x.2)) = true := by decide +kernel
noncomputable def f_X4_fallSet_b6 (N : Nat) : Nat → yS → Nat → Int → Int → Int → Int → Int → Option (Int × yS) := yfix (fun _ _ _ _ _ _ _ => none) (fun ih σ x0 x1 x2 x3 x4 x5 =>
    match f_X4_fallsOf N σ x2 with
    | none => none
    | some r1 => bif ycP .ge x5 r1.1 then
        some (yan x4 (yxo x3 ((-1))), r1.2)
      else
        match f_X4_stepOf N r1.2 x2 x5 with
        | none => none
        | some r2 => match f_X4_shiftSet N r2.2 x0 x1 r2.1 with
          | none => none
          | some r3 => ih r3.2 x0 x1 x2 x3 (yor x4 r3.1) (yad x5 1))
theorem q_X4_fallSet_b6 (N : Nat) (n : Nat) (σ : yS) (x0 : Nat) (x1 : Int) (x2 : Int) (x3 : Int) (x4 : Int) (x5 : Int) : f_X4_fallSet_b6 N (n + 1) σ x0 x1 x2 x3 x4 x5 =
    (match f_X4_fallsOf N σ x2 with
    | none => none
    | some r1 => bif ycP .ge x5 r1.1 then
        some (yan x4 (yxo x3 ((-1))), r1.2)
      else
        match f_X4_stepOf N r1.2 x2 x5 with
        | none => none
        | some r2 => match f_X4_shiftSet N r2.2 x0 x1 r2.1 with
          | none => none
          | some r3 => (f_X4_fallSet_b6 N n) r3.2 x0 x1 x2 x3 (yor x4 r3.1) (yad x5 1)) := rfl
noncomputable def f_X4_fallSet (N : Nat) (σ : yS) (x0 : Nat) (x1 : Int) (x2 : Int) (x3 : Int) : Option (Int × yS) :=
  f_X4_fallSet_b6 N N σ x0 x1 x2 x3 0 0
noncomputable def F_X4_fallSet (N : Nat) : yF := fun as σ => match as with
  | [.inr (.inl 4, x0), .inl (.inl x1), .inl (.inl x2), .inl (.inl x3)] => (f_X4_fallSet N σ x0 x1 x2 x3).map (fun r => (some (.inl (.inl r.1)), r.2))
  | _ => none
theorem e_X4_fallSet {N : Nat} {σ : yS} {x0 : Nat} {x1 : Int} {x2 : Int} {x3 : Int} {r : Int × yS} (h : f_X4_fallSet N σ x0 x1 x2 x3 = some r) : F_X4_fallSet N [.inr (.inl 4, x0), .inl (.inl x1), .inl (.inl x2), .inl (.inl x3)] σ = some (some (.inl (.inl r.1)), r.2) := by
  show (f_X4_fallSet N σ x0 x1 x2 x3).map (fun r => ((some (.inl (.inl r.1)), r.2) : yR)) = _
  rw [h]
  rfl
noncomputable def tb_X4_fallSet (N : Nat) : yTb := ([], [], [], [(153, 3, 4, F_X4_shiftSet N)], [(108, 1, F_X4_fallsOf N), (115, 2, F_X4_stepOf N)], [], [])
abbrev G_X4_fallSet (N : Nat) (X : zXT) (sh : List yH) (l : Launch) (rm : Room) : yC → yR → Prop := yGoes X vwCl yct sh l rm cX4_fallSet 6 wsX4_fallSet RX4 (tb_X4_fallSet N) pr_X4_fallSet 1
set_option maxRecDepth 100000 in
set_option maxHeartbeats 4000000 in
theorem t_X4_fallSet_b6 {N : Nat} {X : zXT} {sh : List yH} {l : Launch} {rm : Room} : ∀ (n : Nat) (σ : yS) (x0 : Nat) (x1 : Int) (x2 : Int) (x3 : Int) (x4 : Int) (x5 : Int) (res : Int × yS), f_X4_fallSet_b6 N n σ x0 x1 x2 x3 x4 x5 = some res → G_X4_fallSet N X sh l rm (6, [(0, .inr (.inl 4, x0)), (1, .inl (.inl x1)), (2, .inl (.inl x2)), (3, .inl (.inl x3)), (4, .inl (.inl x4)), (5, .inl (.inl x5))], [], σ) (some (.inl (.inl res.1)), res.2) := by
  intro n
  induction n with
  | zero => intro σ x0 x1 x2 x3 x4 x5 res h; exact (yno h).elim
  | succ n ih =>
    intro σ x0 x1 x2 x3 x4 x5 res h
    rw [q_X4_fallSet_b6] at h
    refine yG_n (n := 2) (C' := (9, [(0, .inr (.inl 4, x0)), (1, .inl (.inl x1)), (2, .inl (.inl x2)), (3, .inl (.inl x3)), (4, .inl (.inl x4)), (5, .inl (.inl x5))], [.inl (.inl x2), .inl (.inl x5)], σ)) rfl ?_
    cases hr1 : f_X4_fallsOf N σ x2 with
    | none => rw [hr1] at h; dsimp only at h; cases h
    | some r1 =>
      rw [hr1] at h
      dsimp only at h
      refine yG_c (C1 := (12, [(0, .inr (.inl 4, x0)), (1, .inl (.inl x1)), (2, .inl (.inl x2)), (3, .inl (.inl x3)), (4, .inl (.inl x4)), (5, .inl (.inl x5))], [.inl (.inl r1.1), .inl (.inl x5)], r1.2)) rfl (e_X4_fallsOf hr1) rfl ?_
      cases hg2 : ycP .ge x5 r1.1 with
      | true =>
        rw [hg2] at h
        dsimp only [cond] at h
        refine yG_t (C' := (37, [(0, .inr (.inl 4, x0)), (1, .inl (.inl x1)), (2, .inl (.inl x2)), (3, .inl (.inl x3)), (4, .inl (.inl x4)), (5, .inl (.inl x5))], [], r1.2)) rfl hg2 ?_
        refine yG_n (n := 5) (C' := (43, [(0, .inr (.inl 4, x0)), (1, .inl (.inl x1)), (2, .inl (.inl x2)), (3, .inl (.inl x3)), (4, .inl (.inl x4)), (5, .inl (.inl x5))], [.inl (.inl (yan x4 (yxo x3 ((-1)))))], r1.2)) rfl ?_
        have h := Option.some.inj h
        subst h
        dsimp only
        exact yG_r rfl rfl
      | false =>
        rw [hg2] at h
        dsimp only [cond] at h
        refine yG_f (C' := (15, [(0, .inr (.inl 4, x0)), (1, .inl (.inl x1)), (2, .inl (.inl x2)), (3, .inl (.inl x3)), (4, .inl (.inl x4)), (5, .inl (.inl x5))], [], r1.2)) rfl hg2 ?_
        refine yG_n (n := 5) (C' := (22, [(0, .inr (.inl 4, x0)), (1, .inl (.inl x1)), (2, .inl (.inl x2)), (3, .inl (.inl x3)), (4, .inl (.inl x4)), (5, .inl (.inl x5))], [.inl (.inl x5), .inl (.inl x2), .inl (.inl x1), .inr (.inl 4, x0), .inl (.inl x4)], r1.2)) rfl ?_
        cases hr3 : f_X4_stepOf N r1.2 x2 x5 with
        | none => rw [hr3] at h; dsimp only at h; cases h
        | some r2 =>
          rw [hr3] at h
          dsimp only at h
          refine yG_c (C1 := (25, [(0, .inr (.inl 4, x0)), (1, .inl (.inl x1)), (2, .inl (.inl x2)), (3, .inl (.inl x3)), (4, .inl (.inl x4)), (5, .inl (.inl x5))], [.inl (.inl r2.1), .inl (.inl x1), .inr (.inl 4, x0), .inl (.inl x4)], r2.2)) rfl (e_X4_stepOf hr3) rfl ?_
          cases hr4 : f_X4_shiftSet N r2.2 x0 x1 r2.1 with
          | none => rw [hr4] at h; dsimp only at h; cases h
          | some r3 =>
            rw [hr4] at h
            dsimp only at h
            refine yG_c (C1 := (28, [(0, .inr (.inl 4, x0)), (1, .inl (.inl x1)), (2, .inl (.inl x2)), (3, .inl (.inl x3)), (4, .inl (.inl x4)), (5, .inl (.inl x5))], [.inl (.inl r3.1), .inl (.inl x4)], r3.2)) rfl (e_X4_shiftSet hr4) rfl ?_
            refine yG_n (n := 4) (C' := (6, [(5, .inl (.inl (yad x5 1))), (4, .inl (.inl (yor x4 r3.1))), (0, .inr (.inl 4, x0)), (1, .inl (.inl x1)), (2, .inl (.inl x2)), (3, .inl (.inl x3))], [], r3.2)) rfl ?_
            exact yG_w [2, 3, 4, 5, 1, 0] rfl (ih r3.2 x0 x1 x2 x3 (yor x4 r3.1) (yad x5 1) res h)
set_option maxRecDepth 100000 in
set_option maxHeartbeats 4000000 in
theorem t_X4_fallSet {N : Nat} {X : zXT} {sh : List yH} {l : Launch} {rm : Room} (σ : yS) (x0 : Nat) (x1 : Int) (x2 : Int) (x3 : Int) (res : Int × yS) (h : f_X4_fallSet N σ x0 x1 x2 x3 = some res) : G_X4_fallSet N X sh l rm (0, [(0, .inr (.inl 4, x0)), (1, .inl (.inl x1)), (2, .inl (.inl x2)), (3, .inl (.inl x3))], [], σ) (some (.inl (.inl res.1)), res.2) := by
  unfold f_X4_fallSet at h
  refine yG_n (n := 4) (C' := (6, [(5, .inl (.inl 0)), (4, .inl (.inl 0)), (0, .inr (.inl 4, x0)), (1, .inl (.inl x1)), (2, .inl (.inl x2)), (3, .inl (.inl x3))], [], σ)) rfl ?_
  exact yG_w [2, 3, 4, 5, 1, 0] rfl (t_X4_fallSet_b6 N σ x0 x1 x2 x3 0 0 res h)
set_option maxRecDepth 100000 in
set_option maxHeartbeats 4000000 in
theorem m_X4_fallSet {N : Nat} {X : zXT} (hX : zXok X) (hN : zXn X) (l : Launch) {sh : List yH} : yMet X vwCl yct sh l yX4_fallSet wsX4_fallSet { frames := 2, cells := 0, slots := 0, locals := 88 } (F_X4_fallSet N) :=
  ymeth (tb := tb_X4_fallSet N) (pr := pr_X4_fallSet) (rt := 1) (own := RX4) hX (by decide +kernel) rfl rfl ⟨Nat.le_of_ble_eq_true rfl, Nat.le_of_ble_eq_true rfl⟩
    (zfl_all (fun _ h => absurd h List.not_mem_nil))
    (zco_all (fun _ h => absurd h List.not_mem_nil)) (zlc_all (fun _ h => absurd h List.not_mem_nil))
    (List.forall_mem_cons.mpr ⟨ycal_V hX (m_X4_shiftSet hX hN l) rfl (fun s args hts => cwV 2 hts gX4_fallSet_X4_shiftSet rfl rfl rfl (by decide +kernel) ⟨Nat.le_of_ble_eq_true rfl, Nat.le_of_ble_eq_true rfl⟩), fun _ h => absurd h List.not_mem_nil⟩)
    (List.forall_mem_cons.mpr ⟨ycal_S hX (m_X4_fallsOf hX hN l) (fun s args hts => va_cwS 1 hts gX4_fallSet_X4_fallsOf rfl rfl rfl (by decide +kernel) ⟨Nat.le_of_ble_eq_true rfl, Nat.le_of_ble_eq_true rfl⟩), List.forall_mem_cons.mpr ⟨ycal_S hX (m_X4_stepOf hX hN l) (fun s args hts => va_cwS 2 hts gX4_fallSet_X4_stepOf rfl rfl rfl (by decide +kernel) ⟨Nat.le_of_ble_eq_true rfl, Nat.le_of_ble_eq_true rfl⟩), fun _ h => absurd h List.not_mem_nil⟩⟩)
    (zmm_all (fun _ h => absurd h List.not_mem_nil)) (fun _ h => absurd h List.not_mem_nil) (zpr_all hp_X4_fallSet) (fun as σ res h => by
      unfold F_X4_fallSet at h
      split at h
      · rename_i x0 x1 x2 x3
        cases hr : f_X4_fallSet N σ x0 x1 x2 x3 with
        | none => rw [hr] at h; cases h
        | some r =>
          rw [hr] at h
          cases h
          exact ⟨Nat.le_of_ble_eq_true rfl, t_X4_fallSet σ x0 x1 x2 x3 r hr⟩
      · cases h)
noncomputable def pr_X4_isEndless : List (Nat × Instr × Nat) := [(0, .aload_n 0, 1), (1, .getfield 40, 3), (4, .getfield 129, 3), (7, .iload_n 1, 1), (8, .iaload, 1), (9, .bipush 9, 2), (11, .if_icmp .eq 5, 3), (14, .iconst 0, 1), (15, .ireturn, 1), (16, .iconst 1, 1), (17, .aload_n 0, 1), (18, .getfield 40, 3), (21, .getfield 112, 3), (24, .iload_n 1, 1), (25, .iaload, 1), (26, .ishl, 1), (27, .istore_n 3, 1), (28, .iconst 0, 1), (29, .istore 4, 2), (31, .iload 4, 2), (33, .bipush 7, 2), (35, .if_icmp .ge 25, 3), (38, .aload_n 0, 1), (39, .iload_n 3, 1), (40, .aload_n 0, 1), (41, .getfield 40, 3), (44, .getfield 105, 3), (47, .iload_n 1, 1), (48, .iaload, 1), (49, .iload_n 2, 1), (50, .invokevirtual 156, 3), (53, .istore_n 3, 1), (54, .iinc 4 1, 3), (57, .goto (-26), 3), (60, .iload_n 3, 1), (61, .ifCond .eq 7, 3), (64, .iconst 1, 1), (65, .goto 4, 3), (68, .iconst 0, 1), (69, .ireturn, 1)]
set_option maxRecDepth 100000 in
theorem hp_X4_isEndless : pr_X4_isEndless.all (fun x => decide (decode cX4_isEndless x.1 = .ok x.2)) = true := by decide +kernel
noncomputable def f_X4_isEndless_b69 (N : Nat) (σ : yS) (s0 : Int) : Option (Int × yS) :=
  bif yb1 s0 then some (s0, σ) else none
noncomputable def f_X4_isEndless_b31 (N : Nat) : Nat → yS → Nat → Int → Int → Int → Int → Option (Int × yS) := yfix (fun _ _ _ _ _ _ => none) (fun ih σ x0 x1 x2 x3 x4 =>
    bif ycP .ge x4 7 then
      bif ycP .eq x3 0 then
        f_X4_isEndless_b69 N σ 0
      else
        f_X4_isEndless_b69 N σ 1
    else
      bif yin x1 10 then
        match f_X4_fallSet N σ x0 x3 (σ.1 (σ.2 x0 11 + 2) x1.toNat) x2 with
        | none => none
        | some r1 => ih r1.2 x0 x1 x2 r1.1 (yad x4 1)
      else none)
theorem q_X4_isEndless_b31 (N : Nat) (n : Nat) (σ : yS) (x0 : Nat) (x1 : Int) (x2 : Int) (x3 : Int) (x4 : Int) : f_X4_isEndless_b31 N (n + 1) σ x0 x1 x2 x3 x4 =
    (bif ycP .ge x4 7 then
      bif ycP .eq x3 0 then
        f_X4_isEndless_b69 N σ 0
      else
        f_X4_isEndless_b69 N σ 1
    else
      bif yin x1 10 then
        match f_X4_fallSet N σ x0 x3 (σ.1 (σ.2 x0 11 + 2) x1.toNat) x2 with
        | none => none
        | some r1 => (f_X4_isEndless_b31 N n) r1.2 x0 x1 x2 r1.1 (yad x4 1)
      else none) := rfl
noncomputable def f_X4_isEndless (N : Nat) (σ : yS) (x0 : Nat) (x1 : Int) (x2 : Int) : Option (Int × yS) :=
  bif yin x1 10 then
    bif ycP .eq (σ.1 (σ.2 x0 11 + 3) x1.toNat) 9 then
      f_X4_isEndless_b31 N N σ x0 x1 x2 (ysl 1 (σ.1 (σ.2 x0 11 + 1) x1.toNat)) 0
    else
      some (0, σ)
  else none
noncomputable def F_X4_isEndless (N : Nat) : yF := fun as σ => match as with
  | [.inr (.inl 4, x0), .inl (.inl x1), .inl (.inl x2)] => (f_X4_isEndless N σ x0 x1 x2).map (fun r => (some (.inl (.inl r.1)), r.2))
  | _ => none
theorem e_X4_isEndless {N : Nat} {σ : yS} {x0 : Nat} {x1 : Int} {x2 : Int} {r : Int × yS} (h : f_X4_isEndless N σ x0 x1 x2 = some r) : F_X4_isEndless N [.inr (.inl 4, x0), .inl (.inl x1), .inl (.inl x2)] σ = some (some (.inl (.inl r.1)), r.2) := by
  show (f_X4_isEndless N σ x0 x1 x2).map (fun r => ((some (.inl (.inl r.1)), r.2) : yR)) = _
  rw [h]
  rfl
noncomputable def tb_X4_isEndless (N : Nat) : yTb := ([(40, 4, 11, 2), (105, 5, 2, 3), (112, 5, 1, 3), (129, 5, 3, 3)], [], [], [(156, 4, 4, F_X4_fallSet N)], [], [], [])
abbrev G_X4_isEndless (N : Nat) (X : zXT) (sh : List yH) (l : Launch) (rm : Room) : yC → yR → Prop := yGoes X vwCl yct sh l rm cX4_isEndless 5 wsX4_isEndless RX4 (tb_X4_isEndless N) pr_X4_isEndless 2
set_option maxRecDepth 100000 in
set_option maxHeartbeats 4000000 in
theorem t_X4_isEndless_b69 {N : Nat} {X : zXT} {sh : List yH} {l : Launch} {rm : Room} (σ : yS) (s0 : Int) (res : Int × yS) (h : f_X4_isEndless_b69 N σ s0 = some res) : G_X4_isEndless N X sh l rm (69, [], [.inl (.inl s0)], σ) (some (.inl (.inl res.1)), res.2) := by
  unfold f_X4_isEndless_b69 at h
  cases hg1 : yb1 s0 with
  | false => rw [hg1] at h; dsimp only [cond] at h; cases h
  | true =>
    rw [hg1] at h
    dsimp only [cond] at h
    have h := Option.some.inj h
    subst h
    dsimp only
    exact yG_r rfl hg1
set_option maxRecDepth 100000 in
set_option maxHeartbeats 4000000 in
theorem t_X4_isEndless_b31 {N : Nat} {X : zXT} {sh : List yH} {l : Launch} {rm : Room} : ∀ (n : Nat) (σ : yS) (x0 : Nat) (x1 : Int) (x2 : Int) (x3 : Int) (x4 : Int) (res : Int × yS), f_X4_isEndless_b31 N n σ x0 x1 x2 x3 x4 = some res → G_X4_isEndless N X sh l rm (31, [(0, .inr (.inl 4, x0)), (1, .inl (.inl x1)), (2, .inl (.inl x2)), (3, .inl (.inl x3)), (4, .inl (.inl x4))], [], σ) (some (.inl (.inl res.1)), res.2) := by
  intro n
  induction n with
  | zero => intro σ x0 x1 x2 x3 x4 res h; exact (yno h).elim
  | succ n ih =>
    intro σ x0 x1 x2 x3 x4 res h
    rw [q_X4_isEndless_b31] at h
    refine yG_n (n := 2) (C' := (35, [(0, .inr (.inl 4, x0)), (1, .inl (.inl x1)), (2, .inl (.inl x2)), (3, .inl (.inl x3)), (4, .inl (.inl x4))], [.inl (.inl 7), .inl (.inl x4)], σ)) rfl ?_
    cases hg2 : ycP .ge x4 7 with
    | true =>
      rw [hg2] at h
      dsimp only [cond] at h
      refine yG_t (C' := (60, [(0, .inr (.inl 4, x0)), (1, .inl (.inl x1)), (2, .inl (.inl x2)), (3, .inl (.inl x3)), (4, .inl (.inl x4))], [], σ)) rfl hg2 ?_
      refine yG_n (n := 1) (C' := (61, [(0, .inr (.inl 4, x0)), (1, .inl (.inl x1)), (2, .inl (.inl x2)), (3, .inl (.inl x3)), (4, .inl (.inl x4))], [.inl (.inl x3)], σ)) rfl ?_
      cases hg3 : ycP .eq x3 0 with
      | true =>
        rw [hg3] at h
        dsimp only [cond] at h
        refine yG_t (C' := (68, [(0, .inr (.inl 4, x0)), (1, .inl (.inl x1)), (2, .inl (.inl x2)), (3, .inl (.inl x3)), (4, .inl (.inl x4))], [], σ)) rfl hg3 ?_
        refine yG_n (n := 1) (C' := (69, [(0, .inr (.inl 4, x0)), (1, .inl (.inl x1)), (2, .inl (.inl x2)), (3, .inl (.inl x3)), (4, .inl (.inl x4))], [.inl (.inl 0)], σ)) rfl ?_
        exact yG_w [] rfl (t_X4_isEndless_b69 σ 0 res h)
      | false =>
        rw [hg3] at h
        dsimp only [cond] at h
        refine yG_f (C' := (64, [(0, .inr (.inl 4, x0)), (1, .inl (.inl x1)), (2, .inl (.inl x2)), (3, .inl (.inl x3)), (4, .inl (.inl x4))], [], σ)) rfl hg3 ?_
        refine yG_n (n := 2) (C' := (69, [(0, .inr (.inl 4, x0)), (1, .inl (.inl x1)), (2, .inl (.inl x2)), (3, .inl (.inl x3)), (4, .inl (.inl x4))], [.inl (.inl 1)], σ)) rfl ?_
        exact yG_w [] rfl (t_X4_isEndless_b69 σ 1 res h)
    | false =>
      rw [hg2] at h
      dsimp only [cond] at h
      refine yG_f (C' := (38, [(0, .inr (.inl 4, x0)), (1, .inl (.inl x1)), (2, .inl (.inl x2)), (3, .inl (.inl x3)), (4, .inl (.inl x4))], [], σ)) rfl hg2 ?_
      refine yG_n (n := 6) (C' := (48, [(0, .inr (.inl 4, x0)), (1, .inl (.inl x1)), (2, .inl (.inl x2)), (3, .inl (.inl x3)), (4, .inl (.inl x4))], [.inl (.inl x1), .inr (.inr (0, 10), σ.2 x0 11 + 2), .inl (.inl x3), .inr (.inl 4, x0)], σ)) rfl ?_
      cases hg4 : yin x1 10 with
      | false => rw [hg4] at h; dsimp only [cond] at h; cases h
      | true =>
        rw [hg4] at h
        dsimp only [cond] at h
        refine yG_t (C' := (49, [(0, .inr (.inl 4, x0)), (1, .inl (.inl x1)), (2, .inl (.inl x2)), (3, .inl (.inl x3)), (4, .inl (.inl x4))], [.inl (.inl (σ.1 (σ.2 x0 11 + 2) x1.toNat)), .inl (.inl x3), .inr (.inl 4, x0)], σ)) rfl hg4 ?_
        refine yG_n (n := 1) (C' := (50, [(0, .inr (.inl 4, x0)), (1, .inl (.inl x1)), (2, .inl (.inl x2)), (3, .inl (.inl x3)), (4, .inl (.inl x4))], [.inl (.inl x2), .inl (.inl (σ.1 (σ.2 x0 11 + 2) x1.toNat)), .inl (.inl x3), .inr (.inl 4, x0)], σ)) rfl ?_
        cases hr5 : f_X4_fallSet N σ x0 x3 (σ.1 (σ.2 x0 11 + 2) x1.toNat) x2 with
        | none => rw [hr5] at h; dsimp only at h; cases h
        | some r1 =>
          rw [hr5] at h
          dsimp only at h
          refine yG_c (C1 := (53, [(0, .inr (.inl 4, x0)), (1, .inl (.inl x1)), (2, .inl (.inl x2)), (3, .inl (.inl x3)), (4, .inl (.inl x4))], [.inl (.inl r1.1)], r1.2)) rfl (e_X4_fallSet hr5) rfl ?_
          refine yG_n (n := 3) (C' := (31, [(4, .inl (.inl (yad x4 1))), (3, .inl (.inl r1.1)), (0, .inr (.inl 4, x0)), (1, .inl (.inl x1)), (2, .inl (.inl x2))], [], r1.2)) rfl ?_
          exact yG_w [2, 3, 4, 1, 0] rfl (ih r1.2 x0 x1 x2 r1.1 (yad x4 1) res h)
set_option maxRecDepth 100000 in
set_option maxHeartbeats 4000000 in
theorem t_X4_isEndless {N : Nat} {X : zXT} {sh : List yH} {l : Launch} {rm : Room} (σ : yS) (x0 : Nat) (x1 : Int) (x2 : Int) (res : Int × yS) (h : f_X4_isEndless N σ x0 x1 x2 = some res) : G_X4_isEndless N X sh l rm (0, [(0, .inr (.inl 4, x0)), (1, .inl (.inl x1)), (2, .inl (.inl x2))], [], σ) (some (.inl (.inl res.1)), res.2) := by
  unfold f_X4_isEndless at h
  refine yG_n (n := 4) (C' := (8, [(0, .inr (.inl 4, x0)), (1, .inl (.inl x1)), (2, .inl (.inl x2))], [.inl (.inl x1), .inr (.inr (0, 10), σ.2 x0 11 + 3)], σ)) rfl ?_
  cases hg6 : yin x1 10 with
  | false => rw [hg6] at h; dsimp only [cond] at h; cases h
  | true =>
    rw [hg6] at h
    dsimp only [cond] at h
    refine yG_t (C' := (9, [(0, .inr (.inl 4, x0)), (1, .inl (.inl x1)), (2, .inl (.inl x2))], [.inl (.inl (σ.1 (σ.2 x0 11 + 3) x1.toNat))], σ)) rfl hg6 ?_
    refine yG_n (n := 1) (C' := (11, [(0, .inr (.inl 4, x0)), (1, .inl (.inl x1)), (2, .inl (.inl x2))], [.inl (.inl 9), .inl (.inl (σ.1 (σ.2 x0 11 + 3) x1.toNat))], σ)) rfl ?_
    cases hg7 : ycP .eq (σ.1 (σ.2 x0 11 + 3) x1.toNat) 9 with
    | true =>
      rw [hg7] at h
      dsimp only [cond] at h
      refine yG_t (C' := (16, [(0, .inr (.inl 4, x0)), (1, .inl (.inl x1)), (2, .inl (.inl x2))], [], σ)) rfl hg7 ?_
      refine yG_n (n := 5) (C' := (25, [(0, .inr (.inl 4, x0)), (1, .inl (.inl x1)), (2, .inl (.inl x2))], [.inl (.inl x1), .inr (.inr (0, 10), σ.2 x0 11 + 1), .inl (.inl 1)], σ)) rfl ?_
      refine yG_t (C' := (26, [(0, .inr (.inl 4, x0)), (1, .inl (.inl x1)), (2, .inl (.inl x2))], [.inl (.inl (σ.1 (σ.2 x0 11 + 1) x1.toNat)), .inl (.inl 1)], σ)) rfl hg6 ?_
      refine yG_n (n := 4) (C' := (31, [(4, .inl (.inl 0)), (3, .inl (.inl (ysl 1 (σ.1 (σ.2 x0 11 + 1) x1.toNat)))), (0, .inr (.inl 4, x0)), (1, .inl (.inl x1)), (2, .inl (.inl x2))], [], σ)) rfl ?_
      exact yG_w [2, 3, 4, 1, 0] rfl (t_X4_isEndless_b31 N σ x0 x1 x2 (ysl 1 (σ.1 (σ.2 x0 11 + 1) x1.toNat)) 0 res h)
    | false =>
      rw [hg7] at h
      dsimp only [cond] at h
      refine yG_f (C' := (14, [(0, .inr (.inl 4, x0)), (1, .inl (.inl x1)), (2, .inl (.inl x2))], [], σ)) rfl hg7 ?_
      refine yG_n (n := 1) (C' := (15, [(0, .inr (.inl 4, x0)), (1, .inl (.inl x1)), (2, .inl (.inl x2))], [.inl (.inl 0)], σ)) rfl ?_
      have h := Option.some.inj h
      subst h
      dsimp only
      exact yG_r rfl rfl
set_option maxRecDepth 100000 in
set_option maxHeartbeats 4000000 in
theorem m_X4_isEndless {N : Nat} {X : zXT} (hX : zXok X) (hN : zXn X) (l : Launch) {sh : List yH} : yMet X vwCl yct sh l yX4_isEndless wsX4_isEndless { frames := 3, cells := 0, slots := 0, locals := 113 } (F_X4_isEndless N) :=
  ymeth (tb := tb_X4_isEndless N) (pr := pr_X4_isEndless) (rt := 2) (own := RX4) hX (by decide +kernel) rfl rfl ⟨Nat.le_of_ble_eq_true rfl, Nat.le_of_ble_eq_true rfl⟩
    (zfl_all (List.forall_mem_cons.mpr ⟨zfl_X4 (fun w h => List.mem_cons_of_mem _ (List.mem_append_left _ (List.mem_append_right _ h))) (List.mem_of_getElem? (i := 1) rfl) (by decide) (by decide), List.forall_mem_cons.mpr ⟨zfl_X5 (fun w h => List.mem_cons_of_mem _ (List.mem_append_right _ h)) (List.mem_of_getElem? (i := 4) rfl) (by decide) (by decide), List.forall_mem_cons.mpr ⟨zfl_X5 (fun w h => List.mem_cons_of_mem _ (List.mem_append_right _ h)) (List.mem_of_getElem? (i := 3) rfl) (by decide) (by decide), List.forall_mem_cons.mpr ⟨zfl_X5 (fun w h => List.mem_cons_of_mem _ (List.mem_append_right _ h)) (List.mem_of_getElem? (i := 2) rfl) (by decide) (by decide), fun _ h => absurd h List.not_mem_nil⟩⟩⟩⟩))
    (zco_all (fun _ h => absurd h List.not_mem_nil)) (zlc_all (fun _ h => absurd h List.not_mem_nil))
    (List.forall_mem_cons.mpr ⟨ycal_V hX (m_X4_fallSet hX hN l) rfl (fun s args hts => cwV 3 hts gX4_isEndless_X4_fallSet rfl rfl rfl (by decide +kernel) ⟨Nat.le_of_ble_eq_true rfl, Nat.le_of_ble_eq_true rfl⟩), fun _ h => absurd h List.not_mem_nil⟩)
    (fun _ h => absurd h List.not_mem_nil)
    (zmm_all (fun _ h => absurd h List.not_mem_nil)) (fun _ h => absurd h List.not_mem_nil) (zpr_all hp_X4_isEndless) (fun as σ res h => by
      unfold F_X4_isEndless at h
      split at h
      · rename_i x0 x1 x2
        cases hr : f_X4_isEndless N σ x0 x1 x2 with
        | none => rw [hr] at h; cases h
        | some r =>
          rw [hr] at h
          cases h
          exact ⟨Nat.le_of_ble_eq_true rfl, t_X4_isEndless σ x0 x1 x2 r hr⟩
      · cases h)
noncomputable def pr_X7_ever : List (Nat × Instr × Nat) := [(0, .iconst 0, 1), (1, .istore_n 1, 1), (2, .iconst 0, 1), (3, .istore_n 2, 1), (4, .iload_n 2, 1), (5, .aload_n 0, 1), (6, .getfield 10, 3), (9, .getfield 92, 3), (12, .getfield 96, 3), (15, .if_icmp .ge 30, 3), (18, .iload_n 1, 1), (19, .iload_n 2, 1), (20, .aload_n 0, 1), (21, .getfield 10, 3), (24, .iload_n 2, 1), (25, .aload_n 0, 1), (26, .getfield 10, 3), (29, .getfield 128, 3), (32, .invokevirtual 225, 3), (35, .invokestatic 170, 3), (38, .istore_n 1, 1), (39, .iinc 2 1, 3), (42, .goto (-38), 3), (45, .iload_n 1, 1), (46, .ireturn, 1)]
set_option maxRecDepth 100000 in
theorem hp_X7_ever : pr_X7_ever.all (fun x => decide (decode cX7_ever x.1 = .ok x.2)) = true := by decide +kernel
noncomputable def f_X7_ever_b4 (N : Nat) : Nat → yS → Int → Int → Option (Int × yS) := yfix (fun _ _ _ => none) (fun ih σ x1 x2 =>
    bif ycP .ge x2 (σ.1 (σ.2 17 11) 0) then
      some (x1, σ)
    else
      match f_X4_isEndless N σ 17 x2 (σ.1 17 6) with
      | none => none
      | some r1 => match f_X7_withBit N r1.2 x1 x2 r1.1 with
        | none => none
        | some r2 => ih r2.2 r2.1 (yad x2 1))
theorem q_X7_ever_b4 (N : Nat) (n : Nat) (σ : yS) (x1 : Int) (x2 : Int) : f_X7_ever_b4 N (n + 1) σ x1 x2 =
    (bif ycP .ge x2 (σ.1 (σ.2 17 11) 0) then
      some (x1, σ)
    else
      match f_X4_isEndless N σ 17 x2 (σ.1 17 6) with
      | none => none
      | some r1 => match f_X7_withBit N r1.2 x1 x2 r1.1 with
        | none => none
        | some r2 => (f_X7_ever_b4 N n) r2.2 r2.1 (yad x2 1)) := rfl
noncomputable def f_X7_ever (N : Nat) (σ : yS) : Option (Int × yS) :=
  f_X7_ever_b4 N N σ 0 0
noncomputable def F_X7_ever (N : Nat) : yF := fun as σ => match as with
  | [.inr (.inl 7, 0)] => (f_X7_ever N σ).map (fun r => (some (.inl (.inl r.1)), r.2))
  | _ => none
theorem e_X7_ever {N : Nat} {σ : yS} {r : Int × yS} (h : f_X7_ever N σ = some r) : F_X7_ever N [.inr (.inl 7, 0)] σ = some (some (.inl (.inl r.1)), r.2) := by
  show (f_X7_ever N σ).map (fun r => ((some (.inl (.inl r.1)), r.2) : yR)) = _
  rw [h]
  rfl
noncomputable def tb_X7_ever (N : Nat) : yTb := ([(10, 7, 0, 3), (92, 4, 11, 2), (96, 5, 0, 0), (128, 4, 6, 0)], [], [], [(225, 3, 4, F_X4_isEndless N)], [(170, 3, F_X7_withBit N)], [], [])
abbrev G_X7_ever (N : Nat) (X : zXT) (sh : List yH) (l : Launch) (rm : Room) : yC → yR → Prop := yGoes X vwCl yct sh l rm cX7_ever 3 wsX7_ever RX7 (tb_X7_ever N) pr_X7_ever 1
set_option maxRecDepth 100000 in
set_option maxHeartbeats 4000000 in
theorem t_X7_ever_b4 {N : Nat} {X : zXT} {sh : List yH} {l : Launch} {rm : Room} : ∀ (n : Nat) (σ : yS) (x1 : Int) (x2 : Int) (res : Int × yS), f_X7_ever_b4 N n σ x1 x2 = some res → G_X7_ever N X sh l rm (4, [(0, .inr (.inl 7, 0)), (1, .inl (.inl x1)), (2, .inl (.inl x2))], [], σ) (some (.inl (.inl res.1)), res.2) := by
  intro n
  induction n with
  | zero => intro σ x1 x2 res h; exact (yno h).elim
  | succ n ih =>
    intro σ x1 x2 res h
    rw [q_X7_ever_b4] at h
    refine yG_n (n := 5) (C' := (15, [(0, .inr (.inl 7, 0)), (1, .inl (.inl x1)), (2, .inl (.inl x2))], [.inl (.inl (σ.1 (σ.2 17 11) 0)), .inl (.inl x2)], σ)) rfl ?_
    cases hg1 : ycP .ge x2 (σ.1 (σ.2 17 11) 0) with
    | true =>
      rw [hg1] at h
      dsimp only [cond] at h
      refine yG_t (C' := (45, [(0, .inr (.inl 7, 0)), (1, .inl (.inl x1)), (2, .inl (.inl x2))], [], σ)) rfl hg1 ?_
      refine yG_n (n := 1) (C' := (46, [(0, .inr (.inl 7, 0)), (1, .inl (.inl x1)), (2, .inl (.inl x2))], [.inl (.inl x1)], σ)) rfl ?_
      have h := Option.some.inj h
      subst h
      dsimp only
      exact yG_r rfl rfl
    | false =>
      rw [hg1] at h
      dsimp only [cond] at h
      refine yG_f (C' := (18, [(0, .inr (.inl 7, 0)), (1, .inl (.inl x1)), (2, .inl (.inl x2))], [], σ)) rfl hg1 ?_
      refine yG_n (n := 8) (C' := (32, [(0, .inr (.inl 7, 0)), (1, .inl (.inl x1)), (2, .inl (.inl x2))], [.inl (.inl (σ.1 17 6)), .inl (.inl x2), .inr (.inl 4, 17), .inl (.inl x2), .inl (.inl x1)], σ)) rfl ?_
      cases hr2 : f_X4_isEndless N σ 17 x2 (σ.1 17 6) with
      | none => rw [hr2] at h; dsimp only at h; cases h
      | some r1 =>
        rw [hr2] at h
        dsimp only at h
        refine yG_c (C1 := (35, [(0, .inr (.inl 7, 0)), (1, .inl (.inl x1)), (2, .inl (.inl x2))], [.inl (.inl r1.1), .inl (.inl x2), .inl (.inl x1)], r1.2)) rfl (e_X4_isEndless hr2) rfl ?_
        cases hr3 : f_X7_withBit N r1.2 x1 x2 r1.1 with
        | none => rw [hr3] at h; dsimp only at h; cases h
        | some r2 =>
          rw [hr3] at h
          dsimp only at h
          refine yG_c (C1 := (38, [(0, .inr (.inl 7, 0)), (1, .inl (.inl x1)), (2, .inl (.inl x2))], [.inl (.inl r2.1)], r2.2)) rfl (e_X7_withBit hr3) rfl ?_
          refine yG_n (n := 3) (C' := (4, [(2, .inl (.inl (yad x2 1))), (1, .inl (.inl r2.1)), (0, .inr (.inl 7, 0))], [], r2.2)) rfl ?_
          exact yG_w [2, 1, 0] rfl (ih r2.2 r2.1 (yad x2 1) res h)
set_option maxRecDepth 100000 in
set_option maxHeartbeats 4000000 in
theorem t_X7_ever {N : Nat} {X : zXT} {sh : List yH} {l : Launch} {rm : Room} (σ : yS) (res : Int × yS) (h : f_X7_ever N σ = some res) : G_X7_ever N X sh l rm (0, [(0, .inr (.inl 7, 0))], [], σ) (some (.inl (.inl res.1)), res.2) := by
  unfold f_X7_ever at h
  refine yG_n (n := 4) (C' := (4, [(2, .inl (.inl 0)), (1, .inl (.inl 0)), (0, .inr (.inl 7, 0))], [], σ)) rfl ?_
  exact yG_w [2, 1, 0] rfl (t_X7_ever_b4 N σ 0 0 res h)
set_option maxRecDepth 100000 in
set_option maxHeartbeats 4000000 in
theorem m_X7_ever {N : Nat} {X : zXT} (hX : zXok X) (hN : zXn X) (l : Launch) {sh : List yH} : yMet X vwCl yct sh l yX7_ever wsX7_ever { frames := 4, cells := 0, slots := 0, locals := 137 } (F_X7_ever N) :=
  ymeth (tb := tb_X7_ever N) (pr := pr_X7_ever) (rt := 1) (own := RX7) hX (by decide +kernel) rfl rfl ⟨Nat.le_of_ble_eq_true rfl, Nat.le_of_ble_eq_true rfl⟩
    (zfl_all (List.forall_mem_cons.mpr ⟨zfl_X7 (fun w h => List.mem_cons_of_mem _ (List.mem_append_left _ (List.mem_append_left _ (List.mem_append_right _ h)))) (List.mem_of_getElem? (i := 1) rfl) (by decide) (by decide), List.forall_mem_cons.mpr ⟨zfl_X4 (fun w h => List.mem_cons_of_mem _ (List.mem_append_left _ (List.mem_append_right _ h))) (List.mem_of_getElem? (i := 2) rfl) (by decide) (by decide), List.forall_mem_cons.mpr ⟨zfl_X5 (fun w h => List.mem_cons_of_mem _ (List.mem_append_right _ h)) (List.mem_of_getElem? (i := 3) rfl) (by decide) (by decide), List.forall_mem_cons.mpr ⟨zfl_X4 (fun w h => List.mem_cons_of_mem _ (List.mem_append_left _ (List.mem_append_right _ h))) (List.mem_of_getElem? (i := 4) rfl) (by decide) (by decide), fun _ h => absurd h List.not_mem_nil⟩⟩⟩⟩))
    (zco_all (fun _ h => absurd h List.not_mem_nil)) (zlc_all (fun _ h => absurd h List.not_mem_nil))
    (List.forall_mem_cons.mpr ⟨ycal_V hX (m_X4_isEndless hX hN l) rfl (fun s args hts => cwV 2 hts gX7_ever_X4_isEndless rfl rfl rfl (by decide +kernel) ⟨Nat.le_of_ble_eq_true rfl, Nat.le_of_ble_eq_true rfl⟩), fun _ h => absurd h List.not_mem_nil⟩)
    (List.forall_mem_cons.mpr ⟨ycal_S hX (m_X7_withBit hX hN l) (fun s args hts => va_cwS 3 hts gX7_ever_X7_withBit rfl rfl rfl (by decide +kernel) ⟨Nat.le_of_ble_eq_true rfl, Nat.le_of_ble_eq_true rfl⟩), fun _ h => absurd h List.not_mem_nil⟩)
    (zmm_all (fun _ h => absurd h List.not_mem_nil)) (fun _ h => absurd h List.not_mem_nil) (zpr_all hp_X7_ever) (fun as σ res h => by
      unfold F_X7_ever at h
      split at h
      · cases hr : f_X7_ever N σ with
        | none => rw [hr] at h; cases h
        | some r =>
          rw [hr] at h
          cases h
          exact ⟨Nat.le_of_ble_eq_true rfl, t_X7_ever σ r hr⟩
      · cases h)
noncomputable def pr_X7_fault : List (Nat × Instr × Nat) := [(0, .aload_n 0, 1), (1, .getfield 26, 3), (4, .getfield 67, 3), (7, .ireturn, 1)]
set_option maxRecDepth 100000 in
theorem hp_X7_fault : pr_X7_fault.all (fun x => decide (decode cX7_fault x.1 = .ok x.2)) = true := by decide +kernel
noncomputable def f_X7_fault (N : Nat) (σ : yS) : Option (Int × yS) :=
  some (σ.1 2 4, σ)
noncomputable def F_X7_fault (N : Nat) : yF := fun as σ => match as with
  | [.inr (.inl 7, 0)] => (f_X7_fault N σ).map (fun r => (some (.inl (.inl r.1)), r.2))
  | _ => none
theorem e_X7_fault {N : Nat} {σ : yS} {r : Int × yS} (h : f_X7_fault N σ = some r) : F_X7_fault N [.inr (.inl 7, 0)] σ = some (some (.inl (.inl r.1)), r.2) := by
  show (f_X7_fault N σ).map (fun r => ((some (.inl (.inl r.1)), r.2) : yR)) = _
  rw [h]
  rfl
noncomputable def tb_X7_fault (N : Nat) : yTb := ([(26, 7, 3, 3), (67, 1, 4, 0)], [], [], [], [], [], [])
abbrev G_X7_fault (N : Nat) (X : zXT) (sh : List yH) (l : Launch) (rm : Room) : yC → yR → Prop := yGoes X vwCl yct sh l rm cX7_fault 1 wsX7_fault RX7 (tb_X7_fault N) pr_X7_fault 1
set_option maxRecDepth 100000 in
set_option maxHeartbeats 4000000 in
theorem t_X7_fault {N : Nat} {X : zXT} {sh : List yH} {l : Launch} {rm : Room} (σ : yS) (res : Int × yS) (h : f_X7_fault N σ = some res) : G_X7_fault N X sh l rm (0, [(0, .inr (.inl 7, 0))], [], σ) (some (.inl (.inl res.1)), res.2) := by
  unfold f_X7_fault at h
  refine yG_n (n := 3) (C' := (7, [(0, .inr (.inl 7, 0))], [.inl (.inl (σ.1 2 4))], σ)) rfl ?_
  have h := Option.some.inj h
  subst h
  dsimp only
  exact yG_r rfl rfl
set_option maxRecDepth 100000 in
set_option maxHeartbeats 4000000 in
theorem m_X7_fault {N : Nat} {X : zXT} (hX : zXok X) (hN : zXn X) (l : Launch) {sh : List yH} : yMet X vwCl yct sh l yX7_fault wsX7_fault { frames := 1, cells := 0, slots := 0, locals := 64 } (F_X7_fault N) :=
  ymeth (tb := tb_X7_fault N) (pr := pr_X7_fault) (rt := 1) (own := RX7) hX (by decide +kernel) rfl rfl ⟨Nat.le_of_ble_eq_true rfl, Nat.le_of_ble_eq_true rfl⟩
    (zfl_all (List.forall_mem_cons.mpr ⟨zfl_X7 (fun w h => List.mem_cons_of_mem _ (List.mem_append_left _ (List.mem_append_right _ h))) (List.mem_of_getElem? (i := 1) rfl) (by decide) (by decide), List.forall_mem_cons.mpr ⟨zfl_X1 (fun w h => List.mem_cons_of_mem _ (List.mem_append_right _ h)) (List.mem_of_getElem? (i := 2) rfl) (by decide) (by decide), fun _ h => absurd h List.not_mem_nil⟩⟩))
    (zco_all (fun _ h => absurd h List.not_mem_nil)) (zlc_all (fun _ h => absurd h List.not_mem_nil))
    (fun _ h => absurd h List.not_mem_nil)
    (fun _ h => absurd h List.not_mem_nil)
    (zmm_all (fun _ h => absurd h List.not_mem_nil)) (fun _ h => absurd h List.not_mem_nil) (zpr_all hp_X7_fault) (fun as σ res h => by
      unfold F_X7_fault at h
      split at h
      · cases hr : f_X7_fault N σ with
        | none => rw [hr] at h; cases h
        | some r =>
          rw [hr] at h
          cases h
          exact ⟨Nat.le_of_ble_eq_true rfl, t_X7_fault σ r hr⟩
      · cases h)
noncomputable def pr_X3_append : List (Nat × Instr × Nat) := [(0, .aload_n 0, 1), (1, .getfield 15, 3), (4, .sipush 160, 3), (7, .if_icmp .lt 5, 3), (10, .iconst 0, 1), (11, .ireturn, 1), (12, .aload_n 0, 1), (13, .getfield 9, 3), (16, .aload_n 0, 1), (17, .getfield 15, 3), (20, .iload_n 1, 1), (21, .iastore, 1), (22, .aload_n 0, 1), (23, .dup, 1), (24, .getfield 15, 3), (27, .iconst 1, 1), (28, .iadd, 1), (29, .putfield 15, 3), (32, .iconst 1, 1), (33, .ireturn, 1)]
set_option maxRecDepth 100000 in
theorem hp_X3_append : pr_X3_append.all (fun x => decide (decode cX3_append x.1 = .ok x.2)) = true := by decide +kernel
noncomputable def f_X3_append_b24 (N : Nat) (σ : yS) : Option (Int × yS) :=
  some (1, yw σ 3 0 (yad (σ.1 3 0) 1))
noncomputable def f_X3_append (N : Nat) (σ : yS) (x1 : Int) : Option (Int × yS) :=
  bif ycP .lt (σ.1 3 0) 160 then
    bif yin (σ.1 3 0) 160 then
      f_X3_append_b24 N (yw σ 4 (σ.1 3 0).toNat x1)
    else none
  else
    some (0, σ)
noncomputable def F_X3_append (N : Nat) : yF := fun as σ => match as with
  | [.inr (.inl 3, 3), .inl (.inl x1)] => (f_X3_append N σ x1).map (fun r => (some (.inl (.inl r.1)), r.2))
  | _ => none
theorem e_X3_append {N : Nat} {σ : yS} {x1 : Int} {r : Int × yS} (h : f_X3_append N σ x1 = some r) : F_X3_append N [.inr (.inl 3, 3), .inl (.inl x1)] σ = some (some (.inl (.inl r.1)), r.2) := by
  show (f_X3_append N σ x1).map (fun r => ((some (.inl (.inl r.1)), r.2) : yR)) = _
  rw [h]
  rfl
noncomputable def tb_X3_append (N : Nat) : yTb := ([(9, 3, 1, 3), (15, 3, 0, 0)], [], [], [], [], [], [])
abbrev G_X3_append (N : Nat) (X : zXT) (sh : List yH) (l : Launch) (rm : Room) : yC → yR → Prop := yGoes X vwCl yct sh l rm cX3_append 2 wsX3_append RX3 (tb_X3_append N) pr_X3_append 2
set_option maxRecDepth 100000 in
set_option maxHeartbeats 4000000 in
theorem t_X3_append_b24 {N : Nat} {X : zXT} {sh : List yH} {l : Launch} {rm : Room} (σ : yS) (res : Int × yS) (h : f_X3_append_b24 N σ = some res) : G_X3_append N X sh l rm (24, [], [.inr (.inl 3, 3), .inr (.inl 3, 3)], σ) (some (.inl (.inl res.1)), res.2) := by
  unfold f_X3_append_b24 at h
  refine yG_n (n := 5) (C' := (33, [], [.inl (.inl 1)], yw σ 3 0 (yad (σ.1 3 0) 1))) rfl ?_
  have h := Option.some.inj h
  subst h
  dsimp only
  exact yG_r rfl rfl
set_option maxRecDepth 100000 in
set_option maxHeartbeats 4000000 in
theorem t_X3_append {N : Nat} {X : zXT} {sh : List yH} {l : Launch} {rm : Room} (σ : yS) (x1 : Int) (res : Int × yS) (h : f_X3_append N σ x1 = some res) : G_X3_append N X sh l rm (0, [(0, .inr (.inl 3, 3)), (1, .inl (.inl x1))], [], σ) (some (.inl (.inl res.1)), res.2) := by
  unfold f_X3_append at h
  refine yG_n (n := 3) (C' := (7, [(0, .inr (.inl 3, 3)), (1, .inl (.inl x1))], [.inl (.inl 160), .inl (.inl (σ.1 3 0))], σ)) rfl ?_
  cases hg1 : ycP .lt (σ.1 3 0) 160 with
  | true =>
    rw [hg1] at h
    dsimp only [cond] at h
    refine yG_t (C' := (12, [(0, .inr (.inl 3, 3)), (1, .inl (.inl x1))], [], σ)) rfl hg1 ?_
    refine yG_n (n := 5) (C' := (21, [(0, .inr (.inl 3, 3)), (1, .inl (.inl x1))], [.inl (.inl x1), .inl (.inl (σ.1 3 0)), .inr (.inr (0, 160), 4)], σ)) rfl ?_
    cases hg2 : yin (σ.1 3 0) 160 with
    | false => rw [hg2] at h; dsimp only [cond] at h; cases h
    | true =>
      rw [hg2] at h
      dsimp only [cond] at h
      refine yG_t (C' := (22, [(0, .inr (.inl 3, 3)), (1, .inl (.inl x1))], [], yw σ 4 (σ.1 3 0).toNat x1)) rfl hg2 ?_
      refine yG_n (n := 2) (C' := (24, [(0, .inr (.inl 3, 3)), (1, .inl (.inl x1))], [.inr (.inl 3, 3), .inr (.inl 3, 3)], yw σ 4 (σ.1 3 0).toNat x1)) rfl ?_
      exact yG_w [] rfl (t_X3_append_b24 (yw σ 4 (σ.1 3 0).toNat x1) res h)
  | false =>
    rw [hg1] at h
    dsimp only [cond] at h
    refine yG_f (C' := (10, [(0, .inr (.inl 3, 3)), (1, .inl (.inl x1))], [], σ)) rfl hg1 ?_
    refine yG_n (n := 1) (C' := (11, [(0, .inr (.inl 3, 3)), (1, .inl (.inl x1))], [.inl (.inl 0)], σ)) rfl ?_
    have h := Option.some.inj h
    subst h
    dsimp only
    exact yG_r rfl rfl
set_option maxRecDepth 100000 in
set_option maxHeartbeats 4000000 in
theorem m_X3_append {N : Nat} {X : zXT} (hX : zXok X) (hN : zXn X) (l : Launch) {sh : List yH} : yMet X vwCl yct sh l yX3_append wsX3_append { frames := 1, cells := 0, slots := 0, locals := 64 } (F_X3_append N) :=
  ymeth (tb := tb_X3_append N) (pr := pr_X3_append) (rt := 2) (own := RX3) hX (by decide +kernel) rfl rfl ⟨Nat.le_of_ble_eq_true rfl, Nat.le_of_ble_eq_true rfl⟩
    (zfl_all (List.forall_mem_cons.mpr ⟨zfl_X3 (fun w h => List.mem_cons_of_mem _ (List.mem_append_right _ h)) (List.mem_of_getElem? (i := 2) rfl) (by decide) (by decide), List.forall_mem_cons.mpr ⟨zfl_X3 (fun w h => List.mem_cons_of_mem _ (List.mem_append_right _ h)) (List.mem_of_getElem? (i := 1) rfl) (by decide) (by decide), fun _ h => absurd h List.not_mem_nil⟩⟩))
    (zco_all (fun _ h => absurd h List.not_mem_nil)) (zlc_all (fun _ h => absurd h List.not_mem_nil))
    (fun _ h => absurd h List.not_mem_nil)
    (fun _ h => absurd h List.not_mem_nil)
    (zmm_all (fun _ h => absurd h List.not_mem_nil)) (fun _ h => absurd h List.not_mem_nil) (zpr_all hp_X3_append) (fun as σ res h => by
      unfold F_X3_append at h
      split at h
      · rename_i x1
        cases hr : f_X3_append N σ x1 with
        | none => rw [hr] at h; cases h
        | some r =>
          rw [hr] at h
          cases h
          exact ⟨Nat.le_of_ble_eq_true rfl, t_X3_append σ x1 r hr⟩
      · cases h)
noncomputable def pr_X7_feed : List (Nat × Instr × Nat) := [(0, .iload_n 1, 1), (1, .iconst 0, 1), (2, .bipush 127, 2), (4, .invokestatic 49, 3), (7, .ifCond .ne 5, 3), (10, .iconst (-1), 1), (11, .ireturn, 1), (12, .aload_n 0, 1), (13, .getfield 34, 3), (16, .iload_n 1, 1), (17, .invokevirtual 53, 3), (20, .ifCond .eq 13, 3), (23, .aload_n 0, 1), (24, .getfield 34, 3), (27, .getfield 59, 3), (30, .goto 5, 3), (33, .bipush (-3), 2), (35, .ireturn, 1)]
set_option maxRecDepth 100000 in
theorem hp_X7_feed : pr_X7_feed.all (fun x => decide (decode cX7_feed x.1 = .ok x.2)) = true := by decide +kernel
noncomputable def f_X7_feed_b35 (N : Nat) (σ : yS) (s0 : Int) : Option (Int × yS) :=
  some (s0, σ)
noncomputable def f_X7_feed (N : Nat) (σ : yS) (x1 : Int) : Option (Int × yS) :=
  match f_X7_within N σ x1 0 127 with
  | none => none
  | some r1 => bif ycP .ne r1.1 0 then
      match f_X3_append N r1.2 x1 with
      | none => none
      | some r2 => bif ycP .eq r2.1 0 then
          f_X7_feed_b35 N r2.2 ((-3))
        else
          f_X7_feed_b35 N r2.2 (r2.2.1 3 0)
    else
      some ((-1), r1.2)
noncomputable def F_X7_feed (N : Nat) : yF := fun as σ => match as with
  | [.inr (.inl 7, 0), .inl (.inl x1)] => (f_X7_feed N σ x1).map (fun r => (some (.inl (.inl r.1)), r.2))
  | _ => none
theorem e_X7_feed {N : Nat} {σ : yS} {x1 : Int} {r : Int × yS} (h : f_X7_feed N σ x1 = some r) : F_X7_feed N [.inr (.inl 7, 0), .inl (.inl x1)] σ = some (some (.inl (.inl r.1)), r.2) := by
  show (f_X7_feed N σ x1).map (fun r => ((some (.inl (.inl r.1)), r.2) : yR)) = _
  rw [h]
  rfl
noncomputable def tb_X7_feed (N : Nat) : yTb := ([(34, 7, 4, 3), (59, 3, 0, 0)], [], [], [(53, 2, 3, F_X3_append N)], [(49, 3, F_X7_within N)], [], [])
abbrev G_X7_feed (N : Nat) (X : zXT) (sh : List yH) (l : Launch) (rm : Room) : yC → yR → Prop := yGoes X vwCl yct sh l rm cX7_feed 2 wsX7_feed RX7 (tb_X7_feed N) pr_X7_feed 1
set_option maxRecDepth 100000 in
set_option maxHeartbeats 4000000 in
theorem t_X7_feed_b35 {N : Nat} {X : zXT} {sh : List yH} {l : Launch} {rm : Room} (σ : yS) (s0 : Int) (res : Int × yS) (h : f_X7_feed_b35 N σ s0 = some res) : G_X7_feed N X sh l rm (35, [], [.inl (.inl s0)], σ) (some (.inl (.inl res.1)), res.2) := by
  unfold f_X7_feed_b35 at h
  have h := Option.some.inj h
  subst h
  dsimp only
  exact yG_r rfl rfl
set_option maxRecDepth 100000 in
set_option maxHeartbeats 4000000 in
theorem t_X7_feed {N : Nat} {X : zXT} {sh : List yH} {l : Launch} {rm : Room} (σ : yS) (x1 : Int) (res : Int × yS) (h : f_X7_feed N σ x1 = some res) : G_X7_feed N X sh l rm (0, [(0, .inr (.inl 7, 0)), (1, .inl (.inl x1))], [], σ) (some (.inl (.inl res.1)), res.2) := by
  unfold f_X7_feed at h
  refine yG_n (n := 3) (C' := (4, [(0, .inr (.inl 7, 0)), (1, .inl (.inl x1))], [.inl (.inl 127), .inl (.inl 0), .inl (.inl x1)], σ)) rfl ?_
  cases hr1 : f_X7_within N σ x1 0 127 with
  | none => rw [hr1] at h; dsimp only at h; cases h
  | some r1 =>
    rw [hr1] at h
    dsimp only at h
    refine yG_c (C1 := (7, [(0, .inr (.inl 7, 0)), (1, .inl (.inl x1))], [.inl (.inl r1.1)], r1.2)) rfl (e_X7_within hr1) rfl ?_
    cases hg2 : ycP .ne r1.1 0 with
    | true =>
      rw [hg2] at h
      dsimp only [cond] at h
      refine yG_t (C' := (12, [(0, .inr (.inl 7, 0)), (1, .inl (.inl x1))], [], r1.2)) rfl hg2 ?_
      refine yG_n (n := 3) (C' := (17, [(0, .inr (.inl 7, 0)), (1, .inl (.inl x1))], [.inl (.inl x1), .inr (.inl 3, 3)], r1.2)) rfl ?_
      cases hr3 : f_X3_append N r1.2 x1 with
      | none => rw [hr3] at h; dsimp only at h; cases h
      | some r2 =>
        rw [hr3] at h
        dsimp only at h
        refine yG_c (C1 := (20, [(0, .inr (.inl 7, 0)), (1, .inl (.inl x1))], [.inl (.inl r2.1)], r2.2)) rfl (e_X3_append hr3) rfl ?_
        cases hg4 : ycP .eq r2.1 0 with
        | true =>
          rw [hg4] at h
          dsimp only [cond] at h
          refine yG_t (C' := (33, [(0, .inr (.inl 7, 0)), (1, .inl (.inl x1))], [], r2.2)) rfl hg4 ?_
          refine yG_n (n := 1) (C' := (35, [(0, .inr (.inl 7, 0)), (1, .inl (.inl x1))], [.inl (.inl ((-3)))], r2.2)) rfl ?_
          exact yG_w [] rfl (t_X7_feed_b35 r2.2 ((-3)) res h)
        | false =>
          rw [hg4] at h
          dsimp only [cond] at h
          refine yG_f (C' := (23, [(0, .inr (.inl 7, 0)), (1, .inl (.inl x1))], [], r2.2)) rfl hg4 ?_
          refine yG_n (n := 4) (C' := (35, [(0, .inr (.inl 7, 0)), (1, .inl (.inl x1))], [.inl (.inl (r2.2.1 3 0))], r2.2)) rfl ?_
          exact yG_w [] rfl (t_X7_feed_b35 r2.2 (r2.2.1 3 0) res h)
    | false =>
      rw [hg2] at h
      dsimp only [cond] at h
      refine yG_f (C' := (10, [(0, .inr (.inl 7, 0)), (1, .inl (.inl x1))], [], r1.2)) rfl hg2 ?_
      refine yG_n (n := 1) (C' := (11, [(0, .inr (.inl 7, 0)), (1, .inl (.inl x1))], [.inl (.inl ((-1)))], r1.2)) rfl ?_
      have h := Option.some.inj h
      subst h
      dsimp only
      exact yG_r rfl rfl
set_option maxRecDepth 100000 in
set_option maxHeartbeats 4000000 in
theorem m_X7_feed {N : Nat} {X : zXT} (hX : zXok X) (hN : zXn X) (l : Launch) {sh : List yH} : yMet X vwCl yct sh l yX7_feed wsX7_feed { frames := 2, cells := 0, slots := 0, locals := 86 } (F_X7_feed N) :=
  ymeth (tb := tb_X7_feed N) (pr := pr_X7_feed) (rt := 1) (own := RX7) hX (by decide +kernel) rfl rfl ⟨Nat.le_of_ble_eq_true rfl, Nat.le_of_ble_eq_true rfl⟩
    (zfl_all (List.forall_mem_cons.mpr ⟨zfl_X7 (fun w h => List.mem_cons_of_mem _ (List.mem_append_left _ (List.mem_append_right _ h))) (List.mem_of_getElem? (i := 1) rfl) (by decide) (by decide), List.forall_mem_cons.mpr ⟨zfl_X3 (fun w h => List.mem_cons_of_mem _ (List.mem_append_right _ h)) (List.mem_of_getElem? (i := 2) rfl) (by decide) (by decide), fun _ h => absurd h List.not_mem_nil⟩⟩))
    (zco_all (fun _ h => absurd h List.not_mem_nil)) (zlc_all (fun _ h => absurd h List.not_mem_nil))
    (List.forall_mem_cons.mpr ⟨ycal_V hX (m_X3_append hX hN l) rfl (fun s args hts => cwV 1 hts gX7_feed_X3_append rfl rfl rfl (by decide +kernel) ⟨Nat.le_of_ble_eq_true rfl, Nat.le_of_ble_eq_true rfl⟩), fun _ h => absurd h List.not_mem_nil⟩)
    (List.forall_mem_cons.mpr ⟨ycal_S hX (m_X7_within hX hN l) (fun s args hts => va_cwS 3 hts gX7_feed_X7_within rfl rfl rfl (by decide +kernel) ⟨Nat.le_of_ble_eq_true rfl, Nat.le_of_ble_eq_true rfl⟩), fun _ h => absurd h List.not_mem_nil⟩)
    (zmm_all (fun _ h => absurd h List.not_mem_nil)) (fun _ h => absurd h List.not_mem_nil) (zpr_all hp_X7_feed) (fun as σ res h => by
      unfold F_X7_feed at h
      split at h
      · rename_i x1
        cases hr : f_X7_feed N σ x1 with
        | none => rw [hr] at h; cases h
        | some r =>
          rw [hr] at h
          cases h
          exact ⟨Nat.le_of_ble_eq_true rfl, t_X7_feed σ x1 r hr⟩
      · cases h)
noncomputable def pr_X7_fund : List (Nat × Instr × Nat) := [(0, .aload_n 0, 1), (1, .getfield 10, 3), (4, .iload_n 1, 1), (5, .invokevirtual 118, 3), (8, .ifCond .eq 13, 3), (11, .iload_n 2, 1), (12, .iconst 0, 1), (13, .bipush 99, 2), (15, .invokestatic 49, 3), (18, .ifCond .ne 5, 3), (21, .iconst (-1), 1), (22, .ireturn, 1), (23, .aload_n 0, 1), (24, .getfield 10, 3), (27, .getfield 121, 3), (30, .iload_n 1, 1), (31, .iaload, 1), (32, .istore_n 3, 1), (33, .aload_n 0, 1), (34, .getfield 10, 3), (37, .getfield 121, 3), (40, .iload_n 1, 1), (41, .iload_n 2, 1), (42, .iastore, 1), (43, .iload_n 3, 1), (44, .ireturn, 1)]
set_option maxRecDepth 100000 in
theorem hp_X7_fund : pr_X7_fund.all (fun x => decide (decode cX7_fund x.1 = .ok x.2)) = true := by decide +kernel
noncomputable def f_X7_fund_b21 (N : Nat) (σ : yS) : Option (Int × yS) :=
  some ((-1), σ)
noncomputable def f_X7_fund (N : Nat) (σ : yS) (x1 : Int) (x2 : Int) : Option (Int × yS) :=
  match f_X4_isHouse N σ 17 x1 with
  | none => none
  | some r1 => bif ycP .eq r1.1 0 then
      f_X7_fund_b21 N r1.2
    else
      match f_X7_within N r1.2 x2 0 99 with
      | none => none
      | some r2 => bif ycP .ne r2.1 0 then
          bif yin x1 7 then
            some (r2.2.1 19 x1.toNat, yw r2.2 19 x1.toNat x2)
          else none
        else
          f_X7_fund_b21 N r2.2
noncomputable def F_X7_fund (N : Nat) : yF := fun as σ => match as with
  | [.inr (.inl 7, 0), .inl (.inl x1), .inl (.inl x2)] => (f_X7_fund N σ x1 x2).map (fun r => (some (.inl (.inl r.1)), r.2))
  | _ => none
theorem e_X7_fund {N : Nat} {σ : yS} {x1 : Int} {x2 : Int} {r : Int × yS} (h : f_X7_fund N σ x1 x2 = some r) : F_X7_fund N [.inr (.inl 7, 0), .inl (.inl x1), .inl (.inl x2)] σ = some (some (.inl (.inl r.1)), r.2) := by
  show (f_X7_fund N σ x1 x2).map (fun r => ((some (.inl (.inl r.1)), r.2) : yR)) = _
  rw [h]
  rfl
noncomputable def tb_X7_fund (N : Nat) : yTb := ([(10, 7, 0, 3), (121, 4, 4, 3)], [], [], [(118, 2, 4, F_X4_isHouse N)], [(49, 3, F_X7_within N)], [], [])
abbrev G_X7_fund (N : Nat) (X : zXT) (sh : List yH) (l : Launch) (rm : Room) : yC → yR → Prop := yGoes X vwCl yct sh l rm cX7_fund 4 wsX7_fund RX7 (tb_X7_fund N) pr_X7_fund 1
set_option maxRecDepth 100000 in
set_option maxHeartbeats 4000000 in
theorem t_X7_fund_b21 {N : Nat} {X : zXT} {sh : List yH} {l : Launch} {rm : Room} (σ : yS) (res : Int × yS) (h : f_X7_fund_b21 N σ = some res) : G_X7_fund N X sh l rm (21, [], [], σ) (some (.inl (.inl res.1)), res.2) := by
  unfold f_X7_fund_b21 at h
  refine yG_n (n := 1) (C' := (22, [], [.inl (.inl ((-1)))], σ)) rfl ?_
  have h := Option.some.inj h
  subst h
  dsimp only
  exact yG_r rfl rfl
set_option maxRecDepth 100000 in
set_option maxHeartbeats 4000000 in
theorem t_X7_fund {N : Nat} {X : zXT} {sh : List yH} {l : Launch} {rm : Room} (σ : yS) (x1 : Int) (x2 : Int) (res : Int × yS) (h : f_X7_fund N σ x1 x2 = some res) : G_X7_fund N X sh l rm (0, [(0, .inr (.inl 7, 0)), (1, .inl (.inl x1)), (2, .inl (.inl x2))], [], σ) (some (.inl (.inl res.1)), res.2) := by
  unfold f_X7_fund at h
  refine yG_n (n := 3) (C' := (5, [(0, .inr (.inl 7, 0)), (1, .inl (.inl x1)), (2, .inl (.inl x2))], [.inl (.inl x1), .inr (.inl 4, 17)], σ)) rfl ?_
  cases hr1 : f_X4_isHouse N σ 17 x1 with
  | none => rw [hr1] at h; dsimp only at h; cases h
  | some r1 =>
    rw [hr1] at h
    dsimp only at h
    refine yG_c (C1 := (8, [(0, .inr (.inl 7, 0)), (1, .inl (.inl x1)), (2, .inl (.inl x2))], [.inl (.inl r1.1)], r1.2)) rfl (e_X4_isHouse hr1) rfl ?_
    cases hg2 : ycP .eq r1.1 0 with
    | true =>
      rw [hg2] at h
      dsimp only [cond] at h
      refine yG_t (C' := (21, [(0, .inr (.inl 7, 0)), (1, .inl (.inl x1)), (2, .inl (.inl x2))], [], r1.2)) rfl hg2 ?_
      exact yG_w [] rfl (t_X7_fund_b21 r1.2 res h)
    | false =>
      rw [hg2] at h
      dsimp only [cond] at h
      refine yG_f (C' := (11, [(0, .inr (.inl 7, 0)), (1, .inl (.inl x1)), (2, .inl (.inl x2))], [], r1.2)) rfl hg2 ?_
      refine yG_n (n := 3) (C' := (15, [(0, .inr (.inl 7, 0)), (1, .inl (.inl x1)), (2, .inl (.inl x2))], [.inl (.inl 99), .inl (.inl 0), .inl (.inl x2)], r1.2)) rfl ?_
      cases hr3 : f_X7_within N r1.2 x2 0 99 with
      | none => rw [hr3] at h; dsimp only at h; cases h
      | some r2 =>
        rw [hr3] at h
        dsimp only at h
        refine yG_c (C1 := (18, [(0, .inr (.inl 7, 0)), (1, .inl (.inl x1)), (2, .inl (.inl x2))], [.inl (.inl r2.1)], r2.2)) rfl (e_X7_within hr3) rfl ?_
        cases hg4 : ycP .ne r2.1 0 with
        | true =>
          rw [hg4] at h
          dsimp only [cond] at h
          refine yG_t (C' := (23, [(0, .inr (.inl 7, 0)), (1, .inl (.inl x1)), (2, .inl (.inl x2))], [], r2.2)) rfl hg4 ?_
          refine yG_n (n := 4) (C' := (31, [(0, .inr (.inl 7, 0)), (1, .inl (.inl x1)), (2, .inl (.inl x2))], [.inl (.inl x1), .inr (.inr (0, 7), 19)], r2.2)) rfl ?_
          cases hg5 : yin x1 7 with
          | false => rw [hg5] at h; dsimp only [cond] at h; cases h
          | true =>
            rw [hg5] at h
            dsimp only [cond] at h
            refine yG_t (C' := (32, [(0, .inr (.inl 7, 0)), (1, .inl (.inl x1)), (2, .inl (.inl x2))], [.inl (.inl (r2.2.1 19 x1.toNat))], r2.2)) rfl hg5 ?_
            refine yG_n (n := 6) (C' := (42, [(3, .inl (.inl (r2.2.1 19 x1.toNat))), (0, .inr (.inl 7, 0)), (1, .inl (.inl x1)), (2, .inl (.inl x2))], [.inl (.inl x2), .inl (.inl x1), .inr (.inr (0, 7), 19)], r2.2)) rfl ?_
            refine yG_t (C' := (43, [(3, .inl (.inl (r2.2.1 19 x1.toNat))), (0, .inr (.inl 7, 0)), (1, .inl (.inl x1)), (2, .inl (.inl x2))], [], yw r2.2 19 x1.toNat x2)) rfl hg5 ?_
            refine yG_n (n := 1) (C' := (44, [(3, .inl (.inl (r2.2.1 19 x1.toNat))), (0, .inr (.inl 7, 0)), (1, .inl (.inl x1)), (2, .inl (.inl x2))], [.inl (.inl (r2.2.1 19 x1.toNat))], yw r2.2 19 x1.toNat x2)) rfl ?_
            have h := Option.some.inj h
            subst h
            dsimp only
            exact yG_r rfl rfl
        | false =>
          rw [hg4] at h
          dsimp only [cond] at h
          refine yG_f (C' := (21, [(0, .inr (.inl 7, 0)), (1, .inl (.inl x1)), (2, .inl (.inl x2))], [], r2.2)) rfl hg4 ?_
          exact yG_w [] rfl (t_X7_fund_b21 r2.2 res h)
set_option maxRecDepth 100000 in
set_option maxHeartbeats 4000000 in
theorem m_X7_fund {N : Nat} {X : zXT} (hX : zXok X) (hN : zXn X) (l : Launch) {sh : List yH} : yMet X vwCl yct sh l yX7_fund wsX7_fund { frames := 3, cells := 0, slots := 0, locals := 107 } (F_X7_fund N) :=
  ymeth (tb := tb_X7_fund N) (pr := pr_X7_fund) (rt := 1) (own := RX7) hX (by decide +kernel) rfl rfl ⟨Nat.le_of_ble_eq_true rfl, Nat.le_of_ble_eq_true rfl⟩
    (zfl_all (List.forall_mem_cons.mpr ⟨zfl_X7 (fun w h => List.mem_cons_of_mem _ (List.mem_append_left _ (List.mem_append_right _ h))) (List.mem_of_getElem? (i := 1) rfl) (by decide) (by decide), List.forall_mem_cons.mpr ⟨zfl_X4 (fun w h => List.mem_cons_of_mem _ (List.mem_append_right _ h)) (List.mem_of_getElem? (i := 2) rfl) (by decide) (by decide), fun _ h => absurd h List.not_mem_nil⟩⟩))
    (zco_all (fun _ h => absurd h List.not_mem_nil)) (zlc_all (fun _ h => absurd h List.not_mem_nil))
    (List.forall_mem_cons.mpr ⟨ycal_V hX (m_X4_isHouse hX hN l) rfl (fun s args hts => cwV 1 hts gX7_fund_X4_isHouse rfl rfl rfl (by decide +kernel) ⟨Nat.le_of_ble_eq_true rfl, Nat.le_of_ble_eq_true rfl⟩), fun _ h => absurd h List.not_mem_nil⟩)
    (List.forall_mem_cons.mpr ⟨ycal_S hX (m_X7_within hX hN l) (fun s args hts => va_cwS 3 hts gX7_fund_X7_within rfl rfl rfl (by decide +kernel) ⟨Nat.le_of_ble_eq_true rfl, Nat.le_of_ble_eq_true rfl⟩), fun _ h => absurd h List.not_mem_nil⟩)
    (zmm_all (fun _ h => absurd h List.not_mem_nil)) (fun _ h => absurd h List.not_mem_nil) (zpr_all hp_X7_fund) (fun as σ res h => by
      unfold F_X7_fund at h
      split at h
      · rename_i x1 x2
        cases hr : f_X7_fund N σ x1 x2 with
        | none => rw [hr] at h; cases h
        | some r =>
          rw [hr] at h
          cases h
          exact ⟨Nat.le_of_ble_eq_true rfl, t_X7_fund σ x1 x2 r hr⟩
      · cases h)
noncomputable def pr_X7_go : List (Nat × Instr × Nat) := [(0, .iload_n 1, 1), (1, .iconst 0, 1), (2, .bipush 60, 2), (4, .invokestatic 49, 3), (7, .ifCond .ne 5, 3), (10, .iconst (-1), 1), (11, .ireturn, 1), (12, .aload_n 0, 1), (13, .getfield 10, 3), (16, .getfield 106, 3), (19, .iload_n 1, 1), (20, .iadd, 1), (21, .sipush 1000, 3), (24, .if_icmp .lt 6, 3), (27, .bipush (-3), 2), (29, .ireturn, 1), (30, .aload_n 0, 1), (31, .getfield 10, 3), (34, .iload_n 1, 1), (35, .invokevirtual 200, 3), (38, .ireturn, 1)]
set_option maxRecDepth 100000 in
theorem hp_X7_go : pr_X7_go.all (fun x => decide (decode cX7_go x.1 = .ok x.2)) = true := by decide +kernel
noncomputable def f_X7_go (N : Nat) (σ : yS) (x1 : Int) : Option (Int × yS) :=
  match f_X7_within N σ x1 0 60 with
  | none => none
  | some r1 => bif ycP .ne r1.1 0 then
      bif ycP .lt (yad (r1.2.1 17 14) x1) 1000 then
        match f_X4_passDays N r1.2 17 x1 with
        | none => none
        | some r2 => some (r2.1, r2.2)
      else
        some ((-3), r1.2)
    else
      some ((-1), r1.2)
noncomputable def F_X7_go (N : Nat) : yF := fun as σ => match as with
  | [.inr (.inl 7, 0), .inl (.inl x1)] => (f_X7_go N σ x1).map (fun r => (some (.inl (.inl r.1)), r.2))
  | _ => none
theorem e_X7_go {N : Nat} {σ : yS} {x1 : Int} {r : Int × yS} (h : f_X7_go N σ x1 = some r) : F_X7_go N [.inr (.inl 7, 0), .inl (.inl x1)] σ = some (some (.inl (.inl r.1)), r.2) := by
  show (f_X7_go N σ x1).map (fun r => ((some (.inl (.inl r.1)), r.2) : yR)) = _
  rw [h]
  rfl
noncomputable def tb_X7_go (N : Nat) : yTb := ([(10, 7, 0, 3), (106, 4, 14, 0)], [], [], [(200, 2, 4, F_X4_passDays N)], [(49, 3, F_X7_within N)], [], [])
abbrev G_X7_go (N : Nat) (X : zXT) (sh : List yH) (l : Launch) (rm : Room) : yC → yR → Prop := yGoes X vwCl yct sh l rm cX7_go 2 wsX7_go RX7 (tb_X7_go N) pr_X7_go 1
set_option maxRecDepth 100000 in
set_option maxHeartbeats 4000000 in
theorem t_X7_go {N : Nat} {X : zXT} {sh : List yH} {l : Launch} {rm : Room} (σ : yS) (x1 : Int) (res : Int × yS) (h : f_X7_go N σ x1 = some res) : G_X7_go N X sh l rm (0, [(0, .inr (.inl 7, 0)), (1, .inl (.inl x1))], [], σ) (some (.inl (.inl res.1)), res.2) := by
  unfold f_X7_go at h
  refine yG_n (n := 3) (C' := (4, [(0, .inr (.inl 7, 0)), (1, .inl (.inl x1))], [.inl (.inl 60), .inl (.inl 0), .inl (.inl x1)], σ)) rfl ?_
  cases hr1 : f_X7_within N σ x1 0 60 with
  | none => rw [hr1] at h; dsimp only at h; cases h
  | some r1 =>
    rw [hr1] at h
    dsimp only at h
    refine yG_c (C1 := (7, [(0, .inr (.inl 7, 0)), (1, .inl (.inl x1))], [.inl (.inl r1.1)], r1.2)) rfl (e_X7_within hr1) rfl ?_
    cases hg2 : ycP .ne r1.1 0 with
    | true =>
      rw [hg2] at h
      dsimp only [cond] at h
      refine yG_t (C' := (12, [(0, .inr (.inl 7, 0)), (1, .inl (.inl x1))], [], r1.2)) rfl hg2 ?_
      refine yG_n (n := 6) (C' := (24, [(0, .inr (.inl 7, 0)), (1, .inl (.inl x1))], [.inl (.inl 1000), .inl (.inl (yad (r1.2.1 17 14) x1))], r1.2)) rfl ?_
      cases hg3 : ycP .lt (yad (r1.2.1 17 14) x1) 1000 with
      | true =>
        rw [hg3] at h
        dsimp only [cond] at h
        refine yG_t (C' := (30, [(0, .inr (.inl 7, 0)), (1, .inl (.inl x1))], [], r1.2)) rfl hg3 ?_
        refine yG_n (n := 3) (C' := (35, [(0, .inr (.inl 7, 0)), (1, .inl (.inl x1))], [.inl (.inl x1), .inr (.inl 4, 17)], r1.2)) rfl ?_
        cases hr4 : f_X4_passDays N r1.2 17 x1 with
        | none => rw [hr4] at h; dsimp only at h; cases h
        | some r2 =>
          rw [hr4] at h
          dsimp only at h
          refine yG_c (C1 := (38, [(0, .inr (.inl 7, 0)), (1, .inl (.inl x1))], [.inl (.inl r2.1)], r2.2)) rfl (e_X4_passDays hr4) rfl ?_
          have h := Option.some.inj h
          subst h
          dsimp only
          exact yG_r rfl rfl
      | false =>
        rw [hg3] at h
        dsimp only [cond] at h
        refine yG_f (C' := (27, [(0, .inr (.inl 7, 0)), (1, .inl (.inl x1))], [], r1.2)) rfl hg3 ?_
        refine yG_n (n := 1) (C' := (29, [(0, .inr (.inl 7, 0)), (1, .inl (.inl x1))], [.inl (.inl ((-3)))], r1.2)) rfl ?_
        have h := Option.some.inj h
        subst h
        dsimp only
        exact yG_r rfl rfl
    | false =>
      rw [hg2] at h
      dsimp only [cond] at h
      refine yG_f (C' := (10, [(0, .inr (.inl 7, 0)), (1, .inl (.inl x1))], [], r1.2)) rfl hg2 ?_
      refine yG_n (n := 1) (C' := (11, [(0, .inr (.inl 7, 0)), (1, .inl (.inl x1))], [.inl (.inl ((-1)))], r1.2)) rfl ?_
      have h := Option.some.inj h
      subst h
      dsimp only
      exact yG_r rfl rfl
set_option maxRecDepth 100000 in
set_option maxHeartbeats 4000000 in
theorem m_X7_go {N : Nat} {X : zXT} (hX : zXok X) (hN : zXn X) (l : Launch) {sh : List yH} : yMet X vwCl yct sh l yX7_go wsX7_go { frames := 6, cells := 0, slots := 0, locals := 181 } (F_X7_go N) :=
  ymeth (tb := tb_X7_go N) (pr := pr_X7_go) (rt := 1) (own := RX7) hX (by decide +kernel) rfl rfl ⟨Nat.le_of_ble_eq_true rfl, Nat.le_of_ble_eq_true rfl⟩
    (zfl_all (List.forall_mem_cons.mpr ⟨zfl_X7 (fun w h => List.mem_cons_of_mem _ (List.mem_append_left _ (List.mem_append_left _ (List.mem_append_right _ h)))) (List.mem_of_getElem? (i := 1) rfl) (by decide) (by decide), List.forall_mem_cons.mpr ⟨zfl_X4 (fun w h => List.mem_cons_of_mem _ (List.mem_append_left _ (List.mem_append_right _ h))) (List.mem_of_getElem? (i := 2) rfl) (by decide) (by decide), fun _ h => absurd h List.not_mem_nil⟩⟩))
    (zco_all (fun _ h => absurd h List.not_mem_nil)) (zlc_all (fun _ h => absurd h List.not_mem_nil))
    (List.forall_mem_cons.mpr ⟨ycal_V hX (m_X4_passDays hX hN l) rfl (fun s args hts => cwV 1 hts gX7_go_X4_passDays rfl rfl rfl (by decide +kernel) ⟨Nat.le_of_ble_eq_true rfl, Nat.le_of_ble_eq_true rfl⟩), fun _ h => absurd h List.not_mem_nil⟩)
    (List.forall_mem_cons.mpr ⟨ycal_S hX (m_X7_within hX hN l) (fun s args hts => va_cwS 3 hts gX7_go_X7_within rfl rfl rfl (by decide +kernel) ⟨Nat.le_of_ble_eq_true rfl, Nat.le_of_ble_eq_true rfl⟩), fun _ h => absurd h List.not_mem_nil⟩)
    (zmm_all (fun _ h => absurd h List.not_mem_nil)) (fun _ h => absurd h List.not_mem_nil) (zpr_all hp_X7_go) (fun as σ res h => by
      unfold F_X7_go at h
      split at h
      · rename_i x1
        cases hr : f_X7_go N σ x1 with
        | none => rw [hr] at h; cases h
        | some r =>
          rw [hr] at h
          cases h
          exact ⟨Nat.le_of_ble_eq_true rfl, t_X7_go σ x1 r hr⟩
      · cases h)
noncomputable def pr_X7_isKind : List (Nat × Instr × Nat) := [(0, .iload_n 0, 1), (1, .iconst 0, 1), (2, .iconst 4, 1), (3, .invokestatic 49, 3), (6, .ireturn, 1)]
set_option maxRecDepth 100000 in
theorem hp_X7_isKind : pr_X7_isKind.all (fun x => decide (decode cX7_isKind x.1 = .ok x.2)) = true := by decide +kernel
noncomputable def f_X7_isKind (N : Nat) (σ : yS) (x0 : Int) : Option (Int × yS) :=
  match f_X7_within N σ x0 0 4 with
  | none => none
  | some r1 => bif yb1 r1.1 then some (r1.1, r1.2) else none
noncomputable def F_X7_isKind (N : Nat) : yF := fun as σ => match as with
  | [.inl (.inl x0)] => (f_X7_isKind N σ x0).map (fun r => (some (.inl (.inl r.1)), r.2))
  | _ => none
theorem e_X7_isKind {N : Nat} {σ : yS} {x0 : Int} {r : Int × yS} (h : f_X7_isKind N σ x0 = some r) : F_X7_isKind N [.inl (.inl x0)] σ = some (some (.inl (.inl r.1)), r.2) := by
  show (f_X7_isKind N σ x0).map (fun r => ((some (.inl (.inl r.1)), r.2) : yR)) = _
  rw [h]
  rfl
noncomputable def tb_X7_isKind (N : Nat) : yTb := ([], [], [], [], [(49, 3, F_X7_within N)], [], [])
abbrev G_X7_isKind (N : Nat) (X : zXT) (sh : List yH) (l : Launch) (rm : Room) : yC → yR → Prop := yGoes X vwCl yct sh l rm cX7_isKind 1 wsX7_isKind RX7 (tb_X7_isKind N) pr_X7_isKind 2
set_option maxRecDepth 100000 in
set_option maxHeartbeats 4000000 in
theorem t_X7_isKind {N : Nat} {X : zXT} {sh : List yH} {l : Launch} {rm : Room} (σ : yS) (x0 : Int) (res : Int × yS) (h : f_X7_isKind N σ x0 = some res) : G_X7_isKind N X sh l rm (0, [(0, .inl (.inl x0))], [], σ) (some (.inl (.inl res.1)), res.2) := by
  unfold f_X7_isKind at h
  refine yG_n (n := 3) (C' := (3, [(0, .inl (.inl x0))], [.inl (.inl 4), .inl (.inl 0), .inl (.inl x0)], σ)) rfl ?_
  cases hr1 : f_X7_within N σ x0 0 4 with
  | none => rw [hr1] at h; dsimp only at h; cases h
  | some r1 =>
    rw [hr1] at h
    dsimp only at h
    refine yG_c (C1 := (6, [(0, .inl (.inl x0))], [.inl (.inl r1.1)], r1.2)) rfl (e_X7_within hr1) rfl ?_
    cases hg2 : yb1 r1.1 with
    | false => rw [hg2] at h; dsimp only [cond] at h; cases h
    | true =>
      rw [hg2] at h
      dsimp only [cond] at h
      have h := Option.some.inj h
      subst h
      dsimp only
      exact yG_r rfl hg2
set_option maxRecDepth 100000 in
set_option maxHeartbeats 4000000 in
theorem m_X7_isKind {N : Nat} {X : zXT} (hX : zXok X) (hN : zXn X) (l : Launch) {sh : List yH} : yMet X vwCl yct sh l yX7_isKind wsX7_isKind { frames := 2, cells := 0, slots := 0, locals := 86 } (F_X7_isKind N) :=
  ymeth (tb := tb_X7_isKind N) (pr := pr_X7_isKind) (rt := 2) (own := RX7) hX (by decide +kernel) rfl rfl ⟨Nat.le_of_ble_eq_true rfl, Nat.le_of_ble_eq_true rfl⟩
    (zfl_all (fun _ h => absurd h List.not_mem_nil))
    (zco_all (fun _ h => absurd h List.not_mem_nil)) (zlc_all (fun _ h => absurd h List.not_mem_nil))
    (fun _ h => absurd h List.not_mem_nil)
    (List.forall_mem_cons.mpr ⟨ycal_S hX (m_X7_within hX hN l) (fun s args hts => va_cwS 3 hts gX7_isKind_X7_within rfl rfl rfl (by decide +kernel) ⟨Nat.le_of_ble_eq_true rfl, Nat.le_of_ble_eq_true rfl⟩), fun _ h => absurd h List.not_mem_nil⟩)
    (zmm_all (fun _ h => absurd h List.not_mem_nil)) (fun _ h => absurd h List.not_mem_nil) (zpr_all hp_X7_isKind) (fun as σ res h => by
      unfold F_X7_isKind at h
      split at h
      · rename_i x0
        cases hr : f_X7_isKind N σ x0 with
        | none => rw [hr] at h; cases h
        | some r =>
          rw [hr] at h
          cases h
          exact ⟨Nat.le_of_ble_eq_true rfl, t_X7_isKind σ x0 r hr⟩
      · cases h)
noncomputable def pr_X4_setHabit : List (Nat × Instr × Nat) := [(0, .aload_n 0, 1), (1, .getfield 25, 3), (4, .iload_n 1, 1), (5, .iload_n 2, 1), (6, .iastore, 1), (7, .aload_n 0, 1), (8, .getfield 28, 3), (11, .iload_n 1, 1), (12, .iload_n 3, 1), (13, .iastore, 1), (14, .aload_n 0, 1), (15, .getfield 31, 3), (18, .iload_n 1, 1), (19, .iload 4, 2), (21, .iastore, 1), (22, .return_, 1)]
set_option maxRecDepth 100000 in
theorem hp_X4_setHabit : pr_X4_setHabit.all (fun x => decide (decode cX4_setHabit x.1 = .ok x.2)) = true := by decide +kernel
noncomputable def f_X4_setHabit (N : Nat) (σ : yS) (x0 : Nat) (x1 : Int) (x2 : Int) (x3 : Int) (x4 : Int) : Option (Int × yS) :=
  bif yin x1 7 then
    some (0, yw (yw (yw σ (x0 + 4) x1.toNat x2) (x0 + 5) x1.toNat x3) (x0 + 6) x1.toNat x4)
  else none
noncomputable def F_X4_setHabit (N : Nat) : yF := fun as σ => match as with
  | [.inr (.inl 4, x0), .inl (.inl x1), .inl (.inl x2), .inl (.inl x3), .inl (.inl x4)] => (f_X4_setHabit N σ x0 x1 x2 x3 x4).map (fun r => (none, r.2))
  | _ => none
theorem e_X4_setHabit {N : Nat} {σ : yS} {x0 : Nat} {x1 : Int} {x2 : Int} {x3 : Int} {x4 : Int} {r : Int × yS} (h : f_X4_setHabit N σ x0 x1 x2 x3 x4 = some r) : F_X4_setHabit N [.inr (.inl 4, x0), .inl (.inl x1), .inl (.inl x2), .inl (.inl x3), .inl (.inl x4)] σ = some (none, r.2) := by
  show (f_X4_setHabit N σ x0 x1 x2 x3 x4).map (fun r => ((none, r.2) : yR)) = _
  rw [h]
  rfl
noncomputable def tb_X4_setHabit (N : Nat) : yTb := ([(25, 4, 7, 3), (28, 4, 8, 3), (31, 4, 9, 3)], [], [], [], [], [], [])
abbrev G_X4_setHabit (N : Nat) (X : zXT) (sh : List yH) (l : Launch) (rm : Room) : yC → yR → Prop := yGoes X vwCl yct sh l rm cX4_setHabit 5 wsX4_setHabit RX4 (tb_X4_setHabit N) pr_X4_setHabit 0
set_option maxRecDepth 100000 in
set_option maxHeartbeats 4000000 in
theorem t_X4_setHabit {N : Nat} {X : zXT} {sh : List yH} {l : Launch} {rm : Room} (σ : yS) (x0 : Nat) (x1 : Int) (x2 : Int) (x3 : Int) (x4 : Int) (res : Int × yS) (h : f_X4_setHabit N σ x0 x1 x2 x3 x4 = some res) : G_X4_setHabit N X sh l rm (0, [(0, .inr (.inl 4, x0)), (1, .inl (.inl x1)), (2, .inl (.inl x2)), (3, .inl (.inl x3)), (4, .inl (.inl x4))], [], σ) (none, res.2) := by
  unfold f_X4_setHabit at h
  refine yG_n (n := 4) (C' := (6, [(0, .inr (.inl 4, x0)), (1, .inl (.inl x1)), (2, .inl (.inl x2)), (3, .inl (.inl x3)), (4, .inl (.inl x4))], [.inl (.inl x2), .inl (.inl x1), .inr (.inr (0, 7), x0 + 4)], σ)) rfl ?_
  cases hg1 : yin x1 7 with
  | false => rw [hg1] at h; dsimp only [cond] at h; cases h
  | true =>
    rw [hg1] at h
    dsimp only [cond] at h
    refine yG_t (C' := (7, [(0, .inr (.inl 4, x0)), (1, .inl (.inl x1)), (2, .inl (.inl x2)), (3, .inl (.inl x3)), (4, .inl (.inl x4))], [], yw σ (x0 + 4) x1.toNat x2)) rfl hg1 ?_
    refine yG_n (n := 4) (C' := (13, [(0, .inr (.inl 4, x0)), (1, .inl (.inl x1)), (2, .inl (.inl x2)), (3, .inl (.inl x3)), (4, .inl (.inl x4))], [.inl (.inl x3), .inl (.inl x1), .inr (.inr (0, 7), x0 + 5)], yw σ (x0 + 4) x1.toNat x2)) rfl ?_
    refine yG_t (C' := (14, [(0, .inr (.inl 4, x0)), (1, .inl (.inl x1)), (2, .inl (.inl x2)), (3, .inl (.inl x3)), (4, .inl (.inl x4))], [], yw (yw σ (x0 + 4) x1.toNat x2) (x0 + 5) x1.toNat x3)) rfl hg1 ?_
    refine yG_n (n := 4) (C' := (21, [(0, .inr (.inl 4, x0)), (1, .inl (.inl x1)), (2, .inl (.inl x2)), (3, .inl (.inl x3)), (4, .inl (.inl x4))], [.inl (.inl x4), .inl (.inl x1), .inr (.inr (0, 7), x0 + 6)], yw (yw σ (x0 + 4) x1.toNat x2) (x0 + 5) x1.toNat x3)) rfl ?_
    refine yG_t (C' := (22, [(0, .inr (.inl 4, x0)), (1, .inl (.inl x1)), (2, .inl (.inl x2)), (3, .inl (.inl x3)), (4, .inl (.inl x4))], [], yw (yw (yw σ (x0 + 4) x1.toNat x2) (x0 + 5) x1.toNat x3) (x0 + 6) x1.toNat x4)) rfl hg1 ?_
    have h := Option.some.inj h
    subst h
    dsimp only
    exact yG_r rfl rfl
set_option maxRecDepth 100000 in
set_option maxHeartbeats 4000000 in
theorem m_X4_setHabit {N : Nat} {X : zXT} (hX : zXok X) (hN : zXn X) (l : Launch) {sh : List yH} : yMet X vwCl yct sh l yX4_setHabit wsX4_setHabit { frames := 1, cells := 0, slots := 0, locals := 64 } (F_X4_setHabit N) :=
  ymeth (tb := tb_X4_setHabit N) (pr := pr_X4_setHabit) (rt := 0) (own := RX4) hX (by decide +kernel) rfl rfl ⟨Nat.le_of_ble_eq_true rfl, Nat.le_of_ble_eq_true rfl⟩
    (zfl_all (List.forall_mem_cons.mpr ⟨zfl_X4 (fun w h => List.mem_cons_of_mem _ (List.mem_append_right _ h)) (List.mem_of_getElem? (i := 1) rfl) (by decide) (by decide), List.forall_mem_cons.mpr ⟨zfl_X4 (fun w h => List.mem_cons_of_mem _ (List.mem_append_right _ h)) (List.mem_of_getElem? (i := 2) rfl) (by decide) (by decide), List.forall_mem_cons.mpr ⟨zfl_X4 (fun w h => List.mem_cons_of_mem _ (List.mem_append_right _ h)) (List.mem_of_getElem? (i := 3) rfl) (by decide) (by decide), fun _ h => absurd h List.not_mem_nil⟩⟩⟩))
    (zco_all (fun _ h => absurd h List.not_mem_nil)) (zlc_all (fun _ h => absurd h List.not_mem_nil))
    (fun _ h => absurd h List.not_mem_nil)
    (fun _ h => absurd h List.not_mem_nil)
    (zmm_all (fun _ h => absurd h List.not_mem_nil)) (fun _ h => absurd h List.not_mem_nil) (zpr_all hp_X4_setHabit) (fun as σ res h => by
      unfold F_X4_setHabit at h
      split at h
      · rename_i x0 x1 x2 x3 x4
        cases hr : f_X4_setHabit N σ x0 x1 x2 x3 x4 with
        | none => rw [hr] at h; cases h
        | some r =>
          rw [hr] at h
          cases h
          exact ⟨Nat.le_of_ble_eq_true rfl, t_X4_setHabit σ x0 x1 x2 x3 x4 r hr⟩
      · cases h)
noncomputable def pr_X7_habit : List (Nat × Instr × Nat) := [(0, .aload_n 0, 1), (1, .getfield 10, 3), (4, .iload_n 1, 1), (5, .invokevirtual 118, 3), (8, .ifCond .eq 32, 3), (11, .iload_n 2, 1), (12, .invokestatic 174, 3), (15, .ifCond .eq 25, 3), (18, .aload_n 0, 1), (19, .getfield 10, 3), (22, .iload_n 3, 1), (23, .invokevirtual 150, 3), (26, .ifCond .eq 14, 3), (29, .iload 4, 2), (31, .iconst 0, 1), (32, .bipush 10, 2), (34, .invokestatic 49, 3), (37, .ifCond .ne 5, 3), (40, .iconst (-1), 1), (41, .ireturn, 1), (42, .aload_n 0, 1), (43, .getfield 10, 3), (46, .getfield 141, 3), (49, .iload_n 1, 1), (50, .iaload, 1), (51, .istore 5, 2), (53, .aload_n 0, 1), (54, .getfield 10, 3), (57, .iload_n 1, 1), (58, .iload_n 2, 1), (59, .iload_n 3, 1), (60, .iload 4, 2), (62, .invokevirtual 177, 3), (65, .iload 5, 2), (67, .ireturn, 1)]
set_option maxRecDepth 100000 in
theorem hp_X7_habit : pr_X7_habit.all (fun x => decide (decode cX7_habit x.1 = .ok x.2)) = true := by decide +kernel
noncomputable def f_X7_habit_b40 (N : Nat) (σ : yS) : Option (Int × yS) :=
  some ((-1), σ)
noncomputable def f_X7_habit (N : Nat) (σ : yS) (x1 : Int) (x2 : Int) (x3 : Int) (x4 : Int) : Option (Int × yS) :=
  match f_X4_isHouse N σ 17 x1 with
  | none => none
  | some r1 => bif ycP .eq r1.1 0 then
      f_X7_habit_b40 N r1.2
    else
      match f_X7_isKind N r1.2 x2 with
      | none => none
      | some r2 => bif ycP .eq r2.1 0 then
          f_X7_habit_b40 N r2.2
        else
          match f_X4_isDeed N r2.2 17 x3 with
          | none => none
          | some r3 => bif ycP .eq r3.1 0 then
              f_X7_habit_b40 N r3.2
            else
              match f_X7_within N r3.2 x4 0 10 with
              | none => none
              | some r4 => bif ycP .ne r4.1 0 then
                  bif yin x1 7 then
                    match f_X4_setHabit N r4.2 17 x1 x2 x3 x4 with
                    | none => none
                    | some r5 => some (r4.2.1 23 x1.toNat, r5.2)
                  else none
                else
                  f_X7_habit_b40 N r4.2
noncomputable def F_X7_habit (N : Nat) : yF := fun as σ => match as with
  | [.inr (.inl 7, 0), .inl (.inl x1), .inl (.inl x2), .inl (.inl x3), .inl (.inl x4)] => (f_X7_habit N σ x1 x2 x3 x4).map (fun r => (some (.inl (.inl r.1)), r.2))
  | _ => none
theorem e_X7_habit {N : Nat} {σ : yS} {x1 : Int} {x2 : Int} {x3 : Int} {x4 : Int} {r : Int × yS} (h : f_X7_habit N σ x1 x2 x3 x4 = some r) : F_X7_habit N [.inr (.inl 7, 0), .inl (.inl x1), .inl (.inl x2), .inl (.inl x3), .inl (.inl x4)] σ = some (some (.inl (.inl r.1)), r.2) := by
  show (f_X7_habit N σ x1 x2 x3 x4).map (fun r => ((some (.inl (.inl r.1)), r.2) : yR)) = _
  rw [h]
  rfl
noncomputable def tb_X7_habit (N : Nat) : yTb := ([(10, 7, 0, 3), (141, 4, 9, 3)], [], [], [(118, 2, 4, F_X4_isHouse N), (150, 2, 4, F_X4_isDeed N), (177, 5, 4, F_X4_setHabit N)], [(49, 3, F_X7_within N), (174, 1, F_X7_isKind N)], [], [])
abbrev G_X7_habit (N : Nat) (X : zXT) (sh : List yH) (l : Launch) (rm : Room) : yC → yR → Prop := yGoes X vwCl yct sh l rm cX7_habit 6 wsX7_habit RX7 (tb_X7_habit N) pr_X7_habit 1
set_option maxRecDepth 100000 in
set_option maxHeartbeats 4000000 in
theorem t_X7_habit_b40 {N : Nat} {X : zXT} {sh : List yH} {l : Launch} {rm : Room} (σ : yS) (res : Int × yS) (h : f_X7_habit_b40 N σ = some res) : G_X7_habit N X sh l rm (40, [], [], σ) (some (.inl (.inl res.1)), res.2) := by
  unfold f_X7_habit_b40 at h
  refine yG_n (n := 1) (C' := (41, [], [.inl (.inl ((-1)))], σ)) rfl ?_
  have h := Option.some.inj h
  subst h
  dsimp only
  exact yG_r rfl rfl
set_option maxRecDepth 100000 in
set_option maxHeartbeats 4000000 in
theorem t_X7_habit {N : Nat} {X : zXT} {sh : List yH} {l : Launch} {rm : Room} (σ : yS) (x1 : Int) (x2 : Int) (x3 : Int) (x4 : Int) (res : Int × yS) (h : f_X7_habit N σ x1 x2 x3 x4 = some res) : G_X7_habit N X sh l rm (0, [(0, .inr (.inl 7, 0)), (1, .inl (.inl x1)), (2, .inl (.inl x2)), (3, .inl (.inl x3)), (4, .inl (.inl x4))], [], σ) (some (.inl (.inl res.1)), res.2) := by
  unfold f_X7_habit at h
  refine yG_n (n := 3) (C' := (5, [(0, .inr (.inl 7, 0)), (1, .inl (.inl x1)), (2, .inl (.inl x2)), (3, .inl (.inl x3)), (4, .inl (.inl x4))], [.inl (.inl x1), .inr (.inl 4, 17)], σ)) rfl ?_
  cases hr1 : f_X4_isHouse N σ 17 x1 with
  | none => rw [hr1] at h; dsimp only at h; cases h
  | some r1 =>
    rw [hr1] at h
    dsimp only at h
    refine yG_c (C1 := (8, [(0, .inr (.inl 7, 0)), (1, .inl (.inl x1)), (2, .inl (.inl x2)), (3, .inl (.inl x3)), (4, .inl (.inl x4))], [.inl (.inl r1.1)], r1.2)) rfl (e_X4_isHouse hr1) rfl ?_
    cases hg2 : ycP .eq r1.1 0 with
    | true =>
      rw [hg2] at h
      dsimp only [cond] at h
      refine yG_t (C' := (40, [(0, .inr (.inl 7, 0)), (1, .inl (.inl x1)), (2, .inl (.inl x2)), (3, .inl (.inl x3)), (4, .inl (.inl x4))], [], r1.2)) rfl hg2 ?_
      exact yG_w [] rfl (t_X7_habit_b40 r1.2 res h)
    | false =>
      rw [hg2] at h
      dsimp only [cond] at h
      refine yG_f (C' := (11, [(0, .inr (.inl 7, 0)), (1, .inl (.inl x1)), (2, .inl (.inl x2)), (3, .inl (.inl x3)), (4, .inl (.inl x4))], [], r1.2)) rfl hg2 ?_
      refine yG_n (n := 1) (C' := (12, [(0, .inr (.inl 7, 0)), (1, .inl (.inl x1)), (2, .inl (.inl x2)), (3, .inl (.inl x3)), (4, .inl (.inl x4))], [.inl (.inl x2)], r1.2)) rfl ?_
      cases hr3 : f_X7_isKind N r1.2 x2 with
      | none => rw [hr3] at h; dsimp only at h; cases h
      | some r2 =>
        rw [hr3] at h
        dsimp only at h
        refine yG_c (C1 := (15, [(0, .inr (.inl 7, 0)), (1, .inl (.inl x1)), (2, .inl (.inl x2)), (3, .inl (.inl x3)), (4, .inl (.inl x4))], [.inl (.inl r2.1)], r2.2)) rfl (e_X7_isKind hr3) rfl ?_
        cases hg4 : ycP .eq r2.1 0 with
        | true =>
          rw [hg4] at h
          dsimp only [cond] at h
          refine yG_t (C' := (40, [(0, .inr (.inl 7, 0)), (1, .inl (.inl x1)), (2, .inl (.inl x2)), (3, .inl (.inl x3)), (4, .inl (.inl x4))], [], r2.2)) rfl hg4 ?_
          exact yG_w [] rfl (t_X7_habit_b40 r2.2 res h)
        | false =>
          rw [hg4] at h
          dsimp only [cond] at h
          refine yG_f (C' := (18, [(0, .inr (.inl 7, 0)), (1, .inl (.inl x1)), (2, .inl (.inl x2)), (3, .inl (.inl x3)), (4, .inl (.inl x4))], [], r2.2)) rfl hg4 ?_
          refine yG_n (n := 3) (C' := (23, [(0, .inr (.inl 7, 0)), (1, .inl (.inl x1)), (2, .inl (.inl x2)), (3, .inl (.inl x3)), (4, .inl (.inl x4))], [.inl (.inl x3), .inr (.inl 4, 17)], r2.2)) rfl ?_
          cases hr5 : f_X4_isDeed N r2.2 17 x3 with
          | none => rw [hr5] at h; dsimp only at h; cases h
          | some r3 =>
            rw [hr5] at h
            dsimp only at h
            refine yG_c (C1 := (26, [(0, .inr (.inl 7, 0)), (1, .inl (.inl x1)), (2, .inl (.inl x2)), (3, .inl (.inl x3)), (4, .inl (.inl x4))], [.inl (.inl r3.1)], r3.2)) rfl (e_X4_isDeed hr5) rfl ?_
            cases hg6 : ycP .eq r3.1 0 with
            | true =>
              rw [hg6] at h
              dsimp only [cond] at h
              refine yG_t (C' := (40, [(0, .inr (.inl 7, 0)), (1, .inl (.inl x1)), (2, .inl (.inl x2)), (3, .inl (.inl x3)), (4, .inl (.inl x4))], [], r3.2)) rfl hg6 ?_
              exact yG_w [] rfl (t_X7_habit_b40 r3.2 res h)
            | false =>
              rw [hg6] at h
              dsimp only [cond] at h
              refine yG_f (C' := (29, [(0, .inr (.inl 7, 0)), (1, .inl (.inl x1)), (2, .inl (.inl x2)), (3, .inl (.inl x3)), (4, .inl (.inl x4))], [], r3.2)) rfl hg6 ?_
              refine yG_n (n := 3) (C' := (34, [(0, .inr (.inl 7, 0)), (1, .inl (.inl x1)), (2, .inl (.inl x2)), (3, .inl (.inl x3)), (4, .inl (.inl x4))], [.inl (.inl 10), .inl (.inl 0), .inl (.inl x4)], r3.2)) rfl ?_
              cases hr7 : f_X7_within N r3.2 x4 0 10 with
              | none => rw [hr7] at h; dsimp only at h; cases h
              | some r4 =>
                rw [hr7] at h
                dsimp only at h
                refine yG_c (C1 := (37, [(0, .inr (.inl 7, 0)), (1, .inl (.inl x1)), (2, .inl (.inl x2)), (3, .inl (.inl x3)), (4, .inl (.inl x4))], [.inl (.inl r4.1)], r4.2)) rfl (e_X7_within hr7) rfl ?_
                cases hg8 : ycP .ne r4.1 0 with
                | true =>
                  rw [hg8] at h
                  dsimp only [cond] at h
                  refine yG_t (C' := (42, [(0, .inr (.inl 7, 0)), (1, .inl (.inl x1)), (2, .inl (.inl x2)), (3, .inl (.inl x3)), (4, .inl (.inl x4))], [], r4.2)) rfl hg8 ?_
                  refine yG_n (n := 4) (C' := (50, [(0, .inr (.inl 7, 0)), (1, .inl (.inl x1)), (2, .inl (.inl x2)), (3, .inl (.inl x3)), (4, .inl (.inl x4))], [.inl (.inl x1), .inr (.inr (0, 7), 23)], r4.2)) rfl ?_
                  cases hg9 : yin x1 7 with
                  | false => rw [hg9] at h; dsimp only [cond] at h; cases h
                  | true =>
                    rw [hg9] at h
                    dsimp only [cond] at h
                    refine yG_t (C' := (51, [(0, .inr (.inl 7, 0)), (1, .inl (.inl x1)), (2, .inl (.inl x2)), (3, .inl (.inl x3)), (4, .inl (.inl x4))], [.inl (.inl (r4.2.1 23 x1.toNat))], r4.2)) rfl hg9 ?_
                    refine yG_n (n := 7) (C' := (62, [(5, .inl (.inl (r4.2.1 23 x1.toNat))), (0, .inr (.inl 7, 0)), (1, .inl (.inl x1)), (2, .inl (.inl x2)), (3, .inl (.inl x3)), (4, .inl (.inl x4))], [.inl (.inl x4), .inl (.inl x3), .inl (.inl x2), .inl (.inl x1), .inr (.inl 4, 17)], r4.2)) rfl ?_
                    cases hr10 : f_X4_setHabit N r4.2 17 x1 x2 x3 x4 with
                    | none => rw [hr10] at h; dsimp only at h; cases h
                    | some r5 =>
                      rw [hr10] at h
                      dsimp only at h
                      refine yG_c (C1 := (65, [(5, .inl (.inl (r4.2.1 23 x1.toNat))), (0, .inr (.inl 7, 0)), (1, .inl (.inl x1)), (2, .inl (.inl x2)), (3, .inl (.inl x3)), (4, .inl (.inl x4))], [], r5.2)) rfl (e_X4_setHabit hr10) rfl ?_
                      refine yG_n (n := 1) (C' := (67, [(5, .inl (.inl (r4.2.1 23 x1.toNat))), (0, .inr (.inl 7, 0)), (1, .inl (.inl x1)), (2, .inl (.inl x2)), (3, .inl (.inl x3)), (4, .inl (.inl x4))], [.inl (.inl (r4.2.1 23 x1.toNat))], r5.2)) rfl ?_
                      have h := Option.some.inj h
                      subst h
                      dsimp only
                      exact yG_r rfl rfl
                | false =>
                  rw [hg8] at h
                  dsimp only [cond] at h
                  refine yG_f (C' := (40, [(0, .inr (.inl 7, 0)), (1, .inl (.inl x1)), (2, .inl (.inl x2)), (3, .inl (.inl x3)), (4, .inl (.inl x4))], [], r4.2)) rfl hg8 ?_
                  exact yG_w [] rfl (t_X7_habit_b40 r4.2 res h)
set_option maxRecDepth 100000 in
set_option maxHeartbeats 4000000 in
theorem m_X7_habit {N : Nat} {X : zXT} (hX : zXok X) (hN : zXn X) (l : Launch) {sh : List yH} : yMet X vwCl yct sh l yX7_habit wsX7_habit { frames := 3, cells := 0, slots := 0, locals := 107 } (F_X7_habit N) :=
  ymeth (tb := tb_X7_habit N) (pr := pr_X7_habit) (rt := 1) (own := RX7) hX (by decide +kernel) rfl rfl ⟨Nat.le_of_ble_eq_true rfl, Nat.le_of_ble_eq_true rfl⟩
    (zfl_all (List.forall_mem_cons.mpr ⟨zfl_X7 (fun w h => List.mem_cons_of_mem _ (List.mem_append_left _ (List.mem_append_right _ h))) (List.mem_of_getElem? (i := 1) rfl) (by decide) (by decide), List.forall_mem_cons.mpr ⟨zfl_X4 (fun w h => List.mem_cons_of_mem _ (List.mem_append_right _ h)) (List.mem_of_getElem? (i := 2) rfl) (by decide) (by decide), fun _ h => absurd h List.not_mem_nil⟩⟩))
    (zco_all (fun _ h => absurd h List.not_mem_nil)) (zlc_all (fun _ h => absurd h List.not_mem_nil))
    (List.forall_mem_cons.mpr ⟨ycal_V hX (m_X4_isHouse hX hN l) rfl (fun s args hts => cwV 1 hts gX7_habit_X4_isHouse rfl rfl rfl (by decide +kernel) ⟨Nat.le_of_ble_eq_true rfl, Nat.le_of_ble_eq_true rfl⟩), List.forall_mem_cons.mpr ⟨ycal_V hX (m_X4_isDeed hX hN l) rfl (fun s args hts => cwV 1 hts gX7_habit_X4_isDeed rfl rfl rfl (by decide +kernel) ⟨Nat.le_of_ble_eq_true rfl, Nat.le_of_ble_eq_true rfl⟩), List.forall_mem_cons.mpr ⟨ycal_V hX (m_X4_setHabit hX hN l) rfl (fun s args hts => cwV 4 hts gX7_habit_X4_setHabit rfl rfl rfl (by decide +kernel) ⟨Nat.le_of_ble_eq_true rfl, Nat.le_of_ble_eq_true rfl⟩), fun _ h => absurd h List.not_mem_nil⟩⟩⟩)
    (List.forall_mem_cons.mpr ⟨ycal_S hX (m_X7_within hX hN l) (fun s args hts => va_cwS 3 hts gX7_habit_X7_within rfl rfl rfl (by decide +kernel) ⟨Nat.le_of_ble_eq_true rfl, Nat.le_of_ble_eq_true rfl⟩), List.forall_mem_cons.mpr ⟨ycal_S hX (m_X7_isKind hX hN l) (fun s args hts => va_cwS 1 hts gX7_habit_X7_isKind rfl rfl rfl (by decide +kernel) ⟨Nat.le_of_ble_eq_true rfl, Nat.le_of_ble_eq_true rfl⟩), fun _ h => absurd h List.not_mem_nil⟩⟩)
    (zmm_all (fun _ h => absurd h List.not_mem_nil)) (fun _ h => absurd h List.not_mem_nil) (zpr_all hp_X7_habit) (fun as σ res h => by
      unfold F_X7_habit at h
      split at h
      · rename_i x1 x2 x3 x4
        cases hr : f_X7_habit N σ x1 x2 x3 x4 with
        | none => rw [hr] at h; cases h
        | some r =>
          rw [hr] at h
          cases h
          exact ⟨Nat.le_of_ble_eq_true rfl, t_X7_habit σ x1 x2 x3 x4 r hr⟩
      · cases h)
