section
noncomputable def pr_X8_rest : List (Nat × Instr × Nat) := [(0, .aload_n 0, 1), (1, .invokevirtual 266, 3), (4, .iconst 0, 1), (5, .istore_n 1, 1), (6, .iload_n 1, 1), (7, .bipush 60, 2), (9, .if_icmp .gt 25, 3), (12, .aload_n 0, 1), (13, .getfield 13, 3), (16, .bipush 77, 2), (18, .iaload, 1), (19, .ifCond .ne 5, 3), (22, .iload_n 1, 1), (23, .ireturn, 1), (24, .aload_n 0, 1), (25, .invokevirtual 261, 3), (28, .iinc 1 1, 3), (31, .goto (-25), 3), (34, .bipush (-4), 2), (36, .ireturn, 1)]
set_option maxRecDepth 100000 in
theorem hp_X8_rest : pr_X8_rest.all (fun x => decide (decode cX8_rest x.1 = .ok x.2)) = true := by decide +kernel
noncomputable def f_X8_rest_b6 (N : Nat) : Nat → yS → Int → Option (Int × yS) := yfix (fun _ _ => none) (fun ih σ x1 =>
    bif ycP .gt x1 60 then
      some ((-4), σ)
    else
      bif ycP .ne (σ.1 2 77) 0 then
        match f_X8_days N σ with
        | none => none
        | some r2 => ih r2.2 (yad x1 1)
      else
        some (x1, σ))
theorem q_X8_rest_b6 (N : Nat) (n : Nat) (σ : yS) (x1 : Int) : f_X8_rest_b6 N (n + 1) σ x1 =
    (bif ycP .gt x1 60 then
      some ((-4), σ)
    else
      bif ycP .ne (σ.1 2 77) 0 then
        match f_X8_days N σ with
        | none => none
        | some r2 => (f_X8_rest_b6 N n) r2.2 (yad x1 1)
      else
        some (x1, σ)) := rfl
noncomputable def f_X8_rest (N : Nat) (σ : yS) : Option (Int × yS) :=
  match f_X8_starts N σ with
  | none => none
  | some r1 => f_X8_rest_b6 N N r1.2 0
noncomputable def F_X8_rest (N : Nat) : yF := fun as σ => match as with
  | [.inr (.inl 8, 0)] => (f_X8_rest N σ).map (fun r => (some (.inl (.inl r.1)), r.2))
  | _ => none
theorem e_X8_rest {N : Nat} {σ : yS} {r : Int × yS} (h : f_X8_rest N σ = some r) : F_X8_rest N [.inr (.inl 8, 0)] σ = some (some (.inl (.inl r.1)), r.2) := by
  show (f_X8_rest N σ).map (fun r => ((some (.inl (.inl r.1)), r.2) : yR)) = _
  rw [h]
  rfl
noncomputable def tb_X8_rest (N : Nat) : yTb := ([(13, 8, 1, 3)], [], [], [(261, 1, 8, F_X8_days N), (266, 1, 8, F_X8_starts N)], [], [], [])
abbrev G_X8_rest (N : Nat) (X : zXT) (sh : List yH) (l : Launch) (rm : Room) : yC → yR → Prop := yGoes X vwCl yct sh l rm cX8_rest 2 wsX8_rest RX8 (tb_X8_rest N) pr_X8_rest 1
set_option maxRecDepth 100000 in
set_option maxHeartbeats 4000000 in
theorem t_X8_rest_b6 {N : Nat} {X : zXT} {sh : List yH} {l : Launch} {rm : Room} : ∀ (n : Nat) (σ : yS) (x1 : Int) (res : Int × yS), f_X8_rest_b6 N n σ x1 = some res → G_X8_rest N X sh l rm (6, [(0, .inr (.inl 8, 0)), (1, .inl (.inl x1))], [], σ) (some (.inl (.inl res.1)), res.2) := by
  intro n
  induction n with
  | zero => intro σ x1 res h; exact (yno h).elim
  | succ n ih =>
    intro σ x1 res h
    rw [q_X8_rest_b6] at h
    refine yG_n (n := 2) (C' := (9, [(0, .inr (.inl 8, 0)), (1, .inl (.inl x1))], [.inl (.inl 60), .inl (.inl x1)], σ)) rfl ?_
    cases hg1 : ycP .gt x1 60 with
    | true =>
      rw [hg1] at h
      dsimp only [cond] at h
      refine yG_t (C' := (34, [(0, .inr (.inl 8, 0)), (1, .inl (.inl x1))], [], σ)) rfl hg1 ?_
      refine yG_n (n := 1) (C' := (36, [(0, .inr (.inl 8, 0)), (1, .inl (.inl x1))], [.inl (.inl ((-4)))], σ)) rfl ?_
      have h := Option.some.inj h
      subst h
      dsimp only
      exact yG_r rfl rfl
    | false =>
      rw [hg1] at h
      dsimp only [cond] at h
      refine yG_f (C' := (12, [(0, .inr (.inl 8, 0)), (1, .inl (.inl x1))], [], σ)) rfl hg1 ?_
      refine yG_n (n := 4) (C' := (19, [(0, .inr (.inl 8, 0)), (1, .inl (.inl x1))], [.inl (.inl (σ.1 2 77))], σ)) rfl ?_
      cases hg2 : ycP .ne (σ.1 2 77) 0 with
      | true =>
        rw [hg2] at h
        dsimp only [cond] at h
        refine yG_t (C' := (24, [(0, .inr (.inl 8, 0)), (1, .inl (.inl x1))], [], σ)) rfl hg2 ?_
        refine yG_n (n := 1) (C' := (25, [(0, .inr (.inl 8, 0)), (1, .inl (.inl x1))], [.inr (.inl 8, 0)], σ)) rfl ?_
        cases hr3 : f_X8_days N σ with
        | none => rw [hr3] at h; dsimp only at h; cases h
        | some r2 =>
          rw [hr3] at h
          dsimp only at h
          refine yG_c (C1 := (28, [(0, .inr (.inl 8, 0)), (1, .inl (.inl x1))], [], r2.2)) rfl (e_X8_days hr3) rfl ?_
          refine yG_n (n := 2) (C' := (6, [(1, .inl (.inl (yad x1 1))), (0, .inr (.inl 8, 0))], [], r2.2)) rfl ?_
          exact yG_w [1, 0] rfl (ih r2.2 (yad x1 1) res h)
      | false =>
        rw [hg2] at h
        dsimp only [cond] at h
        refine yG_f (C' := (22, [(0, .inr (.inl 8, 0)), (1, .inl (.inl x1))], [], σ)) rfl hg2 ?_
        refine yG_n (n := 1) (C' := (23, [(0, .inr (.inl 8, 0)), (1, .inl (.inl x1))], [.inl (.inl x1)], σ)) rfl ?_
        have h := Option.some.inj h
        subst h
        dsimp only
        exact yG_r rfl rfl
set_option maxRecDepth 100000 in
set_option maxHeartbeats 4000000 in
theorem t_X8_rest {N : Nat} {X : zXT} {sh : List yH} {l : Launch} {rm : Room} (σ : yS) (res : Int × yS) (h : f_X8_rest N σ = some res) : G_X8_rest N X sh l rm (0, [(0, .inr (.inl 8, 0))], [], σ) (some (.inl (.inl res.1)), res.2) := by
  unfold f_X8_rest at h
  refine yG_n (n := 1) (C' := (1, [(0, .inr (.inl 8, 0))], [.inr (.inl 8, 0)], σ)) rfl ?_
  cases hr4 : f_X8_starts N σ with
  | none => rw [hr4] at h; dsimp only at h; cases h
  | some r1 =>
    rw [hr4] at h
    dsimp only at h
    refine yG_c (C1 := (4, [(0, .inr (.inl 8, 0))], [], r1.2)) rfl (e_X8_starts hr4) rfl ?_
    refine yG_n (n := 2) (C' := (6, [(1, .inl (.inl 0)), (0, .inr (.inl 8, 0))], [], r1.2)) rfl ?_
    exact yG_w [1, 0] rfl (t_X8_rest_b6 N r1.2 0 res h)
set_option maxRecDepth 100000 in
set_option maxHeartbeats 4000000 in
theorem m_X8_rest {N : Nat} {X : zXT} (hX : zXok X) (hN : zXn X) (l : Launch) {sh : List yH} : yMet X vwCl yct sh l yX8_rest wsX8_rest { frames := 5, cells := 0, slots := 0, locals := 155 } (F_X8_rest N) :=
  ymeth (tb := tb_X8_rest N) (pr := pr_X8_rest) (rt := 1) (own := RX8) hX (by decide +kernel) rfl rfl ⟨Nat.le_of_ble_eq_true rfl, Nat.le_of_ble_eq_true rfl⟩
    (zfl_all (List.forall_mem_cons.mpr ⟨zfl_X8 (fun w h => List.mem_cons_of_mem _ (List.mem_append_right _ h)) (List.mem_of_getElem? (i := 1) rfl) (by decide) (by decide), fun _ h => absurd h List.not_mem_nil⟩))
    (zco_all (fun _ h => absurd h List.not_mem_nil)) (zlc_all (fun _ h => absurd h List.not_mem_nil))
    (List.forall_mem_cons.mpr ⟨ycal_V hX (m_X8_days hX hN l) rfl (fun s args hts => cwV 0 hts gX8_rest_X8_days rfl rfl rfl (by decide +kernel) ⟨Nat.le_of_ble_eq_true rfl, Nat.le_of_ble_eq_true rfl⟩), List.forall_mem_cons.mpr ⟨ycal_V hX (m_X8_starts hX hN l) rfl (fun s args hts => cwV 0 hts gX8_rest_X8_starts rfl rfl rfl (by decide +kernel) ⟨Nat.le_of_ble_eq_true rfl, Nat.le_of_ble_eq_true rfl⟩), fun _ h => absurd h List.not_mem_nil⟩⟩)
    (fun _ h => absurd h List.not_mem_nil)
    (zmm_all (fun _ h => absurd h List.not_mem_nil)) (fun _ h => absurd h List.not_mem_nil) (zpr_all hp_X8_rest) (fun as σ res h => by
      unfold F_X8_rest at h
      split at h
      · cases hr : f_X8_rest N σ with
        | none => rw [hr] at h; cases h
        | some r =>
          rw [hr] at h
          cases h
          exact ⟨Nat.le_of_ble_eq_true rfl, t_X8_rest σ r hr⟩
      · cases h)
noncomputable def pr_X8_rule : List (Nat × Instr × Nat) := [(0, .iload_n 1, 1), (1, .tableswitch 69 0 4 #[35, 40, 48, 53, 61], 35), (36, .aload_n 0, 1), (37, .getfield 79, 3), (40, .ireturn, 1), (41, .aload_n 0, 1), (42, .getfield 82, 3), (45, .invokestatic 197, 3), (48, .ireturn, 1), (49, .aload_n 0, 1), (50, .getfield 85, 3), (53, .ireturn, 1), (54, .aload_n 0, 1), (55, .getfield 7, 3), (58, .bipush 77, 2), (60, .iaload, 1), (61, .ireturn, 1), (62, .aload_n 0, 1), (63, .getfield 7, 3), (66, .bipush 118, 2), (68, .iaload, 1), (69, .ireturn, 1), (70, .iload_n 1, 1), (71, .i2l, 1), (72, .ldc2_w 201, 3), (75, .ldc2_w 203, 3), (78, .invokestatic 90, 3), (81, .ifCond .eq 17, 3), (84, .aload_n 0, 1), (85, .getfield 7, 3), (88, .bipush 127, 2), (90, .iload_n 1, 1), (91, .iadd, 1), (92, .iconst 5, 1), (93, .isub, 1), (94, .iaload, 1), (95, .goto 4, 3), (98, .iconst (-1), 1), (99, .ireturn, 1)]
set_option maxRecDepth 100000 in
theorem hp_X8_rule : pr_X8_rule.all (fun x => decide (decode cX8_rule x.1 = .ok x.2)) = true := by decide +kernel
noncomputable def f_X8_rule_b99 (N : Nat) (σ : yS) (s0 : Int) : Option (Int × yS) :=
  some (s0, σ)
noncomputable def f_X8_rule (N : Nat) (σ : yS) (x1 : Int) : Option (Int × yS) :=
  bif zle x1 0 && zle 0 x1 then
    some (σ.1 0 3, σ)
  else
    bif zle x1 1 && zle 1 x1 then
    match f_X8_flag N σ (σ.1 0 4) with
    | none => none
    | some r1 => some (r1.1, r1.2)
  else
    bif zle x1 2 && zle 2 x1 then
    some (σ.1 0 5, σ)
  else
    bif zle x1 3 && zle 3 x1 then
    some (σ.1 1 77, σ)
  else
    bif zle x1 4 && zle 4 x1 then
    some (σ.1 1 118, σ)
  else
    match f_X8_in N σ x1 5 8 with
    | none => none
    | some r2 => bif ycP .eq r2.1 0 then
        f_X8_rule_b99 N r2.2 ((-1))
      else
        bif yin (ysu (yad 127 x1) 5) 393 then
          f_X8_rule_b99 N r2.2 (r2.2.1 1 (ysu (yad 127 x1) 5).toNat)
        else none
noncomputable def F_X8_rule (N : Nat) : yF := fun as σ => match as with
  | [.inr (.inl 8, 0), .inl (.inl x1)] => (f_X8_rule N σ x1).map (fun r => (some (.inl (.inl r.1)), r.2))
  | _ => none
theorem e_X8_rule {N : Nat} {σ : yS} {x1 : Int} {r : Int × yS} (h : f_X8_rule N σ x1 = some r) : F_X8_rule N [.inr (.inl 8, 0), .inl (.inl x1)] σ = some (some (.inl (.inl r.1)), r.2) := by
  show (f_X8_rule N σ x1).map (fun r => ((some (.inl (.inl r.1)), r.2) : yR)) = _
  rw [h]
  rfl
noncomputable def tb_X8_rule (N : Nat) : yTb := ([(7, 8, 0, 3), (79, 8, 3, 0), (82, 8, 4, 1), (85, 8, 5, 0)], [], [(201, 5), (203, 8)], [], [(90, 3, F_X8_in N), (197, 1, F_X8_flag N)], [], [])
abbrev G_X8_rule (N : Nat) (X : zXT) (sh : List yH) (l : Launch) (rm : Room) : yC → yR → Prop := yGoes X vwCl yct sh l rm cX8_rule 2 wsX8_rule RX8 (tb_X8_rule N) pr_X8_rule 1
set_option maxRecDepth 100000 in
set_option maxHeartbeats 4000000 in
theorem t_X8_rule_b99 {N : Nat} {X : zXT} {sh : List yH} {l : Launch} {rm : Room} (σ : yS) (s0 : Int) (res : Int × yS) (h : f_X8_rule_b99 N σ s0 = some res) : G_X8_rule N X sh l rm (99, [], [.inl (.inl s0)], σ) (some (.inl (.inl res.1)), res.2) := by
  unfold f_X8_rule_b99 at h
  have h := Option.some.inj h
  subst h
  dsimp only
  exact yG_r rfl rfl
set_option maxRecDepth 100000 in
set_option maxHeartbeats 4000000 in
theorem t_X8_rule {N : Nat} {X : zXT} {sh : List yH} {l : Launch} {rm : Room} (σ : yS) (x1 : Int) (res : Int × yS) (h : f_X8_rule N σ x1 = some res) : G_X8_rule N X sh l rm (0, [(0, .inr (.inl 8, 0)), (1, .inl (.inl x1))], [], σ) (some (.inl (.inl res.1)), res.2) := by
  unfold f_X8_rule at h
  refine yG_n (n := 1) (C' := (1, [(0, .inr (.inl 8, 0)), (1, .inl (.inl x1))], [.inl (.inl x1)], σ)) rfl ?_
  refine yG_n (n := 1) (C' := ((bif zle x1 0 && zle 0 x1 then 36 else (bif zle x1 1 && zle 1 x1 then 41 else (bif zle x1 2 && zle 2 x1 then 49 else (bif zle x1 3 && zle 3 x1 then 54 else (bif zle x1 4 && zle 4 x1 then 62 else 70))))), [(0, .inr (.inl 8, 0)), (1, .inl (.inl x1))], [], σ)) rfl ?_
  cases hg1 : (zle x1 0 && zle 0 x1) with
  | true =>
    rw [hg1] at h
    dsimp only [cond] at h
    show G_X8_rule N X sh l rm (36, [(0, .inr (.inl 8, 0)), (1, .inl (.inl x1))], [], σ) ((some (.inl (.inl res.1)), res.2))
    refine yG_n (n := 2) (C' := (40, [(0, .inr (.inl 8, 0)), (1, .inl (.inl x1))], [.inl (.inl (σ.1 0 3))], σ)) rfl ?_
    have h := Option.some.inj h
    subst h
    dsimp only
    exact yG_r rfl rfl
  | false =>
    rw [hg1] at h
    dsimp only [cond] at h
    show G_X8_rule N X sh l rm ((bif zle x1 1 && zle 1 x1 then 41 else (bif zle x1 2 && zle 2 x1 then 49 else (bif zle x1 3 && zle 3 x1 then 54 else (bif zle x1 4 && zle 4 x1 then 62 else 70)))), [(0, .inr (.inl 8, 0)), (1, .inl (.inl x1))], [], σ) (some (.inl (.inl res.1)), res.2)
    cases hg2 : (zle x1 1 && zle 1 x1) with
    | true =>
      rw [hg2] at h
      dsimp only [cond] at h
      show G_X8_rule N X sh l rm (41, [(0, .inr (.inl 8, 0)), (1, .inl (.inl x1))], [], σ) ((some (.inl (.inl res.1)), res.2))
      refine yG_n (n := 2) (C' := (45, [(0, .inr (.inl 8, 0)), (1, .inl (.inl x1))], [.inl (.inl (σ.1 0 4))], σ)) rfl ?_
      cases hr3 : f_X8_flag N σ (σ.1 0 4) with
      | none => rw [hr3] at h; dsimp only at h; cases h
      | some r1 =>
        rw [hr3] at h
        dsimp only at h
        refine yG_c (C1 := (48, [(0, .inr (.inl 8, 0)), (1, .inl (.inl x1))], [.inl (.inl r1.1)], r1.2)) rfl (e_X8_flag hr3) rfl ?_
        have h := Option.some.inj h
        subst h
        dsimp only
        exact yG_r rfl rfl
    | false =>
      rw [hg2] at h
      dsimp only [cond] at h
      show G_X8_rule N X sh l rm ((bif zle x1 2 && zle 2 x1 then 49 else (bif zle x1 3 && zle 3 x1 then 54 else (bif zle x1 4 && zle 4 x1 then 62 else 70))), [(0, .inr (.inl 8, 0)), (1, .inl (.inl x1))], [], σ) (some (.inl (.inl res.1)), res.2)
      cases hg4 : (zle x1 2 && zle 2 x1) with
      | true =>
        rw [hg4] at h
        dsimp only [cond] at h
        show G_X8_rule N X sh l rm (49, [(0, .inr (.inl 8, 0)), (1, .inl (.inl x1))], [], σ) ((some (.inl (.inl res.1)), res.2))
        refine yG_n (n := 2) (C' := (53, [(0, .inr (.inl 8, 0)), (1, .inl (.inl x1))], [.inl (.inl (σ.1 0 5))], σ)) rfl ?_
        have h := Option.some.inj h
        subst h
        dsimp only
        exact yG_r rfl rfl
      | false =>
        rw [hg4] at h
        dsimp only [cond] at h
        show G_X8_rule N X sh l rm ((bif zle x1 3 && zle 3 x1 then 54 else (bif zle x1 4 && zle 4 x1 then 62 else 70)), [(0, .inr (.inl 8, 0)), (1, .inl (.inl x1))], [], σ) (some (.inl (.inl res.1)), res.2)
        cases hg5 : (zle x1 3 && zle 3 x1) with
        | true =>
          rw [hg5] at h
          dsimp only [cond] at h
          show G_X8_rule N X sh l rm (54, [(0, .inr (.inl 8, 0)), (1, .inl (.inl x1))], [], σ) ((some (.inl (.inl res.1)), res.2))
          refine yG_n (n := 4) (C' := (61, [(0, .inr (.inl 8, 0)), (1, .inl (.inl x1))], [.inl (.inl (σ.1 1 77))], σ)) rfl ?_
          have h := Option.some.inj h
          subst h
          dsimp only
          exact yG_r rfl rfl
        | false =>
          rw [hg5] at h
          dsimp only [cond] at h
          show G_X8_rule N X sh l rm ((bif zle x1 4 && zle 4 x1 then 62 else 70), [(0, .inr (.inl 8, 0)), (1, .inl (.inl x1))], [], σ) (some (.inl (.inl res.1)), res.2)
          cases hg6 : (zle x1 4 && zle 4 x1) with
          | true =>
            rw [hg6] at h
            dsimp only [cond] at h
            show G_X8_rule N X sh l rm (62, [(0, .inr (.inl 8, 0)), (1, .inl (.inl x1))], [], σ) ((some (.inl (.inl res.1)), res.2))
            refine yG_n (n := 4) (C' := (69, [(0, .inr (.inl 8, 0)), (1, .inl (.inl x1))], [.inl (.inl (σ.1 1 118))], σ)) rfl ?_
            have h := Option.some.inj h
            subst h
            dsimp only
            exact yG_r rfl rfl
          | false =>
            rw [hg6] at h
            dsimp only [cond] at h
            show G_X8_rule N X sh l rm (70, [(0, .inr (.inl 8, 0)), (1, .inl (.inl x1))], [], σ) (some (.inl (.inl res.1)), res.2)
            refine yG_n (n := 4) (C' := (78, [(0, .inr (.inl 8, 0)), (1, .inl (.inl x1))], [.inl (.inr 8), .inl (.inr 5), .inl (.inr x1)], σ)) rfl ?_
            cases hr7 : f_X8_in N σ x1 5 8 with
            | none => rw [hr7] at h; dsimp only at h; cases h
            | some r2 =>
              rw [hr7] at h
              dsimp only at h
              refine yG_c (C1 := (81, [(0, .inr (.inl 8, 0)), (1, .inl (.inl x1))], [.inl (.inl r2.1)], r2.2)) rfl (e_X8_in hr7) rfl ?_
              cases hg8 : ycP .eq r2.1 0 with
              | true =>
                rw [hg8] at h
                dsimp only [cond] at h
                refine yG_t (C' := (98, [(0, .inr (.inl 8, 0)), (1, .inl (.inl x1))], [], r2.2)) rfl hg8 ?_
                refine yG_n (n := 1) (C' := (99, [(0, .inr (.inl 8, 0)), (1, .inl (.inl x1))], [.inl (.inl ((-1)))], r2.2)) rfl ?_
                exact yG_w [] rfl (t_X8_rule_b99 r2.2 ((-1)) res h)
              | false =>
                rw [hg8] at h
                dsimp only [cond] at h
                refine yG_f (C' := (84, [(0, .inr (.inl 8, 0)), (1, .inl (.inl x1))], [], r2.2)) rfl hg8 ?_
                refine yG_n (n := 7) (C' := (94, [(0, .inr (.inl 8, 0)), (1, .inl (.inl x1))], [.inl (.inl (ysu (yad 127 x1) 5)), .inr (.inr (0, 393), 1)], r2.2)) rfl ?_
                cases hg9 : yin (ysu (yad 127 x1) 5) 393 with
                | false => rw [hg9] at h; dsimp only [cond] at h; cases h
                | true =>
                  rw [hg9] at h
                  dsimp only [cond] at h
                  refine yG_t (C' := (95, [(0, .inr (.inl 8, 0)), (1, .inl (.inl x1))], [.inl (.inl (r2.2.1 1 (ysu (yad 127 x1) 5).toNat))], r2.2)) rfl hg9 ?_
                  refine yG_n (n := 1) (C' := (99, [(0, .inr (.inl 8, 0)), (1, .inl (.inl x1))], [.inl (.inl (r2.2.1 1 (ysu (yad 127 x1) 5).toNat))], r2.2)) rfl ?_
                  exact yG_w [] rfl (t_X8_rule_b99 r2.2 (r2.2.1 1 (ysu (yad 127 x1) 5).toNat) res h)
set_option maxRecDepth 100000 in
set_option maxHeartbeats 4000000 in
theorem m_X8_rule {N : Nat} {X : zXT} (hX : zXok X) (hN : zXn X) (l : Launch) {sh : List yH} : yMet X vwCl yct sh l yX8_rule wsX8_rule { frames := 2, cells := 0, slots := 0, locals := 89 } (F_X8_rule N) :=
  ymeth (tb := tb_X8_rule N) (pr := pr_X8_rule) (rt := 1) (own := RX8) hX (by decide +kernel) rfl rfl ⟨Nat.le_of_ble_eq_true rfl, Nat.le_of_ble_eq_true rfl⟩
    (zfl_all (List.forall_mem_cons.mpr ⟨zfl_X8 (fun w h => List.mem_cons_of_mem _ (List.mem_append_right _ h)) (List.mem_of_getElem? (i := 4) rfl) (by decide) (by decide), List.forall_mem_cons.mpr ⟨zfl_X8 (fun w h => List.mem_cons_of_mem _ (List.mem_append_right _ h)) (List.mem_of_getElem? (i := 1) rfl) (by decide) (by decide), List.forall_mem_cons.mpr ⟨zfl_X8 (fun w h => List.mem_cons_of_mem _ (List.mem_append_right _ h)) (List.mem_of_getElem? (i := 2) rfl) (by decide) (by decide), List.forall_mem_cons.mpr ⟨zfl_X8 (fun w h => List.mem_cons_of_mem _ (List.mem_append_right _ h)) (List.mem_of_getElem? (i := 3) rfl) (by decide) (by decide), fun _ h => absurd h List.not_mem_nil⟩⟩⟩⟩))
    (zco_all (fun _ h => absurd h List.not_mem_nil)) (zlc_all (List.forall_mem_cons.mpr ⟨(List.mem_of_getElem? (i := 5) rfl), List.forall_mem_cons.mpr ⟨(List.mem_of_getElem? (i := 6) rfl), fun _ h => absurd h List.not_mem_nil⟩⟩))
    (fun _ h => absurd h List.not_mem_nil)
    (List.forall_mem_cons.mpr ⟨ycal_S hX (m_X8_in hX hN l) (fun s args hts => va_cwS 3 hts gX8_rule_X8_in rfl rfl rfl (by decide +kernel) ⟨Nat.le_of_ble_eq_true rfl, Nat.le_of_ble_eq_true rfl⟩), List.forall_mem_cons.mpr ⟨ycal_S hX (m_X8_flag hX hN l) (fun s args hts => va_cwS 1 hts gX8_rule_X8_flag rfl rfl rfl (by decide +kernel) ⟨Nat.le_of_ble_eq_true rfl, Nat.le_of_ble_eq_true rfl⟩), fun _ h => absurd h List.not_mem_nil⟩⟩)
    (zmm_all (fun _ h => absurd h List.not_mem_nil)) (fun _ h => absurd h List.not_mem_nil) (zpr_all hp_X8_rule) (fun as σ res h => by
      unfold F_X8_rule at h
      split at h
      · rename_i x1
        cases hr : f_X8_rule N σ x1 with
        | none => rw [hr] at h; cases h
        | some r =>
          rw [hr] at h
          cases h
          exact ⟨Nat.le_of_ble_eq_true rfl, t_X8_rule σ x1 r hr⟩
      · cases h)
noncomputable def pr_X8_sheet : List (Nat × Instr × Nat) := [(0, .iload_n 1, 1), (1, .iload_n 2, 1), (2, .invokestatic 323, 3), (5, .ifCond .eq 9, 3), (8, .iload_n 3, 1), (9, .bipush 40, 2), (11, .if_icmp .le 5, 3), (14, .iconst (-1), 1), (15, .ireturn, 1), (16, .iload_n 3, 1), (17, .ifCond .ge 6, 3), (20, .bipush (-14), 2), (22, .ireturn, 1), (23, .aload_n 0, 1), (24, .getfield 44, 3), (27, .iload_n 1, 1), (28, .iload_n 2, 1), (29, .iastore, 1), (30, .aload_n 0, 1), (31, .getfield 47, 3), (34, .iload_n 1, 1), (35, .iload_n 3, 1), (36, .iastore, 1), (37, .iconst 0, 1), (38, .istore 4, 2), (40, .iload 4, 2), (42, .bipush 40, 2), (44, .if_icmp .ge 22, 3), (47, .aload_n 0, 1), (48, .getfield 50, 3), (51, .bipush 40, 2), (53, .iload_n 1, 1), (54, .imul, 1), (55, .iload 4, 2), (57, .iadd, 1), (58, .iconst 0, 1), (59, .iastore, 1), (60, .iinc 4 1, 3), (63, .goto (-23), 3), (66, .iconst 1, 1), (67, .ireturn, 1)]
set_option maxRecDepth 100000 in
theorem hp_X8_sheet : pr_X8_sheet.all (fun x => decide (decode cX8_sheet x.1 = .ok x.2)) = true := by decide +kernel
noncomputable def f_X8_sheet_b14 (N : Nat) (σ : yS) : Option (Int × yS) :=
  some ((-1), σ)
noncomputable def f_X8_sheet_b40 (N : Nat) : Nat → yS → Int → Int → Option (Int × yS) := yfix (fun _ _ _ => none) (fun ih σ x1 x4 =>
    bif ycP .ge x4 40 then
      some (1, σ)
    else
      bif yin (yad (ymu 40 x1) x4) 160 then
        ih (yw σ 14 (yad (ymu 40 x1) x4).toNat 0) x1 (yad x4 1)
      else none)
theorem q_X8_sheet_b40 (N : Nat) (n : Nat) (σ : yS) (x1 : Int) (x4 : Int) : f_X8_sheet_b40 N (n + 1) σ x1 x4 =
    (bif ycP .ge x4 40 then
      some (1, σ)
    else
      bif yin (yad (ymu 40 x1) x4) 160 then
        (f_X8_sheet_b40 N n) (yw σ 14 (yad (ymu 40 x1) x4).toNat 0) x1 (yad x4 1)
      else none) := rfl
noncomputable def f_X8_sheet (N : Nat) (σ : yS) (x1 : Int) (x2 : Int) (x3 : Int) : Option (Int × yS) :=
  match f_X8_isSheet N σ x1 x2 with
  | none => none
  | some r1 => bif ycP .eq r1.1 0 then
      f_X8_sheet_b14 N r1.2
    else
      bif ycP .le x3 40 then
        bif ycP .ge x3 0 then
          bif yin x1 4 then
            f_X8_sheet_b40 N N (yw (yw r1.2 12 x1.toNat x2) 13 x1.toNat x3) x1 0
          else none
        else
          some ((-14), r1.2)
      else
        f_X8_sheet_b14 N r1.2
noncomputable def F_X8_sheet (N : Nat) : yF := fun as σ => match as with
  | [.inr (.inl 8, 0), .inl (.inl x1), .inl (.inl x2), .inl (.inl x3)] => (f_X8_sheet N σ x1 x2 x3).map (fun r => (some (.inl (.inl r.1)), r.2))
  | _ => none
theorem e_X8_sheet {N : Nat} {σ : yS} {x1 : Int} {x2 : Int} {x3 : Int} {r : Int × yS} (h : f_X8_sheet N σ x1 x2 x3 = some r) : F_X8_sheet N [.inr (.inl 8, 0), .inl (.inl x1), .inl (.inl x2), .inl (.inl x3)] σ = some (some (.inl (.inl r.1)), r.2) := by
  show (f_X8_sheet N σ x1 x2 x3).map (fun r => ((some (.inl (.inl r.1)), r.2) : yR)) = _
  rw [h]
  rfl
noncomputable def tb_X8_sheet (N : Nat) : yTb := ([(44, 8, 29, 3), (47, 8, 30, 3), (50, 8, 31, 3)], [], [], [], [(323, 2, F_X8_isSheet N)], [], [])
abbrev G_X8_sheet (N : Nat) (X : zXT) (sh : List yH) (l : Launch) (rm : Room) : yC → yR → Prop := yGoes X vwCl yct sh l rm cX8_sheet 5 wsX8_sheet RX8 (tb_X8_sheet N) pr_X8_sheet 1
set_option maxRecDepth 100000 in
set_option maxHeartbeats 4000000 in
theorem t_X8_sheet_b14 {N : Nat} {X : zXT} {sh : List yH} {l : Launch} {rm : Room} (σ : yS) (res : Int × yS) (h : f_X8_sheet_b14 N σ = some res) : G_X8_sheet N X sh l rm (14, [], [], σ) (some (.inl (.inl res.1)), res.2) := by
  unfold f_X8_sheet_b14 at h
  refine yG_n (n := 1) (C' := (15, [], [.inl (.inl ((-1)))], σ)) rfl ?_
  have h := Option.some.inj h
  subst h
  dsimp only
  exact yG_r rfl rfl
set_option maxRecDepth 100000 in
set_option maxHeartbeats 4000000 in
theorem t_X8_sheet_b40 {N : Nat} {X : zXT} {sh : List yH} {l : Launch} {rm : Room} : ∀ (n : Nat) (σ : yS) (x1 : Int) (x4 : Int) (res : Int × yS), f_X8_sheet_b40 N n σ x1 x4 = some res → G_X8_sheet N X sh l rm (40, [(0, .inr (.inl 8, 0)), (1, .inl (.inl x1)), (4, .inl (.inl x4))], [], σ) (some (.inl (.inl res.1)), res.2) := by
  intro n
  induction n with
  | zero => intro σ x1 x4 res h; exact (yno h).elim
  | succ n ih =>
    intro σ x1 x4 res h
    rw [q_X8_sheet_b40] at h
    refine yG_n (n := 2) (C' := (44, [(0, .inr (.inl 8, 0)), (1, .inl (.inl x1)), (4, .inl (.inl x4))], [.inl (.inl 40), .inl (.inl x4)], σ)) rfl ?_
    cases hg1 : ycP .ge x4 40 with
    | true =>
      rw [hg1] at h
      dsimp only [cond] at h
      refine yG_t (C' := (66, [(0, .inr (.inl 8, 0)), (1, .inl (.inl x1)), (4, .inl (.inl x4))], [], σ)) rfl hg1 ?_
      refine yG_n (n := 1) (C' := (67, [(0, .inr (.inl 8, 0)), (1, .inl (.inl x1)), (4, .inl (.inl x4))], [.inl (.inl 1)], σ)) rfl ?_
      have h := Option.some.inj h
      subst h
      dsimp only
      exact yG_r rfl rfl
    | false =>
      rw [hg1] at h
      dsimp only [cond] at h
      refine yG_f (C' := (47, [(0, .inr (.inl 8, 0)), (1, .inl (.inl x1)), (4, .inl (.inl x4))], [], σ)) rfl hg1 ?_
      refine yG_n (n := 8) (C' := (59, [(0, .inr (.inl 8, 0)), (1, .inl (.inl x1)), (4, .inl (.inl x4))], [.inl (.inl 0), .inl (.inl (yad (ymu 40 x1) x4)), .inr (.inr (0, 160), 14)], σ)) rfl ?_
      cases hg2 : yin (yad (ymu 40 x1) x4) 160 with
      | false => rw [hg2] at h; dsimp only [cond] at h; cases h
      | true =>
        rw [hg2] at h
        dsimp only [cond] at h
        refine yG_t (C' := (60, [(0, .inr (.inl 8, 0)), (1, .inl (.inl x1)), (4, .inl (.inl x4))], [], yw σ 14 (yad (ymu 40 x1) x4).toNat 0)) rfl hg2 ?_
        refine yG_n (n := 2) (C' := (40, [(4, .inl (.inl (yad x4 1))), (0, .inr (.inl 8, 0)), (1, .inl (.inl x1))], [], yw σ 14 (yad (ymu 40 x1) x4).toNat 0)) rfl ?_
        exact yG_w [1, 2, 0] rfl (ih (yw σ 14 (yad (ymu 40 x1) x4).toNat 0) x1 (yad x4 1) res h)
set_option maxRecDepth 100000 in
set_option maxHeartbeats 4000000 in
theorem t_X8_sheet {N : Nat} {X : zXT} {sh : List yH} {l : Launch} {rm : Room} (σ : yS) (x1 : Int) (x2 : Int) (x3 : Int) (res : Int × yS) (h : f_X8_sheet N σ x1 x2 x3 = some res) : G_X8_sheet N X sh l rm (0, [(0, .inr (.inl 8, 0)), (1, .inl (.inl x1)), (2, .inl (.inl x2)), (3, .inl (.inl x3))], [], σ) (some (.inl (.inl res.1)), res.2) := by
  unfold f_X8_sheet at h
  refine yG_n (n := 2) (C' := (2, [(0, .inr (.inl 8, 0)), (1, .inl (.inl x1)), (2, .inl (.inl x2)), (3, .inl (.inl x3))], [.inl (.inl x2), .inl (.inl x1)], σ)) rfl ?_
  cases hr3 : f_X8_isSheet N σ x1 x2 with
  | none => rw [hr3] at h; dsimp only at h; cases h
  | some r1 =>
    rw [hr3] at h
    dsimp only at h
    refine yG_c (C1 := (5, [(0, .inr (.inl 8, 0)), (1, .inl (.inl x1)), (2, .inl (.inl x2)), (3, .inl (.inl x3))], [.inl (.inl r1.1)], r1.2)) rfl (e_X8_isSheet hr3) rfl ?_
    cases hg4 : ycP .eq r1.1 0 with
    | true =>
      rw [hg4] at h
      dsimp only [cond] at h
      refine yG_t (C' := (14, [(0, .inr (.inl 8, 0)), (1, .inl (.inl x1)), (2, .inl (.inl x2)), (3, .inl (.inl x3))], [], r1.2)) rfl hg4 ?_
      exact yG_w [] rfl (t_X8_sheet_b14 r1.2 res h)
    | false =>
      rw [hg4] at h
      dsimp only [cond] at h
      refine yG_f (C' := (8, [(0, .inr (.inl 8, 0)), (1, .inl (.inl x1)), (2, .inl (.inl x2)), (3, .inl (.inl x3))], [], r1.2)) rfl hg4 ?_
      refine yG_n (n := 2) (C' := (11, [(0, .inr (.inl 8, 0)), (1, .inl (.inl x1)), (2, .inl (.inl x2)), (3, .inl (.inl x3))], [.inl (.inl 40), .inl (.inl x3)], r1.2)) rfl ?_
      cases hg5 : ycP .le x3 40 with
      | true =>
        rw [hg5] at h
        dsimp only [cond] at h
        refine yG_t (C' := (16, [(0, .inr (.inl 8, 0)), (1, .inl (.inl x1)), (2, .inl (.inl x2)), (3, .inl (.inl x3))], [], r1.2)) rfl hg5 ?_
        refine yG_n (n := 1) (C' := (17, [(0, .inr (.inl 8, 0)), (1, .inl (.inl x1)), (2, .inl (.inl x2)), (3, .inl (.inl x3))], [.inl (.inl x3)], r1.2)) rfl ?_
        cases hg6 : ycP .ge x3 0 with
        | true =>
          rw [hg6] at h
          dsimp only [cond] at h
          refine yG_t (C' := (23, [(0, .inr (.inl 8, 0)), (1, .inl (.inl x1)), (2, .inl (.inl x2)), (3, .inl (.inl x3))], [], r1.2)) rfl hg6 ?_
          refine yG_n (n := 4) (C' := (29, [(0, .inr (.inl 8, 0)), (1, .inl (.inl x1)), (2, .inl (.inl x2)), (3, .inl (.inl x3))], [.inl (.inl x2), .inl (.inl x1), .inr (.inr (0, 4), 12)], r1.2)) rfl ?_
          cases hg7 : yin x1 4 with
          | false => rw [hg7] at h; dsimp only [cond] at h; cases h
          | true =>
            rw [hg7] at h
            dsimp only [cond] at h
            refine yG_t (C' := (30, [(0, .inr (.inl 8, 0)), (1, .inl (.inl x1)), (2, .inl (.inl x2)), (3, .inl (.inl x3))], [], yw r1.2 12 x1.toNat x2)) rfl hg7 ?_
            refine yG_n (n := 4) (C' := (36, [(0, .inr (.inl 8, 0)), (1, .inl (.inl x1)), (2, .inl (.inl x2)), (3, .inl (.inl x3))], [.inl (.inl x3), .inl (.inl x1), .inr (.inr (0, 4), 13)], yw r1.2 12 x1.toNat x2)) rfl ?_
            refine yG_t (C' := (37, [(0, .inr (.inl 8, 0)), (1, .inl (.inl x1)), (2, .inl (.inl x2)), (3, .inl (.inl x3))], [], yw (yw r1.2 12 x1.toNat x2) 13 x1.toNat x3)) rfl hg7 ?_
            refine yG_n (n := 2) (C' := (40, [(4, .inl (.inl 0)), (0, .inr (.inl 8, 0)), (1, .inl (.inl x1)), (2, .inl (.inl x2)), (3, .inl (.inl x3))], [], yw (yw r1.2 12 x1.toNat x2) 13 x1.toNat x3)) rfl ?_
            exact yG_w [1, 2, 0] rfl (t_X8_sheet_b40 N (yw (yw r1.2 12 x1.toNat x2) 13 x1.toNat x3) x1 0 res h)
        | false =>
          rw [hg6] at h
          dsimp only [cond] at h
          refine yG_f (C' := (20, [(0, .inr (.inl 8, 0)), (1, .inl (.inl x1)), (2, .inl (.inl x2)), (3, .inl (.inl x3))], [], r1.2)) rfl hg6 ?_
          refine yG_n (n := 1) (C' := (22, [(0, .inr (.inl 8, 0)), (1, .inl (.inl x1)), (2, .inl (.inl x2)), (3, .inl (.inl x3))], [.inl (.inl ((-14)))], r1.2)) rfl ?_
          have h := Option.some.inj h
          subst h
          dsimp only
          exact yG_r rfl rfl
      | false =>
        rw [hg5] at h
        dsimp only [cond] at h
        refine yG_f (C' := (14, [(0, .inr (.inl 8, 0)), (1, .inl (.inl x1)), (2, .inl (.inl x2)), (3, .inl (.inl x3))], [], r1.2)) rfl hg5 ?_
        exact yG_w [] rfl (t_X8_sheet_b14 r1.2 res h)
set_option maxRecDepth 100000 in
set_option maxHeartbeats 4000000 in
theorem m_X8_sheet {N : Nat} {X : zXT} (hX : zXok X) (hN : zXn X) (l : Launch) {sh : List yH} : yMet X vwCl yct sh l yX8_sheet wsX8_sheet { frames := 3, cells := 0, slots := 0, locals := 110 } (F_X8_sheet N) :=
  ymeth (tb := tb_X8_sheet N) (pr := pr_X8_sheet) (rt := 1) (own := RX8) hX (by decide +kernel) rfl rfl ⟨Nat.le_of_ble_eq_true rfl, Nat.le_of_ble_eq_true rfl⟩
    (zfl_all (List.forall_mem_cons.mpr ⟨zfl_X8 (fun w h => List.mem_cons_of_mem _ (List.mem_append_right _ h)) (List.mem_of_getElem? (i := 1) rfl) (by decide) (by decide), List.forall_mem_cons.mpr ⟨zfl_X8 (fun w h => List.mem_cons_of_mem _ (List.mem_append_right _ h)) (List.mem_of_getElem? (i := 2) rfl) (by decide) (by decide), List.forall_mem_cons.mpr ⟨zfl_X8 (fun w h => List.mem_cons_of_mem _ (List.mem_append_right _ h)) (List.mem_of_getElem? (i := 3) rfl) (by decide) (by decide), fun _ h => absurd h List.not_mem_nil⟩⟩⟩))
    (zco_all (fun _ h => absurd h List.not_mem_nil)) (zlc_all (fun _ h => absurd h List.not_mem_nil))
    (fun _ h => absurd h List.not_mem_nil)
    (List.forall_mem_cons.mpr ⟨ycal_S hX (m_X8_isSheet hX hN l) (fun s args hts => va_cwS 2 hts gX8_sheet_X8_isSheet rfl rfl rfl (by decide +kernel) ⟨Nat.le_of_ble_eq_true rfl, Nat.le_of_ble_eq_true rfl⟩), fun _ h => absurd h List.not_mem_nil⟩)
    (zmm_all (fun _ h => absurd h List.not_mem_nil)) (fun _ h => absurd h List.not_mem_nil) (zpr_all hp_X8_sheet) (fun as σ res h => by
      unfold F_X8_sheet at h
      split at h
      · rename_i x1 x2 x3
        cases hr : f_X8_sheet N σ x1 x2 x3 with
        | none => rw [hr] at h; cases h
        | some r =>
          rw [hr] at h
          cases h
          exact ⟨Nat.le_of_ble_eq_true rfl, t_X8_sheet σ x1 x2 x3 r hr⟩
      · cases h)
noncomputable def pr_X8_stop : List (Nat × Instr × Nat) := [(0, .iload_n 1, 1), (1, .i2l, 1), (2, .lconst 0, 1), (3, .lconst 1, 1), (4, .invokestatic 90, 3), (7, .ifCond .ne 5, 3), (10, .iconst (-1), 1), (11, .ireturn, 1), (12, .aload_n 0, 1), (13, .invokevirtual 272, 3), (16, .istore_n 2, 1), (17, .ldc_w 289, 3), (20, .istore_n 3, 1), (21, .iconst 0, 1), (22, .istore 4, 2), (24, .iconst 0, 1), (25, .istore 5, 2), (27, .iload 5, 2), (29, .iconst 1, 1), (30, .aload_n 0, 1), (31, .getfield 79, 3), (34, .ishl, 1), (35, .if_icmp .ge 72, 3), (38, .iload 5, 2), (40, .iload_n 2, 1), (41, .iand, 1), (42, .ifCond .ne 27, 3), (45, .iload 5, 2), (47, .invokestatic 233, 3), (50, .iload_n 3, 1), (51, .if_icmp .ge 18, 3), (54, .aload_n 0, 1), (55, .iload_n 2, 1), (56, .iload 5, 2), (58, .ior, 1), (59, .invokevirtual 299, 3), (62, .ifCond .ne 7, 3), (65, .iconst 1, 1), (66, .goto 4, 3), (69, .iconst 0, 1), (70, .istore 6, 2), (72, .iload 6, 2), (74, .ifCond .eq 8, 3), (77, .iload 5, 2), (79, .goto 5, 3), (82, .iload 4, 2), (84, .istore 4, 2), (86, .iload 6, 2), (88, .ifCond .eq 11, 3), (91, .iload 5, 2), (93, .invokestatic 233, 3), (96, .goto 4, 3), (99, .iload_n 3, 1), (100, .istore_n 3, 1), (101, .iinc 5 1, 3), (104, .goto (-77), 3), (107, .iload_n 1, 1), (108, .ifCond .ne 7, 3), (111, .iload_n 3, 1), (112, .goto 5, 3), (115, .iload 4, 2), (117, .ireturn, 1)]
set_option maxRecDepth 100000 in
theorem hp_X8_stop : pr_X8_stop.all (fun x => decide (decode cX8_stop x.1 = .ok x.2)) = true := by decide +kernel
noncomputable def f_X8_stop_b117 (N : Nat) (σ : yS) (s0 : Int) : Option (Int × yS) :=
  some (s0, σ)
noncomputable def f_X8_stop_b100 (N : Nat) (k27 : yS → Int → Int → Int → Int → Int → Option (Int × yS)) (σ : yS) (x1 : Int) (x2 : Int) (x4 : Int) (x5 : Int) (s0 : Int) : Option (Int × yS) :=
  k27 σ x1 x2 s0 x4 (yad x5 1)
noncomputable def f_X8_stop_b84 (N : Nat) (k27 : yS → Int → Int → Int → Int → Int → Option (Int × yS)) (σ : yS) (x1 : Int) (x2 : Int) (x3 : Int) (x5 : Int) (x6 : Int) (s0 : Int) : Option (Int × yS) :=
  bif ycP .eq x6 0 then
    f_X8_stop_b100 N k27 σ x1 x2 s0 x5 x3
  else
    match f_X8_bitsOf N σ x5 with
    | none => none
    | some r3 => f_X8_stop_b100 N k27 r3.2 x1 x2 s0 x5 r3.1
noncomputable def f_X8_stop_b70 (N : Nat) (k27 : yS → Int → Int → Int → Int → Int → Option (Int × yS)) (σ : yS) (x1 : Int) (x2 : Int) (x3 : Int) (x4 : Int) (x5 : Int) (s0 : Int) : Option (Int × yS) :=
  bif ycP .eq s0 0 then
    f_X8_stop_b84 N k27 σ x1 x2 x3 x5 s0 x4
  else
    f_X8_stop_b84 N k27 σ x1 x2 x3 x5 s0 x5
noncomputable def f_X8_stop_b69 (N : Nat) (k27 : yS → Int → Int → Int → Int → Int → Option (Int × yS)) (σ : yS) (x1 : Int) (x2 : Int) (x3 : Int) (x4 : Int) (x5 : Int) : Option (Int × yS) :=
  f_X8_stop_b70 N k27 σ x1 x2 x3 x4 x5 0
noncomputable def f_X8_stop_b27 (N : Nat) : Nat → yS → Int → Int → Int → Int → Int → Option (Int × yS) := yfix (fun _ _ _ _ _ _ => none) (fun ih σ x1 x2 x3 x4 x5 =>
    bif ycP .ge x5 (ysl 1 (σ.1 0 3)) then
      bif ycP .ne x1 0 then
        f_X8_stop_b117 N σ x4
      else
        f_X8_stop_b117 N σ x3
    else
      bif ycP .ne (yan x5 x2) 0 then
        f_X8_stop_b69 N ih σ x1 x2 x3 x4 x5
      else
        match f_X8_bitsOf N σ x5 with
        | none => none
        | some r4 => bif ycP .ge r4.1 x3 then
            f_X8_stop_b69 N ih r4.2 x1 x2 x3 x4 x5
          else
            match f_X8_endless N r4.2 (yor x2 x5) with
            | none => none
            | some r5 => bif ycP .ne r5.1 0 then
                f_X8_stop_b69 N ih r5.2 x1 x2 x3 x4 x5
              else
                f_X8_stop_b70 N ih r5.2 x1 x2 x3 x4 x5 1)
theorem q_X8_stop_b27 (N : Nat) (n : Nat) (σ : yS) (x1 : Int) (x2 : Int) (x3 : Int) (x4 : Int) (x5 : Int) : f_X8_stop_b27 N (n + 1) σ x1 x2 x3 x4 x5 =
    (bif ycP .ge x5 (ysl 1 (σ.1 0 3)) then
      bif ycP .ne x1 0 then
        f_X8_stop_b117 N σ x4
      else
        f_X8_stop_b117 N σ x3
    else
      bif ycP .ne (yan x5 x2) 0 then
        f_X8_stop_b69 N (f_X8_stop_b27 N n) σ x1 x2 x3 x4 x5
      else
        match f_X8_bitsOf N σ x5 with
        | none => none
        | some r4 => bif ycP .ge r4.1 x3 then
            f_X8_stop_b69 N (f_X8_stop_b27 N n) r4.2 x1 x2 x3 x4 x5
          else
            match f_X8_endless N r4.2 (yor x2 x5) with
            | none => none
            | some r5 => bif ycP .ne r5.1 0 then
                f_X8_stop_b69 N (f_X8_stop_b27 N n) r5.2 x1 x2 x3 x4 x5
              else
                f_X8_stop_b70 N (f_X8_stop_b27 N n) r5.2 x1 x2 x3 x4 x5 1) := rfl
noncomputable def f_X8_stop (N : Nat) (σ : yS) (x1 : Int) : Option (Int × yS) :=
  match f_X8_in N σ x1 0 1 with
  | none => none
  | some r1 => bif ycP .ne r1.1 0 then
      match f_X8_lawyersNow N r1.2 with
      | none => none
      | some r2 => f_X8_stop_b27 N N r2.2 x1 r2.1 1000000 0 0
    else
      some ((-1), r1.2)
noncomputable def F_X8_stop (N : Nat) : yF := fun as σ => match as with
  | [.inr (.inl 8, 0), .inl (.inl x1)] => (f_X8_stop N σ x1).map (fun r => (some (.inl (.inl r.1)), r.2))
  | _ => none
theorem e_X8_stop {N : Nat} {σ : yS} {x1 : Int} {r : Int × yS} (h : f_X8_stop N σ x1 = some r) : F_X8_stop N [.inr (.inl 8, 0), .inl (.inl x1)] σ = some (some (.inl (.inl r.1)), r.2) := by
  show (f_X8_stop N σ x1).map (fun r => ((some (.inl (.inl r.1)), r.2) : yR)) = _
  rw [h]
  rfl
noncomputable def tb_X8_stop (N : Nat) : yTb := ([(79, 8, 3, 0)], [(289, 1000000)], [], [(272, 1, 8, F_X8_lawyersNow N), (299, 2, 8, F_X8_endless N)], [(90, 3, F_X8_in N), (233, 1, F_X8_bitsOf N)], [], [])
abbrev G_X8_stop (N : Nat) (X : zXT) (sh : List yH) (l : Launch) (rm : Room) : yC → yR → Prop := yGoes X vwCl yct sh l rm cX8_stop 7 wsX8_stop RX8 (tb_X8_stop N) pr_X8_stop 1
set_option maxRecDepth 100000 in
set_option maxHeartbeats 4000000 in
theorem t_X8_stop_b117 {N : Nat} {X : zXT} {sh : List yH} {l : Launch} {rm : Room} (σ : yS) (s0 : Int) (res : Int × yS) (h : f_X8_stop_b117 N σ s0 = some res) : G_X8_stop N X sh l rm (117, [], [.inl (.inl s0)], σ) (some (.inl (.inl res.1)), res.2) := by
  unfold f_X8_stop_b117 at h
  have h := Option.some.inj h
  subst h
  dsimp only
  exact yG_r rfl rfl
set_option maxRecDepth 100000 in
set_option maxHeartbeats 4000000 in
theorem t_X8_stop_b100 {N : Nat} {X : zXT} {sh : List yH} {l : Launch} {rm : Room} (k27 : yS → Int → Int → Int → Int → Int → Option (Int × yS)) (hk27 : ∀ (σ : yS) (x1 : Int) (x2 : Int) (x3 : Int) (x4 : Int) (x5 : Int) (res : Int × yS), k27 σ x1 x2 x3 x4 x5 = some res → G_X8_stop N X sh l rm (27, [(0, .inr (.inl 8, 0)), (1, .inl (.inl x1)), (2, .inl (.inl x2)), (3, .inl (.inl x3)), (4, .inl (.inl x4)), (5, .inl (.inl x5))], [], σ) (some (.inl (.inl res.1)), res.2)) (σ : yS) (x1 : Int) (x2 : Int) (x4 : Int) (x5 : Int) (s0 : Int) (res : Int × yS) (h : f_X8_stop_b100 N k27 σ x1 x2 x4 x5 s0 = some res) : G_X8_stop N X sh l rm (100, [(0, .inr (.inl 8, 0)), (1, .inl (.inl x1)), (2, .inl (.inl x2)), (4, .inl (.inl x4)), (5, .inl (.inl x5))], [.inl (.inl s0)], σ) (some (.inl (.inl res.1)), res.2) := by
  unfold f_X8_stop_b100 at h
  refine yG_n (n := 3) (C' := (27, [(5, .inl (.inl (yad x5 1))), (3, .inl (.inl s0)), (0, .inr (.inl 8, 0)), (1, .inl (.inl x1)), (2, .inl (.inl x2)), (4, .inl (.inl x4))], [], σ)) rfl ?_
  exact yG_w [2, 3, 4, 1, 5, 0] rfl (hk27 σ x1 x2 s0 x4 (yad x5 1) res h)
set_option maxRecDepth 100000 in
set_option maxHeartbeats 4000000 in
theorem t_X8_stop_b84 {N : Nat} {X : zXT} {sh : List yH} {l : Launch} {rm : Room} (k27 : yS → Int → Int → Int → Int → Int → Option (Int × yS)) (hk27 : ∀ (σ : yS) (x1 : Int) (x2 : Int) (x3 : Int) (x4 : Int) (x5 : Int) (res : Int × yS), k27 σ x1 x2 x3 x4 x5 = some res → G_X8_stop N X sh l rm (27, [(0, .inr (.inl 8, 0)), (1, .inl (.inl x1)), (2, .inl (.inl x2)), (3, .inl (.inl x3)), (4, .inl (.inl x4)), (5, .inl (.inl x5))], [], σ) (some (.inl (.inl res.1)), res.2)) (σ : yS) (x1 : Int) (x2 : Int) (x3 : Int) (x5 : Int) (x6 : Int) (s0 : Int) (res : Int × yS) (h : f_X8_stop_b84 N k27 σ x1 x2 x3 x5 x6 s0 = some res) : G_X8_stop N X sh l rm (84, [(0, .inr (.inl 8, 0)), (1, .inl (.inl x1)), (2, .inl (.inl x2)), (3, .inl (.inl x3)), (5, .inl (.inl x5)), (6, .inl (.inl x6))], [.inl (.inl s0)], σ) (some (.inl (.inl res.1)), res.2) := by
  unfold f_X8_stop_b84 at h
  refine yG_n (n := 2) (C' := (88, [(4, .inl (.inl s0)), (0, .inr (.inl 8, 0)), (1, .inl (.inl x1)), (2, .inl (.inl x2)), (3, .inl (.inl x3)), (5, .inl (.inl x5)), (6, .inl (.inl x6))], [.inl (.inl x6)], σ)) rfl ?_
  cases hg1 : ycP .eq x6 0 with
  | true =>
    rw [hg1] at h
    dsimp only [cond] at h
    refine yG_t (C' := (99, [(4, .inl (.inl s0)), (0, .inr (.inl 8, 0)), (1, .inl (.inl x1)), (2, .inl (.inl x2)), (3, .inl (.inl x3)), (5, .inl (.inl x5)), (6, .inl (.inl x6))], [], σ)) rfl hg1 ?_
    refine yG_n (n := 1) (C' := (100, [(4, .inl (.inl s0)), (0, .inr (.inl 8, 0)), (1, .inl (.inl x1)), (2, .inl (.inl x2)), (3, .inl (.inl x3)), (5, .inl (.inl x5)), (6, .inl (.inl x6))], [.inl (.inl x3)], σ)) rfl ?_
    exact yG_w [1, 2, 3, 0, 5] rfl (t_X8_stop_b100 k27 hk27 σ x1 x2 s0 x5 x3 res h)
  | false =>
    rw [hg1] at h
    dsimp only [cond] at h
    refine yG_f (C' := (91, [(4, .inl (.inl s0)), (0, .inr (.inl 8, 0)), (1, .inl (.inl x1)), (2, .inl (.inl x2)), (3, .inl (.inl x3)), (5, .inl (.inl x5)), (6, .inl (.inl x6))], [], σ)) rfl hg1 ?_
    refine yG_n (n := 1) (C' := (93, [(4, .inl (.inl s0)), (0, .inr (.inl 8, 0)), (1, .inl (.inl x1)), (2, .inl (.inl x2)), (3, .inl (.inl x3)), (5, .inl (.inl x5)), (6, .inl (.inl x6))], [.inl (.inl x5)], σ)) rfl ?_
    cases hr2 : f_X8_bitsOf N σ x5 with
    | none => rw [hr2] at h; dsimp only at h; cases h
    | some r3 =>
      rw [hr2] at h
      dsimp only at h
      refine yG_c (C1 := (96, [(4, .inl (.inl s0)), (0, .inr (.inl 8, 0)), (1, .inl (.inl x1)), (2, .inl (.inl x2)), (3, .inl (.inl x3)), (5, .inl (.inl x5)), (6, .inl (.inl x6))], [.inl (.inl r3.1)], r3.2)) rfl (e_X8_bitsOf hr2) rfl ?_
      refine yG_n (n := 1) (C' := (100, [(4, .inl (.inl s0)), (0, .inr (.inl 8, 0)), (1, .inl (.inl x1)), (2, .inl (.inl x2)), (3, .inl (.inl x3)), (5, .inl (.inl x5)), (6, .inl (.inl x6))], [.inl (.inl r3.1)], r3.2)) rfl ?_
      exact yG_w [1, 2, 3, 0, 5] rfl (t_X8_stop_b100 k27 hk27 r3.2 x1 x2 s0 x5 r3.1 res h)
set_option maxRecDepth 100000 in
set_option maxHeartbeats 4000000 in
theorem t_X8_stop_b70 {N : Nat} {X : zXT} {sh : List yH} {l : Launch} {rm : Room} (k27 : yS → Int → Int → Int → Int → Int → Option (Int × yS)) (hk27 : ∀ (σ : yS) (x1 : Int) (x2 : Int) (x3 : Int) (x4 : Int) (x5 : Int) (res : Int × yS), k27 σ x1 x2 x3 x4 x5 = some res → G_X8_stop N X sh l rm (27, [(0, .inr (.inl 8, 0)), (1, .inl (.inl x1)), (2, .inl (.inl x2)), (3, .inl (.inl x3)), (4, .inl (.inl x4)), (5, .inl (.inl x5))], [], σ) (some (.inl (.inl res.1)), res.2)) (σ : yS) (x1 : Int) (x2 : Int) (x3 : Int) (x4 : Int) (x5 : Int) (s0 : Int) (res : Int × yS) (h : f_X8_stop_b70 N k27 σ x1 x2 x3 x4 x5 s0 = some res) : G_X8_stop N X sh l rm (70, [(0, .inr (.inl 8, 0)), (1, .inl (.inl x1)), (2, .inl (.inl x2)), (3, .inl (.inl x3)), (4, .inl (.inl x4)), (5, .inl (.inl x5))], [.inl (.inl s0)], σ) (some (.inl (.inl res.1)), res.2) := by
  unfold f_X8_stop_b70 at h
  refine yG_n (n := 2) (C' := (74, [(6, .inl (.inl s0)), (0, .inr (.inl 8, 0)), (1, .inl (.inl x1)), (2, .inl (.inl x2)), (3, .inl (.inl x3)), (4, .inl (.inl x4)), (5, .inl (.inl x5))], [.inl (.inl s0)], σ)) rfl ?_
  cases hg3 : ycP .eq s0 0 with
  | true =>
    rw [hg3] at h
    dsimp only [cond] at h
    refine yG_t (C' := (82, [(6, .inl (.inl s0)), (0, .inr (.inl 8, 0)), (1, .inl (.inl x1)), (2, .inl (.inl x2)), (3, .inl (.inl x3)), (4, .inl (.inl x4)), (5, .inl (.inl x5))], [], σ)) rfl hg3 ?_
    refine yG_n (n := 1) (C' := (84, [(6, .inl (.inl s0)), (0, .inr (.inl 8, 0)), (1, .inl (.inl x1)), (2, .inl (.inl x2)), (3, .inl (.inl x3)), (4, .inl (.inl x4)), (5, .inl (.inl x5))], [.inl (.inl x4)], σ)) rfl ?_
    exact yG_w [1, 2, 3, 4, 6, 0] rfl (t_X8_stop_b84 k27 hk27 σ x1 x2 x3 x5 s0 x4 res h)
  | false =>
    rw [hg3] at h
    dsimp only [cond] at h
    refine yG_f (C' := (77, [(6, .inl (.inl s0)), (0, .inr (.inl 8, 0)), (1, .inl (.inl x1)), (2, .inl (.inl x2)), (3, .inl (.inl x3)), (4, .inl (.inl x4)), (5, .inl (.inl x5))], [], σ)) rfl hg3 ?_
    refine yG_n (n := 2) (C' := (84, [(6, .inl (.inl s0)), (0, .inr (.inl 8, 0)), (1, .inl (.inl x1)), (2, .inl (.inl x2)), (3, .inl (.inl x3)), (4, .inl (.inl x4)), (5, .inl (.inl x5))], [.inl (.inl x5)], σ)) rfl ?_
    exact yG_w [1, 2, 3, 4, 6, 0] rfl (t_X8_stop_b84 k27 hk27 σ x1 x2 x3 x5 s0 x5 res h)
set_option maxRecDepth 100000 in
set_option maxHeartbeats 4000000 in
theorem t_X8_stop_b69 {N : Nat} {X : zXT} {sh : List yH} {l : Launch} {rm : Room} (k27 : yS → Int → Int → Int → Int → Int → Option (Int × yS)) (hk27 : ∀ (σ : yS) (x1 : Int) (x2 : Int) (x3 : Int) (x4 : Int) (x5 : Int) (res : Int × yS), k27 σ x1 x2 x3 x4 x5 = some res → G_X8_stop N X sh l rm (27, [(0, .inr (.inl 8, 0)), (1, .inl (.inl x1)), (2, .inl (.inl x2)), (3, .inl (.inl x3)), (4, .inl (.inl x4)), (5, .inl (.inl x5))], [], σ) (some (.inl (.inl res.1)), res.2)) (σ : yS) (x1 : Int) (x2 : Int) (x3 : Int) (x4 : Int) (x5 : Int) (res : Int × yS) (h : f_X8_stop_b69 N k27 σ x1 x2 x3 x4 x5 = some res) : G_X8_stop N X sh l rm (69, [(0, .inr (.inl 8, 0)), (1, .inl (.inl x1)), (2, .inl (.inl x2)), (3, .inl (.inl x3)), (4, .inl (.inl x4)), (5, .inl (.inl x5))], [], σ) (some (.inl (.inl res.1)), res.2) := by
  unfold f_X8_stop_b69 at h
  refine yG_n (n := 1) (C' := (70, [(0, .inr (.inl 8, 0)), (1, .inl (.inl x1)), (2, .inl (.inl x2)), (3, .inl (.inl x3)), (4, .inl (.inl x4)), (5, .inl (.inl x5))], [.inl (.inl 0)], σ)) rfl ?_
  exact t_X8_stop_b70 k27 hk27 σ x1 x2 x3 x4 x5 0 res h
set_option maxRecDepth 100000 in
set_option maxHeartbeats 4000000 in
theorem t_X8_stop_b27 {N : Nat} {X : zXT} {sh : List yH} {l : Launch} {rm : Room} : ∀ (n : Nat) (σ : yS) (x1 : Int) (x2 : Int) (x3 : Int) (x4 : Int) (x5 : Int) (res : Int × yS), f_X8_stop_b27 N n σ x1 x2 x3 x4 x5 = some res → G_X8_stop N X sh l rm (27, [(0, .inr (.inl 8, 0)), (1, .inl (.inl x1)), (2, .inl (.inl x2)), (3, .inl (.inl x3)), (4, .inl (.inl x4)), (5, .inl (.inl x5))], [], σ) (some (.inl (.inl res.1)), res.2) := by
  intro n
  induction n with
  | zero => intro σ x1 x2 x3 x4 x5 res h; exact (yno h).elim
  | succ n ih =>
    intro σ x1 x2 x3 x4 x5 res h
    rw [q_X8_stop_b27] at h
    refine yG_n (n := 5) (C' := (35, [(0, .inr (.inl 8, 0)), (1, .inl (.inl x1)), (2, .inl (.inl x2)), (3, .inl (.inl x3)), (4, .inl (.inl x4)), (5, .inl (.inl x5))], [.inl (.inl (ysl 1 (σ.1 0 3))), .inl (.inl x5)], σ)) rfl ?_
    cases hg4 : ycP .ge x5 (ysl 1 (σ.1 0 3)) with
    | true =>
      rw [hg4] at h
      dsimp only [cond] at h
      refine yG_t (C' := (107, [(0, .inr (.inl 8, 0)), (1, .inl (.inl x1)), (2, .inl (.inl x2)), (3, .inl (.inl x3)), (4, .inl (.inl x4)), (5, .inl (.inl x5))], [], σ)) rfl hg4 ?_
      refine yG_n (n := 1) (C' := (108, [(0, .inr (.inl 8, 0)), (1, .inl (.inl x1)), (2, .inl (.inl x2)), (3, .inl (.inl x3)), (4, .inl (.inl x4)), (5, .inl (.inl x5))], [.inl (.inl x1)], σ)) rfl ?_
      cases hg5 : ycP .ne x1 0 with
      | true =>
        rw [hg5] at h
        dsimp only [cond] at h
        refine yG_t (C' := (115, [(0, .inr (.inl 8, 0)), (1, .inl (.inl x1)), (2, .inl (.inl x2)), (3, .inl (.inl x3)), (4, .inl (.inl x4)), (5, .inl (.inl x5))], [], σ)) rfl hg5 ?_
        refine yG_n (n := 1) (C' := (117, [(0, .inr (.inl 8, 0)), (1, .inl (.inl x1)), (2, .inl (.inl x2)), (3, .inl (.inl x3)), (4, .inl (.inl x4)), (5, .inl (.inl x5))], [.inl (.inl x4)], σ)) rfl ?_
        exact yG_w [] rfl (t_X8_stop_b117 σ x4 res h)
      | false =>
        rw [hg5] at h
        dsimp only [cond] at h
        refine yG_f (C' := (111, [(0, .inr (.inl 8, 0)), (1, .inl (.inl x1)), (2, .inl (.inl x2)), (3, .inl (.inl x3)), (4, .inl (.inl x4)), (5, .inl (.inl x5))], [], σ)) rfl hg5 ?_
        refine yG_n (n := 2) (C' := (117, [(0, .inr (.inl 8, 0)), (1, .inl (.inl x1)), (2, .inl (.inl x2)), (3, .inl (.inl x3)), (4, .inl (.inl x4)), (5, .inl (.inl x5))], [.inl (.inl x3)], σ)) rfl ?_
        exact yG_w [] rfl (t_X8_stop_b117 σ x3 res h)
    | false =>
      rw [hg4] at h
      dsimp only [cond] at h
      refine yG_f (C' := (38, [(0, .inr (.inl 8, 0)), (1, .inl (.inl x1)), (2, .inl (.inl x2)), (3, .inl (.inl x3)), (4, .inl (.inl x4)), (5, .inl (.inl x5))], [], σ)) rfl hg4 ?_
      refine yG_n (n := 3) (C' := (42, [(0, .inr (.inl 8, 0)), (1, .inl (.inl x1)), (2, .inl (.inl x2)), (3, .inl (.inl x3)), (4, .inl (.inl x4)), (5, .inl (.inl x5))], [.inl (.inl (yan x5 x2))], σ)) rfl ?_
      cases hg6 : ycP .ne (yan x5 x2) 0 with
      | true =>
        rw [hg6] at h
        dsimp only [cond] at h
        refine yG_t (C' := (69, [(0, .inr (.inl 8, 0)), (1, .inl (.inl x1)), (2, .inl (.inl x2)), (3, .inl (.inl x3)), (4, .inl (.inl x4)), (5, .inl (.inl x5))], [], σ)) rfl hg6 ?_
        exact t_X8_stop_b69 (f_X8_stop_b27 N n) ih σ x1 x2 x3 x4 x5 res h
      | false =>
        rw [hg6] at h
        dsimp only [cond] at h
        refine yG_f (C' := (45, [(0, .inr (.inl 8, 0)), (1, .inl (.inl x1)), (2, .inl (.inl x2)), (3, .inl (.inl x3)), (4, .inl (.inl x4)), (5, .inl (.inl x5))], [], σ)) rfl hg6 ?_
        refine yG_n (n := 1) (C' := (47, [(0, .inr (.inl 8, 0)), (1, .inl (.inl x1)), (2, .inl (.inl x2)), (3, .inl (.inl x3)), (4, .inl (.inl x4)), (5, .inl (.inl x5))], [.inl (.inl x5)], σ)) rfl ?_
        cases hr7 : f_X8_bitsOf N σ x5 with
        | none => rw [hr7] at h; dsimp only at h; cases h
        | some r4 =>
          rw [hr7] at h
          dsimp only at h
          refine yG_c (C1 := (50, [(0, .inr (.inl 8, 0)), (1, .inl (.inl x1)), (2, .inl (.inl x2)), (3, .inl (.inl x3)), (4, .inl (.inl x4)), (5, .inl (.inl x5))], [.inl (.inl r4.1)], r4.2)) rfl (e_X8_bitsOf hr7) rfl ?_
          refine yG_n (n := 1) (C' := (51, [(0, .inr (.inl 8, 0)), (1, .inl (.inl x1)), (2, .inl (.inl x2)), (3, .inl (.inl x3)), (4, .inl (.inl x4)), (5, .inl (.inl x5))], [.inl (.inl x3), .inl (.inl r4.1)], r4.2)) rfl ?_
          cases hg8 : ycP .ge r4.1 x3 with
          | true =>
            rw [hg8] at h
            dsimp only [cond] at h
            refine yG_t (C' := (69, [(0, .inr (.inl 8, 0)), (1, .inl (.inl x1)), (2, .inl (.inl x2)), (3, .inl (.inl x3)), (4, .inl (.inl x4)), (5, .inl (.inl x5))], [], r4.2)) rfl hg8 ?_
            exact t_X8_stop_b69 (f_X8_stop_b27 N n) ih r4.2 x1 x2 x3 x4 x5 res h
          | false =>
            rw [hg8] at h
            dsimp only [cond] at h
            refine yG_f (C' := (54, [(0, .inr (.inl 8, 0)), (1, .inl (.inl x1)), (2, .inl (.inl x2)), (3, .inl (.inl x3)), (4, .inl (.inl x4)), (5, .inl (.inl x5))], [], r4.2)) rfl hg8 ?_
            refine yG_n (n := 4) (C' := (59, [(0, .inr (.inl 8, 0)), (1, .inl (.inl x1)), (2, .inl (.inl x2)), (3, .inl (.inl x3)), (4, .inl (.inl x4)), (5, .inl (.inl x5))], [.inl (.inl (yor x2 x5)), .inr (.inl 8, 0)], r4.2)) rfl ?_
            cases hr9 : f_X8_endless N r4.2 (yor x2 x5) with
            | none => rw [hr9] at h; dsimp only at h; cases h
            | some r5 =>
              rw [hr9] at h
              dsimp only at h
              refine yG_c (C1 := (62, [(0, .inr (.inl 8, 0)), (1, .inl (.inl x1)), (2, .inl (.inl x2)), (3, .inl (.inl x3)), (4, .inl (.inl x4)), (5, .inl (.inl x5))], [.inl (.inl r5.1)], r5.2)) rfl (e_X8_endless hr9) rfl ?_
              cases hg10 : ycP .ne r5.1 0 with
              | true =>
                rw [hg10] at h
                dsimp only [cond] at h
                refine yG_t (C' := (69, [(0, .inr (.inl 8, 0)), (1, .inl (.inl x1)), (2, .inl (.inl x2)), (3, .inl (.inl x3)), (4, .inl (.inl x4)), (5, .inl (.inl x5))], [], r5.2)) rfl hg10 ?_
                exact t_X8_stop_b69 (f_X8_stop_b27 N n) ih r5.2 x1 x2 x3 x4 x5 res h
              | false =>
                rw [hg10] at h
                dsimp only [cond] at h
                refine yG_f (C' := (65, [(0, .inr (.inl 8, 0)), (1, .inl (.inl x1)), (2, .inl (.inl x2)), (3, .inl (.inl x3)), (4, .inl (.inl x4)), (5, .inl (.inl x5))], [], r5.2)) rfl hg10 ?_
                refine yG_n (n := 2) (C' := (70, [(0, .inr (.inl 8, 0)), (1, .inl (.inl x1)), (2, .inl (.inl x2)), (3, .inl (.inl x3)), (4, .inl (.inl x4)), (5, .inl (.inl x5))], [.inl (.inl 1)], r5.2)) rfl ?_
                exact t_X8_stop_b70 (f_X8_stop_b27 N n) ih r5.2 x1 x2 x3 x4 x5 1 res h
set_option maxRecDepth 100000 in
set_option maxHeartbeats 4000000 in
theorem t_X8_stop {N : Nat} {X : zXT} {sh : List yH} {l : Launch} {rm : Room} (σ : yS) (x1 : Int) (res : Int × yS) (h : f_X8_stop N σ x1 = some res) : G_X8_stop N X sh l rm (0, [(0, .inr (.inl 8, 0)), (1, .inl (.inl x1))], [], σ) (some (.inl (.inl res.1)), res.2) := by
  unfold f_X8_stop at h
  refine yG_n (n := 4) (C' := (4, [(0, .inr (.inl 8, 0)), (1, .inl (.inl x1))], [.inl (.inr 1), .inl (.inr 0), .inl (.inr x1)], σ)) rfl ?_
  cases hr11 : f_X8_in N σ x1 0 1 with
  | none => rw [hr11] at h; dsimp only at h; cases h
  | some r1 =>
    rw [hr11] at h
    dsimp only at h
    refine yG_c (C1 := (7, [(0, .inr (.inl 8, 0)), (1, .inl (.inl x1))], [.inl (.inl r1.1)], r1.2)) rfl (e_X8_in hr11) rfl ?_
    cases hg12 : ycP .ne r1.1 0 with
    | true =>
      rw [hg12] at h
      dsimp only [cond] at h
      refine yG_t (C' := (12, [(0, .inr (.inl 8, 0)), (1, .inl (.inl x1))], [], r1.2)) rfl hg12 ?_
      refine yG_n (n := 1) (C' := (13, [(0, .inr (.inl 8, 0)), (1, .inl (.inl x1))], [.inr (.inl 8, 0)], r1.2)) rfl ?_
      cases hr13 : f_X8_lawyersNow N r1.2 with
      | none => rw [hr13] at h; dsimp only at h; cases h
      | some r2 =>
        rw [hr13] at h
        dsimp only at h
        refine yG_c (C1 := (16, [(0, .inr (.inl 8, 0)), (1, .inl (.inl x1))], [.inl (.inl r2.1)], r2.2)) rfl (e_X8_lawyersNow hr13) rfl ?_
        refine yG_n (n := 7) (C' := (27, [(5, .inl (.inl 0)), (4, .inl (.inl 0)), (3, .inl (.inl 1000000)), (2, .inl (.inl r2.1)), (0, .inr (.inl 8, 0)), (1, .inl (.inl x1))], [], r2.2)) rfl ?_
        exact yG_w [4, 5, 3, 2, 1, 0] rfl (t_X8_stop_b27 N r2.2 x1 r2.1 1000000 0 0 res h)
    | false =>
      rw [hg12] at h
      dsimp only [cond] at h
      refine yG_f (C' := (10, [(0, .inr (.inl 8, 0)), (1, .inl (.inl x1))], [], r1.2)) rfl hg12 ?_
      refine yG_n (n := 1) (C' := (11, [(0, .inr (.inl 8, 0)), (1, .inl (.inl x1))], [.inl (.inl ((-1)))], r1.2)) rfl ?_
      have h := Option.some.inj h
      subst h
      dsimp only
      exact yG_r rfl rfl
set_option maxRecDepth 100000 in
set_option maxHeartbeats 4000000 in
theorem m_X8_stop {N : Nat} {X : zXT} (hX : zXok X) (hN : zXn X) (l : Launch) {sh : List yH} : yMet X vwCl yct sh l yX8_stop wsX8_stop { frames := 6, cells := 0, slots := 0, locals := 186 } (F_X8_stop N) :=
  ymeth (tb := tb_X8_stop N) (pr := pr_X8_stop) (rt := 1) (own := RX8) hX (by decide +kernel) rfl rfl ⟨Nat.le_of_ble_eq_true rfl, Nat.le_of_ble_eq_true rfl⟩
    (zfl_all (List.forall_mem_cons.mpr ⟨zfl_X8 (fun w h => List.mem_cons_of_mem _ (List.mem_append_right _ h)) (List.mem_of_getElem? (i := 2) rfl) (by decide) (by decide), fun _ h => absurd h List.not_mem_nil⟩))
    (zco_all (List.forall_mem_cons.mpr ⟨(List.mem_of_getElem? (i := 1) rfl), fun _ h => absurd h List.not_mem_nil⟩)) (zlc_all (fun _ h => absurd h List.not_mem_nil))
    (List.forall_mem_cons.mpr ⟨ycal_V hX (m_X8_lawyersNow hX hN l) rfl (fun s args hts => cwV 0 hts gX8_stop_X8_lawyersNow rfl rfl rfl (by decide +kernel) ⟨Nat.le_of_ble_eq_true rfl, Nat.le_of_ble_eq_true rfl⟩), List.forall_mem_cons.mpr ⟨ycal_V hX (m_X8_endless hX hN l) rfl (fun s args hts => cwV 1 hts gX8_stop_X8_endless rfl rfl rfl (by decide +kernel) ⟨Nat.le_of_ble_eq_true rfl, Nat.le_of_ble_eq_true rfl⟩), fun _ h => absurd h List.not_mem_nil⟩⟩)
    (List.forall_mem_cons.mpr ⟨ycal_S hX (m_X8_in hX hN l) (fun s args hts => va_cwS 3 hts gX8_stop_X8_in rfl rfl rfl (by decide +kernel) ⟨Nat.le_of_ble_eq_true rfl, Nat.le_of_ble_eq_true rfl⟩), List.forall_mem_cons.mpr ⟨ycal_S hX (m_X8_bitsOf hX hN l) (fun s args hts => va_cwS 1 hts gX8_stop_X8_bitsOf rfl rfl rfl (by decide +kernel) ⟨Nat.le_of_ble_eq_true rfl, Nat.le_of_ble_eq_true rfl⟩), fun _ h => absurd h List.not_mem_nil⟩⟩)
    (zmm_all (fun _ h => absurd h List.not_mem_nil)) (fun _ h => absurd h List.not_mem_nil) (zpr_all hp_X8_stop) (fun as σ res h => by
      unfold F_X8_stop at h
      split at h
      · rename_i x1
        cases hr : f_X8_stop N σ x1 with
        | none => rw [hr] at h; cases h
        | some r =>
          rw [hr] at h
          cases h
          exact ⟨Nat.le_of_ble_eq_true rfl, t_X8_stop σ x1 r hr⟩
      · cases h)
noncomputable def pr_X8_text : List (Nat × Instr × Nat) := [(0, .iconst 0, 1), (1, .istore_n 1, 1), (2, .aload_n 0, 1), (3, .iconst 0, 1), (4, .putfield 97, 3), (7, .aload_n 0, 1), (8, .iconst 0, 1), (9, .putfield 106, 3), (12, .aload_n 0, 1), (13, .invokevirtual 53, 3), (16, .aload_n 0, 1), (17, .invokevirtual 147, 3), (20, .aload_n 0, 1), (21, .getfield 97, 3), (24, .ifCond .ne 20, 3), (27, .aload_n 0, 1), (28, .getfield 125, 3), (31, .ifCond .eq 13, 3), (34, .aload_n 0, 1), (35, .invokevirtual 190, 3), (38, .iinc 1 1, 3), (41, .goto (-21), 3), (44, .aload_n 0, 1), (45, .getfield 97, 3), (48, .ifCond .ne 36, 3), (51, .aload_n 0, 1), (52, .aload_n 0, 1), (53, .getfield 73, 3), (56, .aload_n 0, 1), (57, .getfield 59, 3), (60, .if_icmp .ge 18, 3), (63, .aload_n 0, 1), (64, .getfield 76, 3), (67, .aload_n 0, 1), (68, .getfield 70, 3), (71, .if_icmp .ge 7, 3), (74, .iconst 1, 1), (75, .goto 4, 3), (78, .iconst 0, 1), (79, .bipush 6, 2), (81, .invokevirtual 139, 3), (84, .aload_n 0, 1), (85, .iconst 0, 1), (86, .putfield 94, 3), (89, .aload_n 0, 1), (90, .getfield 97, 3), (93, .ifCond .le 11, 3), (96, .bipush (-10), 2), (98, .aload_n 0, 1), (99, .getfield 103, 3), (102, .isub, 1), (103, .ireturn, 1), (104, .aload_n 0, 1), (105, .invokevirtual 56, 3), (108, .iload_n 1, 1), (109, .ireturn, 1)]
set_option maxRecDepth 100000 in
theorem hp_X8_text : pr_X8_text.all (fun x => decide (decode cX8_text x.1 = .ok x.2)) = true := by decide +kernel
noncomputable def f_X8_text_b90 (N : Nat) (σ : yS) (x1 : Int) : Option (Int × yS) :=
  bif ycP .le (σ.1 0 22) 0 then
    match f_X8_keepDraft N σ with
    | none => none
    | some r3 => some (x1, r3.2)
  else
    some (ysu ((-10)) (σ.1 0 23), σ)
noncomputable def f_X8_text_b84 (N : Nat) (σ : yS) (x1 : Int) : Option (Int × yS) :=
  f_X8_text_b90 N (yw σ 0 17 0) x1
noncomputable def f_X8_text_b79 (N : Nat) (σ : yS) (x1 : Int) (s0 : Int) : Option (Int × yS) :=
  match f_X8_needs N σ s0 6 with
  | none => none
  | some r4 => f_X8_text_b84 N r4.2 x1
noncomputable def f_X8_text_b78 (N : Nat) (σ : yS) (x1 : Int) : Option (Int × yS) :=
  f_X8_text_b79 N σ x1 0
noncomputable def f_X8_text_b44 (N : Nat) (σ : yS) (x1 : Int) : Option (Int × yS) :=
  bif ycP .ne (σ.1 0 22) 0 then
    f_X8_text_b84 N σ x1
  else
    bif ycP .ge (σ.1 0 14) (σ.1 0 8) then
      f_X8_text_b78 N σ x1
    else
      bif ycP .ge (σ.1 0 15) (σ.1 0 11) then
        f_X8_text_b78 N σ x1
      else
        f_X8_text_b79 N σ x1 1
noncomputable def f_X8_text_b20 (N : Nat) : Nat → yS → Int → Option (Int × yS) := yfix (fun _ _ => none) (fun ih σ x1 =>
    bif ycP .ne (σ.1 0 22) 0 then
      f_X8_text_b44 N σ x1
    else
      bif ycP .eq (σ.1 0 20) 0 then
        f_X8_text_b44 N σ x1
      else
        match f_X8_readLine N σ with
        | none => none
        | some r5 => ih r5.2 (yad x1 1))
theorem q_X8_text_b20 (N : Nat) (n : Nat) (σ : yS) (x1 : Int) : f_X8_text_b20 N (n + 1) σ x1 =
    (bif ycP .ne (σ.1 0 22) 0 then
      f_X8_text_b44 N σ x1
    else
      bif ycP .eq (σ.1 0 20) 0 then
        f_X8_text_b44 N σ x1
      else
        match f_X8_readLine N σ with
        | none => none
        | some r5 => (f_X8_text_b20 N n) r5.2 (yad x1 1)) := rfl
noncomputable def f_X8_text (N : Nat) (σ : yS) : Option (Int × yS) :=
  match f_X8_firstDraft N (yw (yw σ 0 22 0) 0 18 0) with
  | none => none
  | some r1 => match f_X8_next N r1.2 with
    | none => none
    | some r2 => f_X8_text_b20 N N r2.2 0
noncomputable def F_X8_text (N : Nat) : yF := fun as σ => match as with
  | [.inr (.inl 8, 0)] => (f_X8_text N σ).map (fun r => (some (.inl (.inl r.1)), r.2))
  | _ => none
theorem e_X8_text {N : Nat} {σ : yS} {r : Int × yS} (h : f_X8_text N σ = some r) : F_X8_text N [.inr (.inl 8, 0)] σ = some (some (.inl (.inl r.1)), r.2) := by
  show (f_X8_text N σ).map (fun r => ((some (.inl (.inl r.1)), r.2) : yR)) = _
  rw [h]
  rfl
noncomputable def tb_X8_text (N : Nat) : yTb := ([(59, 8, 8, 0), (70, 8, 11, 0), (73, 8, 14, 0), (76, 8, 15, 0), (94, 8, 17, 0), (97, 8, 22, 0), (103, 8, 23, 0), (106, 8, 18, 0), (125, 8, 20, 0)], [], [], [(53, 1, 8, F_X8_firstDraft N), (56, 1, 8, F_X8_keepDraft N), (139, 3, 8, F_X8_needs N), (147, 1, 8, F_X8_next N), (190, 1, 8, F_X8_readLine N)], [], [], [])
abbrev G_X8_text (N : Nat) (X : zXT) (sh : List yH) (l : Launch) (rm : Room) : yC → yR → Prop := yGoes X vwCl yct sh l rm cX8_text 2 wsX8_text RX8 (tb_X8_text N) pr_X8_text 1
set_option maxRecDepth 100000 in
set_option maxHeartbeats 4000000 in
theorem t_X8_text_b90 {N : Nat} {X : zXT} {sh : List yH} {l : Launch} {rm : Room} (σ : yS) (x1 : Int) (res : Int × yS) (h : f_X8_text_b90 N σ x1 = some res) : G_X8_text N X sh l rm (90, [(0, .inr (.inl 8, 0)), (1, .inl (.inl x1))], [.inr (.inl 8, 0)], σ) (some (.inl (.inl res.1)), res.2) := by
  unfold f_X8_text_b90 at h
  refine yG_n (n := 1) (C' := (93, [(0, .inr (.inl 8, 0)), (1, .inl (.inl x1))], [.inl (.inl (σ.1 0 22))], σ)) rfl ?_
  cases hg1 : ycP .le (σ.1 0 22) 0 with
  | true =>
    rw [hg1] at h
    dsimp only [cond] at h
    refine yG_t (C' := (104, [(0, .inr (.inl 8, 0)), (1, .inl (.inl x1))], [], σ)) rfl hg1 ?_
    refine yG_n (n := 1) (C' := (105, [(0, .inr (.inl 8, 0)), (1, .inl (.inl x1))], [.inr (.inl 8, 0)], σ)) rfl ?_
    cases hr2 : f_X8_keepDraft N σ with
    | none => rw [hr2] at h; dsimp only at h; cases h
    | some r3 =>
      rw [hr2] at h
      dsimp only at h
      refine yG_c (C1 := (108, [(0, .inr (.inl 8, 0)), (1, .inl (.inl x1))], [], r3.2)) rfl (e_X8_keepDraft hr2) rfl ?_
      refine yG_n (n := 1) (C' := (109, [(0, .inr (.inl 8, 0)), (1, .inl (.inl x1))], [.inl (.inl x1)], r3.2)) rfl ?_
      have h := Option.some.inj h
      subst h
      dsimp only
      exact yG_r rfl rfl
  | false =>
    rw [hg1] at h
    dsimp only [cond] at h
    refine yG_f (C' := (96, [(0, .inr (.inl 8, 0)), (1, .inl (.inl x1))], [], σ)) rfl hg1 ?_
    refine yG_n (n := 4) (C' := (103, [(0, .inr (.inl 8, 0)), (1, .inl (.inl x1))], [.inl (.inl (ysu ((-10)) (σ.1 0 23)))], σ)) rfl ?_
    have h := Option.some.inj h
    subst h
    dsimp only
    exact yG_r rfl rfl
set_option maxRecDepth 100000 in
set_option maxHeartbeats 4000000 in
theorem t_X8_text_b84 {N : Nat} {X : zXT} {sh : List yH} {l : Launch} {rm : Room} (σ : yS) (x1 : Int) (res : Int × yS) (h : f_X8_text_b84 N σ x1 = some res) : G_X8_text N X sh l rm (84, [(0, .inr (.inl 8, 0)), (1, .inl (.inl x1))], [], σ) (some (.inl (.inl res.1)), res.2) := by
  unfold f_X8_text_b84 at h
  refine yG_n (n := 4) (C' := (90, [(0, .inr (.inl 8, 0)), (1, .inl (.inl x1))], [.inr (.inl 8, 0)], yw σ 0 17 0)) rfl ?_
  exact t_X8_text_b90 (yw σ 0 17 0) x1 res h
set_option maxRecDepth 100000 in
set_option maxHeartbeats 4000000 in
theorem t_X8_text_b79 {N : Nat} {X : zXT} {sh : List yH} {l : Launch} {rm : Room} (σ : yS) (x1 : Int) (s0 : Int) (res : Int × yS) (h : f_X8_text_b79 N σ x1 s0 = some res) : G_X8_text N X sh l rm (79, [(0, .inr (.inl 8, 0)), (1, .inl (.inl x1))], [.inl (.inl s0), .inr (.inl 8, 0)], σ) (some (.inl (.inl res.1)), res.2) := by
  unfold f_X8_text_b79 at h
  refine yG_n (n := 1) (C' := (81, [(0, .inr (.inl 8, 0)), (1, .inl (.inl x1))], [.inl (.inl 6), .inl (.inl s0), .inr (.inl 8, 0)], σ)) rfl ?_
  cases hr3 : f_X8_needs N σ s0 6 with
  | none => rw [hr3] at h; dsimp only at h; cases h
  | some r4 =>
    rw [hr3] at h
    dsimp only at h
    refine yG_c (C1 := (84, [(0, .inr (.inl 8, 0)), (1, .inl (.inl x1))], [], r4.2)) rfl (e_X8_needs hr3) rfl ?_
    exact t_X8_text_b84 r4.2 x1 res h
set_option maxRecDepth 100000 in
set_option maxHeartbeats 4000000 in
theorem t_X8_text_b78 {N : Nat} {X : zXT} {sh : List yH} {l : Launch} {rm : Room} (σ : yS) (x1 : Int) (res : Int × yS) (h : f_X8_text_b78 N σ x1 = some res) : G_X8_text N X sh l rm (78, [(0, .inr (.inl 8, 0)), (1, .inl (.inl x1))], [.inr (.inl 8, 0)], σ) (some (.inl (.inl res.1)), res.2) := by
  unfold f_X8_text_b78 at h
  refine yG_n (n := 1) (C' := (79, [(0, .inr (.inl 8, 0)), (1, .inl (.inl x1))], [.inl (.inl 0), .inr (.inl 8, 0)], σ)) rfl ?_
  exact t_X8_text_b79 σ x1 0 res h
set_option maxRecDepth 100000 in
set_option maxHeartbeats 4000000 in
theorem t_X8_text_b44 {N : Nat} {X : zXT} {sh : List yH} {l : Launch} {rm : Room} (σ : yS) (x1 : Int) (res : Int × yS) (h : f_X8_text_b44 N σ x1 = some res) : G_X8_text N X sh l rm (44, [(0, .inr (.inl 8, 0)), (1, .inl (.inl x1))], [], σ) (some (.inl (.inl res.1)), res.2) := by
  unfold f_X8_text_b44 at h
  refine yG_n (n := 2) (C' := (48, [(0, .inr (.inl 8, 0)), (1, .inl (.inl x1))], [.inl (.inl (σ.1 0 22))], σ)) rfl ?_
  cases hg4 : ycP .ne (σ.1 0 22) 0 with
  | true =>
    rw [hg4] at h
    dsimp only [cond] at h
    refine yG_t (C' := (84, [(0, .inr (.inl 8, 0)), (1, .inl (.inl x1))], [], σ)) rfl hg4 ?_
    exact t_X8_text_b84 σ x1 res h
  | false =>
    rw [hg4] at h
    dsimp only [cond] at h
    refine yG_f (C' := (51, [(0, .inr (.inl 8, 0)), (1, .inl (.inl x1))], [], σ)) rfl hg4 ?_
    refine yG_n (n := 5) (C' := (60, [(0, .inr (.inl 8, 0)), (1, .inl (.inl x1))], [.inl (.inl (σ.1 0 8)), .inl (.inl (σ.1 0 14)), .inr (.inl 8, 0)], σ)) rfl ?_
    cases hg5 : ycP .ge (σ.1 0 14) (σ.1 0 8) with
    | true =>
      rw [hg5] at h
      dsimp only [cond] at h
      refine yG_t (C' := (78, [(0, .inr (.inl 8, 0)), (1, .inl (.inl x1))], [.inr (.inl 8, 0)], σ)) rfl hg5 ?_
      exact t_X8_text_b78 σ x1 res h
    | false =>
      rw [hg5] at h
      dsimp only [cond] at h
      refine yG_f (C' := (63, [(0, .inr (.inl 8, 0)), (1, .inl (.inl x1))], [.inr (.inl 8, 0)], σ)) rfl hg5 ?_
      refine yG_n (n := 4) (C' := (71, [(0, .inr (.inl 8, 0)), (1, .inl (.inl x1))], [.inl (.inl (σ.1 0 11)), .inl (.inl (σ.1 0 15)), .inr (.inl 8, 0)], σ)) rfl ?_
      cases hg6 : ycP .ge (σ.1 0 15) (σ.1 0 11) with
      | true =>
        rw [hg6] at h
        dsimp only [cond] at h
        refine yG_t (C' := (78, [(0, .inr (.inl 8, 0)), (1, .inl (.inl x1))], [.inr (.inl 8, 0)], σ)) rfl hg6 ?_
        exact t_X8_text_b78 σ x1 res h
      | false =>
        rw [hg6] at h
        dsimp only [cond] at h
        refine yG_f (C' := (74, [(0, .inr (.inl 8, 0)), (1, .inl (.inl x1))], [.inr (.inl 8, 0)], σ)) rfl hg6 ?_
        refine yG_n (n := 2) (C' := (79, [(0, .inr (.inl 8, 0)), (1, .inl (.inl x1))], [.inl (.inl 1), .inr (.inl 8, 0)], σ)) rfl ?_
        exact t_X8_text_b79 σ x1 1 res h
set_option maxRecDepth 100000 in
set_option maxHeartbeats 4000000 in
theorem t_X8_text_b20 {N : Nat} {X : zXT} {sh : List yH} {l : Launch} {rm : Room} : ∀ (n : Nat) (σ : yS) (x1 : Int) (res : Int × yS), f_X8_text_b20 N n σ x1 = some res → G_X8_text N X sh l rm (20, [(0, .inr (.inl 8, 0)), (1, .inl (.inl x1))], [], σ) (some (.inl (.inl res.1)), res.2) := by
  intro n
  induction n with
  | zero => intro σ x1 res h; exact (yno h).elim
  | succ n ih =>
    intro σ x1 res h
    rw [q_X8_text_b20] at h
    refine yG_n (n := 2) (C' := (24, [(0, .inr (.inl 8, 0)), (1, .inl (.inl x1))], [.inl (.inl (σ.1 0 22))], σ)) rfl ?_
    cases hg7 : ycP .ne (σ.1 0 22) 0 with
    | true =>
      rw [hg7] at h
      dsimp only [cond] at h
      refine yG_t (C' := (44, [(0, .inr (.inl 8, 0)), (1, .inl (.inl x1))], [], σ)) rfl hg7 ?_
      exact t_X8_text_b44 σ x1 res h
    | false =>
      rw [hg7] at h
      dsimp only [cond] at h
      refine yG_f (C' := (27, [(0, .inr (.inl 8, 0)), (1, .inl (.inl x1))], [], σ)) rfl hg7 ?_
      refine yG_n (n := 2) (C' := (31, [(0, .inr (.inl 8, 0)), (1, .inl (.inl x1))], [.inl (.inl (σ.1 0 20))], σ)) rfl ?_
      cases hg8 : ycP .eq (σ.1 0 20) 0 with
      | true =>
        rw [hg8] at h
        dsimp only [cond] at h
        refine yG_t (C' := (44, [(0, .inr (.inl 8, 0)), (1, .inl (.inl x1))], [], σ)) rfl hg8 ?_
        exact t_X8_text_b44 σ x1 res h
      | false =>
        rw [hg8] at h
        dsimp only [cond] at h
        refine yG_f (C' := (34, [(0, .inr (.inl 8, 0)), (1, .inl (.inl x1))], [], σ)) rfl hg8 ?_
        refine yG_n (n := 1) (C' := (35, [(0, .inr (.inl 8, 0)), (1, .inl (.inl x1))], [.inr (.inl 8, 0)], σ)) rfl ?_
        cases hr9 : f_X8_readLine N σ with
        | none => rw [hr9] at h; dsimp only at h; cases h
        | some r5 =>
          rw [hr9] at h
          dsimp only at h
          refine yG_c (C1 := (38, [(0, .inr (.inl 8, 0)), (1, .inl (.inl x1))], [], r5.2)) rfl (e_X8_readLine hr9) rfl ?_
          refine yG_n (n := 2) (C' := (20, [(1, .inl (.inl (yad x1 1))), (0, .inr (.inl 8, 0))], [], r5.2)) rfl ?_
          exact yG_w [1, 0] rfl (ih r5.2 (yad x1 1) res h)
set_option maxRecDepth 100000 in
set_option maxHeartbeats 4000000 in
theorem t_X8_text {N : Nat} {X : zXT} {sh : List yH} {l : Launch} {rm : Room} (σ : yS) (res : Int × yS) (h : f_X8_text N σ = some res) : G_X8_text N X sh l rm (0, [(0, .inr (.inl 8, 0))], [], σ) (some (.inl (.inl res.1)), res.2) := by
  unfold f_X8_text at h
  refine yG_n (n := 9) (C' := (13, [(1, .inl (.inl 0)), (0, .inr (.inl 8, 0))], [.inr (.inl 8, 0)], yw (yw σ 0 22 0) 0 18 0)) rfl ?_
  cases hr10 : f_X8_firstDraft N (yw (yw σ 0 22 0) 0 18 0) with
  | none => rw [hr10] at h; dsimp only at h; cases h
  | some r1 =>
    rw [hr10] at h
    dsimp only at h
    refine yG_c (C1 := (16, [(1, .inl (.inl 0)), (0, .inr (.inl 8, 0))], [], r1.2)) rfl (e_X8_firstDraft hr10) rfl ?_
    refine yG_n (n := 1) (C' := (17, [(1, .inl (.inl 0)), (0, .inr (.inl 8, 0))], [.inr (.inl 8, 0)], r1.2)) rfl ?_
    cases hr11 : f_X8_next N r1.2 with
    | none => rw [hr11] at h; dsimp only at h; cases h
    | some r2 =>
      rw [hr11] at h
      dsimp only at h
      refine yG_c (C1 := (20, [(1, .inl (.inl 0)), (0, .inr (.inl 8, 0))], [], r2.2)) rfl (e_X8_next hr11) rfl ?_
      exact yG_w [1, 0] rfl (t_X8_text_b20 N r2.2 0 res h)
set_option maxRecDepth 100000 in
set_option maxHeartbeats 4000000 in
theorem m_X8_text {N : Nat} {X : zXT} (hX : zXok X) (hN : zXn X) (l : Launch) {sh : List yH} : yMet X vwCl yct sh l yX8_text wsX8_text { frames := 8, cells := 0, slots := 0, locals := 221 } (F_X8_text N) :=
  ymeth (tb := tb_X8_text N) (pr := pr_X8_text) (rt := 1) (own := RX8) hX (by decide +kernel) rfl rfl ⟨Nat.le_of_ble_eq_true rfl, Nat.le_of_ble_eq_true rfl⟩
    (zfl_all (List.forall_mem_cons.mpr ⟨zfl_X8 (fun w h => List.mem_cons_of_mem _ (List.mem_append_right _ h)) (List.mem_of_getElem? (i := 5) rfl) (by decide) (by decide), List.forall_mem_cons.mpr ⟨zfl_X8 (fun w h => List.mem_cons_of_mem _ (List.mem_append_right _ h)) (List.mem_of_getElem? (i := 7) rfl) (by decide) (by decide), List.forall_mem_cons.mpr ⟨zfl_X8 (fun w h => List.mem_cons_of_mem _ (List.mem_append_right _ h)) (List.mem_of_getElem? (i := 4) rfl) (by decide) (by decide), List.forall_mem_cons.mpr ⟨zfl_X8 (fun w h => List.mem_cons_of_mem _ (List.mem_append_right _ h)) (List.mem_of_getElem? (i := 6) rfl) (by decide) (by decide), List.forall_mem_cons.mpr ⟨zfl_X8 (fun w h => List.mem_cons_of_mem _ (List.mem_append_right _ h)) (List.mem_of_getElem? (i := 8) rfl) (by decide) (by decide), List.forall_mem_cons.mpr ⟨zfl_X8 (fun w h => List.mem_cons_of_mem _ (List.mem_append_right _ h)) (List.mem_of_getElem? (i := 1) rfl) (by decide) (by decide), List.forall_mem_cons.mpr ⟨zfl_X8 (fun w h => List.mem_cons_of_mem _ (List.mem_append_right _ h)) (List.mem_of_getElem? (i := 9) rfl) (by decide) (by decide), List.forall_mem_cons.mpr ⟨zfl_X8 (fun w h => List.mem_cons_of_mem _ (List.mem_append_right _ h)) (List.mem_of_getElem? (i := 2) rfl) (by decide) (by decide), List.forall_mem_cons.mpr ⟨zfl_X8 (fun w h => List.mem_cons_of_mem _ (List.mem_append_right _ h)) (List.mem_of_getElem? (i := 3) rfl) (by decide) (by decide), fun _ h => absurd h List.not_mem_nil⟩⟩⟩⟩⟩⟩⟩⟩⟩))
    (zco_all (fun _ h => absurd h List.not_mem_nil)) (zlc_all (fun _ h => absurd h List.not_mem_nil))
    (List.forall_mem_cons.mpr ⟨ycal_V hX (m_X8_firstDraft hX hN l) rfl (fun s args hts => cwV 0 hts gX8_text_X8_firstDraft rfl rfl rfl (by decide +kernel) ⟨Nat.le_of_ble_eq_true rfl, Nat.le_of_ble_eq_true rfl⟩), List.forall_mem_cons.mpr ⟨ycal_V hX (m_X8_keepDraft hX hN l) rfl (fun s args hts => cwV 0 hts gX8_text_X8_keepDraft rfl rfl rfl (by decide +kernel) ⟨Nat.le_of_ble_eq_true rfl, Nat.le_of_ble_eq_true rfl⟩), List.forall_mem_cons.mpr ⟨ycal_V hX (m_X8_needs hX hN l) rfl (fun s args hts => cwV 2 hts gX8_text_X8_needs rfl rfl rfl (by decide +kernel) ⟨Nat.le_of_ble_eq_true rfl, Nat.le_of_ble_eq_true rfl⟩), List.forall_mem_cons.mpr ⟨ycal_V hX (m_X8_next hX hN l) rfl (fun s args hts => cwV 0 hts gX8_text_X8_next rfl rfl rfl (by decide +kernel) ⟨Nat.le_of_ble_eq_true rfl, Nat.le_of_ble_eq_true rfl⟩), List.forall_mem_cons.mpr ⟨ycal_V hX (m_X8_readLine hX hN l) rfl (fun s args hts => cwV 0 hts gX8_text_X8_readLine rfl rfl rfl (by decide +kernel) ⟨Nat.le_of_ble_eq_true rfl, Nat.le_of_ble_eq_true rfl⟩), fun _ h => absurd h List.not_mem_nil⟩⟩⟩⟩⟩)
    (fun _ h => absurd h List.not_mem_nil)
    (zmm_all (fun _ h => absurd h List.not_mem_nil)) (fun _ h => absurd h List.not_mem_nil) (zpr_all hp_X8_text) (fun as σ res h => by
      unfold F_X8_text at h
      split at h
      · cases hr : f_X8_text N σ with
        | none => rw [hr] at h; cases h
        | some r =>
          rw [hr] at h
          cases h
          exact ⟨Nat.le_of_ble_eq_true rfl, t_X8_text σ r hr⟩
      · cases h)
noncomputable def pr_X8_torn : List (Nat × Instr × Nat) := [(0, .aload_n 0, 1), (1, .getfield 330, 3), (4, .ireturn, 1)]
set_option maxRecDepth 100000 in
theorem hp_X8_torn : pr_X8_torn.all (fun x => decide (decode cX8_torn x.1 = .ok x.2)) = true := by decide +kernel
noncomputable def f_X8_torn (N : Nat) (σ : yS) : Option (Int × yS) :=
  some (σ.1 0 32, σ)
noncomputable def F_X8_torn (N : Nat) : yF := fun as σ => match as with
  | [.inr (.inl 8, 0)] => (f_X8_torn N σ).map (fun r => (some (.inl (.inl r.1)), r.2))
  | _ => none
theorem e_X8_torn {N : Nat} {σ : yS} {r : Int × yS} (h : f_X8_torn N σ = some r) : F_X8_torn N [.inr (.inl 8, 0)] σ = some (some (.inl (.inl r.1)), r.2) := by
  show (f_X8_torn N σ).map (fun r => ((some (.inl (.inl r.1)), r.2) : yR)) = _
  rw [h]
  rfl
noncomputable def tb_X8_torn (N : Nat) : yTb := ([(330, 8, 32, 0)], [], [], [], [], [], [])
abbrev G_X8_torn (N : Nat) (X : zXT) (sh : List yH) (l : Launch) (rm : Room) : yC → yR → Prop := yGoes X vwCl yct sh l rm cX8_torn 1 wsX8_torn RX8 (tb_X8_torn N) pr_X8_torn 1
set_option maxRecDepth 100000 in
set_option maxHeartbeats 4000000 in
theorem t_X8_torn {N : Nat} {X : zXT} {sh : List yH} {l : Launch} {rm : Room} (σ : yS) (res : Int × yS) (h : f_X8_torn N σ = some res) : G_X8_torn N X sh l rm (0, [(0, .inr (.inl 8, 0))], [], σ) (some (.inl (.inl res.1)), res.2) := by
  unfold f_X8_torn at h
  refine yG_n (n := 2) (C' := (4, [(0, .inr (.inl 8, 0))], [.inl (.inl (σ.1 0 32))], σ)) rfl ?_
  have h := Option.some.inj h
  subst h
  dsimp only
  exact yG_r rfl rfl
set_option maxRecDepth 100000 in
set_option maxHeartbeats 4000000 in
theorem m_X8_torn {N : Nat} {X : zXT} (hX : zXok X) (hN : zXn X) (l : Launch) {sh : List yH} : yMet X vwCl yct sh l yX8_torn wsX8_torn { frames := 1, cells := 0, slots := 0, locals := 64 } (F_X8_torn N) :=
  ymeth (tb := tb_X8_torn N) (pr := pr_X8_torn) (rt := 1) (own := RX8) hX (by decide +kernel) rfl rfl ⟨Nat.le_of_ble_eq_true rfl, Nat.le_of_ble_eq_true rfl⟩
    (zfl_all (List.forall_mem_cons.mpr ⟨zfl_X8 (fun w h => List.mem_cons_of_mem _ (List.mem_append_right _ h)) (List.mem_of_getElem? (i := 1) rfl) (by decide) (by decide), fun _ h => absurd h List.not_mem_nil⟩))
    (zco_all (fun _ h => absurd h List.not_mem_nil)) (zlc_all (fun _ h => absurd h List.not_mem_nil))
    (fun _ h => absurd h List.not_mem_nil)
    (fun _ h => absurd h List.not_mem_nil)
    (zmm_all (fun _ h => absurd h List.not_mem_nil)) (fun _ h => absurd h List.not_mem_nil) (zpr_all hp_X8_torn) (fun as σ res h => by
      unfold F_X8_torn at h
      split at h
      · cases hr : f_X8_torn N σ with
        | none => rw [hr] at h; cases h
        | some r =>
          rw [hr] at h
          cases h
          exact ⟨Nat.le_of_ble_eq_true rfl, t_X8_torn σ r hr⟩
      · cases h)
noncomputable def pr_X8_vow : List (Nat × Instr × Nat) := [(0, .iload_n 1, 1), (1, .i2l, 1), (2, .lconst 0, 1), (3, .aload_n 0, 1), (4, .getfield 7, 3), (7, .bipush 77, 2), (9, .iaload, 1), (10, .iconst 1, 1), (11, .isub, 1), (12, .i2l, 1), (13, .invokestatic 90, 3), (16, .ifCond .eq 31, 3), (19, .iload_n 2, 1), (20, .i2l, 1), (21, .lconst 0, 1), (22, .ldc2_w 195, 3), (25, .invokestatic 90, 3), (28, .ifCond .eq 19, 3), (31, .aload_n 0, 1), (32, .getfield 7, 3), (35, .bipush 78, 2), (37, .iconst 4, 1), (38, .iload_n 1, 1), (39, .imul, 1), (40, .iadd, 1), (41, .iload_n 2, 1), (42, .iadd, 1), (43, .iaload, 1), (44, .goto 4, 3), (47, .iconst (-1), 1), (48, .ireturn, 1)]
set_option maxRecDepth 100000 in
theorem hp_X8_vow : pr_X8_vow.all (fun x => decide (decode cX8_vow x.1 = .ok x.2)) = true := by decide +kernel
noncomputable def f_X8_vow_b48 (N : Nat) (σ : yS) (s0 : Int) : Option (Int × yS) :=
  some (s0, σ)
noncomputable def f_X8_vow_b47 (N : Nat) (σ : yS) : Option (Int × yS) :=
  f_X8_vow_b48 N σ ((-1))
noncomputable def f_X8_vow (N : Nat) (σ : yS) (x1 : Int) (x2 : Int) : Option (Int × yS) :=
  match f_X8_in N σ x1 0 (ysu (σ.1 1 77) 1) with
  | none => none
  | some r1 => bif ycP .eq r1.1 0 then
      f_X8_vow_b47 N r1.2
    else
      match f_X8_in N r1.2 x2 0 3 with
      | none => none
      | some r2 => bif ycP .eq r2.1 0 then
          f_X8_vow_b47 N r2.2
        else
          bif yin (yad (yad 78 (ymu 4 x1)) x2) 393 then
            f_X8_vow_b48 N r2.2 (r2.2.1 1 (yad (yad 78 (ymu 4 x1)) x2).toNat)
          else none
noncomputable def F_X8_vow (N : Nat) : yF := fun as σ => match as with
  | [.inr (.inl 8, 0), .inl (.inl x1), .inl (.inl x2)] => (f_X8_vow N σ x1 x2).map (fun r => (some (.inl (.inl r.1)), r.2))
  | _ => none
theorem e_X8_vow {N : Nat} {σ : yS} {x1 : Int} {x2 : Int} {r : Int × yS} (h : f_X8_vow N σ x1 x2 = some r) : F_X8_vow N [.inr (.inl 8, 0), .inl (.inl x1), .inl (.inl x2)] σ = some (some (.inl (.inl r.1)), r.2) := by
  show (f_X8_vow N σ x1 x2).map (fun r => ((some (.inl (.inl r.1)), r.2) : yR)) = _
  rw [h]
  rfl
noncomputable def tb_X8_vow (N : Nat) : yTb := ([(7, 8, 0, 3)], [], [(195, 3)], [], [(90, 3, F_X8_in N)], [], [])
abbrev G_X8_vow (N : Nat) (X : zXT) (sh : List yH) (l : Launch) (rm : Room) : yC → yR → Prop := yGoes X vwCl yct sh l rm cX8_vow 3 wsX8_vow RX8 (tb_X8_vow N) pr_X8_vow 1
set_option maxRecDepth 100000 in
set_option maxHeartbeats 4000000 in
theorem t_X8_vow_b48 {N : Nat} {X : zXT} {sh : List yH} {l : Launch} {rm : Room} (σ : yS) (s0 : Int) (res : Int × yS) (h : f_X8_vow_b48 N σ s0 = some res) : G_X8_vow N X sh l rm (48, [], [.inl (.inl s0)], σ) (some (.inl (.inl res.1)), res.2) := by
  unfold f_X8_vow_b48 at h
  have h := Option.some.inj h
  subst h
  dsimp only
  exact yG_r rfl rfl
set_option maxRecDepth 100000 in
set_option maxHeartbeats 4000000 in
theorem t_X8_vow_b47 {N : Nat} {X : zXT} {sh : List yH} {l : Launch} {rm : Room} (σ : yS) (res : Int × yS) (h : f_X8_vow_b47 N σ = some res) : G_X8_vow N X sh l rm (47, [], [], σ) (some (.inl (.inl res.1)), res.2) := by
  unfold f_X8_vow_b47 at h
  refine yG_n (n := 1) (C' := (48, [], [.inl (.inl ((-1)))], σ)) rfl ?_
  exact t_X8_vow_b48 σ ((-1)) res h
set_option maxRecDepth 100000 in
set_option maxHeartbeats 4000000 in
theorem t_X8_vow {N : Nat} {X : zXT} {sh : List yH} {l : Launch} {rm : Room} (σ : yS) (x1 : Int) (x2 : Int) (res : Int × yS) (h : f_X8_vow N σ x1 x2 = some res) : G_X8_vow N X sh l rm (0, [(0, .inr (.inl 8, 0)), (1, .inl (.inl x1)), (2, .inl (.inl x2))], [], σ) (some (.inl (.inl res.1)), res.2) := by
  unfold f_X8_vow at h
  refine yG_n (n := 10) (C' := (13, [(0, .inr (.inl 8, 0)), (1, .inl (.inl x1)), (2, .inl (.inl x2))], [.inl (.inr (ysu (σ.1 1 77) 1)), .inl (.inr 0), .inl (.inr x1)], σ)) rfl ?_
  cases hr1 : f_X8_in N σ x1 0 (ysu (σ.1 1 77) 1) with
  | none => rw [hr1] at h; dsimp only at h; cases h
  | some r1 =>
    rw [hr1] at h
    dsimp only at h
    refine yG_c (C1 := (16, [(0, .inr (.inl 8, 0)), (1, .inl (.inl x1)), (2, .inl (.inl x2))], [.inl (.inl r1.1)], r1.2)) rfl (e_X8_in hr1) rfl ?_
    cases hg2 : ycP .eq r1.1 0 with
    | true =>
      rw [hg2] at h
      dsimp only [cond] at h
      refine yG_t (C' := (47, [(0, .inr (.inl 8, 0)), (1, .inl (.inl x1)), (2, .inl (.inl x2))], [], r1.2)) rfl hg2 ?_
      exact yG_w [] rfl (t_X8_vow_b47 r1.2 res h)
    | false =>
      rw [hg2] at h
      dsimp only [cond] at h
      refine yG_f (C' := (19, [(0, .inr (.inl 8, 0)), (1, .inl (.inl x1)), (2, .inl (.inl x2))], [], r1.2)) rfl hg2 ?_
      refine yG_n (n := 4) (C' := (25, [(0, .inr (.inl 8, 0)), (1, .inl (.inl x1)), (2, .inl (.inl x2))], [.inl (.inr 3), .inl (.inr 0), .inl (.inr x2)], r1.2)) rfl ?_
      cases hr3 : f_X8_in N r1.2 x2 0 3 with
      | none => rw [hr3] at h; dsimp only at h; cases h
      | some r2 =>
        rw [hr3] at h
        dsimp only at h
        refine yG_c (C1 := (28, [(0, .inr (.inl 8, 0)), (1, .inl (.inl x1)), (2, .inl (.inl x2))], [.inl (.inl r2.1)], r2.2)) rfl (e_X8_in hr3) rfl ?_
        cases hg4 : ycP .eq r2.1 0 with
        | true =>
          rw [hg4] at h
          dsimp only [cond] at h
          refine yG_t (C' := (47, [(0, .inr (.inl 8, 0)), (1, .inl (.inl x1)), (2, .inl (.inl x2))], [], r2.2)) rfl hg4 ?_
          exact yG_w [] rfl (t_X8_vow_b47 r2.2 res h)
        | false =>
          rw [hg4] at h
          dsimp only [cond] at h
          refine yG_f (C' := (31, [(0, .inr (.inl 8, 0)), (1, .inl (.inl x1)), (2, .inl (.inl x2))], [], r2.2)) rfl hg4 ?_
          refine yG_n (n := 9) (C' := (43, [(0, .inr (.inl 8, 0)), (1, .inl (.inl x1)), (2, .inl (.inl x2))], [.inl (.inl (yad (yad 78 (ymu 4 x1)) x2)), .inr (.inr (0, 393), 1)], r2.2)) rfl ?_
          cases hg5 : yin (yad (yad 78 (ymu 4 x1)) x2) 393 with
          | false => rw [hg5] at h; dsimp only [cond] at h; cases h
          | true =>
            rw [hg5] at h
            dsimp only [cond] at h
            refine yG_t (C' := (44, [(0, .inr (.inl 8, 0)), (1, .inl (.inl x1)), (2, .inl (.inl x2))], [.inl (.inl (r2.2.1 1 (yad (yad 78 (ymu 4 x1)) x2).toNat))], r2.2)) rfl hg5 ?_
            refine yG_n (n := 1) (C' := (48, [(0, .inr (.inl 8, 0)), (1, .inl (.inl x1)), (2, .inl (.inl x2))], [.inl (.inl (r2.2.1 1 (yad (yad 78 (ymu 4 x1)) x2).toNat))], r2.2)) rfl ?_
            exact yG_w [] rfl (t_X8_vow_b48 r2.2 (r2.2.1 1 (yad (yad 78 (ymu 4 x1)) x2).toNat) res h)
set_option maxRecDepth 100000 in
set_option maxHeartbeats 4000000 in
theorem m_X8_vow {N : Nat} {X : zXT} (hX : zXok X) (hN : zXn X) (l : Launch) {sh : List yH} : yMet X vwCl yct sh l yX8_vow wsX8_vow { frames := 2, cells := 0, slots := 0, locals := 89 } (F_X8_vow N) :=
  ymeth (tb := tb_X8_vow N) (pr := pr_X8_vow) (rt := 1) (own := RX8) hX (by decide +kernel) rfl rfl ⟨Nat.le_of_ble_eq_true rfl, Nat.le_of_ble_eq_true rfl⟩
    (zfl_all (List.forall_mem_cons.mpr ⟨zfl_X8 (fun w h => List.mem_cons_of_mem _ (List.mem_append_right _ h)) (List.mem_of_getElem? (i := 1) rfl) (by decide) (by decide), fun _ h => absurd h List.not_mem_nil⟩))
    (zco_all (fun _ h => absurd h List.not_mem_nil)) (zlc_all (List.forall_mem_cons.mpr ⟨(List.mem_of_getElem? (i := 2) rfl), fun _ h => absurd h List.not_mem_nil⟩))
    (fun _ h => absurd h List.not_mem_nil)
    (List.forall_mem_cons.mpr ⟨ycal_S hX (m_X8_in hX hN l) (fun s args hts => va_cwS 3 hts gX8_vow_X8_in rfl rfl rfl (by decide +kernel) ⟨Nat.le_of_ble_eq_true rfl, Nat.le_of_ble_eq_true rfl⟩), fun _ h => absurd h List.not_mem_nil⟩)
    (zmm_all (fun _ h => absurd h List.not_mem_nil)) (fun _ h => absurd h List.not_mem_nil) (zpr_all hp_X8_vow) (fun as σ res h => by
      unfold F_X8_vow at h
      split at h
      · rename_i x1 x2
        cases hr : f_X8_vow N σ x1 x2 with
        | none => rw [hr] at h; cases h
        | some r =>
          rw [hr] at h
          cases h
          exact ⟨Nat.le_of_ble_eq_true rfl, t_X8_vow σ x1 x2 r hr⟩
      · cases h)
noncomputable def pr_X8_want : List (Nat × Instr × Nat) := [(0, .iload_n 1, 1), (1, .i2l, 1), (2, .lconst 0, 1), (3, .aload_n 0, 1), (4, .getfield 7, 3), (7, .bipush 118, 2), (9, .iaload, 1), (10, .iconst 1, 1), (11, .isub, 1), (12, .i2l, 1), (13, .invokestatic 90, 3), (16, .ifCond .eq 29, 3), (19, .iload_n 2, 1), (20, .i2l, 1), (21, .lconst 0, 1), (22, .lconst 1, 1), (23, .invokestatic 90, 3), (26, .ifCond .eq 19, 3), (29, .aload_n 0, 1), (30, .getfield 7, 3), (33, .bipush 119, 2), (35, .iconst 2, 1), (36, .iload_n 1, 1), (37, .imul, 1), (38, .iadd, 1), (39, .iload_n 2, 1), (40, .iadd, 1), (41, .iaload, 1), (42, .goto 4, 3), (45, .iconst (-1), 1), (46, .ireturn, 1)]
set_option maxRecDepth 100000 in
theorem hp_X8_want : pr_X8_want.all (fun x => decide (decode cX8_want x.1 = .ok x.2)) = true := by decide +kernel
noncomputable def f_X8_want_b46 (N : Nat) (σ : yS) (s0 : Int) : Option (Int × yS) :=
  some (s0, σ)
noncomputable def f_X8_want_b45 (N : Nat) (σ : yS) : Option (Int × yS) :=
  f_X8_want_b46 N σ ((-1))
noncomputable def f_X8_want (N : Nat) (σ : yS) (x1 : Int) (x2 : Int) : Option (Int × yS) :=
  match f_X8_in N σ x1 0 (ysu (σ.1 1 118) 1) with
  | none => none
  | some r1 => bif ycP .eq r1.1 0 then
      f_X8_want_b45 N r1.2
    else
      match f_X8_in N r1.2 x2 0 1 with
      | none => none
      | some r2 => bif ycP .eq r2.1 0 then
          f_X8_want_b45 N r2.2
        else
          bif yin (yad (yad 119 (ymu 2 x1)) x2) 393 then
            f_X8_want_b46 N r2.2 (r2.2.1 1 (yad (yad 119 (ymu 2 x1)) x2).toNat)
          else none
noncomputable def F_X8_want (N : Nat) : yF := fun as σ => match as with
  | [.inr (.inl 8, 0), .inl (.inl x1), .inl (.inl x2)] => (f_X8_want N σ x1 x2).map (fun r => (some (.inl (.inl r.1)), r.2))
  | _ => none
theorem e_X8_want {N : Nat} {σ : yS} {x1 : Int} {x2 : Int} {r : Int × yS} (h : f_X8_want N σ x1 x2 = some r) : F_X8_want N [.inr (.inl 8, 0), .inl (.inl x1), .inl (.inl x2)] σ = some (some (.inl (.inl r.1)), r.2) := by
  show (f_X8_want N σ x1 x2).map (fun r => ((some (.inl (.inl r.1)), r.2) : yR)) = _
  rw [h]
  rfl
noncomputable def tb_X8_want (N : Nat) : yTb := ([(7, 8, 0, 3)], [], [], [], [(90, 3, F_X8_in N)], [], [])
abbrev G_X8_want (N : Nat) (X : zXT) (sh : List yH) (l : Launch) (rm : Room) : yC → yR → Prop := yGoes X vwCl yct sh l rm cX8_want 3 wsX8_want RX8 (tb_X8_want N) pr_X8_want 1
set_option maxRecDepth 100000 in
set_option maxHeartbeats 4000000 in
theorem t_X8_want_b46 {N : Nat} {X : zXT} {sh : List yH} {l : Launch} {rm : Room} (σ : yS) (s0 : Int) (res : Int × yS) (h : f_X8_want_b46 N σ s0 = some res) : G_X8_want N X sh l rm (46, [], [.inl (.inl s0)], σ) (some (.inl (.inl res.1)), res.2) := by
  unfold f_X8_want_b46 at h
  have h := Option.some.inj h
  subst h
  dsimp only
  exact yG_r rfl rfl
set_option maxRecDepth 100000 in
set_option maxHeartbeats 4000000 in
theorem t_X8_want_b45 {N : Nat} {X : zXT} {sh : List yH} {l : Launch} {rm : Room} (σ : yS) (res : Int × yS) (h : f_X8_want_b45 N σ = some res) : G_X8_want N X sh l rm (45, [], [], σ) (some (.inl (.inl res.1)), res.2) := by
  unfold f_X8_want_b45 at h
  refine yG_n (n := 1) (C' := (46, [], [.inl (.inl ((-1)))], σ)) rfl ?_
  exact t_X8_want_b46 σ ((-1)) res h
set_option maxRecDepth 100000 in
set_option maxHeartbeats 4000000 in
theorem t_X8_want {N : Nat} {X : zXT} {sh : List yH} {l : Launch} {rm : Room} (σ : yS) (x1 : Int) (x2 : Int) (res : Int × yS) (h : f_X8_want N σ x1 x2 = some res) : G_X8_want N X sh l rm (0, [(0, .inr (.inl 8, 0)), (1, .inl (.inl x1)), (2, .inl (.inl x2))], [], σ) (some (.inl (.inl res.1)), res.2) := by
  unfold f_X8_want at h
  refine yG_n (n := 10) (C' := (13, [(0, .inr (.inl 8, 0)), (1, .inl (.inl x1)), (2, .inl (.inl x2))], [.inl (.inr (ysu (σ.1 1 118) 1)), .inl (.inr 0), .inl (.inr x1)], σ)) rfl ?_
  cases hr1 : f_X8_in N σ x1 0 (ysu (σ.1 1 118) 1) with
  | none => rw [hr1] at h; dsimp only at h; cases h
  | some r1 =>
    rw [hr1] at h
    dsimp only at h
    refine yG_c (C1 := (16, [(0, .inr (.inl 8, 0)), (1, .inl (.inl x1)), (2, .inl (.inl x2))], [.inl (.inl r1.1)], r1.2)) rfl (e_X8_in hr1) rfl ?_
    cases hg2 : ycP .eq r1.1 0 with
    | true =>
      rw [hg2] at h
      dsimp only [cond] at h
      refine yG_t (C' := (45, [(0, .inr (.inl 8, 0)), (1, .inl (.inl x1)), (2, .inl (.inl x2))], [], r1.2)) rfl hg2 ?_
      exact yG_w [] rfl (t_X8_want_b45 r1.2 res h)
    | false =>
      rw [hg2] at h
      dsimp only [cond] at h
      refine yG_f (C' := (19, [(0, .inr (.inl 8, 0)), (1, .inl (.inl x1)), (2, .inl (.inl x2))], [], r1.2)) rfl hg2 ?_
      refine yG_n (n := 4) (C' := (23, [(0, .inr (.inl 8, 0)), (1, .inl (.inl x1)), (2, .inl (.inl x2))], [.inl (.inr 1), .inl (.inr 0), .inl (.inr x2)], r1.2)) rfl ?_
      cases hr3 : f_X8_in N r1.2 x2 0 1 with
      | none => rw [hr3] at h; dsimp only at h; cases h
      | some r2 =>
        rw [hr3] at h
        dsimp only at h
        refine yG_c (C1 := (26, [(0, .inr (.inl 8, 0)), (1, .inl (.inl x1)), (2, .inl (.inl x2))], [.inl (.inl r2.1)], r2.2)) rfl (e_X8_in hr3) rfl ?_
        cases hg4 : ycP .eq r2.1 0 with
        | true =>
          rw [hg4] at h
          dsimp only [cond] at h
          refine yG_t (C' := (45, [(0, .inr (.inl 8, 0)), (1, .inl (.inl x1)), (2, .inl (.inl x2))], [], r2.2)) rfl hg4 ?_
          exact yG_w [] rfl (t_X8_want_b45 r2.2 res h)
        | false =>
          rw [hg4] at h
          dsimp only [cond] at h
          refine yG_f (C' := (29, [(0, .inr (.inl 8, 0)), (1, .inl (.inl x1)), (2, .inl (.inl x2))], [], r2.2)) rfl hg4 ?_
          refine yG_n (n := 9) (C' := (41, [(0, .inr (.inl 8, 0)), (1, .inl (.inl x1)), (2, .inl (.inl x2))], [.inl (.inl (yad (yad 119 (ymu 2 x1)) x2)), .inr (.inr (0, 393), 1)], r2.2)) rfl ?_
          cases hg5 : yin (yad (yad 119 (ymu 2 x1)) x2) 393 with
          | false => rw [hg5] at h; dsimp only [cond] at h; cases h
          | true =>
            rw [hg5] at h
            dsimp only [cond] at h
            refine yG_t (C' := (42, [(0, .inr (.inl 8, 0)), (1, .inl (.inl x1)), (2, .inl (.inl x2))], [.inl (.inl (r2.2.1 1 (yad (yad 119 (ymu 2 x1)) x2).toNat))], r2.2)) rfl hg5 ?_
            refine yG_n (n := 1) (C' := (46, [(0, .inr (.inl 8, 0)), (1, .inl (.inl x1)), (2, .inl (.inl x2))], [.inl (.inl (r2.2.1 1 (yad (yad 119 (ymu 2 x1)) x2).toNat))], r2.2)) rfl ?_
            exact yG_w [] rfl (t_X8_want_b46 r2.2 (r2.2.1 1 (yad (yad 119 (ymu 2 x1)) x2).toNat) res h)
set_option maxRecDepth 100000 in
set_option maxHeartbeats 4000000 in
theorem m_X8_want {N : Nat} {X : zXT} (hX : zXok X) (hN : zXn X) (l : Launch) {sh : List yH} : yMet X vwCl yct sh l yX8_want wsX8_want { frames := 2, cells := 0, slots := 0, locals := 89 } (F_X8_want N) :=
  ymeth (tb := tb_X8_want N) (pr := pr_X8_want) (rt := 1) (own := RX8) hX (by decide +kernel) rfl rfl ⟨Nat.le_of_ble_eq_true rfl, Nat.le_of_ble_eq_true rfl⟩
    (zfl_all (List.forall_mem_cons.mpr ⟨zfl_X8 (fun w h => List.mem_cons_of_mem _ (List.mem_append_right _ h)) (List.mem_of_getElem? (i := 1) rfl) (by decide) (by decide), fun _ h => absurd h List.not_mem_nil⟩))
    (zco_all (fun _ h => absurd h List.not_mem_nil)) (zlc_all (fun _ h => absurd h List.not_mem_nil))
    (fun _ h => absurd h List.not_mem_nil)
    (List.forall_mem_cons.mpr ⟨ycal_S hX (m_X8_in hX hN l) (fun s args hts => va_cwS 3 hts gX8_want_X8_in rfl rfl rfl (by decide +kernel) ⟨Nat.le_of_ble_eq_true rfl, Nat.le_of_ble_eq_true rfl⟩), fun _ h => absurd h List.not_mem_nil⟩)
    (zmm_all (fun _ h => absurd h List.not_mem_nil)) (fun _ h => absurd h List.not_mem_nil) (zpr_all hp_X8_want) (fun as σ res h => by
      unfold F_X8_want at h
      split at h
      · rename_i x1 x2
        cases hr : f_X8_want N σ x1 x2 with
        | none => rw [hr] at h; cases h
        | some r =>
          rw [hr] at h
          cases h
          exact ⟨Nat.le_of_ble_eq_true rfl, t_X8_want σ x1 x2 r hr⟩
      · cases h)
end
section
noncomputable def pr_X8_ways : List (Nat × Instr × Nat) := [(0, .aload_n 0, 1), (1, .iload_n 1, 1), (2, .invokevirtual 205, 3), (5, .ifCond .eq 21, 3), (8, .aload_n 0, 1), (9, .iload_n 2, 1), (10, .invokevirtual 209, 3), (13, .ifCond .eq 13, 3), (16, .iload_n 3, 1), (17, .i2l, 1), (18, .lconst 0, 1), (19, .lconst 1, 1), (20, .invokestatic 90, 3), (23, .ifCond .ne 5, 3), (26, .iconst (-1), 1), (27, .ireturn, 1), (28, .iconst 0, 1), (29, .istore 4, 2), (31, .bipush (-4), 2), (33, .istore 5, 2), (35, .iconst 0, 1), (36, .istore 6, 2), (38, .iload 6, 2), (40, .aload_n 0, 1), (41, .getfield 79, 3), (44, .if_icmp .ge 87, 3), (47, .iconst 0, 1), (48, .istore 7, 2), (50, .iload 7, 2), (52, .iconst 5, 1), (53, .if_icmp .ge 72, 3), (56, .iconst 0, 1), (57, .istore 8, 2), (59, .iload 8, 2), (61, .iconst 3, 1), (62, .if_icmp .gt 57, 3), (65, .aload_n 0, 1), (66, .iload 6, 2), (68, .iload 7, 2), (70, .iload 8, 2), (72, .iload_n 1, 1), (73, .iload_n 2, 1), (74, .invokevirtual 282, 3), (77, .ifCond .eq 36, 3), (80, .iload 4, 2), (82, .ifCond .ne 24, 3), (85, .bipush 100, 2), (87, .iload 6, 2), (89, .imul, 1), (90, .bipush 20, 2), (92, .iload 7, 2), (94, .imul, 1), (95, .iadd, 1), (96, .iconst 5, 1), (97, .iload 8, 2), (99, .imul, 1), (100, .iadd, 1), (101, .iload_n 2, 1), (102, .iadd, 1), (103, .goto 5, 3), (106, .iload 5, 2), (108, .istore 5, 2), (110, .iinc 4 1, 3), (113, .iinc 8 1, 3), (116, .goto (-57), 3), (119, .iinc 7 1, 3), (122, .goto (-72), 3), (125, .iinc 6 1, 3), (128, .goto (-90), 3), (131, .iload_n 3, 1), (132, .ifCond .ne 8, 3), (135, .iload 4, 2), (137, .goto 5, 3), (140, .iload 5, 2), (142, .ireturn, 1)]
set_option maxRecDepth 100000 in
theorem hp_X8_ways : pr_X8_ways.all (fun x => decide (decode cX8_ways x.1 = .ok x.2)) = true := by decide +kernel
noncomputable def f_X8_ways_b26 (N : Nat) (σ : yS) : Option (Int × yS) :=
  some ((-1), σ)
noncomputable def f_X8_ways_b142 (N : Nat) (σ : yS) (s0 : Int) : Option (Int × yS) :=
  some (s0, σ)
noncomputable def f_X8_ways_b113 (N : Nat) (k38 : yS → Int → Int → Int → Int → Int → Int → Option (Int × yS)) (k50 : yS → Int → Int → Int → Int → Int → Int → Int → Option (Int × yS)) (k59 : yS → Int → Int → Int → Int → Int → Int → Int → Int → Option (Int × yS)) (σ : yS) (x1 : Int) (x2 : Int) (x3 : Int) (x4 : Int) (x5 : Int) (x6 : Int) (x7 : Int) (x8 : Int) : Option (Int × yS) :=
  k59 σ x1 x2 x3 x4 x5 x6 x7 (yad x8 1)
noncomputable def f_X8_ways_b108 (N : Nat) (k38 : yS → Int → Int → Int → Int → Int → Int → Option (Int × yS)) (k50 : yS → Int → Int → Int → Int → Int → Int → Int → Option (Int × yS)) (k59 : yS → Int → Int → Int → Int → Int → Int → Int → Int → Option (Int × yS)) (σ : yS) (x1 : Int) (x2 : Int) (x3 : Int) (x4 : Int) (x6 : Int) (x7 : Int) (x8 : Int) (s0 : Int) : Option (Int × yS) :=
  f_X8_ways_b113 N k38 k50 k59 σ x1 x2 x3 (yad x4 1) s0 x6 x7 x8
noncomputable def f_X8_ways_b59 (N : Nat) (k38 : yS → Int → Int → Int → Int → Int → Int → Option (Int × yS)) (k50 : yS → Int → Int → Int → Int → Int → Int → Int → Option (Int × yS)) : Nat → yS → Int → Int → Int → Int → Int → Int → Int → Int → Option (Int × yS) := yfix (fun _ _ _ _ _ _ _ _ _ => none) (fun ih σ x1 x2 x3 x4 x5 x6 x7 x8 =>
    bif ycP .gt x8 3 then
      k50 σ x1 x2 x3 x4 x5 x6 (yad x7 1)
    else
      match f_X8_doesBring N σ x6 x7 x8 x1 x2 with
      | none => none
      | some r4 => bif ycP .eq r4.1 0 then
          f_X8_ways_b113 N k38 k50 ih r4.2 x1 x2 x3 x4 x5 x6 x7 x8
        else
          bif ycP .ne x4 0 then
            f_X8_ways_b108 N k38 k50 ih r4.2 x1 x2 x3 x4 x6 x7 x8 x5
          else
            f_X8_ways_b108 N k38 k50 ih r4.2 x1 x2 x3 x4 x6 x7 x8 (yad (yad (yad (ymu 100 x6) (ymu 20 x7)) (ymu 5 x8)) x2))
theorem q_X8_ways_b59 (N : Nat) (k38 : yS → Int → Int → Int → Int → Int → Int → Option (Int × yS)) (k50 : yS → Int → Int → Int → Int → Int → Int → Int → Option (Int × yS)) (n : Nat) (σ : yS) (x1 : Int) (x2 : Int) (x3 : Int) (x4 : Int) (x5 : Int) (x6 : Int) (x7 : Int) (x8 : Int) : f_X8_ways_b59 N k38 k50 (n + 1) σ x1 x2 x3 x4 x5 x6 x7 x8 =
    (bif ycP .gt x8 3 then
      k50 σ x1 x2 x3 x4 x5 x6 (yad x7 1)
    else
      match f_X8_doesBring N σ x6 x7 x8 x1 x2 with
      | none => none
      | some r4 => bif ycP .eq r4.1 0 then
          f_X8_ways_b113 N k38 k50 (f_X8_ways_b59 N k38 k50 n) r4.2 x1 x2 x3 x4 x5 x6 x7 x8
        else
          bif ycP .ne x4 0 then
            f_X8_ways_b108 N k38 k50 (f_X8_ways_b59 N k38 k50 n) r4.2 x1 x2 x3 x4 x6 x7 x8 x5
          else
            f_X8_ways_b108 N k38 k50 (f_X8_ways_b59 N k38 k50 n) r4.2 x1 x2 x3 x4 x6 x7 x8 (yad (yad (yad (ymu 100 x6) (ymu 20 x7)) (ymu 5 x8)) x2)) := rfl
noncomputable def f_X8_ways_b50 (N : Nat) (k38 : yS → Int → Int → Int → Int → Int → Int → Option (Int × yS)) : Nat → yS → Int → Int → Int → Int → Int → Int → Int → Option (Int × yS) := yfix (fun _ _ _ _ _ _ _ _ => none) (fun ih σ x1 x2 x3 x4 x5 x6 x7 =>
    bif ycP .ge x7 5 then
      k38 σ x1 x2 x3 x4 x5 (yad x6 1)
    else
      f_X8_ways_b59 N k38 ih N σ x1 x2 x3 x4 x5 x6 x7 0)
theorem q_X8_ways_b50 (N : Nat) (k38 : yS → Int → Int → Int → Int → Int → Int → Option (Int × yS)) (n : Nat) (σ : yS) (x1 : Int) (x2 : Int) (x3 : Int) (x4 : Int) (x5 : Int) (x6 : Int) (x7 : Int) : f_X8_ways_b50 N k38 (n + 1) σ x1 x2 x3 x4 x5 x6 x7 =
    (bif ycP .ge x7 5 then
      k38 σ x1 x2 x3 x4 x5 (yad x6 1)
    else
      f_X8_ways_b59 N k38 (f_X8_ways_b50 N k38 n) N σ x1 x2 x3 x4 x5 x6 x7 0) := rfl
noncomputable def f_X8_ways_b38 (N : Nat) : Nat → yS → Int → Int → Int → Int → Int → Int → Option (Int × yS) := yfix (fun _ _ _ _ _ _ _ => none) (fun ih σ x1 x2 x3 x4 x5 x6 =>
    bif ycP .ge x6 (σ.1 0 3) then
      bif ycP .ne x3 0 then
        f_X8_ways_b142 N σ x5
      else
        f_X8_ways_b142 N σ x4
    else
      f_X8_ways_b50 N ih N σ x1 x2 x3 x4 x5 x6 0)
theorem q_X8_ways_b38 (N : Nat) (n : Nat) (σ : yS) (x1 : Int) (x2 : Int) (x3 : Int) (x4 : Int) (x5 : Int) (x6 : Int) : f_X8_ways_b38 N (n + 1) σ x1 x2 x3 x4 x5 x6 =
    (bif ycP .ge x6 (σ.1 0 3) then
      bif ycP .ne x3 0 then
        f_X8_ways_b142 N σ x5
      else
        f_X8_ways_b142 N σ x4
    else
      f_X8_ways_b50 N (f_X8_ways_b38 N n) N σ x1 x2 x3 x4 x5 x6 0) := rfl
noncomputable def f_X8_ways (N : Nat) (σ : yS) (x1 : Int) (x2 : Int) (x3 : Int) : Option (Int × yS) :=
  match f_X8_isHouse N σ x1 with
  | none => none
  | some r1 => bif ycP .eq r1.1 0 then
      f_X8_ways_b26 N r1.2
    else
      match f_X8_isDeed N r1.2 x2 with
      | none => none
      | some r2 => bif ycP .eq r2.1 0 then
          f_X8_ways_b26 N r2.2
        else
          match f_X8_in N r2.2 x3 0 1 with
          | none => none
          | some r3 => bif ycP .ne r3.1 0 then
              f_X8_ways_b38 N N r3.2 x1 x2 x3 0 ((-4)) 0
            else
              f_X8_ways_b26 N r3.2
noncomputable def F_X8_ways (N : Nat) : yF := fun as σ => match as with
  | [.inr (.inl 8, 0), .inl (.inl x1), .inl (.inl x2), .inl (.inl x3)] => (f_X8_ways N σ x1 x2 x3).map (fun r => (some (.inl (.inl r.1)), r.2))
  | _ => none
theorem e_X8_ways {N : Nat} {σ : yS} {x1 : Int} {x2 : Int} {x3 : Int} {r : Int × yS} (h : f_X8_ways N σ x1 x2 x3 = some r) : F_X8_ways N [.inr (.inl 8, 0), .inl (.inl x1), .inl (.inl x2), .inl (.inl x3)] σ = some (some (.inl (.inl r.1)), r.2) := by
  show (f_X8_ways N σ x1 x2 x3).map (fun r => ((some (.inl (.inl r.1)), r.2) : yR)) = _
  rw [h]
  rfl
noncomputable def tb_X8_ways (N : Nat) : yTb := ([(79, 8, 3, 0)], [], [], [(205, 2, 8, F_X8_isHouse N), (209, 2, 8, F_X8_isDeed N), (282, 6, 8, F_X8_doesBring N)], [(90, 3, F_X8_in N)], [], [])
abbrev G_X8_ways (N : Nat) (X : zXT) (sh : List yH) (l : Launch) (rm : Room) : yC → yR → Prop := yGoes X vwCl yct sh l rm cX8_ways 9 wsX8_ways RX8 (tb_X8_ways N) pr_X8_ways 1
set_option maxRecDepth 100000 in
set_option maxHeartbeats 4000000 in
theorem t_X8_ways_b26 {N : Nat} {X : zXT} {sh : List yH} {l : Launch} {rm : Room} (σ : yS) (res : Int × yS) (h : f_X8_ways_b26 N σ = some res) : G_X8_ways N X sh l rm (26, [], [], σ) (some (.inl (.inl res.1)), res.2) := by
  unfold f_X8_ways_b26 at h
  refine yG_n (n := 1) (C' := (27, [], [.inl (.inl ((-1)))], σ)) rfl ?_
  have h := Option.some.inj h
  subst h
  dsimp only
  exact yG_r rfl rfl
set_option maxRecDepth 100000 in
set_option maxHeartbeats 4000000 in
theorem t_X8_ways_b142 {N : Nat} {X : zXT} {sh : List yH} {l : Launch} {rm : Room} (σ : yS) (s0 : Int) (res : Int × yS) (h : f_X8_ways_b142 N σ s0 = some res) : G_X8_ways N X sh l rm (142, [], [.inl (.inl s0)], σ) (some (.inl (.inl res.1)), res.2) := by
  unfold f_X8_ways_b142 at h
  have h := Option.some.inj h
  subst h
  dsimp only
  exact yG_r rfl rfl
set_option maxRecDepth 100000 in
set_option maxHeartbeats 4000000 in
theorem t_X8_ways_b113 {N : Nat} {X : zXT} {sh : List yH} {l : Launch} {rm : Room} (k38 : yS → Int → Int → Int → Int → Int → Int → Option (Int × yS)) (hk38 : ∀ (σ : yS) (x1 : Int) (x2 : Int) (x3 : Int) (x4 : Int) (x5 : Int) (x6 : Int) (res : Int × yS), k38 σ x1 x2 x3 x4 x5 x6 = some res → G_X8_ways N X sh l rm (38, [(0, .inr (.inl 8, 0)), (1, .inl (.inl x1)), (2, .inl (.inl x2)), (3, .inl (.inl x3)), (4, .inl (.inl x4)), (5, .inl (.inl x5)), (6, .inl (.inl x6))], [], σ) (some (.inl (.inl res.1)), res.2)) (k50 : yS → Int → Int → Int → Int → Int → Int → Int → Option (Int × yS)) (hk50 : ∀ (σ : yS) (x1 : Int) (x2 : Int) (x3 : Int) (x4 : Int) (x5 : Int) (x6 : Int) (x7 : Int) (res : Int × yS), k50 σ x1 x2 x3 x4 x5 x6 x7 = some res → G_X8_ways N X sh l rm (50, [(0, .inr (.inl 8, 0)), (1, .inl (.inl x1)), (2, .inl (.inl x2)), (3, .inl (.inl x3)), (4, .inl (.inl x4)), (5, .inl (.inl x5)), (6, .inl (.inl x6)), (7, .inl (.inl x7))], [], σ) (some (.inl (.inl res.1)), res.2)) (k59 : yS → Int → Int → Int → Int → Int → Int → Int → Int → Option (Int × yS)) (hk59 : ∀ (σ : yS) (x1 : Int) (x2 : Int) (x3 : Int) (x4 : Int) (x5 : Int) (x6 : Int) (x7 : Int) (x8 : Int) (res : Int × yS), k59 σ x1 x2 x3 x4 x5 x6 x7 x8 = some res → G_X8_ways N X sh l rm (59, [(0, .inr (.inl 8, 0)), (1, .inl (.inl x1)), (2, .inl (.inl x2)), (3, .inl (.inl x3)), (4, .inl (.inl x4)), (5, .inl (.inl x5)), (6, .inl (.inl x6)), (7, .inl (.inl x7)), (8, .inl (.inl x8))], [], σ) (some (.inl (.inl res.1)), res.2)) (σ : yS) (x1 : Int) (x2 : Int) (x3 : Int) (x4 : Int) (x5 : Int) (x6 : Int) (x7 : Int) (x8 : Int) (res : Int × yS) (h : f_X8_ways_b113 N k38 k50 k59 σ x1 x2 x3 x4 x5 x6 x7 x8 = some res) : G_X8_ways N X sh l rm (113, [(0, .inr (.inl 8, 0)), (1, .inl (.inl x1)), (2, .inl (.inl x2)), (3, .inl (.inl x3)), (4, .inl (.inl x4)), (5, .inl (.inl x5)), (6, .inl (.inl x6)), (7, .inl (.inl x7)), (8, .inl (.inl x8))], [], σ) (some (.inl (.inl res.1)), res.2) := by
  unfold f_X8_ways_b113 at h
  refine yG_n (n := 2) (C' := (59, [(8, .inl (.inl (yad x8 1))), (0, .inr (.inl 8, 0)), (1, .inl (.inl x1)), (2, .inl (.inl x2)), (3, .inl (.inl x3)), (4, .inl (.inl x4)), (5, .inl (.inl x5)), (6, .inl (.inl x6)), (7, .inl (.inl x7))], [], σ)) rfl ?_
  exact yG_w [1, 2, 3, 4, 5, 6, 7, 8, 0] rfl (hk59 σ x1 x2 x3 x4 x5 x6 x7 (yad x8 1) res h)
set_option maxRecDepth 100000 in
set_option maxHeartbeats 4000000 in
theorem t_X8_ways_b108 {N : Nat} {X : zXT} {sh : List yH} {l : Launch} {rm : Room} (k38 : yS → Int → Int → Int → Int → Int → Int → Option (Int × yS)) (hk38 : ∀ (σ : yS) (x1 : Int) (x2 : Int) (x3 : Int) (x4 : Int) (x5 : Int) (x6 : Int) (res : Int × yS), k38 σ x1 x2 x3 x4 x5 x6 = some res → G_X8_ways N X sh l rm (38, [(0, .inr (.inl 8, 0)), (1, .inl (.inl x1)), (2, .inl (.inl x2)), (3, .inl (.inl x3)), (4, .inl (.inl x4)), (5, .inl (.inl x5)), (6, .inl (.inl x6))], [], σ) (some (.inl (.inl res.1)), res.2)) (k50 : yS → Int → Int → Int → Int → Int → Int → Int → Option (Int × yS)) (hk50 : ∀ (σ : yS) (x1 : Int) (x2 : Int) (x3 : Int) (x4 : Int) (x5 : Int) (x6 : Int) (x7 : Int) (res : Int × yS), k50 σ x1 x2 x3 x4 x5 x6 x7 = some res → G_X8_ways N X sh l rm (50, [(0, .inr (.inl 8, 0)), (1, .inl (.inl x1)), (2, .inl (.inl x2)), (3, .inl (.inl x3)), (4, .inl (.inl x4)), (5, .inl (.inl x5)), (6, .inl (.inl x6)), (7, .inl (.inl x7))], [], σ) (some (.inl (.inl res.1)), res.2)) (k59 : yS → Int → Int → Int → Int → Int → Int → Int → Int → Option (Int × yS)) (hk59 : ∀ (σ : yS) (x1 : Int) (x2 : Int) (x3 : Int) (x4 : Int) (x5 : Int) (x6 : Int) (x7 : Int) (x8 : Int) (res : Int × yS), k59 σ x1 x2 x3 x4 x5 x6 x7 x8 = some res → G_X8_ways N X sh l rm (59, [(0, .inr (.inl 8, 0)), (1, .inl (.inl x1)), (2, .inl (.inl x2)), (3, .inl (.inl x3)), (4, .inl (.inl x4)), (5, .inl (.inl x5)), (6, .inl (.inl x6)), (7, .inl (.inl x7)), (8, .inl (.inl x8))], [], σ) (some (.inl (.inl res.1)), res.2)) (σ : yS) (x1 : Int) (x2 : Int) (x3 : Int) (x4 : Int) (x6 : Int) (x7 : Int) (x8 : Int) (s0 : Int) (res : Int × yS) (h : f_X8_ways_b108 N k38 k50 k59 σ x1 x2 x3 x4 x6 x7 x8 s0 = some res) : G_X8_ways N X sh l rm (108, [(0, .inr (.inl 8, 0)), (1, .inl (.inl x1)), (2, .inl (.inl x2)), (3, .inl (.inl x3)), (4, .inl (.inl x4)), (6, .inl (.inl x6)), (7, .inl (.inl x7)), (8, .inl (.inl x8))], [.inl (.inl s0)], σ) (some (.inl (.inl res.1)), res.2) := by
  unfold f_X8_ways_b108 at h
  refine yG_n (n := 2) (C' := (113, [(4, .inl (.inl (yad x4 1))), (5, .inl (.inl s0)), (0, .inr (.inl 8, 0)), (1, .inl (.inl x1)), (2, .inl (.inl x2)), (3, .inl (.inl x3)), (6, .inl (.inl x6)), (7, .inl (.inl x7)), (8, .inl (.inl x8))], [], σ)) rfl ?_
  exact yG_w [2, 3, 4, 5, 0, 1, 6, 7, 8] rfl (t_X8_ways_b113 k38 hk38 k50 hk50 k59 hk59 σ x1 x2 x3 (yad x4 1) s0 x6 x7 x8 res h)
set_option maxRecDepth 100000 in
set_option maxHeartbeats 4000000 in
theorem t_X8_ways_b59 {N : Nat} {X : zXT} {sh : List yH} {l : Launch} {rm : Room} (k38 : yS → Int → Int → Int → Int → Int → Int → Option (Int × yS)) (hk38 : ∀ (σ : yS) (x1 : Int) (x2 : Int) (x3 : Int) (x4 : Int) (x5 : Int) (x6 : Int) (res : Int × yS), k38 σ x1 x2 x3 x4 x5 x6 = some res → G_X8_ways N X sh l rm (38, [(0, .inr (.inl 8, 0)), (1, .inl (.inl x1)), (2, .inl (.inl x2)), (3, .inl (.inl x3)), (4, .inl (.inl x4)), (5, .inl (.inl x5)), (6, .inl (.inl x6))], [], σ) (some (.inl (.inl res.1)), res.2)) (k50 : yS → Int → Int → Int → Int → Int → Int → Int → Option (Int × yS)) (hk50 : ∀ (σ : yS) (x1 : Int) (x2 : Int) (x3 : Int) (x4 : Int) (x5 : Int) (x6 : Int) (x7 : Int) (res : Int × yS), k50 σ x1 x2 x3 x4 x5 x6 x7 = some res → G_X8_ways N X sh l rm (50, [(0, .inr (.inl 8, 0)), (1, .inl (.inl x1)), (2, .inl (.inl x2)), (3, .inl (.inl x3)), (4, .inl (.inl x4)), (5, .inl (.inl x5)), (6, .inl (.inl x6)), (7, .inl (.inl x7))], [], σ) (some (.inl (.inl res.1)), res.2)) : ∀ (n : Nat) (σ : yS) (x1 : Int) (x2 : Int) (x3 : Int) (x4 : Int) (x5 : Int) (x6 : Int) (x7 : Int) (x8 : Int) (res : Int × yS), f_X8_ways_b59 N k38 k50 n σ x1 x2 x3 x4 x5 x6 x7 x8 = some res → G_X8_ways N X sh l rm (59, [(0, .inr (.inl 8, 0)), (1, .inl (.inl x1)), (2, .inl (.inl x2)), (3, .inl (.inl x3)), (4, .inl (.inl x4)), (5, .inl (.inl x5)), (6, .inl (.inl x6)), (7, .inl (.inl x7)), (8, .inl (.inl x8))], [], σ) (some (.inl (.inl res.1)), res.2) := by
  intro n
  induction n with
  | zero => intro σ x1 x2 x3 x4 x5 x6 x7 x8 res h; exact (yno h).elim
  | succ n ih =>
    intro σ x1 x2 x3 x4 x5 x6 x7 x8 res h
    rw [q_X8_ways_b59] at h
    refine yG_n (n := 2) (C' := (62, [(0, .inr (.inl 8, 0)), (1, .inl (.inl x1)), (2, .inl (.inl x2)), (3, .inl (.inl x3)), (4, .inl (.inl x4)), (5, .inl (.inl x5)), (6, .inl (.inl x6)), (7, .inl (.inl x7)), (8, .inl (.inl x8))], [.inl (.inl 3), .inl (.inl x8)], σ)) rfl ?_
    cases hg1 : ycP .gt x8 3 with
    | true =>
      rw [hg1] at h
      dsimp only [cond] at h
      refine yG_t (C' := (119, [(0, .inr (.inl 8, 0)), (1, .inl (.inl x1)), (2, .inl (.inl x2)), (3, .inl (.inl x3)), (4, .inl (.inl x4)), (5, .inl (.inl x5)), (6, .inl (.inl x6)), (7, .inl (.inl x7)), (8, .inl (.inl x8))], [], σ)) rfl hg1 ?_
      refine yG_n (n := 2) (C' := (50, [(7, .inl (.inl (yad x7 1))), (0, .inr (.inl 8, 0)), (1, .inl (.inl x1)), (2, .inl (.inl x2)), (3, .inl (.inl x3)), (4, .inl (.inl x4)), (5, .inl (.inl x5)), (6, .inl (.inl x6)), (8, .inl (.inl x8))], [], σ)) rfl ?_
      exact yG_w [1, 2, 3, 4, 5, 6, 7, 0] rfl (hk50 σ x1 x2 x3 x4 x5 x6 (yad x7 1) res h)
    | false =>
      rw [hg1] at h
      dsimp only [cond] at h
      refine yG_f (C' := (65, [(0, .inr (.inl 8, 0)), (1, .inl (.inl x1)), (2, .inl (.inl x2)), (3, .inl (.inl x3)), (4, .inl (.inl x4)), (5, .inl (.inl x5)), (6, .inl (.inl x6)), (7, .inl (.inl x7)), (8, .inl (.inl x8))], [], σ)) rfl hg1 ?_
      refine yG_n (n := 6) (C' := (74, [(0, .inr (.inl 8, 0)), (1, .inl (.inl x1)), (2, .inl (.inl x2)), (3, .inl (.inl x3)), (4, .inl (.inl x4)), (5, .inl (.inl x5)), (6, .inl (.inl x6)), (7, .inl (.inl x7)), (8, .inl (.inl x8))], [.inl (.inl x2), .inl (.inl x1), .inl (.inl x8), .inl (.inl x7), .inl (.inl x6), .inr (.inl 8, 0)], σ)) rfl ?_
      cases hr2 : f_X8_doesBring N σ x6 x7 x8 x1 x2 with
      | none => rw [hr2] at h; dsimp only at h; cases h
      | some r4 =>
        rw [hr2] at h
        dsimp only at h
        refine yG_c (C1 := (77, [(0, .inr (.inl 8, 0)), (1, .inl (.inl x1)), (2, .inl (.inl x2)), (3, .inl (.inl x3)), (4, .inl (.inl x4)), (5, .inl (.inl x5)), (6, .inl (.inl x6)), (7, .inl (.inl x7)), (8, .inl (.inl x8))], [.inl (.inl r4.1)], r4.2)) rfl (e_X8_doesBring hr2) rfl ?_
        cases hg3 : ycP .eq r4.1 0 with
        | true =>
          rw [hg3] at h
          dsimp only [cond] at h
          refine yG_t (C' := (113, [(0, .inr (.inl 8, 0)), (1, .inl (.inl x1)), (2, .inl (.inl x2)), (3, .inl (.inl x3)), (4, .inl (.inl x4)), (5, .inl (.inl x5)), (6, .inl (.inl x6)), (7, .inl (.inl x7)), (8, .inl (.inl x8))], [], r4.2)) rfl hg3 ?_
          exact t_X8_ways_b113 k38 hk38 k50 hk50 (f_X8_ways_b59 N k38 k50 n) ih r4.2 x1 x2 x3 x4 x5 x6 x7 x8 res h
        | false =>
          rw [hg3] at h
          dsimp only [cond] at h
          refine yG_f (C' := (80, [(0, .inr (.inl 8, 0)), (1, .inl (.inl x1)), (2, .inl (.inl x2)), (3, .inl (.inl x3)), (4, .inl (.inl x4)), (5, .inl (.inl x5)), (6, .inl (.inl x6)), (7, .inl (.inl x7)), (8, .inl (.inl x8))], [], r4.2)) rfl hg3 ?_
          refine yG_n (n := 1) (C' := (82, [(0, .inr (.inl 8, 0)), (1, .inl (.inl x1)), (2, .inl (.inl x2)), (3, .inl (.inl x3)), (4, .inl (.inl x4)), (5, .inl (.inl x5)), (6, .inl (.inl x6)), (7, .inl (.inl x7)), (8, .inl (.inl x8))], [.inl (.inl x4)], r4.2)) rfl ?_
          cases hg4 : ycP .ne x4 0 with
          | true =>
            rw [hg4] at h
            dsimp only [cond] at h
            refine yG_t (C' := (106, [(0, .inr (.inl 8, 0)), (1, .inl (.inl x1)), (2, .inl (.inl x2)), (3, .inl (.inl x3)), (4, .inl (.inl x4)), (5, .inl (.inl x5)), (6, .inl (.inl x6)), (7, .inl (.inl x7)), (8, .inl (.inl x8))], [], r4.2)) rfl hg4 ?_
            refine yG_n (n := 1) (C' := (108, [(0, .inr (.inl 8, 0)), (1, .inl (.inl x1)), (2, .inl (.inl x2)), (3, .inl (.inl x3)), (4, .inl (.inl x4)), (5, .inl (.inl x5)), (6, .inl (.inl x6)), (7, .inl (.inl x7)), (8, .inl (.inl x8))], [.inl (.inl x5)], r4.2)) rfl ?_
            exact yG_w [0, 1, 2, 3, 4, 6, 7, 8] rfl (t_X8_ways_b108 k38 hk38 k50 hk50 (f_X8_ways_b59 N k38 k50 n) ih r4.2 x1 x2 x3 x4 x6 x7 x8 x5 res h)
          | false =>
            rw [hg4] at h
            dsimp only [cond] at h
            refine yG_f (C' := (85, [(0, .inr (.inl 8, 0)), (1, .inl (.inl x1)), (2, .inl (.inl x2)), (3, .inl (.inl x3)), (4, .inl (.inl x4)), (5, .inl (.inl x5)), (6, .inl (.inl x6)), (7, .inl (.inl x7)), (8, .inl (.inl x8))], [], r4.2)) rfl hg4 ?_
            refine yG_n (n := 14) (C' := (108, [(0, .inr (.inl 8, 0)), (1, .inl (.inl x1)), (2, .inl (.inl x2)), (3, .inl (.inl x3)), (4, .inl (.inl x4)), (5, .inl (.inl x5)), (6, .inl (.inl x6)), (7, .inl (.inl x7)), (8, .inl (.inl x8))], [.inl (.inl (yad (yad (yad (ymu 100 x6) (ymu 20 x7)) (ymu 5 x8)) x2))], r4.2)) rfl ?_
            exact yG_w [0, 1, 2, 3, 4, 6, 7, 8] rfl (t_X8_ways_b108 k38 hk38 k50 hk50 (f_X8_ways_b59 N k38 k50 n) ih r4.2 x1 x2 x3 x4 x6 x7 x8 (yad (yad (yad (ymu 100 x6) (ymu 20 x7)) (ymu 5 x8)) x2) res h)
set_option maxRecDepth 100000 in
set_option maxHeartbeats 4000000 in
theorem t_X8_ways_b50 {N : Nat} {X : zXT} {sh : List yH} {l : Launch} {rm : Room} (k38 : yS → Int → Int → Int → Int → Int → Int → Option (Int × yS)) (hk38 : ∀ (σ : yS) (x1 : Int) (x2 : Int) (x3 : Int) (x4 : Int) (x5 : Int) (x6 : Int) (res : Int × yS), k38 σ x1 x2 x3 x4 x5 x6 = some res → G_X8_ways N X sh l rm (38, [(0, .inr (.inl 8, 0)), (1, .inl (.inl x1)), (2, .inl (.inl x2)), (3, .inl (.inl x3)), (4, .inl (.inl x4)), (5, .inl (.inl x5)), (6, .inl (.inl x6))], [], σ) (some (.inl (.inl res.1)), res.2)) : ∀ (n : Nat) (σ : yS) (x1 : Int) (x2 : Int) (x3 : Int) (x4 : Int) (x5 : Int) (x6 : Int) (x7 : Int) (res : Int × yS), f_X8_ways_b50 N k38 n σ x1 x2 x3 x4 x5 x6 x7 = some res → G_X8_ways N X sh l rm (50, [(0, .inr (.inl 8, 0)), (1, .inl (.inl x1)), (2, .inl (.inl x2)), (3, .inl (.inl x3)), (4, .inl (.inl x4)), (5, .inl (.inl x5)), (6, .inl (.inl x6)), (7, .inl (.inl x7))], [], σ) (some (.inl (.inl res.1)), res.2) := by
  intro n
  induction n with
  | zero => intro σ x1 x2 x3 x4 x5 x6 x7 res h; exact (yno h).elim
  | succ n ih =>
    intro σ x1 x2 x3 x4 x5 x6 x7 res h
    rw [q_X8_ways_b50] at h
    refine yG_n (n := 2) (C' := (53, [(0, .inr (.inl 8, 0)), (1, .inl (.inl x1)), (2, .inl (.inl x2)), (3, .inl (.inl x3)), (4, .inl (.inl x4)), (5, .inl (.inl x5)), (6, .inl (.inl x6)), (7, .inl (.inl x7))], [.inl (.inl 5), .inl (.inl x7)], σ)) rfl ?_
    cases hg5 : ycP .ge x7 5 with
    | true =>
      rw [hg5] at h
      dsimp only [cond] at h
      refine yG_t (C' := (125, [(0, .inr (.inl 8, 0)), (1, .inl (.inl x1)), (2, .inl (.inl x2)), (3, .inl (.inl x3)), (4, .inl (.inl x4)), (5, .inl (.inl x5)), (6, .inl (.inl x6)), (7, .inl (.inl x7))], [], σ)) rfl hg5 ?_
      refine yG_n (n := 2) (C' := (38, [(6, .inl (.inl (yad x6 1))), (0, .inr (.inl 8, 0)), (1, .inl (.inl x1)), (2, .inl (.inl x2)), (3, .inl (.inl x3)), (4, .inl (.inl x4)), (5, .inl (.inl x5)), (7, .inl (.inl x7))], [], σ)) rfl ?_
      exact yG_w [1, 2, 3, 4, 5, 6, 0] rfl (hk38 σ x1 x2 x3 x4 x5 (yad x6 1) res h)
    | false =>
      rw [hg5] at h
      dsimp only [cond] at h
      refine yG_f (C' := (56, [(0, .inr (.inl 8, 0)), (1, .inl (.inl x1)), (2, .inl (.inl x2)), (3, .inl (.inl x3)), (4, .inl (.inl x4)), (5, .inl (.inl x5)), (6, .inl (.inl x6)), (7, .inl (.inl x7))], [], σ)) rfl hg5 ?_
      refine yG_n (n := 2) (C' := (59, [(8, .inl (.inl 0)), (0, .inr (.inl 8, 0)), (1, .inl (.inl x1)), (2, .inl (.inl x2)), (3, .inl (.inl x3)), (4, .inl (.inl x4)), (5, .inl (.inl x5)), (6, .inl (.inl x6)), (7, .inl (.inl x7))], [], σ)) rfl ?_
      exact yG_w [1, 2, 3, 4, 5, 6, 7, 8, 0] rfl (t_X8_ways_b59 k38 hk38 (f_X8_ways_b50 N k38 n) ih N σ x1 x2 x3 x4 x5 x6 x7 0 res h)
set_option maxRecDepth 100000 in
set_option maxHeartbeats 4000000 in
theorem t_X8_ways_b38 {N : Nat} {X : zXT} {sh : List yH} {l : Launch} {rm : Room} : ∀ (n : Nat) (σ : yS) (x1 : Int) (x2 : Int) (x3 : Int) (x4 : Int) (x5 : Int) (x6 : Int) (res : Int × yS), f_X8_ways_b38 N n σ x1 x2 x3 x4 x5 x6 = some res → G_X8_ways N X sh l rm (38, [(0, .inr (.inl 8, 0)), (1, .inl (.inl x1)), (2, .inl (.inl x2)), (3, .inl (.inl x3)), (4, .inl (.inl x4)), (5, .inl (.inl x5)), (6, .inl (.inl x6))], [], σ) (some (.inl (.inl res.1)), res.2) := by
  intro n
  induction n with
  | zero => intro σ x1 x2 x3 x4 x5 x6 res h; exact (yno h).elim
  | succ n ih =>
    intro σ x1 x2 x3 x4 x5 x6 res h
    rw [q_X8_ways_b38] at h
    refine yG_n (n := 3) (C' := (44, [(0, .inr (.inl 8, 0)), (1, .inl (.inl x1)), (2, .inl (.inl x2)), (3, .inl (.inl x3)), (4, .inl (.inl x4)), (5, .inl (.inl x5)), (6, .inl (.inl x6))], [.inl (.inl (σ.1 0 3)), .inl (.inl x6)], σ)) rfl ?_
    cases hg6 : ycP .ge x6 (σ.1 0 3) with
    | true =>
      rw [hg6] at h
      dsimp only [cond] at h
      refine yG_t (C' := (131, [(0, .inr (.inl 8, 0)), (1, .inl (.inl x1)), (2, .inl (.inl x2)), (3, .inl (.inl x3)), (4, .inl (.inl x4)), (5, .inl (.inl x5)), (6, .inl (.inl x6))], [], σ)) rfl hg6 ?_
      refine yG_n (n := 1) (C' := (132, [(0, .inr (.inl 8, 0)), (1, .inl (.inl x1)), (2, .inl (.inl x2)), (3, .inl (.inl x3)), (4, .inl (.inl x4)), (5, .inl (.inl x5)), (6, .inl (.inl x6))], [.inl (.inl x3)], σ)) rfl ?_
      cases hg7 : ycP .ne x3 0 with
      | true =>
        rw [hg7] at h
        dsimp only [cond] at h
        refine yG_t (C' := (140, [(0, .inr (.inl 8, 0)), (1, .inl (.inl x1)), (2, .inl (.inl x2)), (3, .inl (.inl x3)), (4, .inl (.inl x4)), (5, .inl (.inl x5)), (6, .inl (.inl x6))], [], σ)) rfl hg7 ?_
        refine yG_n (n := 1) (C' := (142, [(0, .inr (.inl 8, 0)), (1, .inl (.inl x1)), (2, .inl (.inl x2)), (3, .inl (.inl x3)), (4, .inl (.inl x4)), (5, .inl (.inl x5)), (6, .inl (.inl x6))], [.inl (.inl x5)], σ)) rfl ?_
        exact yG_w [] rfl (t_X8_ways_b142 σ x5 res h)
      | false =>
        rw [hg7] at h
        dsimp only [cond] at h
        refine yG_f (C' := (135, [(0, .inr (.inl 8, 0)), (1, .inl (.inl x1)), (2, .inl (.inl x2)), (3, .inl (.inl x3)), (4, .inl (.inl x4)), (5, .inl (.inl x5)), (6, .inl (.inl x6))], [], σ)) rfl hg7 ?_
        refine yG_n (n := 2) (C' := (142, [(0, .inr (.inl 8, 0)), (1, .inl (.inl x1)), (2, .inl (.inl x2)), (3, .inl (.inl x3)), (4, .inl (.inl x4)), (5, .inl (.inl x5)), (6, .inl (.inl x6))], [.inl (.inl x4)], σ)) rfl ?_
        exact yG_w [] rfl (t_X8_ways_b142 σ x4 res h)
    | false =>
      rw [hg6] at h
      dsimp only [cond] at h
      refine yG_f (C' := (47, [(0, .inr (.inl 8, 0)), (1, .inl (.inl x1)), (2, .inl (.inl x2)), (3, .inl (.inl x3)), (4, .inl (.inl x4)), (5, .inl (.inl x5)), (6, .inl (.inl x6))], [], σ)) rfl hg6 ?_
      refine yG_n (n := 2) (C' := (50, [(7, .inl (.inl 0)), (0, .inr (.inl 8, 0)), (1, .inl (.inl x1)), (2, .inl (.inl x2)), (3, .inl (.inl x3)), (4, .inl (.inl x4)), (5, .inl (.inl x5)), (6, .inl (.inl x6))], [], σ)) rfl ?_
      exact yG_w [1, 2, 3, 4, 5, 6, 7, 0] rfl (t_X8_ways_b50 (f_X8_ways_b38 N n) ih N σ x1 x2 x3 x4 x5 x6 0 res h)
set_option maxRecDepth 100000 in
set_option maxHeartbeats 4000000 in
theorem t_X8_ways {N : Nat} {X : zXT} {sh : List yH} {l : Launch} {rm : Room} (σ : yS) (x1 : Int) (x2 : Int) (x3 : Int) (res : Int × yS) (h : f_X8_ways N σ x1 x2 x3 = some res) : G_X8_ways N X sh l rm (0, [(0, .inr (.inl 8, 0)), (1, .inl (.inl x1)), (2, .inl (.inl x2)), (3, .inl (.inl x3))], [], σ) (some (.inl (.inl res.1)), res.2) := by
  unfold f_X8_ways at h
  refine yG_n (n := 2) (C' := (2, [(0, .inr (.inl 8, 0)), (1, .inl (.inl x1)), (2, .inl (.inl x2)), (3, .inl (.inl x3))], [.inl (.inl x1), .inr (.inl 8, 0)], σ)) rfl ?_
  cases hr8 : f_X8_isHouse N σ x1 with
  | none => rw [hr8] at h; dsimp only at h; cases h
  | some r1 =>
    rw [hr8] at h
    dsimp only at h
    refine yG_c (C1 := (5, [(0, .inr (.inl 8, 0)), (1, .inl (.inl x1)), (2, .inl (.inl x2)), (3, .inl (.inl x3))], [.inl (.inl r1.1)], r1.2)) rfl (e_X8_isHouse hr8) rfl ?_
    cases hg9 : ycP .eq r1.1 0 with
    | true =>
      rw [hg9] at h
      dsimp only [cond] at h
      refine yG_t (C' := (26, [(0, .inr (.inl 8, 0)), (1, .inl (.inl x1)), (2, .inl (.inl x2)), (3, .inl (.inl x3))], [], r1.2)) rfl hg9 ?_
      exact yG_w [] rfl (t_X8_ways_b26 r1.2 res h)
    | false =>
      rw [hg9] at h
      dsimp only [cond] at h
      refine yG_f (C' := (8, [(0, .inr (.inl 8, 0)), (1, .inl (.inl x1)), (2, .inl (.inl x2)), (3, .inl (.inl x3))], [], r1.2)) rfl hg9 ?_
      refine yG_n (n := 2) (C' := (10, [(0, .inr (.inl 8, 0)), (1, .inl (.inl x1)), (2, .inl (.inl x2)), (3, .inl (.inl x3))], [.inl (.inl x2), .inr (.inl 8, 0)], r1.2)) rfl ?_
      cases hr10 : f_X8_isDeed N r1.2 x2 with
      | none => rw [hr10] at h; dsimp only at h; cases h
      | some r2 =>
        rw [hr10] at h
        dsimp only at h
        refine yG_c (C1 := (13, [(0, .inr (.inl 8, 0)), (1, .inl (.inl x1)), (2, .inl (.inl x2)), (3, .inl (.inl x3))], [.inl (.inl r2.1)], r2.2)) rfl (e_X8_isDeed hr10) rfl ?_
        cases hg11 : ycP .eq r2.1 0 with
        | true =>
          rw [hg11] at h
          dsimp only [cond] at h
          refine yG_t (C' := (26, [(0, .inr (.inl 8, 0)), (1, .inl (.inl x1)), (2, .inl (.inl x2)), (3, .inl (.inl x3))], [], r2.2)) rfl hg11 ?_
          exact yG_w [] rfl (t_X8_ways_b26 r2.2 res h)
        | false =>
          rw [hg11] at h
          dsimp only [cond] at h
          refine yG_f (C' := (16, [(0, .inr (.inl 8, 0)), (1, .inl (.inl x1)), (2, .inl (.inl x2)), (3, .inl (.inl x3))], [], r2.2)) rfl hg11 ?_
          refine yG_n (n := 4) (C' := (20, [(0, .inr (.inl 8, 0)), (1, .inl (.inl x1)), (2, .inl (.inl x2)), (3, .inl (.inl x3))], [.inl (.inr 1), .inl (.inr 0), .inl (.inr x3)], r2.2)) rfl ?_
          cases hr12 : f_X8_in N r2.2 x3 0 1 with
          | none => rw [hr12] at h; dsimp only at h; cases h
          | some r3 =>
            rw [hr12] at h
            dsimp only at h
            refine yG_c (C1 := (23, [(0, .inr (.inl 8, 0)), (1, .inl (.inl x1)), (2, .inl (.inl x2)), (3, .inl (.inl x3))], [.inl (.inl r3.1)], r3.2)) rfl (e_X8_in hr12) rfl ?_
            cases hg13 : ycP .ne r3.1 0 with
            | true =>
              rw [hg13] at h
              dsimp only [cond] at h
              refine yG_t (C' := (28, [(0, .inr (.inl 8, 0)), (1, .inl (.inl x1)), (2, .inl (.inl x2)), (3, .inl (.inl x3))], [], r3.2)) rfl hg13 ?_
              refine yG_n (n := 6) (C' := (38, [(6, .inl (.inl 0)), (5, .inl (.inl ((-4)))), (4, .inl (.inl 0)), (0, .inr (.inl 8, 0)), (1, .inl (.inl x1)), (2, .inl (.inl x2)), (3, .inl (.inl x3))], [], r3.2)) rfl ?_
              exact yG_w [3, 4, 5, 6, 2, 1, 0] rfl (t_X8_ways_b38 N r3.2 x1 x2 x3 0 ((-4)) 0 res h)
            | false =>
              rw [hg13] at h
              dsimp only [cond] at h
              refine yG_f (C' := (26, [(0, .inr (.inl 8, 0)), (1, .inl (.inl x1)), (2, .inl (.inl x2)), (3, .inl (.inl x3))], [], r3.2)) rfl hg13 ?_
              exact yG_w [] rfl (t_X8_ways_b26 r3.2 res h)
set_option maxRecDepth 100000 in
set_option maxHeartbeats 4000000 in
theorem m_X8_ways {N : Nat} {X : zXT} (hX : zXok X) (hN : zXn X) (l : Launch) {sh : List yH} : yMet X vwCl yct sh l yX8_ways wsX8_ways { frames := 6, cells := 0, slots := 0, locals := 189 } (F_X8_ways N) :=
  ymeth (tb := tb_X8_ways N) (pr := pr_X8_ways) (rt := 1) (own := RX8) hX (by decide +kernel) rfl rfl ⟨Nat.le_of_ble_eq_true rfl, Nat.le_of_ble_eq_true rfl⟩
    (zfl_all (List.forall_mem_cons.mpr ⟨zfl_X8 (fun w h => List.mem_cons_of_mem _ (List.mem_append_right _ h)) (List.mem_of_getElem? (i := 1) rfl) (by decide) (by decide), fun _ h => absurd h List.not_mem_nil⟩))
    (zco_all (fun _ h => absurd h List.not_mem_nil)) (zlc_all (fun _ h => absurd h List.not_mem_nil))
    (List.forall_mem_cons.mpr ⟨ycal_V hX (m_X8_isHouse hX hN l) rfl (fun s args hts => cwV 1 hts gX8_ways_X8_isHouse rfl rfl rfl (by decide +kernel) ⟨Nat.le_of_ble_eq_true rfl, Nat.le_of_ble_eq_true rfl⟩), List.forall_mem_cons.mpr ⟨ycal_V hX (m_X8_isDeed hX hN l) rfl (fun s args hts => cwV 1 hts gX8_ways_X8_isDeed rfl rfl rfl (by decide +kernel) ⟨Nat.le_of_ble_eq_true rfl, Nat.le_of_ble_eq_true rfl⟩), List.forall_mem_cons.mpr ⟨ycal_V hX (m_X8_doesBring hX hN l) rfl (fun s args hts => cwV 5 hts gX8_ways_X8_doesBring rfl rfl rfl (by decide +kernel) ⟨Nat.le_of_ble_eq_true rfl, Nat.le_of_ble_eq_true rfl⟩), fun _ h => absurd h List.not_mem_nil⟩⟩⟩)
    (List.forall_mem_cons.mpr ⟨ycal_S hX (m_X8_in hX hN l) (fun s args hts => va_cwS 3 hts gX8_ways_X8_in rfl rfl rfl (by decide +kernel) ⟨Nat.le_of_ble_eq_true rfl, Nat.le_of_ble_eq_true rfl⟩), fun _ h => absurd h List.not_mem_nil⟩)
    (zmm_all (fun _ h => absurd h List.not_mem_nil)) (fun _ h => absurd h List.not_mem_nil) (zpr_all hp_X8_ways) (fun as σ res h => by
      unfold F_X8_ways at h
      split at h
      · rename_i x1 x2 x3
        cases hr : f_X8_ways N σ x1 x2 x3 with
        | none => rw [hr] at h; cases h
        | some r =>
          rw [hr] at h
          cases h
          exact ⟨Nat.le_of_ble_eq_true rfl, t_X8_ways σ x1 x2 x3 r hr⟩
      · cases h)
noncomputable def pr_X8_who : List (Nat × Instr × Nat) := [(0, .aload_n 0, 1), (1, .iload_n 1, 1), (2, .invokevirtual 205, 3), (5, .ifCond .eq 23, 3), (8, .aload_n 0, 1), (9, .iload_n 2, 1), (10, .invokevirtual 209, 3), (13, .ifCond .eq 15, 3), (16, .iload_n 3, 1), (17, .i2l, 1), (18, .lconst 1, 1), (19, .ldc2_w 193, 3), (22, .invokestatic 90, 3), (25, .ifCond .ne 5, 3), (28, .iconst (-1), 1), (29, .ireturn, 1), (30, .iconst 0, 1), (31, .istore 4, 2), (33, .iconst 0, 1), (34, .istore 5, 2), (36, .iload 5, 2), (38, .aload_n 0, 1), (39, .getfield 79, 3), (42, .if_icmp .ge 48, 3), (45, .iconst 0, 1), (46, .istore 6, 2), (48, .iload 6, 2), (50, .iconst 5, 1), (51, .if_icmp .ge 33, 3), (54, .iload 4, 2), (56, .aload_n 0, 1), (57, .iload 5, 2), (59, .iload 6, 2), (61, .iload_n 3, 1), (62, .iconst 1, 1), (63, .isub, 1), (64, .iload_n 1, 1), (65, .iload_n 2, 1), (66, .invokevirtual 282, 3), (69, .invokestatic 197, 3), (72, .iload 5, 2), (74, .ishl, 1), (75, .ior, 1), (76, .istore 4, 2), (78, .iinc 6 1, 3), (81, .goto (-33), 3), (84, .iinc 5 1, 3), (87, .goto (-51), 3), (90, .iload 4, 2), (92, .ireturn, 1)]
set_option maxRecDepth 100000 in
theorem hp_X8_who : pr_X8_who.all (fun x => decide (decode cX8_who x.1 = .ok x.2)) = true := by decide +kernel
noncomputable def f_X8_who_b28 (N : Nat) (σ : yS) : Option (Int × yS) :=
  some ((-1), σ)
noncomputable def f_X8_who_b48 (N : Nat) (k36 : yS → Int → Int → Int → Int → Int → Option (Int × yS)) : Nat → yS → Int → Int → Int → Int → Int → Int → Option (Int × yS) := yfix (fun _ _ _ _ _ _ _ => none) (fun ih σ x1 x2 x3 x4 x5 x6 =>
    bif ycP .ge x6 5 then
      k36 σ x1 x2 x3 x4 (yad x5 1)
    else
      match f_X8_doesBring N σ x5 x6 (ysu x3 1) x1 x2 with
      | none => none
      | some r4 => match f_X8_flag N r4.2 r4.1 with
        | none => none
        | some r5 => ih r5.2 x1 x2 x3 (yor x4 (ysl r5.1 x5)) x5 (yad x6 1))
theorem q_X8_who_b48 (N : Nat) (k36 : yS → Int → Int → Int → Int → Int → Option (Int × yS)) (n : Nat) (σ : yS) (x1 : Int) (x2 : Int) (x3 : Int) (x4 : Int) (x5 : Int) (x6 : Int) : f_X8_who_b48 N k36 (n + 1) σ x1 x2 x3 x4 x5 x6 =
    (bif ycP .ge x6 5 then
      k36 σ x1 x2 x3 x4 (yad x5 1)
    else
      match f_X8_doesBring N σ x5 x6 (ysu x3 1) x1 x2 with
      | none => none
      | some r4 => match f_X8_flag N r4.2 r4.1 with
        | none => none
        | some r5 => (f_X8_who_b48 N k36 n) r5.2 x1 x2 x3 (yor x4 (ysl r5.1 x5)) x5 (yad x6 1)) := rfl
noncomputable def f_X8_who_b36 (N : Nat) : Nat → yS → Int → Int → Int → Int → Int → Option (Int × yS) := yfix (fun _ _ _ _ _ _ => none) (fun ih σ x1 x2 x3 x4 x5 =>
    bif ycP .ge x5 (σ.1 0 3) then
      some (x4, σ)
    else
      f_X8_who_b48 N ih N σ x1 x2 x3 x4 x5 0)
theorem q_X8_who_b36 (N : Nat) (n : Nat) (σ : yS) (x1 : Int) (x2 : Int) (x3 : Int) (x4 : Int) (x5 : Int) : f_X8_who_b36 N (n + 1) σ x1 x2 x3 x4 x5 =
    (bif ycP .ge x5 (σ.1 0 3) then
      some (x4, σ)
    else
      f_X8_who_b48 N (f_X8_who_b36 N n) N σ x1 x2 x3 x4 x5 0) := rfl
noncomputable def f_X8_who (N : Nat) (σ : yS) (x1 : Int) (x2 : Int) (x3 : Int) : Option (Int × yS) :=
  match f_X8_isHouse N σ x1 with
  | none => none
  | some r1 => bif ycP .eq r1.1 0 then
      f_X8_who_b28 N r1.2
    else
      match f_X8_isDeed N r1.2 x2 with
      | none => none
      | some r2 => bif ycP .eq r2.1 0 then
          f_X8_who_b28 N r2.2
        else
          match f_X8_in N r2.2 x3 1 4 with
          | none => none
          | some r3 => bif ycP .ne r3.1 0 then
              f_X8_who_b36 N N r3.2 x1 x2 x3 0 0
            else
              f_X8_who_b28 N r3.2
noncomputable def F_X8_who (N : Nat) : yF := fun as σ => match as with
  | [.inr (.inl 8, 0), .inl (.inl x1), .inl (.inl x2), .inl (.inl x3)] => (f_X8_who N σ x1 x2 x3).map (fun r => (some (.inl (.inl r.1)), r.2))
  | _ => none
theorem e_X8_who {N : Nat} {σ : yS} {x1 : Int} {x2 : Int} {x3 : Int} {r : Int × yS} (h : f_X8_who N σ x1 x2 x3 = some r) : F_X8_who N [.inr (.inl 8, 0), .inl (.inl x1), .inl (.inl x2), .inl (.inl x3)] σ = some (some (.inl (.inl r.1)), r.2) := by
  show (f_X8_who N σ x1 x2 x3).map (fun r => ((some (.inl (.inl r.1)), r.2) : yR)) = _
  rw [h]
  rfl
noncomputable def tb_X8_who (N : Nat) : yTb := ([(79, 8, 3, 0)], [], [(193, 4)], [(205, 2, 8, F_X8_isHouse N), (209, 2, 8, F_X8_isDeed N), (282, 6, 8, F_X8_doesBring N)], [(90, 3, F_X8_in N), (197, 1, F_X8_flag N)], [], [])
abbrev G_X8_who (N : Nat) (X : zXT) (sh : List yH) (l : Launch) (rm : Room) : yC → yR → Prop := yGoes X vwCl yct sh l rm cX8_who 7 wsX8_who RX8 (tb_X8_who N) pr_X8_who 1
set_option maxRecDepth 100000 in
set_option maxHeartbeats 4000000 in
theorem t_X8_who_b28 {N : Nat} {X : zXT} {sh : List yH} {l : Launch} {rm : Room} (σ : yS) (res : Int × yS) (h : f_X8_who_b28 N σ = some res) : G_X8_who N X sh l rm (28, [], [], σ) (some (.inl (.inl res.1)), res.2) := by
  unfold f_X8_who_b28 at h
  refine yG_n (n := 1) (C' := (29, [], [.inl (.inl ((-1)))], σ)) rfl ?_
  have h := Option.some.inj h
  subst h
  dsimp only
  exact yG_r rfl rfl
set_option maxRecDepth 100000 in
set_option maxHeartbeats 4000000 in
theorem t_X8_who_b48 {N : Nat} {X : zXT} {sh : List yH} {l : Launch} {rm : Room} (k36 : yS → Int → Int → Int → Int → Int → Option (Int × yS)) (hk36 : ∀ (σ : yS) (x1 : Int) (x2 : Int) (x3 : Int) (x4 : Int) (x5 : Int) (res : Int × yS), k36 σ x1 x2 x3 x4 x5 = some res → G_X8_who N X sh l rm (36, [(0, .inr (.inl 8, 0)), (1, .inl (.inl x1)), (2, .inl (.inl x2)), (3, .inl (.inl x3)), (4, .inl (.inl x4)), (5, .inl (.inl x5))], [], σ) (some (.inl (.inl res.1)), res.2)) : ∀ (n : Nat) (σ : yS) (x1 : Int) (x2 : Int) (x3 : Int) (x4 : Int) (x5 : Int) (x6 : Int) (res : Int × yS), f_X8_who_b48 N k36 n σ x1 x2 x3 x4 x5 x6 = some res → G_X8_who N X sh l rm (48, [(0, .inr (.inl 8, 0)), (1, .inl (.inl x1)), (2, .inl (.inl x2)), (3, .inl (.inl x3)), (4, .inl (.inl x4)), (5, .inl (.inl x5)), (6, .inl (.inl x6))], [], σ) (some (.inl (.inl res.1)), res.2) := by
  intro n
  induction n with
  | zero => intro σ x1 x2 x3 x4 x5 x6 res h; exact (yno h).elim
  | succ n ih =>
    intro σ x1 x2 x3 x4 x5 x6 res h
    rw [q_X8_who_b48] at h
    refine yG_n (n := 2) (C' := (51, [(0, .inr (.inl 8, 0)), (1, .inl (.inl x1)), (2, .inl (.inl x2)), (3, .inl (.inl x3)), (4, .inl (.inl x4)), (5, .inl (.inl x5)), (6, .inl (.inl x6))], [.inl (.inl 5), .inl (.inl x6)], σ)) rfl ?_
    cases hg1 : ycP .ge x6 5 with
    | true =>
      rw [hg1] at h
      dsimp only [cond] at h
      refine yG_t (C' := (84, [(0, .inr (.inl 8, 0)), (1, .inl (.inl x1)), (2, .inl (.inl x2)), (3, .inl (.inl x3)), (4, .inl (.inl x4)), (5, .inl (.inl x5)), (6, .inl (.inl x6))], [], σ)) rfl hg1 ?_
      refine yG_n (n := 2) (C' := (36, [(5, .inl (.inl (yad x5 1))), (0, .inr (.inl 8, 0)), (1, .inl (.inl x1)), (2, .inl (.inl x2)), (3, .inl (.inl x3)), (4, .inl (.inl x4)), (6, .inl (.inl x6))], [], σ)) rfl ?_
      exact yG_w [1, 2, 3, 4, 5, 0] rfl (hk36 σ x1 x2 x3 x4 (yad x5 1) res h)
    | false =>
      rw [hg1] at h
      dsimp only [cond] at h
      refine yG_f (C' := (54, [(0, .inr (.inl 8, 0)), (1, .inl (.inl x1)), (2, .inl (.inl x2)), (3, .inl (.inl x3)), (4, .inl (.inl x4)), (5, .inl (.inl x5)), (6, .inl (.inl x6))], [], σ)) rfl hg1 ?_
      refine yG_n (n := 9) (C' := (66, [(0, .inr (.inl 8, 0)), (1, .inl (.inl x1)), (2, .inl (.inl x2)), (3, .inl (.inl x3)), (4, .inl (.inl x4)), (5, .inl (.inl x5)), (6, .inl (.inl x6))], [.inl (.inl x2), .inl (.inl x1), .inl (.inl (ysu x3 1)), .inl (.inl x6), .inl (.inl x5), .inr (.inl 8, 0), .inl (.inl x4)], σ)) rfl ?_
      cases hr2 : f_X8_doesBring N σ x5 x6 (ysu x3 1) x1 x2 with
      | none => rw [hr2] at h; dsimp only at h; cases h
      | some r4 =>
        rw [hr2] at h
        dsimp only at h
        refine yG_c (C1 := (69, [(0, .inr (.inl 8, 0)), (1, .inl (.inl x1)), (2, .inl (.inl x2)), (3, .inl (.inl x3)), (4, .inl (.inl x4)), (5, .inl (.inl x5)), (6, .inl (.inl x6))], [.inl (.inl r4.1), .inl (.inl x4)], r4.2)) rfl (e_X8_doesBring hr2) rfl ?_
        cases hr3 : f_X8_flag N r4.2 r4.1 with
        | none => rw [hr3] at h; dsimp only at h; cases h
        | some r5 =>
          rw [hr3] at h
          dsimp only at h
          refine yG_c (C1 := (72, [(0, .inr (.inl 8, 0)), (1, .inl (.inl x1)), (2, .inl (.inl x2)), (3, .inl (.inl x3)), (4, .inl (.inl x4)), (5, .inl (.inl x5)), (6, .inl (.inl x6))], [.inl (.inl r5.1), .inl (.inl x4)], r5.2)) rfl (e_X8_flag hr3) rfl ?_
          refine yG_n (n := 6) (C' := (48, [(6, .inl (.inl (yad x6 1))), (4, .inl (.inl (yor x4 (ysl r5.1 x5)))), (0, .inr (.inl 8, 0)), (1, .inl (.inl x1)), (2, .inl (.inl x2)), (3, .inl (.inl x3)), (5, .inl (.inl x5))], [], r5.2)) rfl ?_
          exact yG_w [2, 3, 4, 5, 1, 6, 0] rfl (ih r5.2 x1 x2 x3 (yor x4 (ysl r5.1 x5)) x5 (yad x6 1) res h)
set_option maxRecDepth 100000 in
set_option maxHeartbeats 4000000 in
theorem t_X8_who_b36 {N : Nat} {X : zXT} {sh : List yH} {l : Launch} {rm : Room} : ∀ (n : Nat) (σ : yS) (x1 : Int) (x2 : Int) (x3 : Int) (x4 : Int) (x5 : Int) (res : Int × yS), f_X8_who_b36 N n σ x1 x2 x3 x4 x5 = some res → G_X8_who N X sh l rm (36, [(0, .inr (.inl 8, 0)), (1, .inl (.inl x1)), (2, .inl (.inl x2)), (3, .inl (.inl x3)), (4, .inl (.inl x4)), (5, .inl (.inl x5))], [], σ) (some (.inl (.inl res.1)), res.2) := by
  intro n
  induction n with
  | zero => intro σ x1 x2 x3 x4 x5 res h; exact (yno h).elim
  | succ n ih =>
    intro σ x1 x2 x3 x4 x5 res h
    rw [q_X8_who_b36] at h
    refine yG_n (n := 3) (C' := (42, [(0, .inr (.inl 8, 0)), (1, .inl (.inl x1)), (2, .inl (.inl x2)), (3, .inl (.inl x3)), (4, .inl (.inl x4)), (5, .inl (.inl x5))], [.inl (.inl (σ.1 0 3)), .inl (.inl x5)], σ)) rfl ?_
    cases hg4 : ycP .ge x5 (σ.1 0 3) with
    | true =>
      rw [hg4] at h
      dsimp only [cond] at h
      refine yG_t (C' := (90, [(0, .inr (.inl 8, 0)), (1, .inl (.inl x1)), (2, .inl (.inl x2)), (3, .inl (.inl x3)), (4, .inl (.inl x4)), (5, .inl (.inl x5))], [], σ)) rfl hg4 ?_
      refine yG_n (n := 1) (C' := (92, [(0, .inr (.inl 8, 0)), (1, .inl (.inl x1)), (2, .inl (.inl x2)), (3, .inl (.inl x3)), (4, .inl (.inl x4)), (5, .inl (.inl x5))], [.inl (.inl x4)], σ)) rfl ?_
      have h := Option.some.inj h
      subst h
      dsimp only
      exact yG_r rfl rfl
    | false =>
      rw [hg4] at h
      dsimp only [cond] at h
      refine yG_f (C' := (45, [(0, .inr (.inl 8, 0)), (1, .inl (.inl x1)), (2, .inl (.inl x2)), (3, .inl (.inl x3)), (4, .inl (.inl x4)), (5, .inl (.inl x5))], [], σ)) rfl hg4 ?_
      refine yG_n (n := 2) (C' := (48, [(6, .inl (.inl 0)), (0, .inr (.inl 8, 0)), (1, .inl (.inl x1)), (2, .inl (.inl x2)), (3, .inl (.inl x3)), (4, .inl (.inl x4)), (5, .inl (.inl x5))], [], σ)) rfl ?_
      exact yG_w [1, 2, 3, 4, 5, 6, 0] rfl (t_X8_who_b48 (f_X8_who_b36 N n) ih N σ x1 x2 x3 x4 x5 0 res h)
set_option maxRecDepth 100000 in
set_option maxHeartbeats 4000000 in
theorem t_X8_who {N : Nat} {X : zXT} {sh : List yH} {l : Launch} {rm : Room} (σ : yS) (x1 : Int) (x2 : Int) (x3 : Int) (res : Int × yS) (h : f_X8_who N σ x1 x2 x3 = some res) : G_X8_who N X sh l rm (0, [(0, .inr (.inl 8, 0)), (1, .inl (.inl x1)), (2, .inl (.inl x2)), (3, .inl (.inl x3))], [], σ) (some (.inl (.inl res.1)), res.2) := by
  unfold f_X8_who at h
  refine yG_n (n := 2) (C' := (2, [(0, .inr (.inl 8, 0)), (1, .inl (.inl x1)), (2, .inl (.inl x2)), (3, .inl (.inl x3))], [.inl (.inl x1), .inr (.inl 8, 0)], σ)) rfl ?_
  cases hr5 : f_X8_isHouse N σ x1 with
  | none => rw [hr5] at h; dsimp only at h; cases h
  | some r1 =>
    rw [hr5] at h
    dsimp only at h
    refine yG_c (C1 := (5, [(0, .inr (.inl 8, 0)), (1, .inl (.inl x1)), (2, .inl (.inl x2)), (3, .inl (.inl x3))], [.inl (.inl r1.1)], r1.2)) rfl (e_X8_isHouse hr5) rfl ?_
    cases hg6 : ycP .eq r1.1 0 with
    | true =>
      rw [hg6] at h
      dsimp only [cond] at h
      refine yG_t (C' := (28, [(0, .inr (.inl 8, 0)), (1, .inl (.inl x1)), (2, .inl (.inl x2)), (3, .inl (.inl x3))], [], r1.2)) rfl hg6 ?_
      exact yG_w [] rfl (t_X8_who_b28 r1.2 res h)
    | false =>
      rw [hg6] at h
      dsimp only [cond] at h
      refine yG_f (C' := (8, [(0, .inr (.inl 8, 0)), (1, .inl (.inl x1)), (2, .inl (.inl x2)), (3, .inl (.inl x3))], [], r1.2)) rfl hg6 ?_
      refine yG_n (n := 2) (C' := (10, [(0, .inr (.inl 8, 0)), (1, .inl (.inl x1)), (2, .inl (.inl x2)), (3, .inl (.inl x3))], [.inl (.inl x2), .inr (.inl 8, 0)], r1.2)) rfl ?_
      cases hr7 : f_X8_isDeed N r1.2 x2 with
      | none => rw [hr7] at h; dsimp only at h; cases h
      | some r2 =>
        rw [hr7] at h
        dsimp only at h
        refine yG_c (C1 := (13, [(0, .inr (.inl 8, 0)), (1, .inl (.inl x1)), (2, .inl (.inl x2)), (3, .inl (.inl x3))], [.inl (.inl r2.1)], r2.2)) rfl (e_X8_isDeed hr7) rfl ?_
        cases hg8 : ycP .eq r2.1 0 with
        | true =>
          rw [hg8] at h
          dsimp only [cond] at h
          refine yG_t (C' := (28, [(0, .inr (.inl 8, 0)), (1, .inl (.inl x1)), (2, .inl (.inl x2)), (3, .inl (.inl x3))], [], r2.2)) rfl hg8 ?_
          exact yG_w [] rfl (t_X8_who_b28 r2.2 res h)
        | false =>
          rw [hg8] at h
          dsimp only [cond] at h
          refine yG_f (C' := (16, [(0, .inr (.inl 8, 0)), (1, .inl (.inl x1)), (2, .inl (.inl x2)), (3, .inl (.inl x3))], [], r2.2)) rfl hg8 ?_
          refine yG_n (n := 4) (C' := (22, [(0, .inr (.inl 8, 0)), (1, .inl (.inl x1)), (2, .inl (.inl x2)), (3, .inl (.inl x3))], [.inl (.inr 4), .inl (.inr 1), .inl (.inr x3)], r2.2)) rfl ?_
          cases hr9 : f_X8_in N r2.2 x3 1 4 with
          | none => rw [hr9] at h; dsimp only at h; cases h
          | some r3 =>
            rw [hr9] at h
            dsimp only at h
            refine yG_c (C1 := (25, [(0, .inr (.inl 8, 0)), (1, .inl (.inl x1)), (2, .inl (.inl x2)), (3, .inl (.inl x3))], [.inl (.inl r3.1)], r3.2)) rfl (e_X8_in hr9) rfl ?_
            cases hg10 : ycP .ne r3.1 0 with
            | true =>
              rw [hg10] at h
              dsimp only [cond] at h
              refine yG_t (C' := (30, [(0, .inr (.inl 8, 0)), (1, .inl (.inl x1)), (2, .inl (.inl x2)), (3, .inl (.inl x3))], [], r3.2)) rfl hg10 ?_
              refine yG_n (n := 4) (C' := (36, [(5, .inl (.inl 0)), (4, .inl (.inl 0)), (0, .inr (.inl 8, 0)), (1, .inl (.inl x1)), (2, .inl (.inl x2)), (3, .inl (.inl x3))], [], r3.2)) rfl ?_
              exact yG_w [2, 3, 4, 5, 1, 0] rfl (t_X8_who_b36 N r3.2 x1 x2 x3 0 0 res h)
            | false =>
              rw [hg10] at h
              dsimp only [cond] at h
              refine yG_f (C' := (28, [(0, .inr (.inl 8, 0)), (1, .inl (.inl x1)), (2, .inl (.inl x2)), (3, .inl (.inl x3))], [], r3.2)) rfl hg10 ?_
              exact yG_w [] rfl (t_X8_who_b28 r3.2 res h)
set_option maxRecDepth 100000 in
set_option maxHeartbeats 4000000 in
theorem m_X8_who {N : Nat} {X : zXT} (hX : zXok X) (hN : zXn X) (l : Launch) {sh : List yH} : yMet X vwCl yct sh l yX8_who wsX8_who { frames := 6, cells := 0, slots := 0, locals := 189 } (F_X8_who N) :=
  ymeth (tb := tb_X8_who N) (pr := pr_X8_who) (rt := 1) (own := RX8) hX (by decide +kernel) rfl rfl ⟨Nat.le_of_ble_eq_true rfl, Nat.le_of_ble_eq_true rfl⟩
    (zfl_all (List.forall_mem_cons.mpr ⟨zfl_X8 (fun w h => List.mem_cons_of_mem _ (List.mem_append_right _ h)) (List.mem_of_getElem? (i := 2) rfl) (by decide) (by decide), fun _ h => absurd h List.not_mem_nil⟩))
    (zco_all (fun _ h => absurd h List.not_mem_nil)) (zlc_all (List.forall_mem_cons.mpr ⟨(List.mem_of_getElem? (i := 1) rfl), fun _ h => absurd h List.not_mem_nil⟩))
    (List.forall_mem_cons.mpr ⟨ycal_V hX (m_X8_isHouse hX hN l) rfl (fun s args hts => cwV 1 hts gX8_who_X8_isHouse rfl rfl rfl (by decide +kernel) ⟨Nat.le_of_ble_eq_true rfl, Nat.le_of_ble_eq_true rfl⟩), List.forall_mem_cons.mpr ⟨ycal_V hX (m_X8_isDeed hX hN l) rfl (fun s args hts => cwV 1 hts gX8_who_X8_isDeed rfl rfl rfl (by decide +kernel) ⟨Nat.le_of_ble_eq_true rfl, Nat.le_of_ble_eq_true rfl⟩), List.forall_mem_cons.mpr ⟨ycal_V hX (m_X8_doesBring hX hN l) rfl (fun s args hts => cwV 5 hts gX8_who_X8_doesBring rfl rfl rfl (by decide +kernel) ⟨Nat.le_of_ble_eq_true rfl, Nat.le_of_ble_eq_true rfl⟩), fun _ h => absurd h List.not_mem_nil⟩⟩⟩)
    (List.forall_mem_cons.mpr ⟨ycal_S hX (m_X8_in hX hN l) (fun s args hts => va_cwS 3 hts gX8_who_X8_in rfl rfl rfl (by decide +kernel) ⟨Nat.le_of_ble_eq_true rfl, Nat.le_of_ble_eq_true rfl⟩), List.forall_mem_cons.mpr ⟨ycal_S hX (m_X8_flag hX hN l) (fun s args hts => va_cwS 1 hts gX8_who_X8_flag rfl rfl rfl (by decide +kernel) ⟨Nat.le_of_ble_eq_true rfl, Nat.le_of_ble_eq_true rfl⟩), fun _ h => absurd h List.not_mem_nil⟩⟩)
    (zmm_all (fun _ h => absurd h List.not_mem_nil)) (fun _ h => absurd h List.not_mem_nil) (zpr_all hp_X8_who) (fun as σ res h => by
      unfold F_X8_who at h
      split at h
      · rename_i x1 x2 x3
        cases hr : f_X8_who N σ x1 x2 x3 with
        | none => rw [hr] at h; cases h
        | some r =>
          rw [hr] at h
          cases h
          exact ⟨Nat.le_of_ble_eq_true rfl, t_X8_who σ x1 x2 x3 r hr⟩
      · cases h)
noncomputable def pr_X8_wish : List (Nat × Instr × Nat) := [(0, .aload_n 0, 1), (1, .iload_n 1, 1), (2, .invokevirtual 205, 3), (5, .ifCond .eq 11, 3), (8, .aload_n 0, 1), (9, .iload_n 2, 1), (10, .invokevirtual 209, 3), (13, .ifCond .ne 5, 3), (16, .iconst (-1), 1), (17, .ireturn, 1), (18, .aload_n 0, 1), (19, .getfield 7, 3), (22, .bipush 118, 2), (24, .iaload, 1), (25, .iconst 4, 1), (26, .if_icmp .ne 6, 3), (29, .bipush (-3), 2), (31, .ireturn, 1), (32, .aload_n 0, 1), (33, .getfield 7, 3), (36, .bipush 119, 2), (38, .iconst 2, 1), (39, .aload_n 0, 1), (40, .getfield 7, 3), (43, .bipush 118, 2), (45, .iaload, 1), (46, .imul, 1), (47, .iadd, 1), (48, .iload_n 1, 1), (49, .iastore, 1), (50, .aload_n 0, 1), (51, .getfield 7, 3), (54, .bipush 119, 2), (56, .iconst 2, 1), (57, .aload_n 0, 1), (58, .getfield 7, 3), (61, .bipush 118, 2), (63, .iaload, 1), (64, .imul, 1), (65, .iadd, 1), (66, .iconst 1, 1), (67, .iadd, 1), (68, .iload_n 2, 1), (69, .iastore, 1), (70, .aload_n 0, 1), (71, .getfield 7, 3), (74, .bipush 118, 2), (76, .dup2, 1), (77, .iaload, 1), (78, .iconst 1, 1), (79, .iadd, 1), (80, .iastore, 1), (81, .aload_n 0, 1), (82, .getfield 7, 3), (85, .bipush 118, 2), (87, .iaload, 1), (88, .ireturn, 1)]
set_option maxRecDepth 100000 in
theorem hp_X8_wish : pr_X8_wish.all (fun x => decide (decode cX8_wish x.1 = .ok x.2)) = true := by decide +kernel
noncomputable def f_X8_wish_b16 (N : Nat) (σ : yS) : Option (Int × yS) :=
  some ((-1), σ)
noncomputable def f_X8_wish_b87 (N : Nat) (σ : yS) (s0 : Int) : Option (Int × yS) :=
  bif yin s0 393 then
    some (σ.1 1 s0.toNat, σ)
  else none
noncomputable def f_X8_wish_b77 (N : Nat) (σ : yS) (s0 : Int) (s2 : Int) : Option (Int × yS) :=
  bif yin s0 393 then
    bif yin s2 393 then
      f_X8_wish_b87 N (yw σ 1 s2.toNat (yad (σ.1 1 s0.toNat) 1)) 118
    else none
  else none
noncomputable def f_X8_wish_b63 (N : Nat) (σ : yS) (x2 : Int) (s0 : Int) (s2 : Int) (s3 : Int) : Option (Int × yS) :=
  bif yin s0 393 then
    bif yin (yad (yad s3 (ymu s2 (σ.1 1 s0.toNat))) 1) 393 then
      f_X8_wish_b77 N (yw σ 1 (yad (yad s3 (ymu s2 (σ.1 1 s0.toNat))) 1).toNat x2) 118 118
    else none
  else none
noncomputable def f_X8_wish (N : Nat) (σ : yS) (x1 : Int) (x2 : Int) : Option (Int × yS) :=
  match f_X8_isHouse N σ x1 with
  | none => none
  | some r1 => bif ycP .eq r1.1 0 then
      f_X8_wish_b16 N r1.2
    else
      match f_X8_isDeed N r1.2 x2 with
      | none => none
      | some r2 => bif ycP .ne r2.1 0 then
          bif ycP .ne (r2.2.1 1 118) 4 then
            bif yin (yad 119 (ymu 2 (r2.2.1 1 118))) 393 then
              f_X8_wish_b63 N (yw r2.2 1 (yad 119 (ymu 2 (r2.2.1 1 118))).toNat x1) x2 118 2 119
            else none
          else
            some ((-3), r2.2)
        else
          f_X8_wish_b16 N r2.2
noncomputable def F_X8_wish (N : Nat) : yF := fun as σ => match as with
  | [.inr (.inl 8, 0), .inl (.inl x1), .inl (.inl x2)] => (f_X8_wish N σ x1 x2).map (fun r => (some (.inl (.inl r.1)), r.2))
  | _ => none
theorem e_X8_wish {N : Nat} {σ : yS} {x1 : Int} {x2 : Int} {r : Int × yS} (h : f_X8_wish N σ x1 x2 = some r) : F_X8_wish N [.inr (.inl 8, 0), .inl (.inl x1), .inl (.inl x2)] σ = some (some (.inl (.inl r.1)), r.2) := by
  show (f_X8_wish N σ x1 x2).map (fun r => ((some (.inl (.inl r.1)), r.2) : yR)) = _
  rw [h]
  rfl
noncomputable def tb_X8_wish (N : Nat) : yTb := ([(7, 8, 0, 3)], [], [], [(205, 2, 8, F_X8_isHouse N), (209, 2, 8, F_X8_isDeed N)], [], [], [])
abbrev G_X8_wish (N : Nat) (X : zXT) (sh : List yH) (l : Launch) (rm : Room) : yC → yR → Prop := yGoes X vwCl yct sh l rm cX8_wish 3 wsX8_wish RX8 (tb_X8_wish N) pr_X8_wish 1
set_option maxRecDepth 100000 in
set_option maxHeartbeats 4000000 in
theorem t_X8_wish_b16 {N : Nat} {X : zXT} {sh : List yH} {l : Launch} {rm : Room} (σ : yS) (res : Int × yS) (h : f_X8_wish_b16 N σ = some res) : G_X8_wish N X sh l rm (16, [], [], σ) (some (.inl (.inl res.1)), res.2) := by
  unfold f_X8_wish_b16 at h
  refine yG_n (n := 1) (C' := (17, [], [.inl (.inl ((-1)))], σ)) rfl ?_
  have h := Option.some.inj h
  subst h
  dsimp only
  exact yG_r rfl rfl
set_option maxRecDepth 100000 in
set_option maxHeartbeats 4000000 in
theorem t_X8_wish_b87 {N : Nat} {X : zXT} {sh : List yH} {l : Launch} {rm : Room} (σ : yS) (s0 : Int) (res : Int × yS) (h : f_X8_wish_b87 N σ s0 = some res) : G_X8_wish N X sh l rm (87, [], [.inl (.inl s0), .inr (.inr (0, 393), 1)], σ) (some (.inl (.inl res.1)), res.2) := by
  unfold f_X8_wish_b87 at h
  cases hg1 : yin s0 393 with
  | false => rw [hg1] at h; dsimp only [cond] at h; cases h
  | true =>
    rw [hg1] at h
    dsimp only [cond] at h
    refine yG_t (C' := (88, [], [.inl (.inl (σ.1 1 s0.toNat))], σ)) rfl hg1 ?_
    have h := Option.some.inj h
    subst h
    dsimp only
    exact yG_r rfl rfl
set_option maxRecDepth 100000 in
set_option maxHeartbeats 4000000 in
theorem t_X8_wish_b77 {N : Nat} {X : zXT} {sh : List yH} {l : Launch} {rm : Room} (σ : yS) (s0 : Int) (s2 : Int) (res : Int × yS) (h : f_X8_wish_b77 N σ s0 s2 = some res) : G_X8_wish N X sh l rm (77, [(0, .inr (.inl 8, 0))], [.inl (.inl s0), .inr (.inr (0, 393), 1), .inl (.inl s2), .inr (.inr (0, 393), 1)], σ) (some (.inl (.inl res.1)), res.2) := by
  unfold f_X8_wish_b77 at h
  cases hg2 : yin s0 393 with
  | false => rw [hg2] at h; dsimp only [cond] at h; cases h
  | true =>
    rw [hg2] at h
    dsimp only [cond] at h
    refine yG_t (C' := (78, [(0, .inr (.inl 8, 0))], [.inl (.inl (σ.1 1 s0.toNat)), .inl (.inl s2), .inr (.inr (0, 393), 1)], σ)) rfl hg2 ?_
    refine yG_n (n := 2) (C' := (80, [(0, .inr (.inl 8, 0))], [.inl (.inl (yad (σ.1 1 s0.toNat) 1)), .inl (.inl s2), .inr (.inr (0, 393), 1)], σ)) rfl ?_
    cases hg3 : yin s2 393 with
    | false => rw [hg3] at h; dsimp only [cond] at h; cases h
    | true =>
      rw [hg3] at h
      dsimp only [cond] at h
      refine yG_t (C' := (81, [(0, .inr (.inl 8, 0))], [], yw σ 1 s2.toNat (yad (σ.1 1 s0.toNat) 1))) rfl hg3 ?_
      refine yG_n (n := 3) (C' := (87, [(0, .inr (.inl 8, 0))], [.inl (.inl 118), .inr (.inr (0, 393), 1)], yw σ 1 s2.toNat (yad (σ.1 1 s0.toNat) 1))) rfl ?_
      exact yG_w [] rfl (t_X8_wish_b87 (yw σ 1 s2.toNat (yad (σ.1 1 s0.toNat) 1)) 118 res h)
set_option maxRecDepth 100000 in
set_option maxHeartbeats 4000000 in
theorem t_X8_wish_b63 {N : Nat} {X : zXT} {sh : List yH} {l : Launch} {rm : Room} (σ : yS) (x2 : Int) (s0 : Int) (s2 : Int) (s3 : Int) (res : Int × yS) (h : f_X8_wish_b63 N σ x2 s0 s2 s3 = some res) : G_X8_wish N X sh l rm (63, [(0, .inr (.inl 8, 0)), (2, .inl (.inl x2))], [.inl (.inl s0), .inr (.inr (0, 393), 1), .inl (.inl s2), .inl (.inl s3), .inr (.inr (0, 393), 1)], σ) (some (.inl (.inl res.1)), res.2) := by
  unfold f_X8_wish_b63 at h
  cases hg4 : yin s0 393 with
  | false => rw [hg4] at h; dsimp only [cond] at h; cases h
  | true =>
    rw [hg4] at h
    dsimp only [cond] at h
    refine yG_t (C' := (64, [(0, .inr (.inl 8, 0)), (2, .inl (.inl x2))], [.inl (.inl (σ.1 1 s0.toNat)), .inl (.inl s2), .inl (.inl s3), .inr (.inr (0, 393), 1)], σ)) rfl hg4 ?_
    refine yG_n (n := 5) (C' := (69, [(0, .inr (.inl 8, 0)), (2, .inl (.inl x2))], [.inl (.inl x2), .inl (.inl (yad (yad s3 (ymu s2 (σ.1 1 s0.toNat))) 1)), .inr (.inr (0, 393), 1)], σ)) rfl ?_
    cases hg5 : yin (yad (yad s3 (ymu s2 (σ.1 1 s0.toNat))) 1) 393 with
    | false => rw [hg5] at h; dsimp only [cond] at h; cases h
    | true =>
      rw [hg5] at h
      dsimp only [cond] at h
      refine yG_t (C' := (70, [(0, .inr (.inl 8, 0)), (2, .inl (.inl x2))], [], yw σ 1 (yad (yad s3 (ymu s2 (σ.1 1 s0.toNat))) 1).toNat x2)) rfl hg5 ?_
      refine yG_n (n := 4) (C' := (77, [(0, .inr (.inl 8, 0)), (2, .inl (.inl x2))], [.inl (.inl 118), .inr (.inr (0, 393), 1), .inl (.inl 118), .inr (.inr (0, 393), 1)], yw σ 1 (yad (yad s3 (ymu s2 (σ.1 1 s0.toNat))) 1).toNat x2)) rfl ?_
      exact yG_w [0] rfl (t_X8_wish_b77 (yw σ 1 (yad (yad s3 (ymu s2 (σ.1 1 s0.toNat))) 1).toNat x2) 118 118 res h)
set_option maxRecDepth 100000 in
set_option maxHeartbeats 4000000 in
theorem t_X8_wish {N : Nat} {X : zXT} {sh : List yH} {l : Launch} {rm : Room} (σ : yS) (x1 : Int) (x2 : Int) (res : Int × yS) (h : f_X8_wish N σ x1 x2 = some res) : G_X8_wish N X sh l rm (0, [(0, .inr (.inl 8, 0)), (1, .inl (.inl x1)), (2, .inl (.inl x2))], [], σ) (some (.inl (.inl res.1)), res.2) := by
  unfold f_X8_wish at h
  refine yG_n (n := 2) (C' := (2, [(0, .inr (.inl 8, 0)), (1, .inl (.inl x1)), (2, .inl (.inl x2))], [.inl (.inl x1), .inr (.inl 8, 0)], σ)) rfl ?_
  cases hr6 : f_X8_isHouse N σ x1 with
  | none => rw [hr6] at h; dsimp only at h; cases h
  | some r1 =>
    rw [hr6] at h
    dsimp only at h
    refine yG_c (C1 := (5, [(0, .inr (.inl 8, 0)), (1, .inl (.inl x1)), (2, .inl (.inl x2))], [.inl (.inl r1.1)], r1.2)) rfl (e_X8_isHouse hr6) rfl ?_
    cases hg7 : ycP .eq r1.1 0 with
    | true =>
      rw [hg7] at h
      dsimp only [cond] at h
      refine yG_t (C' := (16, [(0, .inr (.inl 8, 0)), (1, .inl (.inl x1)), (2, .inl (.inl x2))], [], r1.2)) rfl hg7 ?_
      exact yG_w [] rfl (t_X8_wish_b16 r1.2 res h)
    | false =>
      rw [hg7] at h
      dsimp only [cond] at h
      refine yG_f (C' := (8, [(0, .inr (.inl 8, 0)), (1, .inl (.inl x1)), (2, .inl (.inl x2))], [], r1.2)) rfl hg7 ?_
      refine yG_n (n := 2) (C' := (10, [(0, .inr (.inl 8, 0)), (1, .inl (.inl x1)), (2, .inl (.inl x2))], [.inl (.inl x2), .inr (.inl 8, 0)], r1.2)) rfl ?_
      cases hr8 : f_X8_isDeed N r1.2 x2 with
      | none => rw [hr8] at h; dsimp only at h; cases h
      | some r2 =>
        rw [hr8] at h
        dsimp only at h
        refine yG_c (C1 := (13, [(0, .inr (.inl 8, 0)), (1, .inl (.inl x1)), (2, .inl (.inl x2))], [.inl (.inl r2.1)], r2.2)) rfl (e_X8_isDeed hr8) rfl ?_
        cases hg9 : ycP .ne r2.1 0 with
        | true =>
          rw [hg9] at h
          dsimp only [cond] at h
          refine yG_t (C' := (18, [(0, .inr (.inl 8, 0)), (1, .inl (.inl x1)), (2, .inl (.inl x2))], [], r2.2)) rfl hg9 ?_
          refine yG_n (n := 5) (C' := (26, [(0, .inr (.inl 8, 0)), (1, .inl (.inl x1)), (2, .inl (.inl x2))], [.inl (.inl 4), .inl (.inl (r2.2.1 1 118))], r2.2)) rfl ?_
          cases hg10 : ycP .ne (r2.2.1 1 118) 4 with
          | true =>
            rw [hg10] at h
            dsimp only [cond] at h
            refine yG_t (C' := (32, [(0, .inr (.inl 8, 0)), (1, .inl (.inl x1)), (2, .inl (.inl x2))], [], r2.2)) rfl hg10 ?_
            refine yG_n (n := 11) (C' := (49, [(0, .inr (.inl 8, 0)), (1, .inl (.inl x1)), (2, .inl (.inl x2))], [.inl (.inl x1), .inl (.inl (yad 119 (ymu 2 (r2.2.1 1 118)))), .inr (.inr (0, 393), 1)], r2.2)) rfl ?_
            cases hg11 : yin (yad 119 (ymu 2 (r2.2.1 1 118))) 393 with
            | false => rw [hg11] at h; dsimp only [cond] at h; cases h
            | true =>
              rw [hg11] at h
              dsimp only [cond] at h
              refine yG_t (C' := (50, [(0, .inr (.inl 8, 0)), (1, .inl (.inl x1)), (2, .inl (.inl x2))], [], yw r2.2 1 (yad 119 (ymu 2 (r2.2.1 1 118))).toNat x1)) rfl hg11 ?_
              refine yG_n (n := 7) (C' := (63, [(0, .inr (.inl 8, 0)), (1, .inl (.inl x1)), (2, .inl (.inl x2))], [.inl (.inl 118), .inr (.inr (0, 393), 1), .inl (.inl 2), .inl (.inl 119), .inr (.inr (0, 393), 1)], yw r2.2 1 (yad 119 (ymu 2 (r2.2.1 1 118))).toNat x1)) rfl ?_
              exact yG_w [0, 2] rfl (t_X8_wish_b63 (yw r2.2 1 (yad 119 (ymu 2 (r2.2.1 1 118))).toNat x1) x2 118 2 119 res h)
          | false =>
            rw [hg10] at h
            dsimp only [cond] at h
            refine yG_f (C' := (29, [(0, .inr (.inl 8, 0)), (1, .inl (.inl x1)), (2, .inl (.inl x2))], [], r2.2)) rfl hg10 ?_
            refine yG_n (n := 1) (C' := (31, [(0, .inr (.inl 8, 0)), (1, .inl (.inl x1)), (2, .inl (.inl x2))], [.inl (.inl ((-3)))], r2.2)) rfl ?_
            have h := Option.some.inj h
            subst h
            dsimp only
            exact yG_r rfl rfl
        | false =>
          rw [hg9] at h
          dsimp only [cond] at h
          refine yG_f (C' := (16, [(0, .inr (.inl 8, 0)), (1, .inl (.inl x1)), (2, .inl (.inl x2))], [], r2.2)) rfl hg9 ?_
          exact yG_w [] rfl (t_X8_wish_b16 r2.2 res h)
set_option maxRecDepth 100000 in
set_option maxHeartbeats 4000000 in
theorem m_X8_wish {N : Nat} {X : zXT} (hX : zXok X) (hN : zXn X) (l : Launch) {sh : List yH} : yMet X vwCl yct sh l yX8_wish wsX8_wish { frames := 3, cells := 0, slots := 0, locals := 110 } (F_X8_wish N) :=
  ymeth (tb := tb_X8_wish N) (pr := pr_X8_wish) (rt := 1) (own := RX8) hX (by decide +kernel) rfl rfl ⟨Nat.le_of_ble_eq_true rfl, Nat.le_of_ble_eq_true rfl⟩
    (zfl_all (List.forall_mem_cons.mpr ⟨zfl_X8 (fun w h => List.mem_cons_of_mem _ (List.mem_append_right _ h)) (List.mem_of_getElem? (i := 1) rfl) (by decide) (by decide), fun _ h => absurd h List.not_mem_nil⟩))
    (zco_all (fun _ h => absurd h List.not_mem_nil)) (zlc_all (fun _ h => absurd h List.not_mem_nil))
    (List.forall_mem_cons.mpr ⟨ycal_V hX (m_X8_isHouse hX hN l) rfl (fun s args hts => cwV 1 hts gX8_wish_X8_isHouse rfl rfl rfl (by decide +kernel) ⟨Nat.le_of_ble_eq_true rfl, Nat.le_of_ble_eq_true rfl⟩), List.forall_mem_cons.mpr ⟨ycal_V hX (m_X8_isDeed hX hN l) rfl (fun s args hts => cwV 1 hts gX8_wish_X8_isDeed rfl rfl rfl (by decide +kernel) ⟨Nat.le_of_ble_eq_true rfl, Nat.le_of_ble_eq_true rfl⟩), fun _ h => absurd h List.not_mem_nil⟩⟩)
    (fun _ h => absurd h List.not_mem_nil)
    (zmm_all (fun _ h => absurd h List.not_mem_nil)) (fun _ h => absurd h List.not_mem_nil) (zpr_all hp_X8_wish) (fun as σ res h => by
      unfold F_X8_wish at h
      split at h
      · rename_i x1 x2
        cases hr : f_X8_wish N σ x1 x2 with
        | none => rw [hr] at h; cases h
        | some r =>
          rw [hr] at h
          cases h
          exact ⟨Nat.le_of_ble_eq_true rfl, t_X8_wish σ x1 x2 r hr⟩
      · cases h)
end
section
noncomputable def pr_X8_drift : List (Nat × Instr × Nat) := [(0, .iload_n 2, 1), (1, .i2l, 1), (2, .lconst 1, 1), (3, .ldc2_w 264, 3), (6, .invokestatic 90, 3), (9, .ifCond .eq 13, 3), (12, .iload_n 3, 1), (13, .i2l, 1), (14, .lconst 0, 1), (15, .lconst 1, 1), (16, .invokestatic 90, 3), (19, .ifCond .ne 5, 3), (22, .iconst (-1), 1), (23, .ireturn, 1), (24, .aload_n 0, 1), (25, .invokevirtual 266, 3), (28, .aload_n 0, 1), (29, .iconst 0, 1), (30, .putfield 239, 3), (33, .aload_n 0, 1), (34, .getfield 13, 3), (37, .sipush 130, 3), (40, .iaload, 1), (41, .istore 4, 2), (43, .iload_n 1, 1), (44, .istore 5, 2), (46, .iconst 0, 1), (47, .istore 6, 2), (49, .iload 6, 2), (51, .iload_n 2, 1), (52, .if_icmp .ge 148, 3), (55, .iload 5, 2), (57, .ldc_w 317, 3), (60, .imul, 1), (61, .sipush 12345, 3), (64, .iadd, 1), (65, .istore 5, 2), (67, .iload 5, 2), (69, .bipush 16, 2), (71, .ishr, 1), (72, .sipush 32767, 3), (75, .iand, 1), (76, .aload_n 0, 1), (77, .getfield 79, 3), (80, .irem, 1), (81, .istore 7, 2), (83, .aload_n 0, 1), (84, .getfield 13, 3), (87, .bipush 35, 2), (89, .iload 7, 2), (91, .iadd, 1), (92, .iaload, 1), (93, .ifCond .le 97, 3), (96, .aload_n 0, 1), (97, .getfield 13, 3), (100, .bipush 77, 2), (102, .iaload, 1), (103, .bipush 10, 2), (105, .if_icmp .ge 85, 3), (108, .bipush 78, 2), (110, .iconst 4, 1), (111, .aload_n 0, 1), (112, .getfield 13, 3), (115, .bipush 77, 2), (117, .iaload, 1), (118, .imul, 1), (119, .iadd, 1), (120, .istore 8, 2), (122, .aload_n 0, 1), (123, .getfield 13, 3), (126, .iload 8, 2), (128, .iload 7, 2), (130, .iastore, 1), (131, .aload_n 0, 1), (132, .getfield 13, 3), (135, .iload 8, 2), (137, .iconst 1, 1), (138, .iadd, 1), (139, .aload_n 0, 1), (140, .getfield 13, 3), (143, .bipush 21, 2), (145, .iload 7, 2), (147, .iadd, 1), (148, .iaload, 1), (149, .iastore, 1), (150, .aload_n 0, 1), (151, .getfield 13, 3), (154, .iload 8, 2), (156, .iconst 2, 1), (157, .iadd, 1), (158, .iconst 0, 1), (159, .iastore, 1), (160, .aload_n 0, 1), (161, .getfield 13, 3), (164, .iload 8, 2), (166, .iconst 3, 1), (167, .iadd, 1), (168, .aload_n 0, 1), (169, .getfield 13, 3), (172, .bipush 28, 2), (174, .iload 7, 2), (176, .iadd, 1), (177, .iaload, 1), (178, .iastore, 1), (179, .aload_n 0, 1), (180, .getfield 13, 3), (183, .bipush 77, 2), (185, .dup2, 1), (186, .iaload, 1), (187, .iconst 1, 1), (188, .iadd, 1), (189, .iastore, 1), (190, .aload_n 0, 1), (191, .invokevirtual 261, 3), (194, .iinc 6 1, 3), (197, .goto (-148), 3), (200, .iload_n 3, 1), (201, .ifCond .ne 10, 3), (204, .aload_n 0, 1), (205, .getfield 239, 3), (208, .goto 14, 3), (211, .aload_n 0, 1), (212, .getfield 13, 3), (215, .sipush 130, 3), (218, .iaload, 1), (219, .iload 4, 2), (221, .isub, 1), (222, .ireturn, 1)]
set_option maxRecDepth 100000 in
theorem hp_X8_drift : pr_X8_drift.all (fun x => decide (decode cX8_drift x.1 = .ok x.2)) = true := by decide +kernel
noncomputable def f_X8_drift_b22 (N : Nat) (σ : yS) : Option (Int × yS) :=
  some ((-1), σ)
noncomputable def f_X8_drift_b222 (N : Nat) (σ : yS) (s0 : Int) : Option (Int × yS) :=
  some (s0, σ)
noncomputable def f_X8_drift_b190 (N : Nat) (k49 : yS → Int → Int → Int → Int → Int → Option (Int × yS)) (σ : yS) (x2 : Int) (x3 : Int) (x4 : Int) (x5 : Int) (x6 : Int) : Option (Int × yS) :=
  match f_X8_days N σ with
  | none => none
  | some r4 => k49 r4.2 x2 x3 x4 x5 (yad x6 1)
noncomputable def f_X8_drift_b186 (N : Nat) (k49 : yS → Int → Int → Int → Int → Int → Option (Int × yS)) (σ : yS) (x2 : Int) (x3 : Int) (x4 : Int) (x5 : Int) (x6 : Int) (s0 : Int) (s2 : Int) : Option (Int × yS) :=
  bif yin s0 131 then
    bif yin s2 131 then
      f_X8_drift_b190 N k49 (yw σ 2 s2.toNat (yad (σ.1 2 s0.toNat) 1)) x2 x3 x4 x5 x6
    else none
  else none
noncomputable def f_X8_drift_b177 (N : Nat) (k49 : yS → Int → Int → Int → Int → Int → Option (Int × yS)) (σ : yS) (x2 : Int) (x3 : Int) (x4 : Int) (x5 : Int) (x6 : Int) (s0 : Int) (s2 : Int) : Option (Int × yS) :=
  bif yin s0 131 then
    bif yin s2 131 then
      f_X8_drift_b186 N k49 (yw σ 2 s2.toNat (σ.1 2 s0.toNat)) x2 x3 x4 x5 x6 77 77
    else none
  else none
noncomputable def f_X8_drift_b148 (N : Nat) (k49 : yS → Int → Int → Int → Int → Int → Option (Int × yS)) (σ : yS) (x2 : Int) (x3 : Int) (x4 : Int) (x5 : Int) (x6 : Int) (x7 : Int) (x8 : Int) (s0 : Int) (s2 : Int) : Option (Int × yS) :=
  bif yin s0 131 then
    bif yin s2 131 then
      bif yin (yad x8 2) 131 then
        f_X8_drift_b177 N k49 (yw (yw σ 2 s2.toNat (σ.1 2 s0.toNat)) 2 (yad x8 2).toNat 0) x2 x3 x4 x5 x6 (yad 28 x7) (yad x8 3)
      else none
    else none
  else none
noncomputable def f_X8_drift_b83 (N : Nat) (k49 : yS → Int → Int → Int → Int → Int → Option (Int × yS)) (σ : yS) (x2 : Int) (x3 : Int) (x4 : Int) (x5 : Int) (x6 : Int) (x7 : Int) : Option (Int × yS) :=
  bif yin (yad 35 x7) 131 then
    bif ycP .le (σ.1 2 (yad 35 x7).toNat) 0 then
      f_X8_drift_b190 N k49 σ x2 x3 x4 x5 x6
    else
      bif ycP .ge (σ.1 2 77) 10 then
        f_X8_drift_b190 N k49 σ x2 x3 x4 x5 x6
      else
        bif yin (yad 78 (ymu 4 (σ.1 2 77))) 131 then
          f_X8_drift_b148 N k49 (yw σ 2 (yad 78 (ymu 4 (σ.1 2 77))).toNat x7) x2 x3 x4 x5 x6 x7 (yad 78 (ymu 4 (σ.1 2 77))) (yad 21 x7) (yad (yad 78 (ymu 4 (σ.1 2 77))) 1)
        else none
  else none
noncomputable def f_X8_drift_b67 (N : Nat) (k49 : yS → Int → Int → Int → Int → Int → Option (Int × yS)) (σ : yS) (x2 : Int) (x3 : Int) (x4 : Int) (x5 : Int) (x6 : Int) : Option (Int × yS) :=
  bif ynz (σ.1 0 3) then
    f_X8_drift_b83 N k49 σ x2 x3 x4 x5 x6 (yrm (yan (ysr x5 16) 32767) (σ.1 0 3))
  else none
noncomputable def f_X8_drift_b49 (N : Nat) : Nat → yS → Int → Int → Int → Int → Int → Option (Int × yS) := yfix (fun _ _ _ _ _ _ => none) (fun ih σ x2 x3 x4 x5 x6 =>
    bif ycP .ge x6 x2 then
      bif ycP .ne x3 0 then
        f_X8_drift_b222 N σ (ysu (σ.1 2 130) x4)
      else
        f_X8_drift_b222 N σ (σ.1 0 26)
    else
      f_X8_drift_b67 N ih σ x2 x3 x4 (yad (ymu x5 1103515245) 12345) x6)
theorem q_X8_drift_b49 (N : Nat) (n : Nat) (σ : yS) (x2 : Int) (x3 : Int) (x4 : Int) (x5 : Int) (x6 : Int) : f_X8_drift_b49 N (n + 1) σ x2 x3 x4 x5 x6 =
    (bif ycP .ge x6 x2 then
      bif ycP .ne x3 0 then
        f_X8_drift_b222 N σ (ysu (σ.1 2 130) x4)
      else
        f_X8_drift_b222 N σ (σ.1 0 26)
    else
      f_X8_drift_b67 N (f_X8_drift_b49 N n) σ x2 x3 x4 (yad (ymu x5 1103515245) 12345) x6) := rfl
noncomputable def f_X8_drift_b40 (N : Nat) (σ : yS) (x1 : Int) (x2 : Int) (x3 : Int) (s0 : Int) : Option (Int × yS) :=
  bif yin s0 131 then
    f_X8_drift_b49 N N σ x2 x3 (σ.1 2 s0.toNat) x1 0
  else none
noncomputable def f_X8_drift (N : Nat) (σ : yS) (x1 : Int) (x2 : Int) (x3 : Int) : Option (Int × yS) :=
  match f_X8_in N σ x2 1 60 with
  | none => none
  | some r1 => bif ycP .eq r1.1 0 then
      f_X8_drift_b22 N r1.2
    else
      match f_X8_in N r1.2 x3 0 1 with
      | none => none
      | some r2 => bif ycP .ne r2.1 0 then
          match f_X8_starts N r2.2 with
          | none => none
          | some r3 => f_X8_drift_b40 N (yw r3.2 0 26 0) x1 x2 x3 130
        else
          f_X8_drift_b22 N r2.2
noncomputable def F_X8_drift (N : Nat) : yF := fun as σ => match as with
  | [.inr (.inl 8, 0), .inl (.inl x1), .inl (.inl x2), .inl (.inl x3)] => (f_X8_drift N σ x1 x2 x3).map (fun r => (some (.inl (.inl r.1)), r.2))
  | _ => none
theorem e_X8_drift {N : Nat} {σ : yS} {x1 : Int} {x2 : Int} {x3 : Int} {r : Int × yS} (h : f_X8_drift N σ x1 x2 x3 = some r) : F_X8_drift N [.inr (.inl 8, 0), .inl (.inl x1), .inl (.inl x2), .inl (.inl x3)] σ = some (some (.inl (.inl r.1)), r.2) := by
  show (f_X8_drift N σ x1 x2 x3).map (fun r => ((some (.inl (.inl r.1)), r.2) : yR)) = _
  rw [h]
  rfl
noncomputable def tb_X8_drift (N : Nat) : yTb := ([(13, 8, 1, 3), (79, 8, 3, 0), (239, 8, 26, 0)], [(317, 1103515245)], [(264, 60)], [(261, 1, 8, F_X8_days N), (266, 1, 8, F_X8_starts N)], [(90, 3, F_X8_in N)], [], [])
abbrev G_X8_drift (N : Nat) (X : zXT) (sh : List yH) (l : Launch) (rm : Room) : yC → yR → Prop := yGoes X vwCl yct sh l rm cX8_drift 9 wsX8_drift RX8 (tb_X8_drift N) pr_X8_drift 1
set_option maxRecDepth 100000 in
set_option maxHeartbeats 4000000 in
theorem t_X8_drift_b22 {N : Nat} {X : zXT} {sh : List yH} {l : Launch} {rm : Room} (σ : yS) (res : Int × yS) (h : f_X8_drift_b22 N σ = some res) : G_X8_drift N X sh l rm (22, [], [], σ) (some (.inl (.inl res.1)), res.2) := by
  unfold f_X8_drift_b22 at h
  refine yG_n (n := 1) (C' := (23, [], [.inl (.inl ((-1)))], σ)) rfl ?_
  have h := Option.some.inj h
  subst h
  dsimp only
  exact yG_r rfl rfl
set_option maxRecDepth 100000 in
set_option maxHeartbeats 4000000 in
theorem t_X8_drift_b222 {N : Nat} {X : zXT} {sh : List yH} {l : Launch} {rm : Room} (σ : yS) (s0 : Int) (res : Int × yS) (h : f_X8_drift_b222 N σ s0 = some res) : G_X8_drift N X sh l rm (222, [], [.inl (.inl s0)], σ) (some (.inl (.inl res.1)), res.2) := by
  unfold f_X8_drift_b222 at h
  have h := Option.some.inj h
  subst h
  dsimp only
  exact yG_r rfl rfl
set_option maxRecDepth 100000 in
set_option maxHeartbeats 4000000 in
theorem t_X8_drift_b190 {N : Nat} {X : zXT} {sh : List yH} {l : Launch} {rm : Room} (k49 : yS → Int → Int → Int → Int → Int → Option (Int × yS)) (hk49 : ∀ (σ : yS) (x2 : Int) (x3 : Int) (x4 : Int) (x5 : Int) (x6 : Int) (res : Int × yS), k49 σ x2 x3 x4 x5 x6 = some res → G_X8_drift N X sh l rm (49, [(0, .inr (.inl 8, 0)), (2, .inl (.inl x2)), (3, .inl (.inl x3)), (4, .inl (.inl x4)), (5, .inl (.inl x5)), (6, .inl (.inl x6))], [], σ) (some (.inl (.inl res.1)), res.2)) (σ : yS) (x2 : Int) (x3 : Int) (x4 : Int) (x5 : Int) (x6 : Int) (res : Int × yS) (h : f_X8_drift_b190 N k49 σ x2 x3 x4 x5 x6 = some res) : G_X8_drift N X sh l rm (190, [(0, .inr (.inl 8, 0)), (2, .inl (.inl x2)), (3, .inl (.inl x3)), (4, .inl (.inl x4)), (5, .inl (.inl x5)), (6, .inl (.inl x6))], [], σ) (some (.inl (.inl res.1)), res.2) := by
  unfold f_X8_drift_b190 at h
  refine yG_n (n := 1) (C' := (191, [(0, .inr (.inl 8, 0)), (2, .inl (.inl x2)), (3, .inl (.inl x3)), (4, .inl (.inl x4)), (5, .inl (.inl x5)), (6, .inl (.inl x6))], [.inr (.inl 8, 0)], σ)) rfl ?_
  cases hr1 : f_X8_days N σ with
  | none => rw [hr1] at h; dsimp only at h; cases h
  | some r4 =>
    rw [hr1] at h
    dsimp only at h
    refine yG_c (C1 := (194, [(0, .inr (.inl 8, 0)), (2, .inl (.inl x2)), (3, .inl (.inl x3)), (4, .inl (.inl x4)), (5, .inl (.inl x5)), (6, .inl (.inl x6))], [], r4.2)) rfl (e_X8_days hr1) rfl ?_
    refine yG_n (n := 2) (C' := (49, [(6, .inl (.inl (yad x6 1))), (0, .inr (.inl 8, 0)), (2, .inl (.inl x2)), (3, .inl (.inl x3)), (4, .inl (.inl x4)), (5, .inl (.inl x5))], [], r4.2)) rfl ?_
    exact yG_w [1, 2, 3, 4, 5, 0] rfl (hk49 r4.2 x2 x3 x4 x5 (yad x6 1) res h)
set_option maxRecDepth 100000 in
set_option maxHeartbeats 4000000 in
theorem t_X8_drift_b186 {N : Nat} {X : zXT} {sh : List yH} {l : Launch} {rm : Room} (k49 : yS → Int → Int → Int → Int → Int → Option (Int × yS)) (hk49 : ∀ (σ : yS) (x2 : Int) (x3 : Int) (x4 : Int) (x5 : Int) (x6 : Int) (res : Int × yS), k49 σ x2 x3 x4 x5 x6 = some res → G_X8_drift N X sh l rm (49, [(0, .inr (.inl 8, 0)), (2, .inl (.inl x2)), (3, .inl (.inl x3)), (4, .inl (.inl x4)), (5, .inl (.inl x5)), (6, .inl (.inl x6))], [], σ) (some (.inl (.inl res.1)), res.2)) (σ : yS) (x2 : Int) (x3 : Int) (x4 : Int) (x5 : Int) (x6 : Int) (s0 : Int) (s2 : Int) (res : Int × yS) (h : f_X8_drift_b186 N k49 σ x2 x3 x4 x5 x6 s0 s2 = some res) : G_X8_drift N X sh l rm (186, [(0, .inr (.inl 8, 0)), (2, .inl (.inl x2)), (3, .inl (.inl x3)), (4, .inl (.inl x4)), (5, .inl (.inl x5)), (6, .inl (.inl x6))], [.inl (.inl s0), .inr (.inr (0, 131), 2), .inl (.inl s2), .inr (.inr (0, 131), 2)], σ) (some (.inl (.inl res.1)), res.2) := by
  unfold f_X8_drift_b186 at h
  cases hg2 : yin s0 131 with
  | false => rw [hg2] at h; dsimp only [cond] at h; cases h
  | true =>
    rw [hg2] at h
    dsimp only [cond] at h
    refine yG_t (C' := (187, [(0, .inr (.inl 8, 0)), (2, .inl (.inl x2)), (3, .inl (.inl x3)), (4, .inl (.inl x4)), (5, .inl (.inl x5)), (6, .inl (.inl x6))], [.inl (.inl (σ.1 2 s0.toNat)), .inl (.inl s2), .inr (.inr (0, 131), 2)], σ)) rfl hg2 ?_
    refine yG_n (n := 2) (C' := (189, [(0, .inr (.inl 8, 0)), (2, .inl (.inl x2)), (3, .inl (.inl x3)), (4, .inl (.inl x4)), (5, .inl (.inl x5)), (6, .inl (.inl x6))], [.inl (.inl (yad (σ.1 2 s0.toNat) 1)), .inl (.inl s2), .inr (.inr (0, 131), 2)], σ)) rfl ?_
    cases hg3 : yin s2 131 with
    | false => rw [hg3] at h; dsimp only [cond] at h; cases h
    | true =>
      rw [hg3] at h
      dsimp only [cond] at h
      refine yG_t (C' := (190, [(0, .inr (.inl 8, 0)), (2, .inl (.inl x2)), (3, .inl (.inl x3)), (4, .inl (.inl x4)), (5, .inl (.inl x5)), (6, .inl (.inl x6))], [], yw σ 2 s2.toNat (yad (σ.1 2 s0.toNat) 1))) rfl hg3 ?_
      exact t_X8_drift_b190 k49 hk49 (yw σ 2 s2.toNat (yad (σ.1 2 s0.toNat) 1)) x2 x3 x4 x5 x6 res h
set_option maxRecDepth 100000 in
set_option maxHeartbeats 4000000 in
theorem t_X8_drift_b177 {N : Nat} {X : zXT} {sh : List yH} {l : Launch} {rm : Room} (k49 : yS → Int → Int → Int → Int → Int → Option (Int × yS)) (hk49 : ∀ (σ : yS) (x2 : Int) (x3 : Int) (x4 : Int) (x5 : Int) (x6 : Int) (res : Int × yS), k49 σ x2 x3 x4 x5 x6 = some res → G_X8_drift N X sh l rm (49, [(0, .inr (.inl 8, 0)), (2, .inl (.inl x2)), (3, .inl (.inl x3)), (4, .inl (.inl x4)), (5, .inl (.inl x5)), (6, .inl (.inl x6))], [], σ) (some (.inl (.inl res.1)), res.2)) (σ : yS) (x2 : Int) (x3 : Int) (x4 : Int) (x5 : Int) (x6 : Int) (s0 : Int) (s2 : Int) (res : Int × yS) (h : f_X8_drift_b177 N k49 σ x2 x3 x4 x5 x6 s0 s2 = some res) : G_X8_drift N X sh l rm (177, [(0, .inr (.inl 8, 0)), (2, .inl (.inl x2)), (3, .inl (.inl x3)), (4, .inl (.inl x4)), (5, .inl (.inl x5)), (6, .inl (.inl x6))], [.inl (.inl s0), .inr (.inr (0, 131), 2), .inl (.inl s2), .inr (.inr (0, 131), 2)], σ) (some (.inl (.inl res.1)), res.2) := by
  unfold f_X8_drift_b177 at h
  cases hg4 : yin s0 131 with
  | false => rw [hg4] at h; dsimp only [cond] at h; cases h
  | true =>
    rw [hg4] at h
    dsimp only [cond] at h
    refine yG_t (C' := (178, [(0, .inr (.inl 8, 0)), (2, .inl (.inl x2)), (3, .inl (.inl x3)), (4, .inl (.inl x4)), (5, .inl (.inl x5)), (6, .inl (.inl x6))], [.inl (.inl (σ.1 2 s0.toNat)), .inl (.inl s2), .inr (.inr (0, 131), 2)], σ)) rfl hg4 ?_
    cases hg5 : yin s2 131 with
    | false => rw [hg5] at h; dsimp only [cond] at h; cases h
    | true =>
      rw [hg5] at h
      dsimp only [cond] at h
      refine yG_t (C' := (179, [(0, .inr (.inl 8, 0)), (2, .inl (.inl x2)), (3, .inl (.inl x3)), (4, .inl (.inl x4)), (5, .inl (.inl x5)), (6, .inl (.inl x6))], [], yw σ 2 s2.toNat (σ.1 2 s0.toNat))) rfl hg5 ?_
      refine yG_n (n := 4) (C' := (186, [(0, .inr (.inl 8, 0)), (2, .inl (.inl x2)), (3, .inl (.inl x3)), (4, .inl (.inl x4)), (5, .inl (.inl x5)), (6, .inl (.inl x6))], [.inl (.inl 77), .inr (.inr (0, 131), 2), .inl (.inl 77), .inr (.inr (0, 131), 2)], yw σ 2 s2.toNat (σ.1 2 s0.toNat))) rfl ?_
      exact t_X8_drift_b186 k49 hk49 (yw σ 2 s2.toNat (σ.1 2 s0.toNat)) x2 x3 x4 x5 x6 77 77 res h
set_option maxRecDepth 100000 in
set_option maxHeartbeats 4000000 in
theorem t_X8_drift_b148 {N : Nat} {X : zXT} {sh : List yH} {l : Launch} {rm : Room} (k49 : yS → Int → Int → Int → Int → Int → Option (Int × yS)) (hk49 : ∀ (σ : yS) (x2 : Int) (x3 : Int) (x4 : Int) (x5 : Int) (x6 : Int) (res : Int × yS), k49 σ x2 x3 x4 x5 x6 = some res → G_X8_drift N X sh l rm (49, [(0, .inr (.inl 8, 0)), (2, .inl (.inl x2)), (3, .inl (.inl x3)), (4, .inl (.inl x4)), (5, .inl (.inl x5)), (6, .inl (.inl x6))], [], σ) (some (.inl (.inl res.1)), res.2)) (σ : yS) (x2 : Int) (x3 : Int) (x4 : Int) (x5 : Int) (x6 : Int) (x7 : Int) (x8 : Int) (s0 : Int) (s2 : Int) (res : Int × yS) (h : f_X8_drift_b148 N k49 σ x2 x3 x4 x5 x6 x7 x8 s0 s2 = some res) : G_X8_drift N X sh l rm (148, [(0, .inr (.inl 8, 0)), (2, .inl (.inl x2)), (3, .inl (.inl x3)), (4, .inl (.inl x4)), (5, .inl (.inl x5)), (6, .inl (.inl x6)), (7, .inl (.inl x7)), (8, .inl (.inl x8))], [.inl (.inl s0), .inr (.inr (0, 131), 2), .inl (.inl s2), .inr (.inr (0, 131), 2)], σ) (some (.inl (.inl res.1)), res.2) := by
  unfold f_X8_drift_b148 at h
  cases hg6 : yin s0 131 with
  | false => rw [hg6] at h; dsimp only [cond] at h; cases h
  | true =>
    rw [hg6] at h
    dsimp only [cond] at h
    refine yG_t (C' := (149, [(0, .inr (.inl 8, 0)), (2, .inl (.inl x2)), (3, .inl (.inl x3)), (4, .inl (.inl x4)), (5, .inl (.inl x5)), (6, .inl (.inl x6)), (7, .inl (.inl x7)), (8, .inl (.inl x8))], [.inl (.inl (σ.1 2 s0.toNat)), .inl (.inl s2), .inr (.inr (0, 131), 2)], σ)) rfl hg6 ?_
    cases hg7 : yin s2 131 with
    | false => rw [hg7] at h; dsimp only [cond] at h; cases h
    | true =>
      rw [hg7] at h
      dsimp only [cond] at h
      refine yG_t (C' := (150, [(0, .inr (.inl 8, 0)), (2, .inl (.inl x2)), (3, .inl (.inl x3)), (4, .inl (.inl x4)), (5, .inl (.inl x5)), (6, .inl (.inl x6)), (7, .inl (.inl x7)), (8, .inl (.inl x8))], [], yw σ 2 s2.toNat (σ.1 2 s0.toNat))) rfl hg7 ?_
      refine yG_n (n := 5) (C' := (158, [(0, .inr (.inl 8, 0)), (2, .inl (.inl x2)), (3, .inl (.inl x3)), (4, .inl (.inl x4)), (5, .inl (.inl x5)), (6, .inl (.inl x6)), (7, .inl (.inl x7)), (8, .inl (.inl x8))], [.inl (.inl (yad x8 2)), .inr (.inr (0, 131), 2)], yw σ 2 s2.toNat (σ.1 2 s0.toNat))) rfl ?_
      refine yG_n (n := 1) (C' := (159, [(0, .inr (.inl 8, 0)), (2, .inl (.inl x2)), (3, .inl (.inl x3)), (4, .inl (.inl x4)), (5, .inl (.inl x5)), (6, .inl (.inl x6)), (7, .inl (.inl x7)), (8, .inl (.inl x8))], [.inl (.inl 0), .inl (.inl (yad x8 2)), .inr (.inr (0, 131), 2)], yw σ 2 s2.toNat (σ.1 2 s0.toNat))) rfl ?_
      cases hg8 : yin (yad x8 2) 131 with
      | false => rw [hg8] at h; dsimp only [cond] at h; cases h
      | true =>
        rw [hg8] at h
        dsimp only [cond] at h
        refine yG_t (C' := (160, [(0, .inr (.inl 8, 0)), (2, .inl (.inl x2)), (3, .inl (.inl x3)), (4, .inl (.inl x4)), (5, .inl (.inl x5)), (6, .inl (.inl x6)), (7, .inl (.inl x7)), (8, .inl (.inl x8))], [], yw (yw σ 2 s2.toNat (σ.1 2 s0.toNat)) 2 (yad x8 2).toNat 0)) rfl hg8 ?_
        refine yG_n (n := 5) (C' := (168, [(0, .inr (.inl 8, 0)), (2, .inl (.inl x2)), (3, .inl (.inl x3)), (4, .inl (.inl x4)), (5, .inl (.inl x5)), (6, .inl (.inl x6)), (7, .inl (.inl x7)), (8, .inl (.inl x8))], [.inl (.inl (yad x8 3)), .inr (.inr (0, 131), 2)], yw (yw σ 2 s2.toNat (σ.1 2 s0.toNat)) 2 (yad x8 2).toNat 0)) rfl ?_
        refine yG_n (n := 5) (C' := (177, [(0, .inr (.inl 8, 0)), (2, .inl (.inl x2)), (3, .inl (.inl x3)), (4, .inl (.inl x4)), (5, .inl (.inl x5)), (6, .inl (.inl x6)), (7, .inl (.inl x7)), (8, .inl (.inl x8))], [.inl (.inl (yad 28 x7)), .inr (.inr (0, 131), 2), .inl (.inl (yad x8 3)), .inr (.inr (0, 131), 2)], yw (yw σ 2 s2.toNat (σ.1 2 s0.toNat)) 2 (yad x8 2).toNat 0)) rfl ?_
        exact yG_w [0, 1, 2, 3, 4, 5] rfl (t_X8_drift_b177 k49 hk49 (yw (yw σ 2 s2.toNat (σ.1 2 s0.toNat)) 2 (yad x8 2).toNat 0) x2 x3 x4 x5 x6 (yad 28 x7) (yad x8 3) res h)
set_option maxRecDepth 100000 in
set_option maxHeartbeats 4000000 in
theorem t_X8_drift_b83 {N : Nat} {X : zXT} {sh : List yH} {l : Launch} {rm : Room} (k49 : yS → Int → Int → Int → Int → Int → Option (Int × yS)) (hk49 : ∀ (σ : yS) (x2 : Int) (x3 : Int) (x4 : Int) (x5 : Int) (x6 : Int) (res : Int × yS), k49 σ x2 x3 x4 x5 x6 = some res → G_X8_drift N X sh l rm (49, [(0, .inr (.inl 8, 0)), (2, .inl (.inl x2)), (3, .inl (.inl x3)), (4, .inl (.inl x4)), (5, .inl (.inl x5)), (6, .inl (.inl x6))], [], σ) (some (.inl (.inl res.1)), res.2)) (σ : yS) (x2 : Int) (x3 : Int) (x4 : Int) (x5 : Int) (x6 : Int) (x7 : Int) (res : Int × yS) (h : f_X8_drift_b83 N k49 σ x2 x3 x4 x5 x6 x7 = some res) : G_X8_drift N X sh l rm (83, [(0, .inr (.inl 8, 0)), (2, .inl (.inl x2)), (3, .inl (.inl x3)), (4, .inl (.inl x4)), (5, .inl (.inl x5)), (6, .inl (.inl x6)), (7, .inl (.inl x7))], [], σ) (some (.inl (.inl res.1)), res.2) := by
  unfold f_X8_drift_b83 at h
  refine yG_n (n := 5) (C' := (92, [(0, .inr (.inl 8, 0)), (2, .inl (.inl x2)), (3, .inl (.inl x3)), (4, .inl (.inl x4)), (5, .inl (.inl x5)), (6, .inl (.inl x6)), (7, .inl (.inl x7))], [.inl (.inl (yad 35 x7)), .inr (.inr (0, 131), 2)], σ)) rfl ?_
  cases hg9 : yin (yad 35 x7) 131 with
  | false => rw [hg9] at h; dsimp only [cond] at h; cases h
  | true =>
    rw [hg9] at h
    dsimp only [cond] at h
    refine yG_t (C' := (93, [(0, .inr (.inl 8, 0)), (2, .inl (.inl x2)), (3, .inl (.inl x3)), (4, .inl (.inl x4)), (5, .inl (.inl x5)), (6, .inl (.inl x6)), (7, .inl (.inl x7))], [.inl (.inl (σ.1 2 (yad 35 x7).toNat))], σ)) rfl hg9 ?_
    cases hg10 : ycP .le (σ.1 2 (yad 35 x7).toNat) 0 with
    | true =>
      rw [hg10] at h
      dsimp only [cond] at h
      refine yG_t (C' := (190, [(0, .inr (.inl 8, 0)), (2, .inl (.inl x2)), (3, .inl (.inl x3)), (4, .inl (.inl x4)), (5, .inl (.inl x5)), (6, .inl (.inl x6)), (7, .inl (.inl x7))], [], σ)) rfl hg10 ?_
      exact yG_w [0, 1, 2, 3, 4, 5] rfl (t_X8_drift_b190 k49 hk49 σ x2 x3 x4 x5 x6 res h)
    | false =>
      rw [hg10] at h
      dsimp only [cond] at h
      refine yG_f (C' := (96, [(0, .inr (.inl 8, 0)), (2, .inl (.inl x2)), (3, .inl (.inl x3)), (4, .inl (.inl x4)), (5, .inl (.inl x5)), (6, .inl (.inl x6)), (7, .inl (.inl x7))], [], σ)) rfl hg10 ?_
      refine yG_n (n := 5) (C' := (105, [(0, .inr (.inl 8, 0)), (2, .inl (.inl x2)), (3, .inl (.inl x3)), (4, .inl (.inl x4)), (5, .inl (.inl x5)), (6, .inl (.inl x6)), (7, .inl (.inl x7))], [.inl (.inl 10), .inl (.inl (σ.1 2 77))], σ)) rfl ?_
      cases hg11 : ycP .ge (σ.1 2 77) 10 with
      | true =>
        rw [hg11] at h
        dsimp only [cond] at h
        refine yG_t (C' := (190, [(0, .inr (.inl 8, 0)), (2, .inl (.inl x2)), (3, .inl (.inl x3)), (4, .inl (.inl x4)), (5, .inl (.inl x5)), (6, .inl (.inl x6)), (7, .inl (.inl x7))], [], σ)) rfl hg11 ?_
        exact yG_w [0, 1, 2, 3, 4, 5] rfl (t_X8_drift_b190 k49 hk49 σ x2 x3 x4 x5 x6 res h)
      | false =>
        rw [hg11] at h
        dsimp only [cond] at h
        refine yG_f (C' := (108, [(0, .inr (.inl 8, 0)), (2, .inl (.inl x2)), (3, .inl (.inl x3)), (4, .inl (.inl x4)), (5, .inl (.inl x5)), (6, .inl (.inl x6)), (7, .inl (.inl x7))], [], σ)) rfl hg11 ?_
        refine yG_n (n := 7) (C' := (119, [(0, .inr (.inl 8, 0)), (2, .inl (.inl x2)), (3, .inl (.inl x3)), (4, .inl (.inl x4)), (5, .inl (.inl x5)), (6, .inl (.inl x6)), (7, .inl (.inl x7))], [.inl (.inl (ymu 4 (σ.1 2 77))), .inl (.inl 78)], σ)) rfl ?_
        refine yG_n (n := 1) (C' := (120, [(0, .inr (.inl 8, 0)), (2, .inl (.inl x2)), (3, .inl (.inl x3)), (4, .inl (.inl x4)), (5, .inl (.inl x5)), (6, .inl (.inl x6)), (7, .inl (.inl x7))], [.inl (.inl (yad 78 (ymu 4 (σ.1 2 77))))], σ)) rfl ?_
        refine yG_n (n := 5) (C' := (130, [(8, .inl (.inl (yad 78 (ymu 4 (σ.1 2 77))))), (0, .inr (.inl 8, 0)), (2, .inl (.inl x2)), (3, .inl (.inl x3)), (4, .inl (.inl x4)), (5, .inl (.inl x5)), (6, .inl (.inl x6)), (7, .inl (.inl x7))], [.inl (.inl x7), .inl (.inl (yad 78 (ymu 4 (σ.1 2 77)))), .inr (.inr (0, 131), 2)], σ)) rfl ?_
        cases hg12 : yin (yad 78 (ymu 4 (σ.1 2 77))) 131 with
        | false => rw [hg12] at h; dsimp only [cond] at h; cases h
        | true =>
          rw [hg12] at h
          dsimp only [cond] at h
          refine yG_t (C' := (131, [(8, .inl (.inl (yad 78 (ymu 4 (σ.1 2 77))))), (0, .inr (.inl 8, 0)), (2, .inl (.inl x2)), (3, .inl (.inl x3)), (4, .inl (.inl x4)), (5, .inl (.inl x5)), (6, .inl (.inl x6)), (7, .inl (.inl x7))], [], yw σ 2 (yad 78 (ymu 4 (σ.1 2 77))).toNat x7)) rfl hg12 ?_
          refine yG_n (n := 5) (C' := (139, [(8, .inl (.inl (yad 78 (ymu 4 (σ.1 2 77))))), (0, .inr (.inl 8, 0)), (2, .inl (.inl x2)), (3, .inl (.inl x3)), (4, .inl (.inl x4)), (5, .inl (.inl x5)), (6, .inl (.inl x6)), (7, .inl (.inl x7))], [.inl (.inl (yad (yad 78 (ymu 4 (σ.1 2 77))) 1)), .inr (.inr (0, 131), 2)], yw σ 2 (yad 78 (ymu 4 (σ.1 2 77))).toNat x7)) rfl ?_
          refine yG_n (n := 5) (C' := (148, [(8, .inl (.inl (yad 78 (ymu 4 (σ.1 2 77))))), (0, .inr (.inl 8, 0)), (2, .inl (.inl x2)), (3, .inl (.inl x3)), (4, .inl (.inl x4)), (5, .inl (.inl x5)), (6, .inl (.inl x6)), (7, .inl (.inl x7))], [.inl (.inl (yad 21 x7)), .inr (.inr (0, 131), 2), .inl (.inl (yad (yad 78 (ymu 4 (σ.1 2 77))) 1)), .inr (.inr (0, 131), 2)], yw σ 2 (yad 78 (ymu 4 (σ.1 2 77))).toNat x7)) rfl ?_
          exact yG_w [1, 2, 3, 4, 5, 6, 7, 0] rfl (t_X8_drift_b148 k49 hk49 (yw σ 2 (yad 78 (ymu 4 (σ.1 2 77))).toNat x7) x2 x3 x4 x5 x6 x7 (yad 78 (ymu 4 (σ.1 2 77))) (yad 21 x7) (yad (yad 78 (ymu 4 (σ.1 2 77))) 1) res h)
set_option maxRecDepth 100000 in
set_option maxHeartbeats 4000000 in
theorem t_X8_drift_b67 {N : Nat} {X : zXT} {sh : List yH} {l : Launch} {rm : Room} (k49 : yS → Int → Int → Int → Int → Int → Option (Int × yS)) (hk49 : ∀ (σ : yS) (x2 : Int) (x3 : Int) (x4 : Int) (x5 : Int) (x6 : Int) (res : Int × yS), k49 σ x2 x3 x4 x5 x6 = some res → G_X8_drift N X sh l rm (49, [(0, .inr (.inl 8, 0)), (2, .inl (.inl x2)), (3, .inl (.inl x3)), (4, .inl (.inl x4)), (5, .inl (.inl x5)), (6, .inl (.inl x6))], [], σ) (some (.inl (.inl res.1)), res.2)) (σ : yS) (x2 : Int) (x3 : Int) (x4 : Int) (x5 : Int) (x6 : Int) (res : Int × yS) (h : f_X8_drift_b67 N k49 σ x2 x3 x4 x5 x6 = some res) : G_X8_drift N X sh l rm (67, [(0, .inr (.inl 8, 0)), (2, .inl (.inl x2)), (3, .inl (.inl x3)), (4, .inl (.inl x4)), (5, .inl (.inl x5)), (6, .inl (.inl x6))], [], σ) (some (.inl (.inl res.1)), res.2) := by
  unfold f_X8_drift_b67 at h
  refine yG_n (n := 3) (C' := (72, [(0, .inr (.inl 8, 0)), (2, .inl (.inl x2)), (3, .inl (.inl x3)), (4, .inl (.inl x4)), (5, .inl (.inl x5)), (6, .inl (.inl x6))], [.inl (.inl (ysr x5 16))], σ)) rfl ?_
  refine yG_n (n := 2) (C' := (76, [(0, .inr (.inl 8, 0)), (2, .inl (.inl x2)), (3, .inl (.inl x3)), (4, .inl (.inl x4)), (5, .inl (.inl x5)), (6, .inl (.inl x6))], [.inl (.inl (yan (ysr x5 16) 32767))], σ)) rfl ?_
  refine yG_n (n := 2) (C' := (80, [(0, .inr (.inl 8, 0)), (2, .inl (.inl x2)), (3, .inl (.inl x3)), (4, .inl (.inl x4)), (5, .inl (.inl x5)), (6, .inl (.inl x6))], [.inl (.inl (σ.1 0 3)), .inl (.inl (yan (ysr x5 16) 32767))], σ)) rfl ?_
  cases hg13 : ynz (σ.1 0 3) with
  | false => rw [hg13] at h; dsimp only [cond] at h; cases h
  | true =>
    rw [hg13] at h
    dsimp only [cond] at h
    refine yG_t (C' := (81, [(0, .inr (.inl 8, 0)), (2, .inl (.inl x2)), (3, .inl (.inl x3)), (4, .inl (.inl x4)), (5, .inl (.inl x5)), (6, .inl (.inl x6))], [.inl (.inl (yrm (yan (ysr x5 16) 32767) (σ.1 0 3)))], σ)) rfl hg13 ?_
    refine yG_n (n := 1) (C' := (83, [(7, .inl (.inl (yrm (yan (ysr x5 16) 32767) (σ.1 0 3)))), (0, .inr (.inl 8, 0)), (2, .inl (.inl x2)), (3, .inl (.inl x3)), (4, .inl (.inl x4)), (5, .inl (.inl x5)), (6, .inl (.inl x6))], [], σ)) rfl ?_
    exact yG_w [1, 2, 3, 4, 5, 6, 0] rfl (t_X8_drift_b83 k49 hk49 σ x2 x3 x4 x5 x6 (yrm (yan (ysr x5 16) 32767) (σ.1 0 3)) res h)
set_option maxRecDepth 100000 in
set_option maxHeartbeats 4000000 in
theorem t_X8_drift_b49 {N : Nat} {X : zXT} {sh : List yH} {l : Launch} {rm : Room} : ∀ (n : Nat) (σ : yS) (x2 : Int) (x3 : Int) (x4 : Int) (x5 : Int) (x6 : Int) (res : Int × yS), f_X8_drift_b49 N n σ x2 x3 x4 x5 x6 = some res → G_X8_drift N X sh l rm (49, [(0, .inr (.inl 8, 0)), (2, .inl (.inl x2)), (3, .inl (.inl x3)), (4, .inl (.inl x4)), (5, .inl (.inl x5)), (6, .inl (.inl x6))], [], σ) (some (.inl (.inl res.1)), res.2) := by
  intro n
  induction n with
  | zero => intro σ x2 x3 x4 x5 x6 res h; exact (yno h).elim
  | succ n ih =>
    intro σ x2 x3 x4 x5 x6 res h
    rw [q_X8_drift_b49] at h
    refine yG_n (n := 2) (C' := (52, [(0, .inr (.inl 8, 0)), (2, .inl (.inl x2)), (3, .inl (.inl x3)), (4, .inl (.inl x4)), (5, .inl (.inl x5)), (6, .inl (.inl x6))], [.inl (.inl x2), .inl (.inl x6)], σ)) rfl ?_
    cases hg14 : ycP .ge x6 x2 with
    | true =>
      rw [hg14] at h
      dsimp only [cond] at h
      refine yG_t (C' := (200, [(0, .inr (.inl 8, 0)), (2, .inl (.inl x2)), (3, .inl (.inl x3)), (4, .inl (.inl x4)), (5, .inl (.inl x5)), (6, .inl (.inl x6))], [], σ)) rfl hg14 ?_
      refine yG_n (n := 1) (C' := (201, [(0, .inr (.inl 8, 0)), (2, .inl (.inl x2)), (3, .inl (.inl x3)), (4, .inl (.inl x4)), (5, .inl (.inl x5)), (6, .inl (.inl x6))], [.inl (.inl x3)], σ)) rfl ?_
      cases hg15 : ycP .ne x3 0 with
      | true =>
        rw [hg15] at h
        dsimp only [cond] at h
        refine yG_t (C' := (211, [(0, .inr (.inl 8, 0)), (2, .inl (.inl x2)), (3, .inl (.inl x3)), (4, .inl (.inl x4)), (5, .inl (.inl x5)), (6, .inl (.inl x6))], [], σ)) rfl hg15 ?_
        refine yG_n (n := 6) (C' := (222, [(0, .inr (.inl 8, 0)), (2, .inl (.inl x2)), (3, .inl (.inl x3)), (4, .inl (.inl x4)), (5, .inl (.inl x5)), (6, .inl (.inl x6))], [.inl (.inl (ysu (σ.1 2 130) x4))], σ)) rfl ?_
        exact yG_w [] rfl (t_X8_drift_b222 σ (ysu (σ.1 2 130) x4) res h)
      | false =>
        rw [hg15] at h
        dsimp only [cond] at h
        refine yG_f (C' := (204, [(0, .inr (.inl 8, 0)), (2, .inl (.inl x2)), (3, .inl (.inl x3)), (4, .inl (.inl x4)), (5, .inl (.inl x5)), (6, .inl (.inl x6))], [], σ)) rfl hg15 ?_
        refine yG_n (n := 3) (C' := (222, [(0, .inr (.inl 8, 0)), (2, .inl (.inl x2)), (3, .inl (.inl x3)), (4, .inl (.inl x4)), (5, .inl (.inl x5)), (6, .inl (.inl x6))], [.inl (.inl (σ.1 0 26))], σ)) rfl ?_
        exact yG_w [] rfl (t_X8_drift_b222 σ (σ.1 0 26) res h)
    | false =>
      rw [hg14] at h
      dsimp only [cond] at h
      refine yG_f (C' := (55, [(0, .inr (.inl 8, 0)), (2, .inl (.inl x2)), (3, .inl (.inl x3)), (4, .inl (.inl x4)), (5, .inl (.inl x5)), (6, .inl (.inl x6))], [], σ)) rfl hg14 ?_
      refine yG_n (n := 3) (C' := (61, [(0, .inr (.inl 8, 0)), (2, .inl (.inl x2)), (3, .inl (.inl x3)), (4, .inl (.inl x4)), (5, .inl (.inl x5)), (6, .inl (.inl x6))], [.inl (.inl (ymu x5 1103515245))], σ)) rfl ?_
      refine yG_n (n := 2) (C' := (65, [(0, .inr (.inl 8, 0)), (2, .inl (.inl x2)), (3, .inl (.inl x3)), (4, .inl (.inl x4)), (5, .inl (.inl x5)), (6, .inl (.inl x6))], [.inl (.inl (yad (ymu x5 1103515245) 12345))], σ)) rfl ?_
      refine yG_n (n := 1) (C' := (67, [(5, .inl (.inl (yad (ymu x5 1103515245) 12345))), (0, .inr (.inl 8, 0)), (2, .inl (.inl x2)), (3, .inl (.inl x3)), (4, .inl (.inl x4)), (6, .inl (.inl x6))], [], σ)) rfl ?_
      exact yG_w [1, 2, 3, 4, 0, 5] rfl (t_X8_drift_b67 (f_X8_drift_b49 N n) ih σ x2 x3 x4 (yad (ymu x5 1103515245) 12345) x6 res h)
set_option maxRecDepth 100000 in
set_option maxHeartbeats 4000000 in
theorem t_X8_drift_b40 {N : Nat} {X : zXT} {sh : List yH} {l : Launch} {rm : Room} (σ : yS) (x1 : Int) (x2 : Int) (x3 : Int) (s0 : Int) (res : Int × yS) (h : f_X8_drift_b40 N σ x1 x2 x3 s0 = some res) : G_X8_drift N X sh l rm (40, [(0, .inr (.inl 8, 0)), (1, .inl (.inl x1)), (2, .inl (.inl x2)), (3, .inl (.inl x3))], [.inl (.inl s0), .inr (.inr (0, 131), 2)], σ) (some (.inl (.inl res.1)), res.2) := by
  unfold f_X8_drift_b40 at h
  cases hg16 : yin s0 131 with
  | false => rw [hg16] at h; dsimp only [cond] at h; cases h
  | true =>
    rw [hg16] at h
    dsimp only [cond] at h
    refine yG_t (C' := (41, [(0, .inr (.inl 8, 0)), (1, .inl (.inl x1)), (2, .inl (.inl x2)), (3, .inl (.inl x3))], [.inl (.inl (σ.1 2 s0.toNat))], σ)) rfl hg16 ?_
    refine yG_n (n := 5) (C' := (49, [(6, .inl (.inl 0)), (5, .inl (.inl x1)), (4, .inl (.inl (σ.1 2 s0.toNat))), (0, .inr (.inl 8, 0)), (1, .inl (.inl x1)), (2, .inl (.inl x2)), (3, .inl (.inl x3))], [], σ)) rfl ?_
    exact yG_w [3, 5, 6, 2, 1, 0] rfl (t_X8_drift_b49 N σ x2 x3 (σ.1 2 s0.toNat) x1 0 res h)
set_option maxRecDepth 100000 in
set_option maxHeartbeats 4000000 in
theorem t_X8_drift {N : Nat} {X : zXT} {sh : List yH} {l : Launch} {rm : Room} (σ : yS) (x1 : Int) (x2 : Int) (x3 : Int) (res : Int × yS) (h : f_X8_drift N σ x1 x2 x3 = some res) : G_X8_drift N X sh l rm (0, [(0, .inr (.inl 8, 0)), (1, .inl (.inl x1)), (2, .inl (.inl x2)), (3, .inl (.inl x3))], [], σ) (some (.inl (.inl res.1)), res.2) := by
  unfold f_X8_drift at h
  refine yG_n (n := 4) (C' := (6, [(0, .inr (.inl 8, 0)), (1, .inl (.inl x1)), (2, .inl (.inl x2)), (3, .inl (.inl x3))], [.inl (.inr 60), .inl (.inr 1), .inl (.inr x2)], σ)) rfl ?_
  cases hr17 : f_X8_in N σ x2 1 60 with
  | none => rw [hr17] at h; dsimp only at h; cases h
  | some r1 =>
    rw [hr17] at h
    dsimp only at h
    refine yG_c (C1 := (9, [(0, .inr (.inl 8, 0)), (1, .inl (.inl x1)), (2, .inl (.inl x2)), (3, .inl (.inl x3))], [.inl (.inl r1.1)], r1.2)) rfl (e_X8_in hr17) rfl ?_
    cases hg18 : ycP .eq r1.1 0 with
    | true =>
      rw [hg18] at h
      dsimp only [cond] at h
      refine yG_t (C' := (22, [(0, .inr (.inl 8, 0)), (1, .inl (.inl x1)), (2, .inl (.inl x2)), (3, .inl (.inl x3))], [], r1.2)) rfl hg18 ?_
      exact yG_w [] rfl (t_X8_drift_b22 r1.2 res h)
    | false =>
      rw [hg18] at h
      dsimp only [cond] at h
      refine yG_f (C' := (12, [(0, .inr (.inl 8, 0)), (1, .inl (.inl x1)), (2, .inl (.inl x2)), (3, .inl (.inl x3))], [], r1.2)) rfl hg18 ?_
      refine yG_n (n := 4) (C' := (16, [(0, .inr (.inl 8, 0)), (1, .inl (.inl x1)), (2, .inl (.inl x2)), (3, .inl (.inl x3))], [.inl (.inr 1), .inl (.inr 0), .inl (.inr x3)], r1.2)) rfl ?_
      cases hr19 : f_X8_in N r1.2 x3 0 1 with
      | none => rw [hr19] at h; dsimp only at h; cases h
      | some r2 =>
        rw [hr19] at h
        dsimp only at h
        refine yG_c (C1 := (19, [(0, .inr (.inl 8, 0)), (1, .inl (.inl x1)), (2, .inl (.inl x2)), (3, .inl (.inl x3))], [.inl (.inl r2.1)], r2.2)) rfl (e_X8_in hr19) rfl ?_
        cases hg20 : ycP .ne r2.1 0 with
        | true =>
          rw [hg20] at h
          dsimp only [cond] at h
          refine yG_t (C' := (24, [(0, .inr (.inl 8, 0)), (1, .inl (.inl x1)), (2, .inl (.inl x2)), (3, .inl (.inl x3))], [], r2.2)) rfl hg20 ?_
          refine yG_n (n := 1) (C' := (25, [(0, .inr (.inl 8, 0)), (1, .inl (.inl x1)), (2, .inl (.inl x2)), (3, .inl (.inl x3))], [.inr (.inl 8, 0)], r2.2)) rfl ?_
          cases hr21 : f_X8_starts N r2.2 with
          | none => rw [hr21] at h; dsimp only at h; cases h
          | some r3 =>
            rw [hr21] at h
            dsimp only at h
            refine yG_c (C1 := (28, [(0, .inr (.inl 8, 0)), (1, .inl (.inl x1)), (2, .inl (.inl x2)), (3, .inl (.inl x3))], [], r3.2)) rfl (e_X8_starts hr21) rfl ?_
            refine yG_n (n := 6) (C' := (40, [(0, .inr (.inl 8, 0)), (1, .inl (.inl x1)), (2, .inl (.inl x2)), (3, .inl (.inl x3))], [.inl (.inl 130), .inr (.inr (0, 131), 2)], yw r3.2 0 26 0)) rfl ?_
            exact t_X8_drift_b40 (yw r3.2 0 26 0) x1 x2 x3 130 res h
        | false =>
          rw [hg20] at h
          dsimp only [cond] at h
          refine yG_f (C' := (22, [(0, .inr (.inl 8, 0)), (1, .inl (.inl x1)), (2, .inl (.inl x2)), (3, .inl (.inl x3))], [], r2.2)) rfl hg20 ?_
          exact yG_w [] rfl (t_X8_drift_b22 r2.2 res h)
set_option maxRecDepth 100000 in
set_option maxHeartbeats 4000000 in
theorem m_X8_drift {N : Nat} {X : zXT} (hX : zXok X) (hN : zXn X) (l : Launch) {sh : List yH} : yMet X vwCl yct sh l yX8_drift wsX8_drift { frames := 5, cells := 0, slots := 0, locals := 155 } (F_X8_drift N) :=
  ymeth (tb := tb_X8_drift N) (pr := pr_X8_drift) (rt := 1) (own := RX8) hX (by decide +kernel) rfl rfl ⟨Nat.le_of_ble_eq_true rfl, Nat.le_of_ble_eq_true rfl⟩
    (zfl_all (List.forall_mem_cons.mpr ⟨zfl_X8 (fun w h => List.mem_cons_of_mem _ (List.mem_append_right _ h)) (List.mem_of_getElem? (i := 3) rfl) (by decide) (by decide), List.forall_mem_cons.mpr ⟨zfl_X8 (fun w h => List.mem_cons_of_mem _ (List.mem_append_right _ h)) (List.mem_of_getElem? (i := 5) rfl) (by decide) (by decide), List.forall_mem_cons.mpr ⟨zfl_X8 (fun w h => List.mem_cons_of_mem _ (List.mem_append_right _ h)) (List.mem_of_getElem? (i := 2) rfl) (by decide) (by decide), fun _ h => absurd h List.not_mem_nil⟩⟩⟩))
    (zco_all (List.forall_mem_cons.mpr ⟨(List.mem_of_getElem? (i := 4) rfl), fun _ h => absurd h List.not_mem_nil⟩)) (zlc_all (List.forall_mem_cons.mpr ⟨(List.mem_of_getElem? (i := 1) rfl), fun _ h => absurd h List.not_mem_nil⟩))
    (List.forall_mem_cons.mpr ⟨ycal_V hX (m_X8_days hX hN l) rfl (fun s args hts => cwV 0 hts gX8_drift_X8_days rfl rfl rfl (by decide +kernel) ⟨Nat.le_of_ble_eq_true rfl, Nat.le_of_ble_eq_true rfl⟩), List.forall_mem_cons.mpr ⟨ycal_V hX (m_X8_starts hX hN l) rfl (fun s args hts => cwV 0 hts gX8_drift_X8_starts rfl rfl rfl (by decide +kernel) ⟨Nat.le_of_ble_eq_true rfl, Nat.le_of_ble_eq_true rfl⟩), fun _ h => absurd h List.not_mem_nil⟩⟩)
    (List.forall_mem_cons.mpr ⟨ycal_S hX (m_X8_in hX hN l) (fun s args hts => va_cwS 3 hts gX8_drift_X8_in rfl rfl rfl (by decide +kernel) ⟨Nat.le_of_ble_eq_true rfl, Nat.le_of_ble_eq_true rfl⟩), fun _ h => absurd h List.not_mem_nil⟩)
    (zmm_all (fun _ h => absurd h List.not_mem_nil)) (fun _ h => absurd h List.not_mem_nil) (zpr_all hp_X8_drift) (fun as σ res h => by
      unfold F_X8_drift at h
      split at h
      · rename_i x1 x2 x3
        cases hr : f_X8_drift N σ x1 x2 x3 with
        | none => rw [hr] at h; cases h
        | some r =>
          rw [hr] at h
          cases h
          exact ⟨Nat.le_of_ble_eq_true rfl, t_X8_drift σ x1 x2 x3 r hr⟩
      · cases h)
end
section
noncomputable def ych (x : Int32) : Int32 := ((x &&& 255).toUInt32 % 65536).toInt32
theorem ynI_nat {i : Nat} (h : i < 2147483648) : (nI i).toNatClampNeg = i := by
  show (Int32.ofInt (i : Int)).toInt.toNat = i
  rw [zq_of (by omega) (by omega)]
  omega
/-- a text constant in its place: its coder, its bytes; what the library's own methods read beside it -/
def yStr (w : Nat → Int32) (n a : Nat) (A : Nat → Prop) (U : State) (H : Heap) : Prop := n < 2147483648 ∧ va_O "java/lang/String" a A U H ∧ va_OF "java/lang/String" "coder" "B" (.int 0) a A U H ∧ va_Z "java/lang/String" "COMPACT_STRINGS" "Z" (.int 1) A U H ∧ va_Zq "jdk/internal/util/Preconditions" "SIOOBE_FORMATTER" "Ljava/util/function/BiFunction;" A U H ∧ ∃ (v : Nat), va_OF "java/lang/String" "value" "[B" (.ref v) a A U H ∧ va_T .byte v n (fun j => .int (w j)) A U H
theorem yStr.moved {w : Nat → Int32} {n a : Nat} {A : Nat → Prop} {u U : State} {H : Heap} (hvm : u.vm.Alike U.vm) (h : yStr w n a A u H) : yStr w n a A U H := by
  obtain ⟨h0, h1, h2, h3, h4, v, h5, h6⟩ := h
  exact ⟨h0, va_O.moved hvm h1, va_OF.moved hvm h2, va_Z.moved hvm h3, va_Zq.moved hvm h4, v, va_OF.moved hvm h5, va_T.moved hvm h6⟩
theorem yStr.kept {w : Nat → Int32} {n a : Nat} {A : Nat → Prop} {U : State} {H H1 : Heap} (h : yStr w n a A U H) (hq : ∀ a : Nat, a < H.size → ¬ A a → H1[a]? = H[a]?) : yStr w n a A U H1 := by
  obtain ⟨h0, h1, h2, h3, h4, v, h5, h6⟩ := h
  exact ⟨h0, h1.kept hq, h2.kept hq, h3.kept hq, h4.kept hq, v, h5.kept hq, h6.kept hq⟩
theorem yStr.narrow {w : Nat → Int32} {n a : Nat} {A B : Nat → Prop} {U : State} {H : Heap} (h : yStr w n a A U H) (hAB : ∀ q, B q → A q) : yStr w n a B U H := by
  obtain ⟨h0, h1, h2, h3, h4, v, h5, h6⟩ := h
  exact ⟨h0, h1.narrow hAB, h2.narrow hAB, h3.narrow hAB, h4.narrow hAB, v, h5.narrow hAB, h6.narrow hAB⟩
abbrev yAs (sz : Nat) : Nat → Prop := fun q => sz ≤ q
theorem yStr.there {w : Nat → Int32} {n a : Nat} {A : Nat → Prop} {s U : State} {H : Heap} {locs : List Loc} (h : yStr w n a A s s.heap) (hS : va_S A s.heap H locs) (hA : ∀ q, s.heap.size ≤ q → A q) (hU : U.heap = H) (hW : s.WarmedH U.vm) : yStr w n a (yAs H.size) U U.heap := by
  rw [hU]
  exact ((h.kept hS.2.1).narrow (fun q hq => hA q (Nat.le_trans hS.1 hq))).moved hW.alike
theorem yStr.recv {w : Nat → Int32} {n a : Nat} {A : Nat → Prop} {s : State} {H : Heap} {locs : List Loc} (h : yStr w n a A s s.heap) (hS : va_S A s.heap H locs) : ∃ cell : Cell, H[a]? = some cell ∧ cell.vm.isStatics = false ∧ s.vm.findClass "java/lang/String" = some cell.cls := by
  obtain ⟨cell, h1, h2, h3, -⟩ := h.2.1.kept hS.2.1
  exact ⟨cell, h1, h2, h3⟩
/-- a row of bytes -/
def yByt (w : Nat → Int32) (n v : Nat) (A : Nat → Prop) (U : State) (H : Heap) : Prop := n < 2147483648 ∧ va_Zq "jdk/internal/util/Preconditions" "SIOOBE_FORMATTER" "Ljava/util/function/BiFunction;" A U H ∧ va_T .byte v n (fun j => .int (w j)) A U H
theorem yByt.moved {w : Nat → Int32} {n a : Nat} {A : Nat → Prop} {u U : State} {H : Heap} (hvm : u.vm.Alike U.vm) (h : yByt w n a A u H) : yByt w n a A U H := by
  obtain ⟨h0, h4, h6⟩ := h
  exact ⟨h0, va_Zq.moved hvm h4, va_T.moved hvm h6⟩
theorem yByt.there {w : Nat → Int32} {n a : Nat} {A : Nat → Prop} {s U : State} {H : Heap} {locs : List Loc} (h : yByt w n a A s s.heap) (hS : va_S A s.heap H locs) (hA : ∀ q, s.heap.size ≤ q → A q) (hU : U.heap = H) (hW : s.WarmedH U.vm) : yByt w n a (yAs H.size) U U.heap := by
  rw [hU]
  obtain ⟨h0, h4, h6⟩ := h
  have hn : ∀ q, yAs H.size q → A q := fun q hq => hA q (Nat.le_trans hS.1 hq)
  exact yByt.moved hW.alike ⟨h0, (h4.kept hS.2.1).narrow hn, (h6.kept hS.2.1).narrow hn⟩
def yZq (A : Nat → Prop) (U : State) (H : Heap) : Prop := va_Zq "jdk/internal/util/Preconditions" "SIOOBE_FORMATTER" "Ljava/util/function/BiFunction;" A U H
theorem ychar_n (x : Int32) : narrow .char (.int (x.toUInt32 % 65536).toInt32) = .int (x.toUInt32 % 65536).toInt32 := by
  show Value.int ((x.toUInt32 % 65536).toInt32.toUInt32.toUInt16.toUInt32.toInt32) = _
  have e : (x.toUInt32 % 65536).toInt32.toUInt32.toUInt16.toUInt32 = x.toUInt32 % 65536 := by
    apply UInt32.toNat_inj.mp
    simp
  rw [e]
noncomputable def ypr_J0_coder_7d493 : List (Nat × Instr × Nat) := [(0, .getstatic 38, 3), (3, .ifCond .eq 10, 3), (6, .aload_n 0, 1), (7, .getfield 15, 3), (10, .goto 4, 3), (13, .iconst 1, 1), (14, .ireturn, 1)]
set_option maxRecDepth 100000 in
theorem yhp_J0_coder_7d493 : ypr_J0_coder_7d493.all (fun x => decide (decode cJ0_coder_7d493 x.1 = .ok x.2)) = true := by decide +kernel
set_option maxHeartbeats 4000000 in
set_option maxRecDepth 100000 in
theorem yc_J0_coder (l : Launch) (w : Nat → Int32) (n a sz : Nat) : Met l yJ0_coder_7d493 wsJ0_coder_7d493 { frames := 1, cells := 0, slots := 0, locals := 64 } (va_Pc [.ref a] (fun U => U.heap.size = sz ∧ yStr w n a (yAs sz) U U.heap)) (va_Qi (fun r (_ : Unit) => r = 0) (fun _ _ => True) (yAs sz)) 0 0 (yAs sz) := by
  refine Met.ofW (cc := cJ0_coder_7d493) (maxL := 1) (ret := some .byte) (by decide +kernel) rfl ?_
  intro p e s m args below meth c s₁ B hml hv
  obtain ⟨rfl, hsz, hS0⟩ := hv
  have hx := B.exec
  have hb := B.bytes
  have hr := B.returns
  have hts := atoms_spec (ws := wsJ0_coder_7d493) B.pre
  have hown : s.vm.findClass RJ0 = some m.cls := findClass_of_methodNamed B.named
  have hlocks := B.notSynchronized
  have hd := zpr_all yhp_J0_coder_7d493
  subst hsz
  have hS : va_S (yAs s.heap.size) s.heap s.heap [] := va_S.rf
  have hAA : ∀ q, s.heap.size ≤ q → yAs s.heap.size q := fun _ h => h
  have hl := lv_entry ([.ref a]) (n := 1) (Nat.le_of_ble_eq_true rfl)
  rw [lg_entry_eq]
  generalize (lg_sl ([.ref a]) ++ List.replicate (1 - (lg_sl ([.ref a])).length) Slot.unset).toArray = ls at hl ⊢
  have hl : lv_has ls 1 [(0, .ref a)] := hl
  obtain ⟨hn, hO, hC, hZ, hQ, v, hV, hT⟩ := hS0
  refine va_gets hx hb hZ hS hown (hts (.fieldLink RJ0 38 "java/lang/String" "COMPACT_STRINGS" "Z") (List.mem_of_getElem? (i := 1) rfl)) (fun _ h => h) (hd 0 (.getstatic 38) 3 rfl) ?_
  refine lv_if_eq (tgt := 13) hx hb (hd 3 (.ifCond .eq 10) 3 rfl) (by decide) (fun h => absurd h (by decide)) (fun _ => ?_)
  refine lv_aload_n hx hb (hd 6 (.aload_n 0) 1 rfl) rfl (lv_at hl 0 rfl) ?_
  refine vk_getf hx hb hC hS hown (hts (.fieldLink RJ0 15 "java/lang/String" "coder" "B") (List.mem_of_getElem? (i := 2) rfl)) (fun _ h => h) (hd 7 (.getfield 15) 3 rfl) ?_
  refine lv_goto (tgt := 14) hx hb (hd 10 (.goto 4) 3 rfl) (by decide) ?_
  exact W.zret hx hb hr rfl (fun t ht hW => ⟨⟨0, (), rfl, rfl, trivial⟩, hS.F ht⟩) hS.2.2 (hd 14 .ireturn 1 rfl)
noncomputable def ypr_J0_isLatin1_aae02 : List (Nat × Instr × Nat) := [(0, .getstatic 38, 3), (3, .ifCond .eq 14, 3), (6, .aload_n 0, 1), (7, .getfield 15, 3), (10, .ifCond .ne 7, 3), (13, .iconst 1, 1), (14, .goto 4, 3), (17, .iconst 0, 1), (18, .ireturn, 1)]
set_option maxRecDepth 100000 in
theorem yhp_J0_isLatin1_aae02 : ypr_J0_isLatin1_aae02.all (fun x => decide (decode cJ0_isLatin1_aae02 x.1 = .ok x.2)) = true := by decide +kernel
set_option maxHeartbeats 4000000 in
set_option maxRecDepth 100000 in
theorem yc_J0_isLatin1 (l : Launch) (w : Nat → Int32) (n a sz : Nat) : Met l yJ0_isLatin1_aae02 wsJ0_isLatin1_aae02 { frames := 1, cells := 0, slots := 0, locals := 64 } (va_Pc [.ref a] (fun U => U.heap.size = sz ∧ yStr w n a (yAs sz) U U.heap)) (va_Qi (fun r (_ : Unit) => r = 1) (fun _ _ => True) (yAs sz)) 0 0 (yAs sz) := by
  refine Met.ofW (cc := cJ0_isLatin1_aae02) (maxL := 1) (ret := some .boolean) (by decide +kernel) rfl ?_
  intro p e s m args below meth c s₁ B hml hv
  obtain ⟨rfl, hsz, hS0⟩ := hv
  have hx := B.exec
  have hb := B.bytes
  have hr := B.returns
  have hts := atoms_spec (ws := wsJ0_isLatin1_aae02) B.pre
  have hown : s.vm.findClass RJ0 = some m.cls := findClass_of_methodNamed B.named
  have hlocks := B.notSynchronized
  have hd := zpr_all yhp_J0_isLatin1_aae02
  subst hsz
  have hS : va_S (yAs s.heap.size) s.heap s.heap [] := va_S.rf
  have hAA : ∀ q, s.heap.size ≤ q → yAs s.heap.size q := fun _ h => h
  have hl := lv_entry ([.ref a]) (n := 1) (Nat.le_of_ble_eq_true rfl)
  rw [lg_entry_eq]
  generalize (lg_sl ([.ref a]) ++ List.replicate (1 - (lg_sl ([.ref a])).length) Slot.unset).toArray = ls at hl ⊢
  have hl : lv_has ls 1 [(0, .ref a)] := hl
  obtain ⟨hn, hO, hC, hZ, hQ, v, hV, hT⟩ := hS0
  refine va_gets hx hb hZ hS hown (hts (.fieldLink RJ0 38 "java/lang/String" "COMPACT_STRINGS" "Z") (List.mem_of_getElem? (i := 1) rfl)) (fun _ h => h) (hd 0 (.getstatic 38) 3 rfl) ?_
  refine lv_if_eq (tgt := 17) hx hb (hd 3 (.ifCond .eq 14) 3 rfl) (by decide) (fun h => absurd h (by decide)) (fun _ => ?_)
  refine lv_aload_n hx hb (hd 6 (.aload_n 0) 1 rfl) rfl (lv_at hl 0 rfl) ?_
  refine vk_getf hx hb hC hS hown (hts (.fieldLink RJ0 15 "java/lang/String" "coder" "B") (List.mem_of_getElem? (i := 2) rfl)) (fun _ h => h) (hd 7 (.getfield 15) 3 rfl) ?_
  refine lv_if_ne (tgt := 17) hx hb (hd 10 (.ifCond .ne 7) 3 rfl) (by decide) (fun h => absurd rfl h) (fun _ => ?_)
  refine lv_iconst (v := 1) hx hb (hd 13 (.iconst 1) 1 rfl) (by decide) ?_
  refine lv_goto (tgt := 18) hx hb (hd 14 (.goto 4) 3 rfl) (by decide) ?_
  exact W.zret hx hb hr rfl (fun t ht hW => ⟨⟨1, (), rfl, rfl, trivial⟩, hS.F ht⟩) hS.2.2 (hd 18 .ireturn 1 rfl)
noncomputable def ypr_J0_length_8abf5 : List (Nat × Instr × Nat) := [(0, .aload_n 0, 1), (1, .getfield 9, 3), (4, .arraylength, 1), (5, .aload_n 0, 1), (6, .invokevirtual 335, 3), (9, .ishr, 1), (10, .ireturn, 1)]
set_option maxRecDepth 100000 in
theorem yhp_J0_length_8abf5 : ypr_J0_length_8abf5.all (fun x => decide (decode cJ0_length_8abf5 x.1 = .ok x.2)) = true := by decide +kernel
set_option maxHeartbeats 4000000 in
set_option maxRecDepth 100000 in
theorem yc_J0_length (l : Launch) (w : Nat → Int32) (n a sz : Nat) : Met l yJ0_length_8abf5 wsJ0_length_8abf5 { frames := 2, cells := 0, slots := 0, locals := 84 } (va_Pc [.ref a] (fun U => U.heap.size = sz ∧ yStr w n a (yAs sz) U U.heap)) (va_Qi (fun r (_ : Unit) => r = Int32.ofNat n) (fun _ _ => True) (yAs sz)) 0 0 (yAs sz) := by
  refine Met.ofW (cc := cJ0_length_8abf5) (maxL := 1) (ret := some .int) (by decide +kernel) rfl ?_
  intro p e s m args below meth c s₁ B hml hv
  obtain ⟨rfl, hsz, hS0⟩ := hv
  have hx := B.exec
  have hb := B.bytes
  have hr := B.returns
  have hts := atoms_spec (ws := wsJ0_length_8abf5) B.pre
  have hown : s.vm.findClass RJ0 = some m.cls := findClass_of_methodNamed B.named
  have hlocks := B.notSynchronized
  have hd := zpr_all yhp_J0_length_8abf5
  subst hsz
  have hS : va_S (yAs s.heap.size) s.heap s.heap [] := va_S.rf
  have hAA : ∀ q, s.heap.size ≤ q → yAs s.heap.size q := fun _ h => h
  have hl := lv_entry ([.ref a]) (n := 1) (Nat.le_of_ble_eq_true rfl)
  rw [lg_entry_eq]
  generalize (lg_sl ([.ref a]) ++ List.replicate (1 - (lg_sl ([.ref a])).length) Slot.unset).toArray = ls at hl ⊢
  have hl : lv_has ls 1 [(0, .ref a)] := hl
  have hS1 := hS0
  obtain ⟨hn, hO, hC, hZ, hQ, v, hV, hT⟩ := hS0
  refine lv_aload_n hx hb (hd 0 (.aload_n 0) 1 rfl) rfl (lv_at hl 0 rfl) ?_
  refine vk_getf hx hb hV hS hown (hts (.fieldLink RJ0 9 "java/lang/String" "value" "[B") (List.mem_of_getElem? (i := 1) rfl)) (fun _ h => h) (hd 1 (.getfield 9) 3 rfl) ?_
  refine va_tlen hx hb hT hS rfl (hd 4 .arraylength 1 rfl) ?_
  refine lv_aload_n hx hb (hd 5 (.aload_n 0) 1 rfl) rfl (lv_at hl 0 rfl) ?_
  refine va_calli (va_runV (As := []) (rest := [.int (Int32.ofNat n)]) ⟨hx, hb, hml, hown, hts⟩ (yc_J0_coder l w n a s.heap.size) (cwV 0 hts gJ0_length_8abf5_J0_coder_7d493 rfl rfl rfl (by decide +kernel) ⟨Nat.le_of_ble_eq_true rfl, Nat.le_of_ble_eq_true rfl⟩) ⟨fun a U g mk q => by obtain ⟨q0, q1, q2⟩ := q; exact ⟨q0, q1, yStr.moved (u := U) (U := U.calling g mk a) (Vm.Alike.refl U.vm) q2⟩, hS1.recv hS, fun U hU hW => ⟨rfl, by rw [hU], hS1.there hS hAA hU hW⟩⟩ rfl rfl hl.1 rfl (lv_room (Nat.le_of_ble_eq_true rfl)) (hd 6 (.invokevirtual 335) 3 rfl) ⟨Nat.le_of_ble_eq_true rfl, Nat.le_of_ble_eq_true rfl⟩) hS (fun q _ h => Nat.le_trans hS.1 h) (fun q h => Nat.le_trans hS.1 h) (fun r u t H1 locs ht hvm hw _ hz1 hk1 hS => ?_)
  subst hw
  refine lv_ishr hx hb (hd 9 .ishr 1 rfl) ?_
  have e0 : (Int32.ofNat n) >>> ((0 : Int32) &&& 31) = Int32.ofNat n := by
    rw [show ((0 : Int32) &&& 31) = 0 from by decide +kernel]
    exact Int32.shiftRight_zero
  rw [e0]
  exact W.iret hx hb hr (fun t ht hW => ⟨⟨_, (), rfl, rfl, trivial⟩, hS.F ht⟩) hS.2.2 (hd 10 .ireturn 1 rfl)
noncomputable def ypr_J3_checkIndex_8e157 : List (Nat × Instr × Nat) := [(0, .iload_n 0, 1), (1, .ifCond .lt 8, 3), (4, .iload_n 0, 1), (5, .iload_n 1, 1), (6, .if_icmp .lt 10, 3), (9, .aload_n 2, 1), (10, .iload_n 0, 1), (11, .iload_n 1, 1), (12, .invokestatic 95, 3), (15, .athrow, 1), (16, .iload_n 0, 1), (17, .ireturn, 1)]
set_option maxRecDepth 100000 in
theorem yhp_J3_checkIndex_8e157 : ypr_J3_checkIndex_8e157.all (fun x => decide (decode cJ3_checkIndex_8e157 x.1 = .ok x.2)) = true := by decide +kernel
set_option maxHeartbeats 4000000 in
set_option maxRecDepth 100000 in
theorem yc_J3_checkIndex (l : Launch) (n i sz : Nat) (fm : Value) (hfm : fm.category = 1) (hi : i < n) (hn : n < 2147483648) : Met l yJ3_checkIndex_8e157 wsJ3_checkIndex_8e157 { frames := 1, cells := 0, slots := 0, locals := 64 } (va_Pc [.int (nI i), .int (nI n), fm] (fun U => U.heap.size = sz ∧ True)) (va_Qi (fun r (_ : Unit) => True) (fun _ _ => True) (yAs sz)) 0 0 (yAs sz) := by
  have hc : lg_sl [Value.int (nI i), .int (nI n), fm] = [.val (.int (nI i)), .val (.int (nI n)), .val fm] := by
    cases fm <;> first | rfl | (simp [Value.category] at hfm)
  refine Met.ofW (cc := cJ3_checkIndex_8e157) (maxL := 3) (ret := some .int) (by decide +kernel) rfl ?_
  intro p e s m args below meth c s₁ B hml hv
  obtain ⟨rfl, hsz, hS0⟩ := hv
  have hx := B.exec
  have hb := B.bytes
  have hr := B.returns
  have hts := atoms_spec (ws := wsJ3_checkIndex_8e157) B.pre
  have hown : s.vm.findClass RJ3 = some m.cls := findClass_of_methodNamed B.named
  have hlocks := B.notSynchronized
  have hd := zpr_all yhp_J3_checkIndex_8e157
  subst hsz
  have hS : va_S (yAs s.heap.size) s.heap s.heap [] := va_S.rf
  have hAA : ∀ q, s.heap.size ≤ q → yAs s.heap.size q := fun _ h => h
  have hl := lv_entry ([.int (nI i), .int (nI n), fm]) (n := 3) (by rw [hc]; exact Nat.le_of_ble_eq_true rfl)
  rw [lg_entry_eq]
  generalize (lg_sl ([.int (nI i), .int (nI n), fm]) ++ List.replicate (3 - (lg_sl ([.int (nI i), .int (nI n), fm])).length) Slot.unset).toArray = ls at hl ⊢
  have hl : lv_has ls 3 [(0, .int (nI i)), (1, .int (nI n))] := by
    refine zlv_sub hl (fun q hq => ?_)
    rcases List.mem_cons.mp hq with h | h
    · subst h; exact List.mem_cons_self
    · rcases List.mem_cons.mp h with h | h
      · subst h; exact List.mem_cons_of_mem _ List.mem_cons_self
      · cases h
  refine lv_iload_n hx hb (hd 0 (.iload_n 0) 1 rfl) rfl (lv_at hl 0 rfl) ?_
  refine lv_if_lt (tgt := 9) hx hb (hd 1 (.ifCond .lt 8) 3 rfl) (by decide) (fun h => absurd h (nI_pos (by omega))) (fun _ => ?_)
  refine lv_iload_n hx hb (hd 4 (.iload_n 0) 1 rfl) rfl (lv_at hl 0 rfl) ?_
  refine lv_iload_n hx hb (hd 5 (.iload_n 1) 1 rfl) rfl (lv_at hl 1 rfl) ?_
  refine lv_icmp_lt (tgt := 16) hx hb (hd 6 (.if_icmp .lt 10) 3 rfl) (by decide) (fun _ => ?_) (fun h => absurd (nI_lt hi (by omega)) h)
  refine lv_iload_n hx hb (hd 16 (.iload_n 0) 1 rfl) rfl (lv_at hl 0 rfl) ?_
  exact W.iret hx hb hr (fun t ht hW => ⟨⟨_, (), rfl, trivial, trivial⟩, hS.F ht⟩) hS.2.2 (hd 17 .ireturn 1 rfl)
noncomputable def ypr_J0_checkIndex_df160 : List (Nat × Instr × Nat) := [(0, .iload_n 0, 1), (1, .iload_n 1, 1), (2, .getstatic 1053, 3), (5, .invokestatic 1059, 3), (8, .pop, 1), (9, .return_, 1)]
set_option maxRecDepth 100000 in
theorem yhp_J0_checkIndex_df160 : ypr_J0_checkIndex_df160.all (fun x => decide (decode cJ0_checkIndex_df160 x.1 = .ok x.2)) = true := by decide +kernel
theorem yZq_moved {A : Nat → Prop} {u U : State} {H : Heap} (hvm : u.vm.Alike U.vm) (h : yZq A u H) : yZq A U H := va_Zq.moved hvm h
set_option maxHeartbeats 4000000 in
set_option maxRecDepth 100000 in
theorem yc_J0_checkIndex (l : Launch) (n i sz : Nat) (hi : i < n) (hn : n < 2147483648) : Met l yJ0_checkIndex_df160 wsJ0_checkIndex_df160 { frames := 2, cells := 0, slots := 0, locals := 90 } (va_Pc [.int (nI i), .int (nI n)] (fun U => U.heap.size = sz ∧ yZq (yAs sz) U U.heap)) (va_Qv (fun (_ : Unit) => True) (fun _ _ => True) (yAs sz)) 0 0 (yAs sz) := by
  refine Met.ofW (cc := cJ0_checkIndex_df160) (maxL := 2) (ret := none) (by decide +kernel) rfl ?_
  intro p e s m args below meth c s₁ B hml hv
  obtain ⟨rfl, hsz, hS0⟩ := hv
  have hx := B.exec
  have hb := B.bytes
  have hr := B.returns
  have hts := atoms_spec (ws := wsJ0_checkIndex_df160) B.pre
  have hown : s.vm.findClass RJ0 = some m.cls := findClass_of_methodNamed B.named
  have hlocks := B.notSynchronized
  have hd := zpr_all yhp_J0_checkIndex_df160
  subst hsz
  have hS : va_S (yAs s.heap.size) s.heap s.heap [] := va_S.rf
  have hAA : ∀ q, s.heap.size ≤ q → yAs s.heap.size q := fun _ h => h
  have hl := lv_entry ([.int (nI i), .int (nI n)]) (n := 2) (Nat.le_of_ble_eq_true rfl)
  rw [lg_entry_eq]
  generalize (lg_sl ([.int (nI i), .int (nI n)]) ++ List.replicate (2 - (lg_sl ([.int (nI i), .int (nI n)])).length) Slot.unset).toArray = ls at hl ⊢
  have hl : lv_has ls 2 [(0, .int (nI i)), (1, .int (nI n))] := hl
  obtain ⟨fm, hfm, hZ⟩ : ∃ fm : Value, fm.category = 1 ∧ va_Z "jdk/internal/util/Preconditions" "SIOOBE_FORMATTER" "Ljava/util/function/BiFunction;" fm (yAs s.heap.size) s s.heap := by
    rcases hS0 with h | ⟨t, h⟩
    · exact ⟨.null, rfl, h⟩
    · exact ⟨.ref t, rfl, h⟩
  refine lv_iload_n hx hb (hd 0 (.iload_n 0) 1 rfl) rfl (lv_at hl 0 rfl) ?_
  refine lv_iload_n hx hb (hd 1 (.iload_n 1) 1 rfl) rfl (lv_at hl 1 rfl) ?_
  refine va_gets hx hb hZ hS hown (hts (.fieldLink RJ0 1053 "jdk/internal/util/Preconditions" "SIOOBE_FORMATTER" "Ljava/util/function/BiFunction;") (List.mem_of_getElem? (i := 1) rfl)) (fun _ h => h) (hd 2 (.getstatic 1053) 3 rfl) ?_
  refine va_calli (va_runS (As := [.int (nI i), .int (nI n), fm]) (rest := []) ⟨hx, hb, hml, hown, hts⟩ (yc_J3_checkIndex l n i s.heap.size fm hfm hi hn) (va_cwS 3 hts gJ0_checkIndex_df160_J3_checkIndex_8e157 rfl rfl rfl (by decide +kernel) ⟨Nat.le_of_ble_eq_true rfl, Nat.le_of_ble_eq_true rfl⟩) ⟨fun a U g mk q => q, fun U hU hW => ⟨rfl, by rw [hU], trivial⟩⟩ rfl rfl hl.1 rfl (lv_room (Nat.le_of_ble_eq_true rfl)) (hd 5 (.invokestatic 1059) 3 rfl) ⟨Nat.le_of_ble_eq_true rfl, Nat.le_of_ble_eq_true rfl⟩) hS (fun q _ h => Nat.le_trans hS.1 h) (fun q h => Nat.le_trans hS.1 h) (fun r u t H1 locs ht hvm hw _ hz1 hk1 hS => ?_)
  refine lv_pop hx hb (hd 8 .pop 1 rfl) rfl ?_
  exact W.vret hx hb hr (fun t ht hW => ⟨⟨(), rfl, trivial, trivial⟩, hS.F ht⟩) hS.2.2 (hd 9 .return_ 1 rfl)
noncomputable def ypr_J1_charAt_3b067 : List (Nat × Instr × Nat) := [(0, .iload_n 1, 1), (1, .aload_n 0, 1), (2, .arraylength, 1), (3, .invokestatic 9, 3), (6, .aload_n 0, 1), (7, .iload_n 1, 1), (8, .baload, 1), (9, .sipush 255, 3), (12, .iand, 1), (13, .i2c, 1), (14, .ireturn, 1)]
set_option maxRecDepth 100000 in
theorem yhp_J1_charAt_3b067 : ypr_J1_charAt_3b067.all (fun x => decide (decode cJ1_charAt_3b067 x.1 = .ok x.2)) = true := by decide +kernel
set_option maxHeartbeats 4000000 in
set_option maxRecDepth 100000 in
theorem yc_J1_charAt (l : Launch) (w : Nat → Int32) (n v i sz : Nat) (hi : i < n) : Met l yJ1_charAt_3b067 wsJ1_charAt_3b067 { frames := 3, cells := 0, slots := 0, locals := 120 } (va_Pc [.ref v, .int (nI i)] (fun U => U.heap.size = sz ∧ yByt w n v (yAs sz) U U.heap)) (va_Qi (fun r (_ : Unit) => narrow .char (.int r) = .int r ∧ r = ych (w i)) (fun _ _ => True) (yAs sz)) 0 0 (yAs sz) := by
  refine Met.ofW (cc := cJ1_charAt_3b067) (maxL := 2) (ret := some .char) (by decide +kernel) rfl ?_
  intro p e s m args below meth c s₁ B hml hv
  obtain ⟨rfl, hsz, hS0⟩ := hv
  have hx := B.exec
  have hb := B.bytes
  have hr := B.returns
  have hts := atoms_spec (ws := wsJ1_charAt_3b067) B.pre
  have hown : s.vm.findClass RJ1 = some m.cls := findClass_of_methodNamed B.named
  have hlocks := B.notSynchronized
  have hd := zpr_all yhp_J1_charAt_3b067
  subst hsz
  have hS : va_S (yAs s.heap.size) s.heap s.heap [] := va_S.rf
  have hAA : ∀ q, s.heap.size ≤ q → yAs s.heap.size q := fun _ h => h
  have hl := lv_entry ([.ref v, .int (nI i)]) (n := 2) (Nat.le_of_ble_eq_true rfl)
  rw [lg_entry_eq]
  generalize (lg_sl ([.ref v, .int (nI i)]) ++ List.replicate (2 - (lg_sl ([.ref v, .int (nI i)])).length) Slot.unset).toArray = ls at hl ⊢
  have hl : lv_has ls 2 [(0, .ref v), (1, .int (nI i))] := hl
  have hS1 := hS0
  obtain ⟨hn, hQ, hT⟩ := hS0
  refine lv_iload_n hx hb (hd 0 (.iload_n 1) 1 rfl) rfl (lv_at hl 1 rfl) ?_
  refine lv_aload_n hx hb (hd 1 (.aload_n 0) 1 rfl) rfl (lv_at hl 0 rfl) ?_
  refine va_tlen (v := nI n) hx hb hT hS rfl (hd 2 .arraylength 1 rfl) ?_
  refine va_callv (va_runS (As := [.int (nI i), .int (nI n)]) (rest := []) ⟨hx, hb, hml, hown, hts⟩ (yc_J0_checkIndex l n i s.heap.size hi hn) (va_cwS 2 hts gJ1_charAt_3b067_J0_checkIndex_df160 rfl rfl rfl (by decide +kernel) ⟨Nat.le_of_ble_eq_true rfl, Nat.le_of_ble_eq_true rfl⟩) ⟨fun a U g mk q => by obtain ⟨q0, q1, q2⟩ := q; exact ⟨q0, q1, yZq_moved (u := U) (U := U.calling g mk a) (Vm.Alike.refl U.vm) q2⟩, fun U hU hW => ⟨rfl, by rw [hU], (hS1.there hS hAA hU hW).2.1⟩⟩ rfl rfl hl.1 rfl (lv_room (Nat.le_of_ble_eq_true rfl)) (hd 3 (.invokestatic 9) 3 rfl) ⟨Nat.le_of_ble_eq_true rfl, Nat.le_of_ble_eq_true rfl⟩) hS (fun q _ h => Nat.le_trans hS.1 h) (fun q h => Nat.le_trans hS.1 h) (fun u t H1 locs ht hvm hw _ hz1 hk1 hS => ?_)
  refine lv_aload_n hx hb (hd 6 (.aload_n 0) 1 rfl) rfl (lv_at hl 0 rfl) ?_
  refine lv_iload_n hx hb (hd 7 (.iload_n 1) 1 rfl) rfl (lv_at hl 1 rfl) ?_
  refine va_tb hx hb hT hS (vp_in_nI hi (by omega)) rfl (hd 8 .baload 1 rfl) ?_
  refine lv_sipush hx hb (hd 9 (.sipush 255) 3 rfl) rfl ?_
  refine lv_iand hx hb (hd 12 .iand 1 rfl) ?_
  refine lv_i2c hx hb (hd 13 .i2c 1 rfl) rfl ?_
  exact W.zret hx hb hr (ychar_n _) (fun t ht hW => ⟨⟨_, (), rfl, ⟨ychar_n _, by show _ = ych (w i); rw [ynI_nat (show i < 2147483648 by omega)]; rfl⟩, trivial⟩, hS.F ht⟩) hS.2.2 (hd 14 .ireturn 1 rfl)
noncomputable def ypr_J0_charAt_5068e : List (Nat × Instr × Nat) := [(0, .aload_n 0, 1), (1, .invokevirtual 492, 3), (4, .ifCond .eq 12, 3), (7, .aload_n 0, 1), (8, .getfield 9, 3), (11, .iload_n 1, 1), (12, .invokestatic 495, 3), (15, .ireturn, 1), (16, .aload_n 0, 1), (17, .getfield 9, 3), (20, .iload_n 1, 1), (21, .invokestatic 498, 3), (24, .ireturn, 1)]
set_option maxRecDepth 100000 in
theorem yhp_J0_charAt_5068e : ypr_J0_charAt_5068e.all (fun x => decide (decode cJ0_charAt_5068e x.1 = .ok x.2)) = true := by decide +kernel
set_option maxHeartbeats 4000000 in
set_option maxRecDepth 100000 in
theorem yc_J0_charAt (l : Launch) (w : Nat → Int32) (n a i sz : Nat) (hi : i < n) : Met l yJ0_charAt_5068e wsJ0_charAt_5068e { frames := 4, cells := 0, slots := 0, locals := 150 } (va_Pc [.ref a, .int (nI i)] (fun U => U.heap.size = sz ∧ yStr w n a (yAs sz) U U.heap)) (va_Qi (fun r (_ : Unit) => narrow .char (.int r) = .int r ∧ r = ych (w i)) (fun _ _ => True) (yAs sz)) 0 0 (yAs sz) := by
  refine Met.ofW (cc := cJ0_charAt_5068e) (maxL := 2) (ret := some .char) (by decide +kernel) rfl ?_
  intro p e s m args below meth c s₁ B hml hv
  obtain ⟨rfl, hsz, hS0⟩ := hv
  have hx := B.exec
  have hb := B.bytes
  have hr := B.returns
  have hts := atoms_spec (ws := wsJ0_charAt_5068e) B.pre
  have hown : s.vm.findClass RJ0 = some m.cls := findClass_of_methodNamed B.named
  have hlocks := B.notSynchronized
  have hd := zpr_all yhp_J0_charAt_5068e
  subst hsz
  have hS : va_S (yAs s.heap.size) s.heap s.heap [] := va_S.rf
  have hAA : ∀ q, s.heap.size ≤ q → yAs s.heap.size q := fun _ h => h
  have hl := lv_entry ([.ref a, .int (nI i)]) (n := 2) (Nat.le_of_ble_eq_true rfl)
  rw [lg_entry_eq]
  generalize (lg_sl ([.ref a, .int (nI i)]) ++ List.replicate (2 - (lg_sl ([.ref a, .int (nI i)])).length) Slot.unset).toArray = ls at hl ⊢
  have hl : lv_has ls 2 [(0, .ref a), (1, .int (nI i))] := hl
  have hS1 := hS0
  obtain ⟨hn, hO, hC, hZ, hQ, v, hV, hT⟩ := hS0
  have hB : yByt w n v (yAs s.heap.size) s s.heap := ⟨hn, hQ, hT⟩
  refine lv_aload_n hx hb (hd 0 (.aload_n 0) 1 rfl) rfl (lv_at hl 0 rfl) ?_
  refine va_calli (va_runV (As := []) (rest := []) ⟨hx, hb, hml, hown, hts⟩ (yc_J0_isLatin1 l w n a s.heap.size) (cwV 0 hts gJ0_charAt_5068e_J0_isLatin1_aae02 rfl rfl rfl (by decide +kernel) ⟨Nat.le_of_ble_eq_true rfl, Nat.le_of_ble_eq_true rfl⟩) ⟨fun a U g mk q => by obtain ⟨q0, q1, q2⟩ := q; exact ⟨q0, q1, yStr.moved (u := U) (U := U.calling g mk a) (Vm.Alike.refl U.vm) q2⟩, hS1.recv hS, fun U hU hW => ⟨rfl, by rw [hU], hS1.there hS hAA hU hW⟩⟩ rfl rfl hl.1 rfl (lv_room (Nat.le_of_ble_eq_true rfl)) (hd 1 (.invokevirtual 492) 3 rfl) ⟨Nat.le_of_ble_eq_true rfl, Nat.le_of_ble_eq_true rfl⟩) hS (fun q _ h => Nat.le_trans hS.1 h) (fun q h => Nat.le_trans hS.1 h) (fun r u t H1 locs ht hvm hw _ hz1 hk1 hS => ?_)
  subst hw
  refine lv_if_eq (tgt := 16) hx hb (hd 4 (.ifCond .eq 12) 3 rfl) (by decide) (fun h => absurd h (by decide)) (fun _ => ?_)
  refine lv_aload_n hx hb (hd 7 (.aload_n 0) 1 rfl) rfl (lv_at hl 0 rfl) ?_
  refine vk_getf hx hb hV hS hown (hts (.fieldLink RJ0 9 "java/lang/String" "value" "[B") (List.mem_of_getElem? (i := 1) rfl)) (fun _ h => h) (hd 8 (.getfield 9) 3 rfl) ?_
  refine lv_iload_n hx hb (hd 11 (.iload_n 1) 1 rfl) rfl (lv_at hl 1 rfl) ?_
  refine va_calli (va_runS (As := [.ref v, .int (nI i)]) (rest := []) ⟨hx, hb, hml, hown, hts⟩ (yc_J1_charAt l w n v i H1.size hi) (va_cwS 2 hts gJ0_charAt_5068e_J1_charAt_3b067 rfl rfl rfl (by decide +kernel) ⟨Nat.le_of_ble_eq_true rfl, Nat.le_of_ble_eq_true rfl⟩) ⟨fun a U g mk q => by obtain ⟨q0, q1, q2⟩ := q; exact ⟨q0, q1, yByt.moved (u := U) (U := U.calling g mk a) (Vm.Alike.refl U.vm) q2⟩, fun U hU hW => ⟨rfl, by rw [hU], hB.there hS hAA hU hW⟩⟩ rfl rfl hl.1 rfl (lv_room (Nat.le_of_ble_eq_true rfl)) (hd 12 (.invokestatic 495) 3 rfl) ⟨Nat.le_of_ble_eq_true rfl, Nat.le_of_ble_eq_true rfl⟩) hS (fun q _ h => Nat.le_trans hS.1 h) (fun q h => Nat.le_trans hS.1 h) (fun r u t H2 locs ht hvm hw _ hz1 hk1 hS => ?_)
  exact W.zret hx hb hr hw.1 (fun t ht hW => ⟨⟨_, (), rfl, hw, trivial⟩, hS.F ht⟩) hS.2.2 (hd 15 .ireturn 1 rfl)
end
section
noncomputable def f_X1_isName_l (σ : yS) : List Int → Int → Option (Int × yS)
  | [], _ => some (1, σ)
  | c :: cs, j => bif yin j 160 then
      (bif ycP .eq (σ.1 4 j.toNat) c then f_X1_isName_l σ cs (j + 1) else some (0, σ))
    else none
noncomputable def f_X1_isName (w : List Int) (σ : yS) (i : Nat) : Option (Int × yS) :=
  bif Nat.beq i 2 then
    (bif ycP .ne (σ.1 2 2) 1 then some (0, σ) else
      bif ycP .ne (ysu (σ.1 2 1) (σ.1 2 3)) (w.length : Int) then some (0, σ) else f_X1_isName_l σ w (σ.1 2 3))
  else none
noncomputable def F_T (w : List Int) : yF := fun as σ => match as with
  | [.inr (.inl 1, i)] => (f_X1_isName w σ i).map (fun r => (some (.inl (.inl r.1)), r.2))
  | _ => none
theorem e_T {w : List Int} {σ : yS} {i : Nat} {r : Int × yS} (h : f_X1_isName w σ i = some r) : F_T w [.inr (.inl 1, i)] σ = some (some (.inl (.inl r.1)), r.2) := by
  show (f_X1_isName w σ i).map (fun r => ((some (.inl (.inl r.1)), r.2) : yR)) = _
  rw [h]
  rfl
noncomputable def ypr_X1_isName : List (Nat × Instr × Nat) := [(0, .aload_n 0, 1), (1, .getfield 58, 3), (4, .iconst 1, 1), (5, .if_icmp .ne 19, 3), (8, .aload_n 0, 1), (9, .getfield 23, 3), (12, .aload_n 0, 1), (13, .getfield 123, 3), (16, .isub, 1), (17, .aload_n 1, 1), (18, .invokevirtual 224, 3), (21, .if_icmp .eq 5, 3), (24, .iconst 0, 1), (25, .ireturn, 1), (26, .iconst 0, 1), (27, .istore_n 2, 1), (28, .iload_n 2, 1), (29, .aload_n 1, 1), (30, .invokevirtual 224, 3), (33, .if_icmp .ge 33, 3), (36, .aload_n 0, 1), (37, .getfield 12, 3), (40, .getfield 207, 3), (43, .aload_n 0, 1), (44, .getfield 123, 3), (47, .iload_n 2, 1), (48, .iadd, 1), (49, .iaload, 1), (50, .aload_n 1, 1), (51, .iload_n 2, 1), (52, .invokevirtual 229, 3), (55, .if_icmp .eq 5, 3), (58, .iconst 0, 1), (59, .ireturn, 1), (60, .iinc 2 1, 3), (63, .goto (-35), 3), (66, .iconst 1, 1), (67, .ireturn, 1)]
set_option maxRecDepth 100000 in
theorem yhp_X1_isName : ypr_X1_isName.all (fun x => decide (decode cX1_isName x.1 = .ok x.2)) = true := by decide +kernel
/-- the cells that isName reads -/
def yshR (sh : List yH) : Prop := sh[2]? = some (.inl 1) ∧ sh[3]? = some (.inl 3) ∧ sh[4]? = some (.inr (0, 160))
set_option maxHeartbeats 4000000 in
set_option maxRecDepth 100000 in
theorem yc_isName {X : zXT} (l : Launch) (w : Nat → Int32) (wl : List Int) (hwl : ∀ (j : Nat) (c : Int), wl[j]? = some c → ych (w j) = Int32.ofInt c ∧ yI c) {sh : List yH} (hsh : yshR sh) (D : va_G) (kA : Nat → ClassId) (ad : Nat → Nat) (sz a : Nat) (σ : yS) (res : Int × yS) (hS0 : yokS yct sh σ) (hF : f_X1_isName wl σ 2 = some res) : Met l yX1_isName wsX1_isName { frames := 5, cells := 0, slots := 0, locals := 200 } (va_Pc [.ref (ad 2), .ref a] (fun U => zBf X D vwCl kA (yws yct kA ad sh σ) sz U ∧ yStr w wl.length a (va_A (yws yct kA ad sh σ) sz) U U.heap)) (yQc D vwCl yct kA sh ad (va_A (yws yct kA ad sh σ) sz) (some (.inl (.inl res.1)), res.2)) 0 0 (va_A (yws yct kA ad sh σ) sz) := by
  refine Met.ofW (cc := cX1_isName) (maxL := 3) (ret := some .boolean) (by decide +kernel) rfl ?_
  intro p e s m args below meth c s₁ B hml hv
  obtain ⟨rfl, ⟨hsz, hP, hK, hD0, hx0⟩, hStr⟩ := hv
  have hx := B.exec
  have hb := B.bytes
  have hr := B.returns
  have hts := atoms_spec (ws := wsX1_isName) B.pre
  have hown : s.vm.findClass RX1 = some m.cls := findClass_of_methodNamed B.named
  have hlocks := B.notSynchronized
  have hd := zpr_all yhp_X1_isName
  subst hsz
  have hD := hD0.self (sz := s.heap.size)
  have hA : ∀ q, s.heap.size ≤ q → va_A (yws yct kA ad sh σ) s.heap.size q := fun q h => Or.inr h
  have hS : va_S (va_A (yws yct kA ad sh σ) s.heap.size) s.heap s.heap [] := va_S.rf
  obtain ⟨s2, s3, s4⟩ := hsh
  have g2 : (yws yct kA ad sh σ)[2]? = some (ad 2, .inr (1, (yct.1 1).mapIdx (fun k t => yfv ad σ 2 k t))) := yws_get s2
  have g3 : (yws yct kA ad sh σ)[3]? = some (ad 3, .inr (3, (yct.1 3).mapIdx (fun k t => yfv ad σ 3 k t))) := yws_get s3
  have g4 : (yws yct kA ad sh σ)[4]? = some (ad 4, .inl (kA 0, 160, .inl (fun j => Int32.ofInt (σ.1 4 j)))) := yws_get s4
  have r2 : σ.2 2 0 = 3 := hS0.2.2.2 2 1 0 3 s2 rfl
  have r3 : σ.2 3 1 = 4 := hS0.2.2.2 3 3 1 4 s3 rfl
  have v_tok : ((yct.1 1).mapIdx (fun k t => yfv ad σ 2 k t))[2]? = some (.int (Int32.ofInt (σ.1 2 2))) := rfl
  have v_at : ((yct.1 1).mapIdx (fun k t => yfv ad σ 2 k t))[1]? = some (.int (Int32.ofInt (σ.1 2 1))) := rfl
  have v_st : ((yct.1 1).mapIdx (fun k t => yfv ad σ 2 k t))[3]? = some (.int (Int32.ofInt (σ.1 2 3))) := rfl
  have v_tp : ((yct.1 1).mapIdx (fun k t => yfv ad σ 2 k t))[0]? = some (.ref (ad 3)) := by
    show some (Value.ref (ad (σ.2 2 0))) = _
    rw [r2]
  have v_by : ((yct.1 3).mapIdx (fun k t => yfv ad σ 3 k t))[1]? = some (.ref (ad 4)) := by
    show some (Value.ref (ad (σ.2 3 1))) = _
    rw [r3]
  have hn := hStr.1
  have hl := lv_entry ([.ref (ad 2), .ref a]) (n := 3) (Nat.le_of_ble_eq_true rfl)
  rw [lg_entry_eq]
  generalize (lg_sl ([.ref (ad 2), .ref a]) ++ List.replicate (3 - (lg_sl ([.ref (ad 2), .ref a])).length) Slot.unset).toArray = ls at hl ⊢
  have hl : lv_has ls 3 [(0, .ref (ad 2)), (1, .ref a)] := hl
  generalize hAe : va_A (yws yct kA ad sh σ) s.heap.size = A at hStr hD hA hS ⊢
  have kept : ∀ (H H1 : Heap), va_P D vwCl (yws yct kA ad sh σ) H → (∀ q : Nat, q < H.size → ¬ H.size ≤ q → H1[q]? = H[q]?) → va_P D vwCl (yws yct kA ad sh σ) H1 := fun H H1 h1 h2 => h1.kept (fun k x hx => h2 x.1 ((h1 k x hx).lt) (Nat.not_le.mpr ((h1 k x hx).lt)))
  have fin0 : ∀ (H : Heap) (locs : List Loc) (ls : Array Slot) (pc : Nat), res = (0, σ) → va_P D vwCl (yws yct kA ad sh σ) H → va_S A s.heap H locs → decode cX1_isName pc = .ok (.iconst 0, 1) → decode cX1_isName (pc + 1) = .ok (.ireturn, 1) → W p l e (headSpec wsX1_isName { frames := 5, cells := 0, slots := 0, locals := 200 }).room s m [Value.ref (ad 2), .ref a].toArray below meth c H locs 0 0 (MQ below (yQc D vwCl yct kA sh ad A (some (.inl (.inl res.1)), res.2)) [Value.ref (ad 2), .ref a].toArray s 0 0 A) (F0 m pc ls []) := by
    intro H locs ls pc er hP hS d0 d1
    refine lv_iconst (v := 0) hx hb d0 (by decide) ?_
    subst er
    exact W.zret hx hb hr narrow_b0 (fun t ht hW => ⟨⟨hS0, (fun q hq => by cases hq; exact (⟨by decide, by decide⟩ : yI 0)), rfl, by rw [ht]; exact hP, hD⟩, hS.F ht⟩) hS.2.2 d1
  unfold f_X1_isName at hF
  rw [show Nat.beq 2 2 = true from rfl] at hF
  dsimp only [cond] at hF
  have loop : ∀ (cs : List Int) (i : Nat), wl.drop i = cs → i ≤ wl.length → f_X1_isName_l σ cs (σ.1 2 3 + i) = some res → ∀ (H : Heap) (locs : List Loc) (ls : Array Slot), va_P D vwCl (yws yct kA ad sh σ) H → va_S A s.heap H locs → lv_has ls 3 [(2, .int (nI i)), (0, .ref (ad 2)), (1, .ref a)] → W p l e (headSpec wsX1_isName { frames := 5, cells := 0, slots := 0, locals := 200 }).room s m [Value.ref (ad 2), .ref a].toArray below meth c H locs 0 0 (MQ below (yQc D vwCl yct kA sh ad A (some (.inl (.inl res.1)), res.2)) [Value.ref (ad 2), .ref a].toArray s 0 0 A) (F0 m 28 ls []) := by
    intro cs
    induction cs with
    | nil =>
      intro i hi hle hF H locs ls hP hS hl
      have hi : i = wl.length := by
        have := congrArg List.length hi
        rw [List.length_drop] at this
        simp at this
        omega
      refine lv_iload_n hx hb (hd 28 (.iload_n 2) 1 rfl) rfl (lv_at hl 0 rfl) ?_
      refine lv_aload_n hx hb (hd 29 (.aload_n 1) 1 rfl) rfl (lv_at hl 2 rfl) ?_
      refine va_calli (va_runV (As := []) (rest := [.int (nI i)]) ⟨hx, hb, hml, hown, hts⟩ (yc_J0_length l w wl.length a H.size) (cwV 0 hts gX1_isName_J0_length_8abf5 rfl rfl rfl (by decide +kernel) ⟨Nat.le_of_ble_eq_true rfl, Nat.le_of_ble_eq_true rfl⟩) ⟨fun a U g mk q => by obtain ⟨q0, q1, q2⟩ := q; exact ⟨q0, q1, yStr.moved (u := U) (U := U.calling g mk a) (Vm.Alike.refl U.vm) q2⟩, hStr.recv hS, fun U hU hW => ⟨rfl, by rw [hU], hStr.there hS hA hU hW⟩⟩ rfl rfl hl.1 rfl (lv_room (Nat.le_of_ble_eq_true rfl)) (hd 30 (.invokevirtual 224) 3 rfl) ⟨Nat.le_of_ble_eq_true rfl, Nat.le_of_ble_eq_true rfl⟩) hS (fun q _ h => hA q (Nat.le_trans hS.1 h)) (fun q h => hA q (Nat.le_trans hS.1 h)) (fun rv u t H1 locs ht hvm hw _ hz1 hk1 hS => ?_)
      subst hw
      have hP := kept _ _ hP hk1
      refine lv_icmp_ge (tgt := 66) hx hb (hd 33 (.if_icmp .ge 33) 3 rfl) (by decide) (fun _ => ?_) (fun h => absurd (nI_le (show wl.length ≤ i by omega) (by omega)) h)
      refine lv_iconst (v := 1) hx hb (hd 66 (.iconst 1) 1 rfl) (by decide) ?_
      have er : (1, σ) = res := Option.some.inj hF
      subst er
      exact W.zret hx hb hr narrow_b1 (fun t ht hW => ⟨⟨hS0, (fun q hq => by cases hq; exact (⟨by decide, by decide⟩ : yI 1)), rfl, by rw [ht]; exact hP, hD⟩, hS.F ht⟩) hS.2.2 (hd 67 .ireturn 1 rfl)
    | cons ch cs ih =>
      intro i hi hle hF H locs ls hP hS hl
      have hget : wl[i]? = some ch := by
        have := congrArg (fun z : List Int => z[0]?) hi
        simpa [List.getElem?_drop] using this
      have hlt : i < wl.length := (List.getElem?_eq_some_iff.mp hget).1
      obtain ⟨hch, hcI⟩ := hwl i ch hget
      refine lv_iload_n hx hb (hd 28 (.iload_n 2) 1 rfl) rfl (lv_at hl 0 rfl) ?_
      refine lv_aload_n hx hb (hd 29 (.aload_n 1) 1 rfl) rfl (lv_at hl 2 rfl) ?_
      refine va_calli (va_runV (As := []) (rest := [.int (nI i)]) ⟨hx, hb, hml, hown, hts⟩ (yc_J0_length l w wl.length a H.size) (cwV 0 hts gX1_isName_J0_length_8abf5 rfl rfl rfl (by decide +kernel) ⟨Nat.le_of_ble_eq_true rfl, Nat.le_of_ble_eq_true rfl⟩) ⟨fun a U g mk q => by obtain ⟨q0, q1, q2⟩ := q; exact ⟨q0, q1, yStr.moved (u := U) (U := U.calling g mk a) (Vm.Alike.refl U.vm) q2⟩, hStr.recv hS, fun U hU hW => ⟨rfl, by rw [hU], hStr.there hS hA hU hW⟩⟩ rfl rfl hl.1 rfl (lv_room (Nat.le_of_ble_eq_true rfl)) (hd 30 (.invokevirtual 224) 3 rfl) ⟨Nat.le_of_ble_eq_true rfl, Nat.le_of_ble_eq_true rfl⟩) hS (fun q _ h => hA q (Nat.le_trans hS.1 h)) (fun q h => hA q (Nat.le_trans hS.1 h)) (fun rv u t H1 locs ht hvm hw _ hz1 hk1 hS => ?_)
      subst hw
      have hP := kept _ _ hP hk1
      refine lv_icmp_ge (tgt := 66) hx hb (hd 33 (.if_icmp .ge 33) 3 rfl) (by decide) (fun h => absurd h (nI_ge hlt (by omega))) (fun _ => ?_)
      refine lv_aload_n hx hb (hd 36 (.aload_n 0) 1 rfl) rfl (lv_at hl 1 rfl) ?_
      refine va_get (C := RX1) (T := TX1) (N := 13) hx hb hts (fun w h => List.mem_cons_of_mem _ (List.mem_append_left _ (List.mem_append_right _ h))) hown hK hP 2 g2 rfl 0 (by decide) (hts (.fieldLink RX1 12 "VowTerrace$Reader" "tape" "LVowTerrace$Tape;") (List.mem_of_getElem? (i := 4) rfl)) (fun _ h => h) v_tp (hd 37 (.getfield 12) 3 rfl) ?_
      refine va_get (C := RX3) (T := TX3) (N := 2) hx hb hts (fun w h => List.mem_cons_of_mem _ (List.mem_append_right _ h)) hown hK hP 3 g3 rfl 1 (by decide) (hts (.fieldLink RX1 207 "VowTerrace$Tape" "bytes" "[I") (List.mem_of_getElem? (i := 5) rfl)) (fun _ h => h) v_by (hd 40 (.getfield 207) 3 rfl) ?_
      refine lv_aload_n hx hb (hd 43 (.aload_n 0) 1 rfl) rfl (lv_at hl 1 rfl) ?_
      refine va_get (C := RX1) (T := TX1) (N := 13) hx hb hts (fun w h => List.mem_cons_of_mem _ (List.mem_append_left _ (List.mem_append_right _ h))) hown hK hP 2 g2 rfl 3 (by decide) (hts (.fieldLink RX1 123 "VowTerrace$Reader" "start" "I") (List.mem_of_getElem? (i := 3) rfl)) (fun _ h => h) v_st (hd 44 (.getfield 123) 3 rfl) ?_
      refine lv_iload_n hx hb (hd 47 (.iload_n 2) 1 rfl) rfl (lv_at hl 0 rfl) ?_
      refine lv_iadd hx hb (hd 48 .iadd 1 rfl) ?_
      have en : nI i = Int32.ofInt (i : Int) := rfl
      rw [en, zq_addW]
      unfold f_X1_isName_l at hF
      cases hin : yin (σ.1 2 3 + (i : Int)) 160 with
      | false => rw [hin] at hF; dsimp only [cond] at hF; cases hF
      | true =>
        rw [hin] at hF
        dsimp only [cond] at hF
        obtain ⟨i1, i2⟩ := yin_ok hin
        obtain ⟨hidx, hcl⟩ := zq_idx (k := σ.1 2 3 + (i : Int)) (m := 160) i1 i2 (by omega)
        refine va_iald (n := 160) (f := fun j => Int32.ofInt (σ.1 4 j)) hx hb hK hP 4 0 g4 rfl hidx (hd 49 .iaload 1 rfl) ?_
        rw [hcl]
        refine lv_aload_n hx hb (hd 50 (.aload_n 1) 1 rfl) rfl (lv_at hl 2 rfl) ?_
        refine lv_iload_n hx hb (hd 51 (.iload_n 2) 1 rfl) rfl (lv_at hl 0 rfl) ?_
        refine va_calli (va_runV (As := [.int (nI i)]) (rest := [.int (Int32.ofInt (σ.1 4 (σ.1 2 3 + (i : Int)).toNat))]) ⟨hx, hb, hml, hown, hts⟩ (yc_J0_charAt l w wl.length a i H1.size hlt) (cwV 1 hts gX1_isName_J0_charAt_5068e rfl rfl rfl (by decide +kernel) ⟨Nat.le_of_ble_eq_true rfl, Nat.le_of_ble_eq_true rfl⟩) ⟨fun a U g mk q => by obtain ⟨q0, q1, q2⟩ := q; exact ⟨q0, q1, yStr.moved (u := U) (U := U.calling g mk a) (Vm.Alike.refl U.vm) q2⟩, hStr.recv hS, fun U hU hW => ⟨rfl, by rw [hU], hStr.there hS hA hU hW⟩⟩ rfl rfl hl.1 rfl (lv_room (Nat.le_of_ble_eq_true rfl)) (hd 52 (.invokevirtual 229) 3 rfl) ⟨Nat.le_of_ble_eq_true rfl, Nat.le_of_ble_eq_true rfl⟩) hS (fun q _ h => hA q (Nat.le_trans hS.1 h)) (fun q h => hA q (Nat.le_trans hS.1 h)) (fun rv u t H2 locs ht hvm hw _ hz1 hk1 hS => ?_)
        have hP := kept _ _ hP hk1
        have hrv : rv = Int32.ofInt ch := hw.2.trans hch
        subst hrv
        have hbI := hS0.1 4 (σ.1 2 3 + (i : Int)).toNat
        refine lv_icmp_eq (tgt := 60) hx hb (hd 55 (.if_icmp .eq 5) 3 rfl) (by decide) (fun heq => ?_) (fun hne => ?_)
        · have e1 : ycP .eq (σ.1 4 (σ.1 2 3 + (i : Int)).toNat) ch = true := ycP_t (cd := .eq) ((zq_eq hbI.1 hbI.2 hcI.1 hcI.2).mp heq)
          rw [e1] at hF
          dsimp only [cond] at hF
          refine lv_iinc (v := nI (i + 1)) (lv' := [(2, .int (nI (i + 1))), (0, .ref (ad 2)), (1, .ref a)]) hx hb (hd 60 (.iinc 2 1) 3 rfl) hl (k := 0) rfl (nI_1 i) (by decide) rfl (fun ls hl => ?_)
          refine lv_goto (tgt := 28) hx hb (hd 63 (.goto (-35)) 3 rfl) (by decide) ?_
          refine ih (i + 1) ?_ (by omega) ?_ _ _ ls hP hS hl
          · have := congrArg List.tail hi
            rw [List.tail_drop] at this
            exact this
          · rw [show (σ.1 2 3 + ((i + 1 : Nat) : Int)) = σ.1 2 3 + (i : Int) + 1 by omega]
            exact hF
        · have e1 : ycP .eq (σ.1 4 (σ.1 2 3 + (i : Int)).toNat) ch = false := ycP_f (cd := .eq) (fun z => hne ((zq_eq hbI.1 hbI.2 hcI.1 hcI.2).mpr z))
          rw [e1] at hF
          dsimp only [cond] at hF
          exact fin0 _ _ ls 58 (Option.some.inj hF).symm hP hS (hd 58 (.iconst 0) 1 rfl) (hd 59 .ireturn 1 rfl)
  refine lv_aload_n hx hb (hd 0 (.aload_n 0) 1 rfl) rfl (lv_at hl 0 rfl) ?_
  refine va_get (C := RX1) (T := TX1) (N := 13) hx hb hts (fun w h => List.mem_cons_of_mem _ (List.mem_append_left _ (List.mem_append_right _ h))) hown hK hP 2 g2 rfl 2 (by decide) (hts (.fieldLink RX1 58 "VowTerrace$Reader" "token" "I") (List.mem_of_getElem? (i := 1) rfl)) (fun _ h => h) v_tok (hd 1 (.getfield 58) 3 rfl) ?_
  refine lv_iconst (v := Int32.ofInt 1) hx hb (hd 4 (.iconst 1) 1 rfl) (by decide) ?_
  have tI := hS0.1 2 2
  refine lv_icmp_ne (tgt := 24) hx hb (hd 5 (.if_icmp .ne 19) 3 rfl) (by decide) (fun hne => ?_) (fun heq => ?_)
  · have e1 : ycP .ne (σ.1 2 2) 1 = true := ycP_t (cd := .ne) (fun z => hne ((zq_eq tI.1 tI.2 (by omega) (by omega)).mpr z))
    rw [e1] at hF
    dsimp only [cond] at hF
    exact fin0 _ _ ls 24 (Option.some.inj hF).symm hP hS (hd 24 (.iconst 0) 1 rfl) (hd 25 .ireturn 1 rfl)
  have e1 : ycP .ne (σ.1 2 2) 1 = false := ycP_f (cd := .ne) (fun z => z ((zq_eq tI.1 tI.2 (by omega) (by omega)).mp heq))
  rw [e1] at hF
  dsimp only [cond] at hF
  refine lv_aload_n hx hb (hd 8 (.aload_n 0) 1 rfl) rfl (lv_at hl 0 rfl) ?_
  refine va_get (C := RX1) (T := TX1) (N := 13) hx hb hts (fun w h => List.mem_cons_of_mem _ (List.mem_append_left _ (List.mem_append_right _ h))) hown hK hP 2 g2 rfl 1 (by decide) (hts (.fieldLink RX1 23 "VowTerrace$Reader" "at" "I") (List.mem_of_getElem? (i := 2) rfl)) (fun _ h => h) v_at (hd 9 (.getfield 23) 3 rfl) ?_
  refine lv_aload_n hx hb (hd 12 (.aload_n 0) 1 rfl) rfl (lv_at hl 0 rfl) ?_
  refine va_get (C := RX1) (T := TX1) (N := 13) hx hb hts (fun w h => List.mem_cons_of_mem _ (List.mem_append_left _ (List.mem_append_right _ h))) hown hK hP 2 g2 rfl 3 (by decide) (hts (.fieldLink RX1 123 "VowTerrace$Reader" "start" "I") (List.mem_of_getElem? (i := 3) rfl)) (fun _ h => h) v_st (hd 13 (.getfield 123) 3 rfl) ?_
  refine lv_isub hx hb (hd 16 .isub 1 rfl) ?_
  have esu : Int32.ofInt (σ.1 2 1) - Int32.ofInt (σ.1 2 3) = Int32.ofInt (ysu (σ.1 2 1) (σ.1 2 3)) := by
    unfold ysu
    rw [Int32.ofInt_toInt]
  rw [esu]
  refine lv_aload_n hx hb (hd 17 (.aload_n 1) 1 rfl) rfl (lv_at hl 1 rfl) ?_
  refine va_calli (va_runV (As := []) (rest := [.int (Int32.ofInt (ysu (σ.1 2 1) (σ.1 2 3)))]) ⟨hx, hb, hml, hown, hts⟩ (yc_J0_length l w wl.length a s.heap.size) (cwV 0 hts gX1_isName_J0_length_8abf5 rfl rfl rfl (by decide +kernel) ⟨Nat.le_of_ble_eq_true rfl, Nat.le_of_ble_eq_true rfl⟩) ⟨fun a U g mk q => by obtain ⟨q0, q1, q2⟩ := q; exact ⟨q0, q1, yStr.moved (u := U) (U := U.calling g mk a) (Vm.Alike.refl U.vm) q2⟩, hStr.recv hS, fun U hU hW => ⟨rfl, by rw [hU], hStr.there hS hA hU hW⟩⟩ rfl rfl hl.1 rfl (lv_room (Nat.le_of_ble_eq_true rfl)) (hd 18 (.invokevirtual 224) 3 rfl) ⟨Nat.le_of_ble_eq_true rfl, Nat.le_of_ble_eq_true rfl⟩) hS (fun q _ h => hA q (Nat.le_trans hS.1 h)) (fun q h => hA q (Nat.le_trans hS.1 h)) (fun rv u t H1 locs ht hvm hw _ hz1 hk1 hS => ?_)
  subst hw
  have hP := kept _ _ hP hk1
  have en : Int32.ofNat wl.length = Int32.ofInt (wl.length : Int) := rfl
  have suI : yI (ysu (σ.1 2 1) (σ.1 2 3)) := y32_I _
  refine lv_icmp_eq (tgt := 26) hx hb (hd 21 (.if_icmp .eq 5) 3 rfl) (by decide) (fun heq => ?_) (fun hne => ?_)
  · rw [en] at heq
    have e2 : ycP .ne (ysu (σ.1 2 1) (σ.1 2 3)) (wl.length : Int) = false := ycP_f (cd := .ne) (fun z => z ((zq_eq suI.1 suI.2 (by omega) (by omega)).mp heq))
    rw [e2] at hF
    dsimp only [cond] at hF
    refine lv_iconst (v := 0) hx hb (hd 26 (.iconst 0) 1 rfl) (by decide) ?_
    refine lv_istore_n (lv' := [(2, .int 0), (0, .ref (ad 2)), (1, .ref a)]) hx hb (hd 27 (.istore_n 2) 1 rfl) rfl hl (by decide) rfl (fun ls hl => ?_)
    exact loop wl 0 rfl (by omega) (by rw [show (σ.1 2 3 + ((0 : Nat) : Int)) = σ.1 2 3 by omega]; exact hF) _ _ ls hP hS hl
  · rw [en] at hne
    have e2 : ycP .ne (ysu (σ.1 2 1) (σ.1 2 3)) (wl.length : Int) = true := ycP_t (cd := .ne) (fun z => hne ((zq_eq suI.1 suI.2 (by omega) (by omega)).mpr z))
    rw [e2] at hF
    dsimp only [cond] at hF
    exact fin0 _ _ ls 24 (Option.some.inj hF).symm hP hS (hd 24 (.iconst 0) 1 rfl) (hd 25 .ireturn 1 rfl)
end
section
noncomputable def ystrs : List (Nat × String × List Int32 × List Int) := [(81, "row", [114, 111, 119], [114, 111, 119]), (91, "ring", [114, 105, 110, 103], [114, 105, 110, 103]), (93, "deed", [100, 101, 101, 100], [100, 101, 101, 100]), (98, "house", [104, 111, 117, 115, 101], [104, 111, 117, 115, 101]), (103, "lawyer", [108, 97, 119, 121, 101, 114], [108, 97, 119, 121, 101, 114]), (108, "habit", [104, 97, 98, 105, 116], [104, 97, 98, 105, 116]), (113, "vow", [118, 111, 119], [118, 111, 119]), (118, "want", [119, 97, 110, 116], [119, 97, 110, 116]), (214, "plain", [112, 108, 97, 105, 110], [112, 108, 97, 105, 110]), (216, "left", [108, 101, 102, 116], [108, 101, 102, 116]), (218, "drunk", [100, 114, 117, 110, 107], [100, 114, 117, 110, 107]), (220, "joint", [106, 111, 105, 110, 116], [106, 111, 105, 110, 116]), (222, "threat", [116, 104, 114, 101, 97, 116], [116, 104, 114, 101, 97, 116])]
/-- the texts of the start, with their letters -/
def yXs (X : zXT) : Prop := ∀ (A : Nat → Prop) (U : State) (H : Heap), X A U H → ∀ q ∈ ystrs, ∃ a : Nat, vk_R RX1 q.1 q.2.1 a U ∧ yStr (fun j => q.2.2.1.getD j 0) q.2.2.2.length a A U H
theorem ystrs_ok : ystrs.all (fun q => (List.range q.2.2.2.length).all (fun j => decide (ych (q.2.2.1.getD j 0) = Int32.ofInt (q.2.2.2.getD j 0)) && zint (q.2.2.2.getD j 0, q.2.2.2.getD j 0))) = true := by decide +kernel
set_option maxHeartbeats 4000000 in
theorem ycal_T {X : zXT} (hX : zXok X) (hs : yXs X) {sh : List yH} (hsh : yshR sh) {l : Launch} {R : Room} {cc : ByteArray} {nL : Nat} {Ts : List Cond} {x : Nat} {tx : String} {byt : List Int32} {wl : List Int} (hm : (x, tx, byt, wl) ∈ ystrs) (cw : ∀ (s : State) (args : Array Value), (∀ w ∈ Ts, w.before args s = true) → CallW R s args RX1 RX1 83 yX1_isName cX1_isName 3 (some .boolean) wsX1_isName { frames := 5, cells := 0, slots := 0, locals := 200 } 0 0 1) : yCkT X vwCl yct sh l R cc nL Ts RX1 x 83 (F_T wl) := by
  intro p e s m args below meth c A0 S hx0 D kA A ad Q a σ res H locs ls pc rest hK hS0 ha hF hP hD hx hls hcat hd1 hd2 hS hFA kk
  have hw : ∀ (j : Nat) (c : Int), wl[j]? = some c → ych (byt.getD j 0) = Int32.ofInt c ∧ yI c := by
    intro j c hj
    have q := List.all_eq_true.mp ystrs_ok _ hm
    have hlt := (List.getElem?_eq_some_iff.mp hj).1
    have q2 := List.all_eq_true.mp q j (List.mem_range.mpr hlt)
    have ec : wl.getD j 0 = c := by rw [List.getD_eq_getElem?_getD, hj]; rfl
    rw [Bool.and_eq_true] at q2
    have q3 : ych (byt.getD j 0) = Int32.ofInt (wl.getD j 0) := of_decide_eq_true q2.1
    have q4 := yint1 q2.2
    rw [ec] at q3 q4
    exact ⟨q3, q4⟩
  unfold F_T at hF
  split at hF
  · rename_i i heq
    cases heq
    cases hr : f_X1_isName wl σ i with
    | none => rw [hr] at hF; cases hF
    | some r =>
      rw [hr] at hF
      have hi : i = 2 := by
        unfold f_X1_isName at hr
        cases hb : Nat.beq i 2 with
        | false => rw [hb] at hr; dsimp only [cond] at hr; cases hr
        | true => exact Nat.eq_of_beq_eq_true hb
      subst hi
      have hF : (some (.inl (.inl r.1)), r.2) = res := Option.some.inj hF
      subst hF
      obtain ⟨a', hR, hSt⟩ := hs _ _ _ hx _ hm
      show W p l e R s m args below meth c H locs 0 0 Q (F0 m pc ls (.ref (ad 2) :: rest))
      refine va_ldcS S.1 S.2.1 S.2.2.2.1 hR hd1 ?_
      refine ycallz (pc := pc + 2) (A1 := va_A (yws yct kA ad sh σ) H.size) (va_runV (As := [.ref a']) (b := ad 2) (rest := rest) S (yc_isName (X := X) l (fun j => byt.getD j 0) wl hw hsh D kA ad H.size a' σ r hS0 hr) (cw s args S.2.2.2.2) ⟨fun b U g mk q => ?_, va_recv hK hP (ci := 1) (q0 := 2) rfl (yws_get hsh.1), fun U hU hWm => ⟨rfl, (zBf_of (av := []) hX hK hP hD hx U hU hWm).2, ?_⟩⟩ rfl rfl hls rfl (lv_room hcat) hd2 ⟨Nat.zero_le _, Nat.zero_le _⟩) hS hFA kk
      · obtain ⟨q0, q1, q6⟩ := q
        have w := zBf_blind (av := [.ref (ad 2), .ref a']) hX b U g mk ⟨q0, q1⟩
        exact ⟨q0, w.2, yStr.moved (u := U) (U := U.calling g mk b) (Vm.Alike.refl U.vm) q6⟩
      · rw [hU]
        exact hSt.moved hWm.alike
  · cases hF
end
section
/-- as the kit's row for a method's body; for a class of the library that has rows of its own for other methods -/
theorem yofWF {l : Launch} {y : MethodName} {ws ws' : List Cond} {rm : Room} {Pc : Array Value → State → Prop} {Qc : Array Value → State → Outcome → State → Prop} {mc ms : Nat} {free : Addr → Prop} {cc : ByteArray} {maxL : Nat} {ret : Option FieldType}
    (hy : plainFor y = true) (hw : ws = Cond.code y cc maxL ret :: ws')
    (body : ∀ p e s m args below meth c s₁, BodyLoose p l y (headSpec ws rm) cc maxL ret e s m args below meth c s₁ → c.maxLocals = maxL → Pc args s →
      W p l e (headSpec ws rm).room s m args below meth c s.heap [] 0 0 (MQ below Qc args s mc ms free) (entryFrame m args maxL)) : Met l y ws rm Pc Qc mc ms free := by
  refine MetFree.of_bodySF (code := cc) (maxLocals := maxL) (ret := ret) hy ?_ ?_
  · intro args s m h hn
    obtain ⟨meth, c, h1, h2, h3, h4, h5, h6, -, -⟩ := Cond.code_spec hn (atoms_spec (ws := ws) h _ (by rw [hw]; exact List.mem_cons_self))
    exact ⟨meth, c, h1, h2, h3, h4, h5, h6⟩
  · intro p e s m args below meth c s₁ B hml hP _
    have hh0 : s₁.heap = s.heap := by rw [B.state]; rfl
    obtain ⟨t, a1, o, b1, b2, b3⟩ := body p e s m args below meth c s₁ B hml hP s₁ hh0 (Stand.of_body B)
    exact ⟨t, o, a1, b1, b2, ⟨b3.1, b3.2⟩⟩
theorem ypl_fm : plainFor yJ9_floorMod_7cf53 = true := by decide +kernel
set_option maxHeartbeats 4000000 in
theorem ymethF {X : zXT} (hX : zXok X) {cl : List vw_C} {ct : yCt} {sh : List yH} {l : Launch} {y : MethodName} {ws ws' : List Cond} {rm : Room} {F : yF} {cc : ByteArray} {nL rt : Nat} {own : String} {tb : yTb} {pr : List (Nat × Instr × Nat)} (hy : plainFor y = true) (hw : ws = Cond.code y cc nL (zrty rt) :: ws') (how : y.cls = own) (hroom : 1 ≤ rm.frames ∧ 64 ≤ rm.locals)
    (hfl : ∀ x ci k tag, zlk tb.1 x = some (ci, k, tag) → zFld ws own cl x ci k tag) (hco : ∀ k z, zlk tb.2.1 k = some z → Cond.constant own k (Int32.ofInt z) ∈ ws) (hlc : ∀ k z, zlk tb.2.2.1 k = some z → Cond.constantLong own k (Int64.ofInt z) ∈ ws)
    (hvc : ∀ q ∈ tb.2.2.2.1, yCk X cl ct sh l rm cc nL ws own (.invokevirtual q.1) q.2.1 (some q.2.2.1) q.2.2.2) (hsc : ∀ q ∈ tb.2.2.2.2.1, yCk X cl ct sh l rm cc nL ws own (.invokestatic q.1) q.2.1 none q.2.2) (hmm : ∀ x t, zlk tb.2.2.2.2.2.1 x = some t → zMM ws own x t) (htx : ∀ q ∈ tb.2.2.2.2.2.2, yCkT X cl ct sh l rm cc nL ws own q.1 q.2.1 q.2.2) (hpr : ∀ pc ins len, zlk pr pc = some (ins, len) → decode cc pc = .ok (ins, len))
    (hF : ∀ (as : List yV) (σ : yS) (res : yR), F as σ = some res → (as.map ycat).sum ≤ nL ∧ yGoes X cl ct sh l rm cc nL ws own tb pr rt (0, yargs 0 as, [], σ) res) : yMet X cl ct sh l y ws rm F := by
  intro D kA ad sz as σ res hS0 has hFr
  obtain ⟨c1, hrun⟩ := hF as σ res hFr
  refine yofWF (cc := cc) (maxL := nL) (ret := zrty rt) hy hw ?_
  intro p e s m args below meth c s₁ B hml hv
  obtain ⟨rfl, hsz, hP, hK, hD0, hx0⟩ := hv
  have hts := atoms_spec (ws := ws) B.pre
  have hown : s.vm.findClass own = some m.cls := by
    rw [← how]
    exact findClass_of_methodNamed B.named
  subst hsz
  have hD := hD0.self (sz := s.heap.size)
  have hfix : CallFix p m c cc nL s (as.map (ycv ad)).toArray ws own := ⟨B.exec, B.bytes, hml, hown, hts⟩
  have hcx : yCx X p l e rm s m (as.map (ycv ad)).toArray below meth c cc D cl ct kA (va_A (yws ct kA ad sh σ) s.heap.size) nL sh ws own tb pr rt := ⟨hX, hx0, fun q h => Or.inr h, hK, B.exec, B.bytes, hml, hown, hts, B.notSynchronized, B.returns, hroom, hfl, hco, hlc, fun x n ci F h => hvc _ (zlk_mem h) p e s m _ below meth c _ hfix hx0, fun x n F h => hsc _ (zlk_mem h) p e s m _ below meth c _ hfix hx0, hmm, fun x y F h => htx _ (zlk_mem h) p e s m _ below meth c _ hfix hx0, hpr⟩
  have hl := lv_entry (as.map (ycv ad)) (n := nL) (by rw [ysl_len]; exact c1)
  rw [yargs_ok] at hl
  rw [lg_entry_eq]
  exact hrun p e s m _ below meth c D kA _ ad hcx s.heap [] _ ⟨hS0, yargs_in as 0 has, (fun a ha => by cases ha), hP, hD, va_S.rf, hl⟩
end
