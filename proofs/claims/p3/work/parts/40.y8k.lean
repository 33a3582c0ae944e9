noncomputable def pr_X8_rest : List (Nat × Instr × Nat) := [(0, .aload_n 0, 1), (1, .invokevirtual 266, 3), (4, .iconst 0, 1), (5, .istore_n 1, 1), (6, .iload_n 1, 1), (7, .bipush 60, 2), (9, .if_icmp .gt 25, 3), (12, .aload_n 0, 1), (13, .getfield 13, 3), (16, .bipush 77, 2), (18, .iaload, 1), (19, .ifCond .ne 5, 3), (22, .iload_n 1, 1), (23, .ireturn, 1), (24, .aload_n 0, 1), (25, .invokevirtual 261, 3), (28, .iinc 1 1, 3), (31, .goto (-25), 3), (34, .bipush (-4), 2), (36, .ireturn, 1)]
set_option maxRecDepth 100000 in
theorem hp_X8_rest : pr_X8_rest.all (fun x => decide (decode cX8_rest x.1 = .ok x.2)) = true := by decide +kernel
noncomputable def f_X8_rest_b6 (N : Nat) : Nat → yS → Int → Option (Int × yS) := yfix (fun _ _ => none) (fun ih σ x1 =>
    bif ycP .gt x1 60 then
      some ((-4), σ)
    else
      bif ycP .ne (σ.1 2 77) 0 then
        match f_X8_days N σ with
        | none => none
        | some r2 => ih r2.2 (yad x1 1)
      else
        some (x1, σ))
theorem q_X8_rest_b6 (N : Nat) (n : Nat) (σ : yS) (x1 : Int) : f_X8_rest_b6 N (n + 1) σ x1 =
    (bif ycP .gt x1 60 then
      some ((-4), σ)
    else
      bif ycP .ne (σ.1 2 77) 0 then
        match f_X8_days N σ with
        | none => none
        | some r2 => (f_X8_rest_b6 N n) r2.2 (yad x1 1)
      else
        some (x1, σ)) := rfl
noncomputable def f_X8_rest (N : Nat) (σ : yS) : Option (Int × yS) :=
  match f_X8_starts N σ with
  | none => none
  | some r1 => f_X8_rest_b6 N N r1.2 0
noncomputable def F_X8_rest (N : Nat) : yF := fun as σ => match as with
  | [.inr (.inl 8, 0)] => (f_X8_rest N σ).map (fun r => (some (.inl (.inl r.1)), r.2))
  | _ => none
theorem e_X8_rest {N : Nat} {σ : yS} {r : Int × yS} (h : f_X8_rest N σ = some r) : F_X8_rest N [.inr (.inl 8, 0)] σ = some (some (.inl (.inl r.1)), r.2) := by
  show (f_X8_rest N σ).map (fun r => ((some (.inl (.inl r.1)), r.2) : yR)) = _
  rw [h]
  rfl
noncomputable def tb_X8_rest (N : Nat) : yTb := ([(13, 8, 1, 3)], [], [], [(261, 1, 8, F_X8_days N), (266, 1, 8, F_X8_starts N)], [], [], [])
abbrev G_X8_rest (N : Nat) (X : zXT) (sh : List yH) (l : Launch) (rm : Room) : yC → yR → Prop := yGoes X vwCl yct sh l rm cX8_rest 2 wsX8_rest RX8 (tb_X8_rest N) pr_X8_rest 1
set_option maxRecDepth 100000 in
set_option maxHeartbeats 4000000 in
theorem t_X8_rest_b6 {N : Nat} {X : zXT} {sh : List yH} {l : Launch} {rm : Room} : ∀ (n : Nat) (σ : yS) (x1 : Int) (res : Int × yS), f_X8_rest_b6 N n σ x1 = some res → G_X8_rest N X sh l rm (6, [(0, .inr (.inl 8, 0)), (1, .inl (.inl x1))], [], σ) (some (.inl (.inl res.1)), res.2) := by
  intro n
  induction n with
  | zero => intro σ x1 res h; exact (yno h).elim
  | succ n ih =>
    intro σ x1 res h
    rw [q_X8_rest_b6] at h
    refine yG_n (n := 2) (C' := (9, [(0, .inr (.inl 8, 0)), (1, .inl (.inl x1))], [.inl (.inl 60), .inl (.inl x1)], σ)) rfl ?_
    cases hg1 : ycP .gt x1 60 with
    | true =>
      rw [hg1] at h
      dsimp only [cond] at h
      refine yG_t (C' := (34, [(0, .inr (.inl 8, 0)), (1, .inl (.inl x1))], [], σ)) rfl hg1 ?_
      refine yG_n (n := 1) (C' := (36, [(0, .inr (.inl 8, 0)), (1, .inl (.inl x1))], [.inl (.inl ((-4)))], σ)) rfl ?_
      have h := Option.some.inj h
      subst h
      dsimp only
      exact yG_r rfl rfl
    | false =>
      rw [hg1] at h
      dsimp only [cond] at h
      refine yG_f (C' := (12, [(0, .inr (.inl 8, 0)), (1, .inl (.inl x1))], [], σ)) rfl hg1 ?_
      refine yG_n (n := 4) (C' := (19, [(0, .inr (.inl 8, 0)), (1, .inl (.inl x1))], [.inl (.inl (σ.1 2 77))], σ)) rfl ?_
      cases hg2 : ycP .ne (σ.1 2 77) 0 with
      | true =>
        rw [hg2] at h
        dsimp only [cond] at h
        refine yG_t (C' := (24, [(0, .inr (.inl 8, 0)), (1, .inl (.inl x1))], [], σ)) rfl hg2 ?_
        refine yG_n (n := 1) (C' := (25, [(0, .inr (.inl 8, 0)), (1, .inl (.inl x1))], [.inr (.inl 8, 0)], σ)) rfl ?_
        cases hr3 : f_X8_days N σ with
        | none => rw [hr3] at h; dsimp only at h; cases h
        | some r2 =>
          rw [hr3] at h
          dsimp only at h
          refine yG_c (C1 := (28, [(0, .inr (.inl 8, 0)), (1, .inl (.inl x1))], [], r2.2)) rfl (e_X8_days hr3) rfl ?_
          refine yG_n (n := 2) (C' := (6, [(1, .inl (.inl (yad x1 1))), (0, .inr (.inl 8, 0))], [], r2.2)) rfl ?_
          exact yG_w [1, 0] rfl (ih r2.2 (yad x1 1) res h)
      | false =>
        rw [hg2] at h
        dsimp only [cond] at h
        refine yG_f (C' := (22, [(0, .inr (.inl 8, 0)), (1, .inl (.inl x1))], [], σ)) rfl hg2 ?_
        refine yG_n (n := 1) (C' := (23, [(0, .inr (.inl 8, 0)), (1, .inl (.inl x1))], [.inl (.inl x1)], σ)) rfl ?_
        have h := Option.some.inj h
        subst h
        dsimp only
        exact yG_r rfl rfl
set_option maxRecDepth 100000 in
set_option maxHeartbeats 4000000 in
theorem t_X8_rest {N : Nat} {X : zXT} {sh : List yH} {l : Launch} {rm : Room} (σ : yS) (res : Int × yS) (h : f_X8_rest N σ = some res) : G_X8_rest N X sh l rm (0, [(0, .inr (.inl 8, 0))], [], σ) (some (.inl (.inl res.1)), res.2) := by
  unfold f_X8_rest at h
  refine yG_n (n := 1) (C' := (1, [(0, .inr (.inl 8, 0))], [.inr (.inl 8, 0)], σ)) rfl ?_
  cases hr4 : f_X8_starts N σ with
  | none => rw [hr4] at h; dsimp only at h; cases h
  | some r1 =>
    rw [hr4] at h
    dsimp only at h
    refine yG_c (C1 := (4, [(0, .inr (.inl 8, 0))], [], r1.2)) rfl (e_X8_starts hr4) rfl ?_
    refine yG_n (n := 2) (C' := (6, [(1, .inl (.inl 0)), (0, .inr (.inl 8, 0))], [], r1.2)) rfl ?_
    exact yG_w [1, 0] rfl (t_X8_rest_b6 N r1.2 0 res h)
set_option maxRecDepth 100000 in
set_option maxHeartbeats 4000000 in
theorem m_X8_rest {N : Nat} {X : zXT} (hX : zXok X) (hN : zXn X) (l : Launch) {sh : List yH} : yMet X vwCl yct sh l yX8_rest wsX8_rest { frames := 5, cells := 0, slots := 0, locals := 155 } (F_X8_rest N) :=
  ymeth (tb := tb_X8_rest N) (pr := pr_X8_rest) (rt := 1) (own := RX8) hX (by decide +kernel) rfl rfl ⟨Nat.le_of_ble_eq_true rfl, Nat.le_of_ble_eq_true rfl⟩
    (zfl_all (List.forall_mem_cons.mpr ⟨zfl_X8 (fun w h => List.mem_cons_of_mem _ (List.mem_append_right _ h)) (List.mem_of_getElem? (i := 1) rfl) (by decide) (by decide), fun _ h => absurd h List.not_mem_nil⟩))
    (zco_all (fun _ h => absurd h List.not_mem_nil)) (zlc_all (fun _ h => absurd h List.not_mem_nil))
    (List.forall_mem_cons.mpr ⟨ycal_V hX (m_X8_days hX hN l) rfl (fun s args hts => cwV 0 hts gX8_rest_X8_days rfl rfl rfl (by decide +kernel) ⟨Nat.le_of_ble_eq_true rfl, Nat.le_of_ble_eq_true rfl⟩), List.forall_mem_cons.mpr ⟨ycal_V hX (m_X8_starts hX hN l) rfl (fun s args hts => cwV 0 hts gX8_rest_X8_starts rfl rfl rfl (by decide +kernel) ⟨Nat.le_of_ble_eq_true rfl, Nat.le_of_ble_eq_true rfl⟩), fun _ h => absurd h List.not_mem_nil⟩⟩)
    (fun _ h => absurd h List.not_mem_nil)
    (zmm_all (fun _ h => absurd h List.not_mem_nil)) (fun _ h => absurd h List.not_mem_nil) (zpr_all hp_X8_rest) (fun as σ res h => by
      unfold F_X8_rest at h
      split at h
      · cases hr : f_X8_rest N σ with
        | none => rw [hr] at h; cases h
        | some r =>
          rw [hr] at h
          cases h
          exact ⟨Nat.le_of_ble_eq_true rfl, t_X8_rest σ r hr⟩
      · cases h)
noncomputable def pr_X8_rule : List (Nat × Instr × Nat) := [(0, .iload_n 1, 1), (1, .tableswitch 69 0 4 #[35, 40, 48, 53, 61], 35), (36, .aload_n 0, 1), (37, .getfield 79, 3), (40, .ireturn, 1), (41, .aload_n 0, 1), (42, .getfield 82, 3), (45, .invokestatic 197, 3), (48, .ireturn, 1), (49, .aload_n 0, 1), (50, .getfield 85, 3), (53, .ireturn, 1), (54, .aload_n 0, 1), (55, .getfield 7, 3), (58, .bipush 77, 2), (60, .iaload, 1), (61, .ireturn, 1), (62, .aload_n 0, 1), (63, .getfield 7, 3), (66, .bipush 118, 2), (68, .iaload, 1), (69, .ireturn, 1), (70, .iload_n 1, 1), (71, .i2l, 1), (72, .ldc2_w 201, 3), (75, .ldc2_w 203, 3), (78, .invokestatic 90, 3), (81, .ifCond .eq 17, 3), (84, .aload_n 0, 1), (85, .getfield 7, 3), (88, .bipush 127, 2), (90, .iload_n 1, 1), (91, .iadd, 1), (92, .iconst 5, 1), (93, .isub, 1), (94, .iaload, 1), (95, .goto 4, 3), (98, .iconst (-1), 1), (99, .ireturn, 1)]
set_option maxRecDepth 100000 in
theorem hp_X8_rule : pr_X8_rule.all (fun x => decide (decode cX8_rule x.1 = .ok x.2)) = true := by decide +kernel
noncomputable def f_X8_rule_b99 (N : Nat) (σ : yS) (s0 : Int) : Option (Int × yS) :=
  some (s0, σ)
noncomputable def f_X8_rule (N : Nat) (σ : yS) (x1 : Int) : Option (Int × yS) :=
  bif zle x1 0 && zle 0 x1 then
    some (σ.1 0 3, σ)
  else
    bif zle x1 1 && zle 1 x1 then
    match f_X8_flag N σ (σ.1 0 4) with
    | none => none
    | some r1 => some (r1.1, r1.2)
  else
    bif zle x1 2 && zle 2 x1 then
    some (σ.1 0 5, σ)
  else
    bif zle x1 3 && zle 3 x1 then
    some (σ.1 1 77, σ)
  else
    bif zle x1 4 && zle 4 x1 then
    some (σ.1 1 118, σ)
  else
    match f_X8_in N σ x1 5 8 with
    | none => none
    | some r2 => bif ycP .eq r2.1 0 then
        f_X8_rule_b99 N r2.2 ((-1))
      else
        bif yin (ysu (yad 127 x1) 5) 393 then
          f_X8_rule_b99 N r2.2 (r2.2.1 1 (ysu (yad 127 x1) 5).toNat)
        else none
noncomputable def F_X8_rule (N : Nat) : yF := fun as σ => match as with
  | [.inr (.inl 8, 0), .inl (.inl x1)] => (f_X8_rule N σ x1).map (fun r => (some (.inl (.inl r.1)), r.2))
  | _ => none
theorem e_X8_rule {N : Nat} {σ : yS} {x1 : Int} {r : Int × yS} (h : f_X8_rule N σ x1 = some r) : F_X8_rule N [.inr (.inl 8, 0), .inl (.inl x1)] σ = some (some (.inl (.inl r.1)), r.2) := by
  show (f_X8_rule N σ x1).map (fun r => ((some (.inl (.inl r.1)), r.2) : yR)) = _
  rw [h]
  rfl
noncomputable def tb_X8_rule (N : Nat) : yTb := ([(7, 8, 0, 3), (79, 8, 3, 0), (82, 8, 4, 1), (85, 8, 5, 0)], [], [(201, 5), (203, 8)], [], [(90, 3, F_X8_in N), (197, 1, F_X8_flag N)], [], [])
abbrev G_X8_rule (N : Nat) (X : zXT) (sh : List yH) (l : Launch) (rm : Room) : yC → yR → Prop := yGoes X vwCl yct sh l rm cX8_rule 2 wsX8_rule RX8 (tb_X8_rule N) pr_X8_rule 1
set_option maxRecDepth 100000 in
set_option maxHeartbeats 4000000 in
theorem t_X8_rule_b99 {N : Nat} {X : zXT} {sh : List yH} {l : Launch} {rm : Room} (σ : yS) (s0 : Int) (res : Int × yS) (h : f_X8_rule_b99 N σ s0 = some res) : G_X8_rule N X sh l rm (99, [], [.inl (.inl s0)], σ) (some (.inl (.inl res.1)), res.2) := by
  unfold f_X8_rule_b99 at h
  have h := Option.some.inj h
  subst h
  dsimp only
  exact yG_r rfl rfl
set_option maxRecDepth 100000 in
set_option maxHeartbeats 4000000 in
theorem t_X8_rule {N : Nat} {X : zXT} {sh : List yH} {l : Launch} {rm : Room} (σ : yS) (x1 : Int) (res : Int × yS) (h : f_X8_rule N σ x1 = some res) : G_X8_rule N X sh l rm (0, [(0, .inr (.inl 8, 0)), (1, .inl (.inl x1))], [], σ) (some (.inl (.inl res.1)), res.2) := by
  unfold f_X8_rule at h
  refine yG_n (n := 1) (C' := (1, [(0, .inr (.inl 8, 0)), (1, .inl (.inl x1))], [.inl (.inl x1)], σ)) rfl ?_
  refine yG_n (n := 1) (C' := ((bif zle x1 0 && zle 0 x1 then 36 else (bif zle x1 1 && zle 1 x1 then 41 else (bif zle x1 2 && zle 2 x1 then 49 else (bif zle x1 3 && zle 3 x1 then 54 else (bif zle x1 4 && zle 4 x1 then 62 else 70))))), [(0, .inr (.inl 8, 0)), (1, .inl (.inl x1))], [], σ)) rfl ?_
  cases hg1 : (zle x1 0 && zle 0 x1) with
  | true =>
    rw [hg1] at h
    dsimp only [cond] at h
    show G_X8_rule N X sh l rm (36, [(0, .inr (.inl 8, 0)), (1, .inl (.inl x1))], [], σ) ((some (.inl (.inl res.1)), res.2))
    refine yG_n (n := 2) (C' := (40, [(0, .inr (.inl 8, 0)), (1, .inl (.inl x1))], [.inl (.inl (σ.1 0 3))], σ)) rfl ?_
    have h := Option.some.inj h
    subst h
    dsimp only
    exact yG_r rfl rfl
  | false =>
    rw [hg1] at h
    dsimp only [cond] at h
    show G_X8_rule N X sh l rm ((bif zle x1 1 && zle 1 x1 then 41 else (bif zle x1 2 && zle 2 x1 then 49 else (bif zle x1 3 && zle 3 x1 then 54 else (bif zle x1 4 && zle 4 x1 then 62 else 70)))), [(0, .inr (.inl 8, 0)), (1, .inl (.inl x1))], [], σ) (some (.inl (.inl res.1)), res.2)
    cases hg2 : (zle x1 1 && zle 1 x1) with
    | true =>
      rw [hg2] at h
      dsimp only [cond] at h
      show G_X8_rule N X sh l rm (41, [(0, .inr (.inl 8, 0)), (1, .inl (.inl x1))], [], σ) ((some (.inl (.inl res.1)), res.2))
      refine yG_n (n := 2) (C' := (45, [(0, .inr (.inl 8, 0)), (1, .inl (.inl x1))], [.inl (.inl (σ.1 0 4))], σ)) rfl ?_
      cases hr3 : f_X8_flag N σ (σ.1 0 4) with
      | none => rw [hr3] at h; dsimp only at h; cases h
      | some r1 =>
        rw [hr3] at h
        dsimp only at h
        refine yG_c (C1 := (48, [(0, .inr (.inl 8, 0)), (1, .inl (.inl x1))], [.inl (.inl r1.1)], r1.2)) rfl (e_X8_flag hr3) rfl ?_
        have h := Option.some.inj h
        subst h
        dsimp only
        exact yG_r rfl rfl
    | false =>
      rw [hg2] at h
      dsimp only [cond] at h
      show G_X8_rule N X sh l rm ((bif zle x1 2 && zle 2 x1 then 49 else (bif zle x1 3 && zle 3 x1 then 54 else (bif zle x1 4 && zle 4 x1 then 62 else 70))), [(0, .inr (.inl 8, 0)), (1, .inl (.inl x1))], [], σ) (some (.inl (.inl res.1)), res.2)
      cases hg4 : (zle x1 2 && zle 2 x1) with
      | true =>
        rw [hg4] at h
        dsimp only [cond] at h
        show G_X8_rule N X sh l rm (49, [(0, .inr (.inl 8, 0)), (1, .inl (.inl x1))], [], σ) ((some (.inl (.inl res.1)), res.2))
        refine yG_n (n := 2) (C' := (53, [(0, .inr (.inl 8, 0)), (1, .inl (.inl x1))], [.inl (.inl (σ.1 0 5))], σ)) rfl ?_
        have h := Option.some.inj h
        subst h
        dsimp only
        exact yG_r rfl rfl
      | false =>
        rw [hg4] at h
        dsimp only [cond] at h
        show G_X8_rule N X sh l rm ((bif zle x1 3 && zle 3 x1 then 54 else (bif zle x1 4 && zle 4 x1 then 62 else 70)), [(0, .inr (.inl 8, 0)), (1, .inl (.inl x1))], [], σ) (some (.inl (.inl res.1)), res.2)
        cases hg5 : (zle x1 3 && zle 3 x1) with
        | true =>
          rw [hg5] at h
          dsimp only [cond] at h
          show G_X8_rule N X sh l rm (54, [(0, .inr (.inl 8, 0)), (1, .inl (.inl x1))], [], σ) ((some (.inl (.inl res.1)), res.2))
          refine yG_n (n := 4) (C' := (61, [(0, .inr (.inl 8, 0)), (1, .inl (.inl x1))], [.inl (.inl (σ.1 1 77))], σ)) rfl ?_
          have h := Option.some.inj h
          subst h
          dsimp only
          exact yG_r rfl rfl
        | false =>
          rw [hg5] at h
          dsimp only [cond] at h
          show G_X8_rule N X sh l rm ((bif zle x1 4 && zle 4 x1 then 62 else 70), [(0, .inr (.inl 8, 0)), (1, .inl (.inl x1))], [], σ) (some (.inl (.inl res.1)), res.2)
          cases hg6 : (zle x1 4 && zle 4 x1) with
          | true =>
            rw [hg6] at h
            dsimp only [cond] at h
            show G_X8_rule N X sh l rm (62, [(0, .inr (.inl 8, 0)), (1, .inl (.inl x1))], [], σ) ((some (.inl (.inl res.1)), res.2))
            refine yG_n (n := 4) (C' := (69, [(0, .inr (.inl 8, 0)), (1, .inl (.inl x1))], [.inl (.inl (σ.1 1 118))], σ)) rfl ?_
            have h := Option.some.inj h
            subst h
            dsimp only
            exact yG_r rfl rfl
          | false =>
            rw [hg6] at h
            dsimp only [cond] at h
            show G_X8_rule N X sh l rm (70, [(0, .inr (.inl 8, 0)), (1, .inl (.inl x1))], [], σ) (some (.inl (.inl res.1)), res.2)
            refine yG_n (n := 4) (C' := (78, [(0, .inr (.inl 8, 0)), (1, .inl (.inl x1))], [.inl (.inr 8), .inl (.inr 5), .inl (.inr x1)], σ)) rfl ?_
            cases hr7 : f_X8_in N σ x1 5 8 with
            | none => rw [hr7] at h; dsimp only at h; cases h
            | some r2 =>
              rw [hr7] at h
              dsimp only at h
              refine yG_c (C1 := (81, [(0, .inr (.inl 8, 0)), (1, .inl (.inl x1))], [.inl (.inl r2.1)], r2.2)) rfl (e_X8_in hr7) rfl ?_
              cases hg8 : ycP .eq r2.1 0 with
              | true =>
                rw [hg8] at h
                dsimp only [cond] at h
                refine yG_t (C' := (98, [(0, .inr (.inl 8, 0)), (1, .inl (.inl x1))], [], r2.2)) rfl hg8 ?_
                refine yG_n (n := 1) (C' := (99, [(0, .inr (.inl 8, 0)), (1, .inl (.inl x1))], [.inl (.inl ((-1)))], r2.2)) rfl ?_
                exact yG_w [] rfl (t_X8_rule_b99 r2.2 ((-1)) res h)
              | false =>
                rw [hg8] at h
                dsimp only [cond] at h
                refine yG_f (C' := (84, [(0, .inr (.inl 8, 0)), (1, .inl (.inl x1))], [], r2.2)) rfl hg8 ?_
                refine yG_n (n := 7) (C' := (94, [(0, .inr (.inl 8, 0)), (1, .inl (.inl x1))], [.inl (.inl (ysu (yad 127 x1) 5)), .inr (.inr (0, 393), 1)], r2.2)) rfl ?_
                cases hg9 : yin (ysu (yad 127 x1) 5) 393 with
                | false => rw [hg9] at h; dsimp only [cond] at h; cases h
                | true =>
                  rw [hg9] at h
                  dsimp only [cond] at h
                  refine yG_t (C' := (95, [(0, .inr (.inl 8, 0)), (1, .inl (.inl x1))], [.inl (.inl (r2.2.1 1 (ysu (yad 127 x1) 5).toNat))], r2.2)) rfl hg9 ?_
                  refine yG_n (n := 1) (C' := (99, [(0, .inr (.inl 8, 0)), (1, .inl (.inl x1))], [.inl (.inl (r2.2.1 1 (ysu (yad 127 x1) 5).toNat))], r2.2)) rfl ?_
                  exact yG_w [] rfl (t_X8_rule_b99 r2.2 (r2.2.1 1 (ysu (yad 127 x1) 5).toNat) res h)
set_option maxRecDepth 100000 in
set_option maxHeartbeats 4000000 in
theorem m_X8_rule {N : Nat} {X : zXT} (hX : zXok X) (hN : zXn X) (l : Launch) {sh : List yH} : yMet X vwCl yct sh l yX8_rule wsX8_rule { frames := 2, cells := 0, slots := 0, locals := 89 } (F_X8_rule N) :=
  ymeth (tb := tb_X8_rule N) (pr := pr_X8_rule) (rt := 1) (own := RX8) hX (by decide +kernel) rfl rfl ⟨Nat.le_of_ble_eq_true rfl, Nat.le_of_ble_eq_true rfl⟩
    (zfl_all (List.forall_mem_cons.mpr ⟨zfl_X8 (fun w h => List.mem_cons_of_mem _ (List.mem_append_right _ h)) (List.mem_of_getElem? (i := 4) rfl) (by decide) (by decide), List.forall_mem_cons.mpr ⟨zfl_X8 (fun w h => List.mem_cons_of_mem _ (List.mem_append_right _ h)) (List.mem_of_getElem? (i := 1) rfl) (by decide) (by decide), List.forall_mem_cons.mpr ⟨zfl_X8 (fun w h => List.mem_cons_of_mem _ (List.mem_append_right _ h)) (List.mem_of_getElem? (i := 2) rfl) (by decide) (by decide), List.forall_mem_cons.mpr ⟨zfl_X8 (fun w h => List.mem_cons_of_mem _ (List.mem_append_right _ h)) (List.mem_of_getElem? (i := 3) rfl) (by decide) (by decide), fun _ h => absurd h List.not_mem_nil⟩⟩⟩⟩))
    (zco_all (fun _ h => absurd h List.not_mem_nil)) (zlc_all (List.forall_mem_cons.mpr ⟨(List.mem_of_getElem? (i := 5) rfl), List.forall_mem_cons.mpr ⟨(List.mem_of_getElem? (i := 6) rfl), fun _ h => absurd h List.not_mem_nil⟩⟩))
    (fun _ h => absurd h List.not_mem_nil)
    (List.forall_mem_cons.mpr ⟨ycal_S hX (m_X8_in hX hN l) (fun s args hts => va_cwS 3 hts gX8_rule_X8_in rfl rfl rfl (by decide +kernel) ⟨Nat.le_of_ble_eq_true rfl, Nat.le_of_ble_eq_true rfl⟩), List.forall_mem_cons.mpr ⟨ycal_S hX (m_X8_flag hX hN l) (fun s args hts => va_cwS 1 hts gX8_rule_X8_flag rfl rfl rfl (by decide +kernel) ⟨Nat.le_of_ble_eq_true rfl, Nat.le_of_ble_eq_true rfl⟩), fun _ h => absurd h List.not_mem_nil⟩⟩)
    (zmm_all (fun _ h => absurd h List.not_mem_nil)) (fun _ h => absurd h List.not_mem_nil) (zpr_all hp_X8_rule) (fun as σ res h => by
      unfold F_X8_rule at h
      split at h
      · rename_i x1
        cases hr : f_X8_rule N σ x1 with
        | none => rw [hr] at h; cases h
        | some r =>
          rw [hr] at h
          cases h
          exact ⟨Nat.le_of_ble_eq_true rfl, t_X8_rule σ x1 r hr⟩
      · cases h)
noncomputable def pr_X8_sheet : List (Nat × Instr × Nat) := [(0, .iload_n 1, 1), (1, .iload_n 2, 1), (2, .invokestatic 323, 3), (5, .ifCond .eq 9, 3), (8, .iload_n 3, 1), (9, .bipush 40, 2), (11, .if_icmp .le 5, 3), (14, .iconst (-1), 1), (15, .ireturn, 1), (16, .iload_n 3, 1), (17, .ifCond .ge 6, 3), (20, .bipush (-14), 2), (22, .ireturn, 1), (23, .aload_n 0, 1), (24, .getfield 44, 3), (27, .iload_n 1, 1), (28, .iload_n 2, 1), (29, .iastore, 1), (30, .aload_n 0, 1), (31, .getfield 47, 3), (34, .iload_n 1, 1), (35, .iload_n 3, 1), (36, .iastore, 1), (37, .iconst 0, 1), (38, .istore 4, 2), (40, .iload 4, 2), (42, .bipush 40, 2), (44, .if_icmp .ge 22, 3), (47, .aload_n 0, 1), (48, .getfield 50, 3), (51, .bipush 40, 2), (53, .iload_n 1, 1), (54, .imul, 1), (55, .iload 4, 2), (57, .iadd, 1), (58, .iconst 0, 1), (59, .iastore, 1), (60, .iinc 4 1, 3), (63, .goto (-23), 3), (66, .iconst 1, 1), (67, .ireturn, 1)]
set_option maxRecDepth 100000 in
theorem hp_X8_sheet : pr_X8_sheet.all (fun x => decide (decode cX8_sheet x.1 = .ok x.2)) = true := by decide +kernel
noncomputable def f_X8_sheet_b14 (N : Nat) (σ : yS) : Option (Int × yS) :=
  some ((-1), σ)
noncomputable def f_X8_sheet_b40 (N : Nat) : Nat → yS → Int → Int → Option (Int × yS) := yfix (fun _ _ _ => none) (fun ih σ x1 x4 =>
    bif ycP .ge x4 40 then
      some (1, σ)
    else
      bif yin (yad (ymu 40 x1) x4) 160 then
        ih (yw σ 14 (yad (ymu 40 x1) x4).toNat 0) x1 (yad x4 1)
      else none)
theorem q_X8_sheet_b40 (N : Nat) (n : Nat) (σ : yS) (x1 : Int) (x4 : Int) : f_X8_sheet_b40 N (n + 1) σ x1 x4 =
    (bif ycP .ge x4 40 then
      some (1, σ)
    else
      bif yin (yad (ymu 40 x1) x4) 160 then
        (f_X8_sheet_b40 N n) (yw σ 14 (yad (ymu 40 x1) x4).toNat 0) x1 (yad x4 1)
      else none) := rfl
noncomputable def f_X8_sheet (N : Nat) (σ : yS) (x1 : Int) (x2 : Int) (x3 : Int) : Option (Int × yS) :=
  match f_X8_isSheet N σ x1 x2 with
  | none => none
  | some r1 => bif ycP .eq r1.1 0 then
      f_X8_sheet_b14 N r1.2
    else
      bif ycP .le x3 40 then
        bif ycP .ge x3 0 then
          bif yin x1 4 then
            f_X8_sheet_b40 N N (yw (yw r1.2 12 x1.toNat x2) 13 x1.toNat x3) x1 0
          else none
        else
          some ((-14), r1.2)
      else
        f_X8_sheet_b14 N r1.2
noncomputable def F_X8_sheet (N : Nat) : yF := fun as σ => match as with
  | [.inr (.inl 8, 0), .inl (.inl x1), .inl (.inl x2), .inl (.inl x3)] => (f_X8_sheet N σ x1 x2 x3).map (fun r => (some (.inl (.inl r.1)), r.2))
  | _ => none
theorem e_X8_sheet {N : Nat} {σ : yS} {x1 : Int} {x2 : Int} {x3 : Int} {r : Int × yS} (h : f_X8_sheet N σ x1 x2 x3 = some r) : F_X8_sheet N [.inr (.inl 8, 0), .inl (.inl x1), .inl (.inl x2), .inl (.inl x3)] σ = some (some (.inl (.inl r.1)), r.2) := by
  show (f_X8_sheet N σ x1 x2 x3).map (fun r => ((some (.inl (.inl r.1)), r.2) : yR)) = _
  rw [h]
  rfl
noncomputable def tb_X8_sheet (N : Nat) : yTb := ([(44, 8, 29, 3), (47, 8, 30, 3), (50, 8, 31, 3)], [], [], [], [(323, 2, F_X8_isSheet N)], [], [])
abbrev G_X8_sheet (N : Nat) (X : zXT) (sh : List yH) (l : Launch) (rm : Room) : yC → yR → Prop := yGoes X vwCl yct sh l rm cX8_sheet 5 wsX8_sheet RX8 (tb_X8_sheet N) pr_X8_sheet 1
set_option maxRecDepth 100000 in
set_option maxHeartbeats 4000000 in
theorem t_X8_sheet_b14 {N : Nat} {X : zXT} {sh : List yH} {l : Launch} {rm : Room} (σ : yS) (res : Int × yS) (h : f_X8_sheet_b14 N σ = some res) : G_X8_sheet N X sh l rm (14, [], [], σ) (some (.inl (.inl res.1)), res.2) := by
  unfold f_X8_sheet_b14 at h
  refine yG_n (n := 1) (C' := (15, [], [.inl (.inl ((-1)))], σ)) rfl ?_
  have h := Option.some.inj h
  subst h
  dsimp only
  exact yG_r rfl rfl
set_option maxRecDepth 100000 in
set_option maxHeartbeats 4000000 in
theorem t_X8_sheet_b40 {N : Nat} {X : zXT} {sh : List yH} {l : Launch} {rm : Room} : ∀ (n : Nat) (σ : yS) (x1 : Int) (x4 : Int) (res : Int × yS), f_X8_sheet_b40 N n σ x1 x4 = some res → G_X8_sheet N X sh l rm (40, [(0, .inr (.inl 8, 0)), (1, .inl (.inl x1)), (4, .inl (.inl x4))], [], σ) (some (.inl (.inl res.1)), res.2) := by
  intro n
  induction n with
  | zero => intro σ x1 x4 res h; exact (yno h).elim
  | succ n ih =>
    intro σ x1 x4 res h
    rw [q_X8_sheet_b40] at h
    refine yG_n (n := 2) (C' := (44, [(0, .inr (.inl 8, 0)), (1, .inl (.inl x1)), (4, .inl (.inl x4))], [.inl (.inl 40), .inl (.inl x4)], σ)) rfl ?_
    cases hg1 : ycP .ge x4 40 with
    | true =>
      rw [hg1] at h
      dsimp only [cond] at h
      refine yG_t (C' := (66, [(0, .inr (.inl 8, 0)), (1, .inl (.inl x1)), (4, .inl (.inl x4))], [], σ)) rfl hg1 ?_
      refine yG_n (n := 1) (C' := (67, [(0, .inr (.inl 8, 0)), (1, .inl (.inl x1)), (4, .inl (.inl x4))], [.inl (.inl 1)], σ)) rfl ?_
      have h := Option.some.inj h
      subst h
      dsimp only
      exact yG_r rfl rfl
    | false =>
      rw [hg1] at h
      dsimp only [cond] at h
      refine yG_f (C' := (47, [(0, .inr (.inl 8, 0)), (1, .inl (.inl x1)), (4, .inl (.inl x4))], [], σ)) rfl hg1 ?_
      refine yG_n (n := 8) (C' := (59, [(0, .inr (.inl 8, 0)), (1, .inl (.inl x1)), (4, .inl (.inl x4))], [.inl (.inl 0), .inl (.inl (yad (ymu 40 x1) x4)), .inr (.inr (0, 160), 14)], σ)) rfl ?_
      cases hg2 : yin (yad (ymu 40 x1) x4) 160 with
      | false => rw [hg2] at h; dsimp only [cond] at h; cases h
      | true =>
        rw [hg2] at h
        dsimp only [cond] at h
        refine yG_t (C' := (60, [(0, .inr (.inl 8, 0)), (1, .inl (.inl x1)), (4, .inl (.inl x4))], [], yw σ 14 (yad (ymu 40 x1) x4).toNat 0)) rfl hg2 ?_
        refine yG_n (n := 2) (C' := (40, [(4, .inl (.inl (yad x4 1))), (0, .inr (.inl 8, 0)), (1, .inl (.inl x1))], [], yw σ 14 (yad (ymu 40 x1) x4).toNat 0)) rfl ?_
        exact yG_w [1, 2, 0] rfl (ih (yw σ 14 (yad (ymu 40 x1) x4).toNat 0) x1 (yad x4 1) res h)
set_option maxRecDepth 100000 in
set_option maxHeartbeats 4000000 in
theorem t_X8_sheet {N : Nat} {X : zXT} {sh : List yH} {l : Launch} {rm : Room} (σ : yS) (x1 : Int) (x2 : Int) (x3 : Int) (res : Int × yS) (h : f_X8_sheet N σ x1 x2 x3 = some res) : G_X8_sheet N X sh l rm (0, [(0, .inr (.inl 8, 0)), (1, .inl (.inl x1)), (2, .inl (.inl x2)), (3, .inl (.inl x3))], [], σ) (some (.inl (.inl res.1)), res.2) := by
  unfold f_X8_sheet at h
  refine yG_n (n := 2) (C' := (2, [(0, .inr (.inl 8, 0)), (1, .inl (.inl x1)), (2, .inl (.inl x2)), (3, .inl (.inl x3))], [.inl (.inl x2), .inl (.inl x1)], σ)) rfl ?_
  cases hr3 : f_X8_isSheet N σ x1 x2 with
  | none => rw [hr3] at h; dsimp only at h; cases h
  | some r1 =>
    rw [hr3] at h
    dsimp only at h
    refine yG_c (C1 := (5, [(0, .inr (.inl 8, 0)), (1, .inl (.inl x1)), (2, .inl (.inl x2)), (3, .inl (.inl x3))], [.inl (.inl r1.1)], r1.2)) rfl (e_X8_isSheet hr3) rfl ?_
    cases hg4 : ycP .eq r1.1 0 with
    | true =>
      rw [hg4] at h
      dsimp only [cond] at h
      refine yG_t (C' := (14, [(0, .inr (.inl 8, 0)), (1, .inl (.inl x1)), (2, .inl (.inl x2)), (3, .inl (.inl x3))], [], r1.2)) rfl hg4 ?_
      exact yG_w [] rfl (t_X8_sheet_b14 r1.2 res h)
    | false =>
      rw [hg4] at h
      dsimp only [cond] at h
      refine yG_f (C' := (8, [(0, .inr (.inl 8, 0)), (1, .inl (.inl x1)), (2, .inl (.inl x2)), (3, .inl (.inl x3))], [], r1.2)) rfl hg4 ?_
      refine yG_n (n := 2) (C' := (11, [(0, .inr (.inl 8, 0)), (1, .inl (.inl x1)), (2, .inl (.inl x2)), (3, .inl (.inl x3))], [.inl (.inl 40), .inl (.inl x3)], r1.2)) rfl ?_
      cases hg5 : ycP .le x3 40 with
      | true =>
        rw [hg5] at h
        dsimp only [cond] at h
        refine yG_t (C' := (16, [(0, .inr (.inl 8, 0)), (1, .inl (.inl x1)), (2, .inl (.inl x2)), (3, .inl (.inl x3))], [], r1.2)) rfl hg5 ?_
        refine yG_n (n := 1) (C' := (17, [(0, .inr (.inl 8, 0)), (1, .inl (.inl x1)), (2, .inl (.inl x2)), (3, .inl (.inl x3))], [.inl (.inl x3)], r1.2)) rfl ?_
        cases hg6 : ycP .ge x3 0 with
        | true =>
          rw [hg6] at h
          dsimp only [cond] at h
          refine yG_t (C' := (23, [(0, .inr (.inl 8, 0)), (1, .inl (.inl x1)), (2, .inl (.inl x2)), (3, .inl (.inl x3))], [], r1.2)) rfl hg6 ?_
          refine yG_n (n := 4) (C' := (29, [(0, .inr (.inl 8, 0)), (1, .inl (.inl x1)), (2, .inl (.inl x2)), (3, .inl (.inl x3))], [.inl (.inl x2), .inl (.inl x1), .inr (.inr (0, 4), 12)], r1.2)) rfl ?_
          cases hg7 : yin x1 4 with
          | false => rw [hg7] at h; dsimp only [cond] at h; cases h
          | true =>
            rw [hg7] at h
            dsimp only [cond] at h
            refine yG_t (C' := (30, [(0, .inr (.inl 8, 0)), (1, .inl (.inl x1)), (2, .inl (.inl x2)), (3, .inl (.inl x3))], [], yw r1.2 12 x1.toNat x2)) rfl hg7 ?_
            refine yG_n (n := 4) (C' := (36, [(0, .inr (.inl 8, 0)), (1, .inl (.inl x1)), (2, .inl (.inl x2)), (3, .inl (.inl x3))], [.inl (.inl x3), .inl (.inl x1), .inr (.inr (0, 4), 13)], yw r1.2 12 x1.toNat x2)) rfl ?_
            refine yG_t (C' := (37, [(0, .inr (.inl 8, 0)), (1, .inl (.inl x1)), (2, .inl (.inl x2)), (3, .inl (.inl x3))], [], yw (yw r1.2 12 x1.toNat x2) 13 x1.toNat x3)) rfl hg7 ?_
            refine yG_n (n := 2) (C' := (40, [(4, .inl (.inl 0)), (0, .inr (.inl 8, 0)), (1, .inl (.inl x1)), (2, .inl (.inl x2)), (3, .inl (.inl x3))], [], yw (yw r1.2 12 x1.toNat x2) 13 x1.toNat x3)) rfl ?_
            exact yG_w [1, 2, 0] rfl (t_X8_sheet_b40 N (yw (yw r1.2 12 x1.toNat x2) 13 x1.toNat x3) x1 0 res h)
        | false =>
          rw [hg6] at h
          dsimp only [cond] at h
          refine yG_f (C' := (20, [(0, .inr (.inl 8, 0)), (1, .inl (.inl x1)), (2, .inl (.inl x2)), (3, .inl (.inl x3))], [], r1.2)) rfl hg6 ?_
          refine yG_n (n := 1) (C' := (22, [(0, .inr (.inl 8, 0)), (1, .inl (.inl x1)), (2, .inl (.inl x2)), (3, .inl (.inl x3))], [.inl (.inl ((-14)))], r1.2)) rfl ?_
          have h := Option.some.inj h
          subst h
          dsimp only
          exact yG_r rfl rfl
      | false =>
        rw [hg5] at h
        dsimp only [cond] at h
        refine yG_f (C' := (14, [(0, .inr (.inl 8, 0)), (1, .inl (.inl x1)), (2, .inl (.inl x2)), (3, .inl (.inl x3))], [], r1.2)) rfl hg5 ?_
        exact yG_w [] rfl (t_X8_sheet_b14 r1.2 res h)
set_option maxRecDepth 100000 in
set_option maxHeartbeats 4000000 in
theorem m_X8_sheet {N : Nat} {X : zXT} (hX : zXok X) (hN : zXn X) (l : Launch) {sh : List yH} : yMet X vwCl yct sh l yX8_sheet wsX8_sheet { frames := 3, cells := 0, slots := 0, locals := 110 } (F_X8_sheet N) :=
  ymeth (tb := tb_X8_sheet N) (pr := pr_X8_sheet) (rt := 1) (own := RX8) hX (by decide +kernel) rfl rfl ⟨Nat.le_of_ble_eq_true rfl, Nat.le_of_ble_eq_true rfl⟩
    (zfl_all (List.forall_mem_cons.mpr ⟨zfl_X8 (fun w h => List.mem_cons_of_mem _ (List.mem_append_right _ h)) (List.mem_of_getElem? (i := 1) rfl) (by decide) (by decide), List.forall_mem_cons.mpr ⟨zfl_X8 (fun w h => List.mem_cons_of_mem _ (List.mem_append_right _ h)) (List.mem_of_getElem? (i := 2) rfl) (by decide) (by decide), List.forall_mem_cons.mpr ⟨zfl_X8 (fun w h => List.mem_cons_of_mem _ (List.mem_append_right _ h)) (List.mem_of_getElem? (i := 3) rfl) (by decide) (by decide), fun _ h => absurd h List.not_mem_nil⟩⟩⟩))
    (zco_all (fun _ h => absurd h List.not_mem_nil)) (zlc_all (fun _ h => absurd h List.not_mem_nil))
    (fun _ h => absurd h List.not_mem_nil)
    (List.forall_mem_cons.mpr ⟨ycal_S hX (m_X8_isSheet hX hN l) (fun s args hts => va_cwS 2 hts gX8_sheet_X8_isSheet rfl rfl rfl (by decide +kernel) ⟨Nat.le_of_ble_eq_true rfl, Nat.le_of_ble_eq_true rfl⟩), fun _ h => absurd h List.not_mem_nil⟩)
    (zmm_all (fun _ h => absurd h List.not_mem_nil)) (fun _ h => absurd h List.not_mem_nil) (zpr_all hp_X8_sheet) (fun as σ res h => by
      unfold F_X8_sheet at h
      split at h
      · rename_i x1 x2 x3
        cases hr : f_X8_sheet N σ x1 x2 x3 with
        | none => rw [hr] at h; cases h
        | some r =>
          rw [hr] at h
          cases h
          exact ⟨Nat.le_of_ble_eq_true rfl, t_X8_sheet σ x1 x2 x3 r hr⟩
      · cases h)
noncomputable def pr_X8_stop : List (Nat × Instr × Nat) := [(0, .iload_n 1, 1), (1, .i2l, 1), (2, .lconst 0, 1), (3, .lconst 1, 1), (4, .invokestatic 90, 3), (7, .ifCond .ne 5, 3), (10, .iconst (-1), 1), (11, .ireturn, 1), (12, .aload_n 0, 1), (13, .invokevirtual 272, 3), (16, .istore_n 2, 1), (17, .ldc_w 289, 3), (20, .istore_n 3, 1), (21, .iconst 0, 1), (22, .istore 4, 2), (24, .iconst 0, 1), (25, .istore 5, 2), (27, .iload 5, 2), (29, .iconst 1, 1), (30, .aload_n 0, 1), (31, .getfield 79, 3), (34, .ishl, 1), (35, .if_icmp .ge 72, 3), (38, .iload 5, 2), (40, .iload_n 2, 1), (41, .iand, 1), (42, .ifCond .ne 27, 3), (45, .iload 5, 2), (47, .invokestatic 233, 3), (50, .iload_n 3, 1), (51, .if_icmp .ge 18, 3), (54, .aload_n 0, 1), (55, .iload_n 2, 1), (56, .iload 5, 2), (58, .ior, 1), (59, .invokevirtual 299, 3), (62, .ifCond .ne 7, 3), (65, .iconst 1, 1), (66, .goto 4, 3), (69, .iconst 0, 1), (70, .istore 6, 2), (72, .iload 6, 2), (74, .ifCond .eq 8, 3), (77, .iload 5, 2), (79, .goto 5, 3), (82, .iload 4, 2), (84, .istore 4, 2), (86, .iload 6, 2), (88, .ifCond .eq 11, 3), (91, .iload 5, 2), (93, .invokestatic 233, 3), (96, .goto 4, 3), (99, .iload_n 3, 1), (100, .istore_n 3, 1), (101, .iinc 5 1, 3), (104, .goto (-77), 3), (107, .iload_n 1, 1), (108, .ifCond .ne 7, 3), (111, .iload_n 3, 1), (112, .goto 5, 3), (115, .iload 4, 2), (117, .ireturn, 1)]
set_option maxRecDepth 100000 in
theorem hp_X8_stop : pr_X8_stop.all (fun x => decide (decode cX8_stop x.1 = .ok x.2)) = true := by decide +kernel
noncomputable def f_X8_stop_b117 (N : Nat) (σ : yS) (s0 : Int) : Option (Int × yS) :=
  some (s0, σ)
noncomputable def f_X8_stop_b100 (N : Nat) (k27 : yS → Int → Int → Int → Int → Int → Option (Int × yS)) (σ : yS) (x1 : Int) (x2 : Int) (x4 : Int) (x5 : Int) (s0 : Int) : Option (Int × yS) :=
  k27 σ x1 x2 s0 x4 (yad x5 1)
noncomputable def f_X8_stop_b84 (N : Nat) (k27 : yS → Int → Int → Int → Int → Int → Option (Int × yS)) (σ : yS) (x1 : Int) (x2 : Int) (x3 : Int) (x5 : Int) (x6 : Int) (s0 : Int) : Option (Int × yS) :=
  bif ycP .eq x6 0 then
    f_X8_stop_b100 N k27 σ x1 x2 s0 x5 x3
  else
    match f_X8_bitsOf N σ x5 with
    | none => none
    | some r3 => f_X8_stop_b100 N k27 r3.2 x1 x2 s0 x5 r3.1
noncomputable def f_X8_stop_b70 (N : Nat) (k27 : yS → Int → Int → Int → Int → Int → Option (Int × yS)) (σ : yS) (x1 : Int) (x2 : Int) (x3 : Int) (x4 : Int) (x5 : Int) (s0 : Int) : Option (Int × yS) :=
  bif ycP .eq s0 0 then
    f_X8_stop_b84 N k27 σ x1 x2 x3 x5 s0 x4
  else
    f_X8_stop_b84 N k27 σ x1 x2 x3 x5 s0 x5
noncomputable def f_X8_stop_b69 (N : Nat) (k27 : yS → Int → Int → Int → Int → Int → Option (Int × yS)) (σ : yS) (x1 : Int) (x2 : Int) (x3 : Int) (x4 : Int) (x5 : Int) : Option (Int × yS) :=
  f_X8_stop_b70 N k27 σ x1 x2 x3 x4 x5 0
noncomputable def f_X8_stop_b27 (N : Nat) : Nat → yS → Int → Int → Int → Int → Int → Option (Int × yS) := yfix (fun _ _ _ _ _ _ => none) (fun ih σ x1 x2 x3 x4 x5 =>
    bif ycP .ge x5 (ysl 1 (σ.1 0 3)) then
      bif ycP .ne x1 0 then
        f_X8_stop_b117 N σ x4
      else
        f_X8_stop_b117 N σ x3
    else
      bif ycP .ne (yan x5 x2) 0 then
        f_X8_stop_b69 N ih σ x1 x2 x3 x4 x5
      else
        match f_X8_bitsOf N σ x5 with
        | none => none
        | some r4 => bif ycP .ge r4.1 x3 then
            f_X8_stop_b69 N ih r4.2 x1 x2 x3 x4 x5
          else
            match f_X8_endless N r4.2 (yor x2 x5) with
            | none => none
            | some r5 => bif ycP .ne r5.1 0 then
                f_X8_stop_b69 N ih r5.2 x1 x2 x3 x4 x5
              else
                f_X8_stop_b70 N ih r5.2 x1 x2 x3 x4 x5 1)
theorem q_X8_stop_b27 (N : Nat) (n : Nat) (σ : yS) (x1 : Int) (x2 : Int) (x3 : Int) (x4 : Int) (x5 : Int) : f_X8_stop_b27 N (n + 1) σ x1 x2 x3 x4 x5 =
    (bif ycP .ge x5 (ysl 1 (σ.1 0 3)) then
      bif ycP .ne x1 0 then
        f_X8_stop_b117 N σ x4
      else
        f_X8_stop_b117 N σ x3
    else
      bif ycP .ne (yan x5 x2) 0 then
        f_X8_stop_b69 N (f_X8_stop_b27 N n) σ x1 x2 x3 x4 x5
      else
        match f_X8_bitsOf N σ x5 with
        | none => none
        | some r4 => bif ycP .ge r4.1 x3 then
            f_X8_stop_b69 N (f_X8_stop_b27 N n) r4.2 x1 x2 x3 x4 x5
          else
            match f_X8_endless N r4.2 (yor x2 x5) with
            | none => none
            | some r5 => bif ycP .ne r5.1 0 then
                f_X8_stop_b69 N (f_X8_stop_b27 N n) r5.2 x1 x2 x3 x4 x5
              else
                f_X8_stop_b70 N (f_X8_stop_b27 N n) r5.2 x1 x2 x3 x4 x5 1) := rfl
noncomputable def f_X8_stop (N : Nat) (σ : yS) (x1 : Int) : Option (Int × yS) :=
  match f_X8_in N σ x1 0 1 with
  | none => none
  | some r1 => bif ycP .ne r1.1 0 then
      match f_X8_lawyersNow N r1.2 with
      | none => none
      | some r2 => f_X8_stop_b27 N N r2.2 x1 r2.1 1000000 0 0
    else
      some ((-1), r1.2)
noncomputable def F_X8_stop (N : Nat) : yF := fun as σ => match as with
  | [.inr (.inl 8, 0), .inl (.inl x1)] => (f_X8_stop N σ x1).map (fun r => (some (.inl (.inl r.1)), r.2))
  | _ => none
theorem e_X8_stop {N : Nat} {σ : yS} {x1 : Int} {r : Int × yS} (h : f_X8_stop N σ x1 = some r) : F_X8_stop N [.inr (.inl 8, 0), .inl (.inl x1)] σ = some (some (.inl (.inl r.1)), r.2) := by
  show (f_X8_stop N σ x1).map (fun r => ((some (.inl (.inl r.1)), r.2) : yR)) = _
  rw [h]
  rfl
noncomputable def tb_X8_stop (N : Nat) : yTb := ([(79, 8, 3, 0)], [(289, 1000000)], [], [(272, 1, 8, F_X8_lawyersNow N), (299, 2, 8, F_X8_endless N)], [(90, 3, F_X8_in N), (233, 1, F_X8_bitsOf N)], [], [])
abbrev G_X8_stop (N : Nat) (X : zXT) (sh : List yH) (l : Launch) (rm : Room) : yC → yR → Prop := yGoes X vwCl yct sh l rm cX8_stop 7 wsX8_stop RX8 (tb_X8_stop N) pr_X8_stop 1
set_option maxRecDepth 100000 in
set_option maxHeartbeats 4000000 in
theorem t_X8_stop_b117 {N : Nat} {X : zXT} {sh : List yH} {l : Launch} {rm : Room} (σ : yS) (s0 : Int) (res : Int × yS) (h : f_X8_stop_b117 N σ s0 = some res) : G_X8_stop N X sh l rm (117, [], [.inl (.inl s0)], σ) (some (.inl (.inl res.1)), res.2) := by
  unfold f_X8_stop_b117 at h
  have h := Option.some.inj h
  subst h
  dsimp only
  exact yG_r rfl rfl
set_option maxRecDepth 100000 in
set_option maxHeartbeats 4000000 in
theorem t_X8_stop_b100 {N : Nat} {X : zXT} {sh : List yH} {l : Launch} {rm : Room} (k27 : yS → Int → Int → Int → Int → Int → Option (Int × yS)) (hk27 : ∀ (σ : yS) (x1 : Int) (x2 : Int) (x3 : Int) (x4 : Int) (x5 : Int) (res : Int × yS), k27 σ x1 x2 x3 x4 x5 = some res → G_X8_stop N X sh l rm (27, [(0, .inr (.inl 8, 0)), (1, .inl (.inl x1)), (2, .inl (.inl x2)), (3, .inl (.inl x3)), (4, .inl (.inl x4)), (5, .inl (.inl x5))], [], σ) (some (.inl (.inl res.1)), res.2)) (σ : yS) (x1 : Int) (x2 : Int) (x4 : Int) (x5 : Int) (s0 : Int) (res : Int × yS) (h : f_X8_stop_b100 N k27 σ x1 x2 x4 x5 s0 = some res) : G_X8_stop N X sh l rm (100, [(0, .inr (.inl 8, 0)), (1, .inl (.inl x1)), (2, .inl (.inl x2)), (4, .inl (.inl x4)), (5, .inl (.inl x5))], [.inl (.inl s0)], σ) (some (.inl (.inl res.1)), res.2) := by
  unfold f_X8_stop_b100 at h
  refine yG_n (n := 3) (C' := (27, [(5, .inl (.inl (yad x5 1))), (3, .inl (.inl s0)), (0, .inr (.inl 8, 0)), (1, .inl (.inl x1)), (2, .inl (.inl x2)), (4, .inl (.inl x4))], [], σ)) rfl ?_
  exact yG_w [2, 3, 4, 1, 5, 0] rfl (hk27 σ x1 x2 s0 x4 (yad x5 1) res h)
set_option maxRecDepth 100000 in
set_option maxHeartbeats 4000000 in
theorem t_X8_stop_b84 {N : Nat} {X : zXT} {sh : List yH} {l : Launch} {rm : Room} (k27 : yS → Int → Int → Int → Int → Int → Option (Int × yS)) (hk27 : ∀ (σ : yS) (x1 : Int) (x2 : Int) (x3 : Int) (x4 : Int) (x5 : Int) (res : Int × yS), k27 σ x1 x2 x3 x4 x5 = some res → G_X8_stop N X sh l rm (27, [(0, .inr (.inl 8, 0)), (1, .inl (.inl x1)), (2, .inl (.inl x2)), (3, .inl (.inl x3)), (4, .inl (.inl x4)), (5, .inl (.inl x5))], [], σ) (some (.inl (.inl res.1)), res.2)) (σ : yS) (x1 : Int) (x2 : Int) (x3 : Int) (x5 : Int) (x6 : Int) (s0 : Int) (res : Int × yS) (h : f_X8_stop_b84 N k27 σ x1 x2 x3 x5 x6 s0 = some res) : G_X8_stop N X sh l rm (84, [(0, .inr (.inl 8, 0)), (1, .inl (.inl x1)), (2, .inl (.inl x2)), (3, .inl (.inl x3)), (5, .inl (.inl x5)), (6, .inl (.inl x6))], [.inl (.inl s0)], σ) (some (.inl (.inl res.1)), res.2) := by
  unfold f_X8_stop_b84 at h
  refine yG_n (n := 2) (C' := (88, [(4, .inl (.inl s0)), (0, .inr (.inl 8, 0)), (1, .inl (.inl x1)), (2, .inl (.inl x2)), (3, .inl (.inl x3)), (5, .inl (.inl x5)), (6, .inl (.inl x6))], [.inl (.inl x6)], σ)) rfl ?_
  cases hg1 : ycP .eq x6 0 with
  | true =>
    rw [hg1] at h
    dsimp only [cond] at h
    refine yG_t (C' := (99, [(4, .inl (.inl s0)), (0, .inr (.inl 8, 0)), (1, .inl (.inl x1)), (2, .inl (.inl x2)), (3, .inl (.inl x3)), (5, .inl (.inl x5)), (6, .inl (.inl x6))], [], σ)) rfl hg1 ?_
    refine yG_n (n := 1) (C' := (100, [(4, .inl (.inl s0)), (0, .inr (.inl 8, 0)), (1, .inl (.inl x1)), (2, .inl (.inl x2)), (3, .inl (.inl x3)), (5, .inl (.inl x5)), (6, .inl (.inl x6))], [.inl (.inl x3)], σ)) rfl ?_
    exact yG_w [1, 2, 3, 0, 5] rfl (t_X8_stop_b100 k27 hk27 σ x1 x2 s0 x5 x3 res h)
  | false =>
    rw [hg1] at h
    dsimp only [cond] at h
    refine yG_f (C' := (91, [(4, .inl (.inl s0)), (0, .inr (.inl 8, 0)), (1, .inl (.inl x1)), (2, .inl (.inl x2)), (3, .inl (.inl x3)), (5, .inl (.inl x5)), (6, .inl (.inl x6))], [], σ)) rfl hg1 ?_
    refine yG_n (n := 1) (C' := (93, [(4, .inl (.inl s0)), (0, .inr (.inl 8, 0)), (1, .inl (.inl x1)), (2, .inl (.inl x2)), (3, .inl (.inl x3)), (5, .inl (.inl x5)), (6, .inl (.inl x6))], [.inl (.inl x5)], σ)) rfl ?_
    cases hr2 : f_X8_bitsOf N σ x5 with
    | none => rw [hr2] at h; dsimp only at h; cases h
    | some r3 =>
      rw [hr2] at h
      dsimp only at h
      refine yG_c (C1 := (96, [(4, .inl (.inl s0)), (0, .inr (.inl 8, 0)), (1, .inl (.inl x1)), (2, .inl (.inl x2)), (3, .inl (.inl x3)), (5, .inl (.inl x5)), (6, .inl (.inl x6))], [.inl (.inl r3.1)], r3.2)) rfl (e_X8_bitsOf hr2) rfl ?_
      refine yG_n (n := 1) (C' := (100, [(4, .inl (.inl s0)), (0, .inr (.inl 8, 0)), (1, .inl (.inl x1)), (2, .inl (.inl x2)), (3, .inl (.inl x3)), (5, .inl (.inl x5)), (6, .inl (.inl x6))], [.inl (.inl r3.1)], r3.2)) rfl ?_
      exact yG_w [1, 2, 3, 0, 5] rfl (t_X8_stop_b100 k27 hk27 r3.2 x1 x2 s0 x5 r3.1 res h)
set_option maxRecDepth 100000 in
set_option maxHeartbeats 4000000 in
theorem t_X8_stop_b70 {N : Nat} {X : zXT} {sh : List yH} {l : Launch} {rm : Room} (k27 : yS → Int → Int → Int → Int → Int → Option (Int × yS)) (hk27 : ∀ (σ : yS) (x1 : Int) (x2 : Int) (x3 : Int) (x4 : Int) (x5 : Int) (res : Int × yS), k27 σ x1 x2 x3 x4 x5 = some res → G_X8_stop N X sh l rm (27, [(0, .inr (.inl 8, 0)), (1, .inl (.inl x1)), (2, .inl (.inl x2)), (3, .inl (.inl x3)), (4, .inl (.inl x4)), (5, .inl (.inl x5))], [], σ) (some (.inl (.inl res.1)), res.2)) (σ : yS) (x1 : Int) (x2 : Int) (x3 : Int) (x4 : Int) (x5 : Int) (s0 : Int) (res : Int × yS) (h : f_X8_stop_b70 N k27 σ x1 x2 x3 x4 x5 s0 = some res) : G_X8_stop N X sh l rm (70, [(0, .inr (.inl 8, 0)), (1, .inl (.inl x1)), (2, .inl (.inl x2)), (3, .inl (.inl x3)), (4, .inl (.inl x4)), (5, .inl (.inl x5))], [.inl (.inl s0)], σ) (some (.inl (.inl res.1)), res.2) := by
  unfold f_X8_stop_b70 at h
  refine yG_n (n := 2) (C' := (74, [(6, .inl (.inl s0)), (0, .inr (.inl 8, 0)), (1, .inl (.inl x1)), (2, .inl (.inl x2)), (3, .inl (.inl x3)), (4, .inl (.inl x4)), (5, .inl (.inl x5))], [.inl (.inl s0)], σ)) rfl ?_
  cases hg3 : ycP .eq s0 0 with
  | true =>
    rw [hg3] at h
    dsimp only [cond] at h
    refine yG_t (C' := (82, [(6, .inl (.inl s0)), (0, .inr (.inl 8, 0)), (1, .inl (.inl x1)), (2, .inl (.inl x2)), (3, .inl (.inl x3)), (4, .inl (.inl x4)), (5, .inl (.inl x5))], [], σ)) rfl hg3 ?_
    refine yG_n (n := 1) (C' := (84, [(6, .inl (.inl s0)), (0, .inr (.inl 8, 0)), (1, .inl (.inl x1)), (2, .inl (.inl x2)), (3, .inl (.inl x3)), (4, .inl (.inl x4)), (5, .inl (.inl x5))], [.inl (.inl x4)], σ)) rfl ?_
    exact yG_w [1, 2, 3, 4, 6, 0] rfl (t_X8_stop_b84 k27 hk27 σ x1 x2 x3 x5 s0 x4 res h)
  | false =>
    rw [hg3] at h
    dsimp only [cond] at h
    refine yG_f (C' := (77, [(6, .inl (.inl s0)), (0, .inr (.inl 8, 0)), (1, .inl (.inl x1)), (2, .inl (.inl x2)), (3, .inl (.inl x3)), (4, .inl (.inl x4)), (5, .inl (.inl x5))], [], σ)) rfl hg3 ?_
    refine yG_n (n := 2) (C' := (84, [(6, .inl (.inl s0)), (0, .inr (.inl 8, 0)), (1, .inl (.inl x1)), (2, .inl (.inl x2)), (3, .inl (.inl x3)), (4, .inl (.inl x4)), (5, .inl (.inl x5))], [.inl (.inl x5)], σ)) rfl ?_
    exact yG_w [1, 2, 3, 4, 6, 0] rfl (t_X8_stop_b84 k27 hk27 σ x1 x2 x3 x5 s0 x5 res h)
set_option maxRecDepth 100000 in
set_option maxHeartbeats 4000000 in
theorem t_X8_stop_b69 {N : Nat} {X : zXT} {sh : List yH} {l : Launch} {rm : Room} (k27 : yS → Int → Int → Int → Int → Int → Option (Int × yS)) (hk27 : ∀ (σ : yS) (x1 : Int) (x2 : Int) (x3 : Int) (x4 : Int) (x5 : Int) (res : Int × yS), k27 σ x1 x2 x3 x4 x5 = some res → G_X8_stop N X sh l rm (27, [(0, .inr (.inl 8, 0)), (1, .inl (.inl x1)), (2, .inl (.inl x2)), (3, .inl (.inl x3)), (4, .inl (.inl x4)), (5, .inl (.inl x5))], [], σ) (some (.inl (.inl res.1)), res.2)) (σ : yS) (x1 : Int) (x2 : Int) (x3 : Int) (x4 : Int) (x5 : Int) (res : Int × yS) (h : f_X8_stop_b69 N k27 σ x1 x2 x3 x4 x5 = some res) : G_X8_stop N X sh l rm (69, [(0, .inr (.inl 8, 0)), (1, .inl (.inl x1)), (2, .inl (.inl x2)), (3, .inl (.inl x3)), (4, .inl (.inl x4)), (5, .inl (.inl x5))], [], σ) (some (.inl (.inl res.1)), res.2) := by
  unfold f_X8_stop_b69 at h
  refine yG_n (n := 1) (C' := (70, [(0, .inr (.inl 8, 0)), (1, .inl (.inl x1)), (2, .inl (.inl x2)), (3, .inl (.inl x3)), (4, .inl (.inl x4)), (5, .inl (.inl x5))], [.inl (.inl 0)], σ)) rfl ?_
  exact t_X8_stop_b70 k27 hk27 σ x1 x2 x3 x4 x5 0 res h
set_option maxRecDepth 100000 in
set_option maxHeartbeats 4000000 in
theorem t_X8_stop_b27 {N : Nat} {X : zXT} {sh : List yH} {l : Launch} {rm : Room} : ∀ (n : Nat) (σ : yS) (x1 : Int) (x2 : Int) (x3 : Int) (x4 : Int) (x5 : Int) (res : Int × yS), f_X8_stop_b27 N n σ x1 x2 x3 x4 x5 = some res → G_X8_stop N X sh l rm (27, [(0, .inr (.inl 8, 0)), (1, .inl (.inl x1)), (2, .inl (.inl x2)), (3, .inl (.inl x3)), (4, .inl (.inl x4)), (5, .inl (.inl x5))], [], σ) (some (.inl (.inl res.1)), res.2) := by
  intro n
  induction n with
  | zero => intro σ x1 x2 x3 x4 x5 res h; exact (yno h).elim
  | succ n ih =>
    intro σ x1 x2 x3 x4 x5 res h
    rw [q_X8_stop_b27] at h
    refine yG_n (n := 5) (C' := (35, [(0, .inr (.inl 8, 0)), (1, .inl (.inl x1)), (2, .inl (.inl x2)), (3, .inl (.inl x3)), (4, .inl (.inl x4)), (5, .inl (.inl x5))], [.inl (.inl (ysl 1 (σ.1 0 3))), .inl (.inl x5)], σ)) rfl ?_
    cases hg4 : ycP .ge x5 (ysl 1 (σ.1 0 3)) with
    | true =>
      rw [hg4] at h
      dsimp only [cond] at h
      refine yG_t (C' := (107, [(0, .inr (.inl 8, 0)), (1, .inl (.inl x1)), (2, .inl (.inl x2)), (3, .inl (.inl x3)), (4, .inl (.inl x4)), (5, .inl (.inl x5))], [], σ)) rfl hg4 ?_
      refine yG_n (n := 1) (C' := (108, [(0, .inr (.inl 8, 0)), (1, .inl (.inl x1)), (2, .inl (.inl x2)), (3, .inl (.inl x3)), (4, .inl (.inl x4)), (5, .inl (.inl x5))], [.inl (.inl x1)], σ)) rfl ?_
      cases hg5 : ycP .ne x1 0 with
      | true =>
        rw [hg5] at h
        dsimp only [cond] at h
        refine yG_t (C' := (115, [(0, .inr (.inl 8, 0)), (1, .inl (.inl x1)), (2, .inl (.inl x2)), (3, .inl (.inl x3)), (4, .inl (.inl x4)), (5, .inl (.inl x5))], [], σ)) rfl hg5 ?_
        refine yG_n (n := 1) (C' := (117, [(0, .inr (.inl 8, 0)), (1, .inl (.inl x1)), (2, .inl (.inl x2)), (3, .inl (.inl x3)), (4, .inl (.inl x4)), (5, .inl (.inl x5))], [.inl (.inl x4)], σ)) rfl ?_
        exact yG_w [] rfl (t_X8_stop_b117 σ x4 res h)
      | false =>
        rw [hg5] at h
        dsimp only [cond] at h
        refine yG_f (C' := (111, [(0, .inr (.inl 8, 0)), (1, .inl (.inl x1)), (2, .inl (.inl x2)), (3, .inl (.inl x3)), (4, .inl (.inl x4)), (5, .inl (.inl x5))], [], σ)) rfl hg5 ?_
        refine yG_n (n := 2) (C' := (117, [(0, .inr (.inl 8, 0)), (1, .inl (.inl x1)), (2, .inl (.inl x2)), (3, .inl (.inl x3)), (4, .inl (.inl x4)), (5, .inl (.inl x5))], [.inl (.inl x3)], σ)) rfl ?_
        exact yG_w [] rfl (t_X8_stop_b117 σ x3 res h)
    | false =>
      rw [hg4] at h
      dsimp only [cond] at h
      refine yG_f (C' := (38, [(0, .inr (.inl 8, 0)), (1, .inl (.inl x1)), (2, .inl (.inl x2)), (3, .inl (.inl x3)), (4, .inl (.inl x4)), (5, .inl (.inl x5))], [], σ)) rfl hg4 ?_
      refine yG_n (n := 3) (C' := (42, [(0, .inr (.inl 8, 0)), (1, .inl (.inl x1)), (2, .inl (.inl x2)), (3, .inl (.inl x3)), (4, .inl (.inl x4)), (5, .inl (.inl x5))], [.inl (.inl (yan x5 x2))], σ)) rfl ?_
      cases hg6 : ycP .ne (yan x5 x2) 0 with
      | true =>
        rw [hg6] at h
        dsimp only [cond] at h
        refine yG_t (C' := (69, [(0, .inr (.inl 8, 0)), (1, .inl (.inl x1)), (2, .inl (.inl x2)), (3, .inl (.inl x3)), (4, .inl (.inl x4)), (5, .inl (.inl x5))], [], σ)) rfl hg6 ?_
        exact t_X8_stop_b69 (f_X8_stop_b27 N n) ih σ x1 x2 x3 x4 x5 res h
      | false =>
        rw [hg6] at h
        dsimp only [cond] at h
        refine yG_f (C' := (45, [(0, .inr (.inl 8, 0)), (1, .inl (.inl x1)), (2, .inl (.inl x2)), (3, .inl (.inl x3)), (4, .inl (.inl x4)), (5, .inl (.inl x5))], [], σ)) rfl hg6 ?_
        refine yG_n (n := 1) (C' := (47, [(0, .inr (.inl 8, 0)), (1, .inl (.inl x1)), (2, .inl (.inl x2)), (3, .inl (.inl x3)), (4, .inl (.inl x4)), (5, .inl (.inl x5))], [.inl (.inl x5)], σ)) rfl ?_
        cases hr7 : f_X8_bitsOf N σ x5 with
        | none => rw [hr7] at h; dsimp only at h; cases h
        | some r4 =>
          rw [hr7] at h
          dsimp only at h
          refine yG_c (C1 := (50, [(0, .inr (.inl 8, 0)), (1, .inl (.inl x1)), (2, .inl (.inl x2)), (3, .inl (.inl x3)), (4, .inl (.inl x4)), (5, .inl (.inl x5))], [.inl (.inl r4.1)], r4.2)) rfl (e_X8_bitsOf hr7) rfl ?_
          refine yG_n (n := 1) (C' := (51, [(0, .inr (.inl 8, 0)), (1, .inl (.inl x1)), (2, .inl (.inl x2)), (3, .inl (.inl x3)), (4, .inl (.inl x4)), (5, .inl (.inl x5))], [.inl (.inl x3), .inl (.inl r4.1)], r4.2)) rfl ?_
          cases hg8 : ycP .ge r4.1 x3 with
          | true =>
            rw [hg8] at h
            dsimp only [cond] at h
            refine yG_t (C' := (69, [(0, .inr (.inl 8, 0)), (1, .inl (.inl x1)), (2, .inl (.inl x2)), (3, .inl (.inl x3)), (4, .inl (.inl x4)), (5, .inl (.inl x5))], [], r4.2)) rfl hg8 ?_
            exact t_X8_stop_b69 (f_X8_stop_b27 N n) ih r4.2 x1 x2 x3 x4 x5 res h
          | false =>
            rw [hg8] at h
            dsimp only [cond] at h
            refine yG_f (C' := (54, [(0, .inr (.inl 8, 0)), (1, .inl (.inl x1)), (2, .inl (.inl x2)), (3, .inl (.inl x3)), (4, .inl (.inl x4)), (5, .inl (.inl x5))], [], r4.2)) rfl hg8 ?_
            refine yG_n (n := 4) (C' := (59, [(0, .inr (.inl 8, 0)), (1, .inl (.inl x1)), (2, .inl (.inl x2)), (3, .inl (.inl x3)), (4, .inl (.inl x4)), (5, .inl (.inl x5))], [.inl (.inl (yor x2 x5)), .inr (.inl 8, 0)], r4.2)) rfl ?_
            cases hr9 : f_X8_endless N r4.2 (yor x2 x5) with
            | none => rw [hr9] at h; dsimp only at h; cases h
            | some r5 =>
              rw [hr9] at h
              dsimp only at h
              refine yG_c (C1 := (62, [(0, .inr (.inl 8, 0)), (1, .inl (.inl x1)), (2, .inl (.inl x2)), (3, .inl (.inl x3)), (4, .inl (.inl x4)), (5, .inl (.inl x5))], [.inl (.inl r5.1)], r5.2)) rfl (e_X8_endless hr9) rfl ?_
              cases hg10 : ycP .ne r5.1 0 with
              | true =>
                rw [hg10] at h
                dsimp only [cond] at h
                refine yG_t (C' := (69, [(0, .inr (.inl 8, 0)), (1, .inl (.inl x1)), (2, .inl (.inl x2)), (3, .inl (.inl x3)), (4, .inl (.inl x4)), (5, .inl (.inl x5))], [], r5.2)) rfl hg10 ?_
                exact t_X8_stop_b69 (f_X8_stop_b27 N n) ih r5.2 x1 x2 x3 x4 x5 res h
              | false =>
                rw [hg10] at h
                dsimp only [cond] at h
                refine yG_f (C' := (65, [(0, .inr (.inl 8, 0)), (1, .inl (.inl x1)), (2, .inl (.inl x2)), (3, .inl (.inl x3)), (4, .inl (.inl x4)), (5, .inl (.inl x5))], [], r5.2)) rfl hg10 ?_
                refine yG_n (n := 2) (C' := (70, [(0, .inr (.inl 8, 0)), (1, .inl (.inl x1)), (2, .inl (.inl x2)), (3, .inl (.inl x3)), (4, .inl (.inl x4)), (5, .inl (.inl x5))], [.inl (.inl 1)], r5.2)) rfl ?_
                exact t_X8_stop_b70 (f_X8_stop_b27 N n) ih r5.2 x1 x2 x3 x4 x5 1 res h
set_option maxRecDepth 100000 in
set_option maxHeartbeats 4000000 in
theorem t_X8_stop {N : Nat} {X : zXT} {sh : List yH} {l : Launch} {rm : Room} (σ : yS) (x1 : Int) (res : Int × yS) (h : f_X8_stop N σ x1 = some res) : G_X8_stop N X sh l rm (0, [(0, .inr (.inl 8, 0)), (1, .inl (.inl x1))], [], σ) (some (.inl (.inl res.1)), res.2) := by
  unfold f_X8_stop at h
  refine yG_n (n := 4) (C' := (4, [(0, .inr (.inl 8, 0)), (1, .inl (.inl x1))], [.inl (.inr 1), .inl (.inr 0), .inl (.inr x1)], σ)) rfl ?_
  cases hr11 : f_X8_in N σ x1 0 1 with
  | none => rw [hr11] at h; dsimp only at h; cases h
  | some r1 =>
    rw [hr11] at h
    dsimp only at h
    refine yG_c (C1 := (7, [(0, .inr (.inl 8, 0)), (1, .inl (.inl x1))], [.inl (.inl r1.1)], r1.2)) rfl (e_X8_in hr11) rfl ?_
    cases hg12 : ycP .ne r1.1 0 with
    | true =>
      rw [hg12] at h
      dsimp only [cond] at h
      refine yG_t (C' := (12, [(0, .inr (.inl 8, 0)), (1, .inl (.inl x1))], [], r1.2)) rfl hg12 ?_
      refine yG_n (n := 1) (C' := (13, [(0, .inr (.inl 8, 0)), (1, .inl (.inl x1))], [.inr (.inl 8, 0)], r1.2)) rfl ?_
      cases hr13 : f_X8_lawyersNow N r1.2 with
      | none => rw [hr13] at h; dsimp only at h; cases h
      | some r2 =>
        rw [hr13] at h
        dsimp only at h
        refine yG_c (C1 := (16, [(0, .inr (.inl 8, 0)), (1, .inl (.inl x1))], [.inl (.inl r2.1)], r2.2)) rfl (e_X8_lawyersNow hr13) rfl ?_
        refine yG_n (n := 7) (C' := (27, [(5, .inl (.inl 0)), (4, .inl (.inl 0)), (3, .inl (.inl 1000000)), (2, .inl (.inl r2.1)), (0, .inr (.inl 8, 0)), (1, .inl (.inl x1))], [], r2.2)) rfl ?_
        exact yG_w [4, 5, 3, 2, 1, 0] rfl (t_X8_stop_b27 N r2.2 x1 r2.1 1000000 0 0 res h)
    | false =>
      rw [hg12] at h
      dsimp only [cond] at h
      refine yG_f (C' := (10, [(0, .inr (.inl 8, 0)), (1, .inl (.inl x1))], [], r1.2)) rfl hg12 ?_
      refine yG_n (n := 1) (C' := (11, [(0, .inr (.inl 8, 0)), (1, .inl (.inl x1))], [.inl (.inl ((-1)))], r1.2)) rfl ?_
      have h := Option.some.inj h
      subst h
      dsimp only
      exact yG_r rfl rfl
set_option maxRecDepth 100000 in
set_option maxHeartbeats 4000000 in
theorem m_X8_stop {N : Nat} {X : zXT} (hX : zXok X) (hN : zXn X) (l : Launch) {sh : List yH} : yMet X vwCl yct sh l yX8_stop wsX8_stop { frames := 6, cells := 0, slots := 0, locals := 186 } (F_X8_stop N) :=
  ymeth (tb := tb_X8_stop N) (pr := pr_X8_stop) (rt := 1) (own := RX8) hX (by decide +kernel) rfl rfl ⟨Nat.le_of_ble_eq_true rfl, Nat.le_of_ble_eq_true rfl⟩
    (zfl_all (List.forall_mem_cons.mpr ⟨zfl_X8 (fun w h => List.mem_cons_of_mem _ (List.mem_append_right _ h)) (List.mem_of_getElem? (i := 2) rfl) (by decide) (by decide), fun _ h => absurd h List.not_mem_nil⟩))
    (zco_all (List.forall_mem_cons.mpr ⟨(List.mem_of_getElem? (i := 1) rfl), fun _ h => absurd h List.not_mem_nil⟩)) (zlc_all (fun _ h => absurd h List.not_mem_nil))
    (List.forall_mem_cons.mpr ⟨ycal_V hX (m_X8_lawyersNow hX hN l) rfl (fun s args hts => cwV 0 hts gX8_stop_X8_lawyersNow rfl rfl rfl (by decide +kernel) ⟨Nat.le_of_ble_eq_true rfl, Nat.le_of_ble_eq_true rfl⟩), List.forall_mem_cons.mpr ⟨ycal_V hX (m_X8_endless hX hN l) rfl (fun s args hts => cwV 1 hts gX8_stop_X8_endless rfl rfl rfl (by decide +kernel) ⟨Nat.le_of_ble_eq_true rfl, Nat.le_of_ble_eq_true rfl⟩), fun _ h => absurd h List.not_mem_nil⟩⟩)
    (List.forall_mem_cons.mpr ⟨ycal_S hX (m_X8_in hX hN l) (fun s args hts => va_cwS 3 hts gX8_stop_X8_in rfl rfl rfl (by decide +kernel) ⟨Nat.le_of_ble_eq_true rfl, Nat.le_of_ble_eq_true rfl⟩), List.forall_mem_cons.mpr ⟨ycal_S hX (m_X8_bitsOf hX hN l) (fun s args hts => va_cwS 1 hts gX8_stop_X8_bitsOf rfl rfl rfl (by decide +kernel) ⟨Nat.le_of_ble_eq_true rfl, Nat.le_of_ble_eq_true rfl⟩), fun _ h => absurd h List.not_mem_nil⟩⟩)
    (zmm_all (fun _ h => absurd h List.not_mem_nil)) (fun _ h => absurd h List.not_mem_nil) (zpr_all hp_X8_stop) (fun as σ res h => by
      unfold F_X8_stop at h
      split at h
      · rename_i x1
        cases hr : f_X8_stop N σ x1 with
        | none => rw [hr] at h; cases h
        | some r =>
          rw [hr] at h
          cases h
          exact ⟨Nat.le_of_ble_eq_true rfl, t_X8_stop σ x1 r hr⟩
      · cases h)
noncomputable def pr_X8_text : List (Nat × Instr × Nat) := [(0, .iconst 0, 1), (1, .istore_n 1, 1), (2, .aload_n 0, 1), (3, .iconst 0, 1), (4, .putfield 97, 3), (7, .aload_n 0, 1), (8, .iconst 0, 1), (9, .putfield 106, 3), (12, .aload_n 0, 1), (13, .invokevirtual 53, 3), (16, .aload_n 0, 1), (17, .invokevirtual 147, 3), (20, .aload_n 0, 1), (21, .getfield 97, 3), (24, .ifCond .ne 20, 3), (27, .aload_n 0, 1), (28, .getfield 125, 3), (31, .ifCond .eq 13, 3), (34, .aload_n 0, 1), (35, .invokevirtual 190, 3), (38, .iinc 1 1, 3), (41, .goto (-21), 3), (44, .aload_n 0, 1), (45, .getfield 97, 3), (48, .ifCond .ne 36, 3), (51, .aload_n 0, 1), (52, .aload_n 0, 1), (53, .getfield 73, 3), (56, .aload_n 0, 1), (57, .getfield 59, 3), (60, .if_icmp .ge 18, 3), (63, .aload_n 0, 1), (64, .getfield 76, 3), (67, .aload_n 0, 1), (68, .getfield 70, 3), (71, .if_icmp .ge 7, 3), (74, .iconst 1, 1), (75, .goto 4, 3), (78, .iconst 0, 1), (79, .bipush 6, 2), (81, .invokevirtual 139, 3), (84, .aload_n 0, 1), (85, .iconst 0, 1), (86, .putfield 94, 3), (89, .aload_n 0, 1), (90, .getfield 97, 3), (93, .ifCond .le 11, 3), (96, .bipush (-10), 2), (98, .aload_n 0, 1), (99, .getfield 103, 3), (102, .isub, 1), (103, .ireturn, 1), (104, .aload_n 0, 1), (105, .invokevirtual 56, 3), (108, .iload_n 1, 1), (109, .ireturn, 1)]
set_option maxRecDepth 100000 in
theorem hp_X8_text : pr_X8_text.all (fun x => decide (decode cX8_text x.1 = .ok x.2)) = true := by decide +kernel
noncomputable def f_X8_text_b90 (N : Nat) (σ : yS) (x1 : Int) : Option (Int × yS) :=
  bif ycP .le (σ.1 0 22) 0 then
    match f_X8_keepDraft N σ with
    | none => none
    | some r3 => some (x1, r3.2)
  else
    some (ysu ((-10)) (σ.1 0 23), σ)
noncomputable def f_X8_text_b84 (N : Nat) (σ : yS) (x1 : Int) : Option (Int × yS) :=
  f_X8_text_b90 N (yw σ 0 17 0) x1
noncomputable def f_X8_text_b79 (N : Nat) (σ : yS) (x1 : Int) (s0 : Int) : Option (Int × yS) :=
  match f_X8_needs N σ s0 6 with
  | none => none
  | some r4 => f_X8_text_b84 N r4.2 x1
noncomputable def f_X8_text_b78 (N : Nat) (σ : yS) (x1 : Int) : Option (Int × yS) :=
  f_X8_text_b79 N σ x1 0
noncomputable def f_X8_text_b44 (N : Nat) (σ : yS) (x1 : Int) : Option (Int × yS) :=
  bif ycP .ne (σ.1 0 22) 0 then
    f_X8_text_b84 N σ x1
  else
    bif ycP .ge (σ.1 0 14) (σ.1 0 8) then
      f_X8_text_b78 N σ x1
    else
      bif ycP .ge (σ.1 0 15) (σ.1 0 11) then
        f_X8_text_b78 N σ x1
      else
        f_X8_text_b79 N σ x1 1
noncomputable def f_X8_text_b20 (N : Nat) : Nat → yS → Int → Option (Int × yS) := yfix (fun _ _ => none) (fun ih σ x1 =>
    bif ycP .ne (σ.1 0 22) 0 then
      f_X8_text_b44 N σ x1
    else
      bif ycP .eq (σ.1 0 20) 0 then
        f_X8_text_b44 N σ x1
      else
        match f_X8_readLine N σ with
        | none => none
        | some r5 => ih r5.2 (yad x1 1))
theorem q_X8_text_b20 (N : Nat) (n : Nat) (σ : yS) (x1 : Int) : f_X8_text_b20 N (n + 1) σ x1 =
    (bif ycP .ne (σ.1 0 22) 0 then
      f_X8_text_b44 N σ x1
    else
      bif ycP .eq (σ.1 0 20) 0 then
        f_X8_text_b44 N σ x1
      else
        match f_X8_readLine N σ with
        | none => none
        | some r5 => (f_X8_text_b20 N n) r5.2 (yad x1 1)) := rfl
noncomputable def f_X8_text (N : Nat) (σ : yS) : Option (Int × yS) :=
  match f_X8_firstDraft N (yw (yw σ 0 22 0) 0 18 0) with
  | none => none
  | some r1 => match f_X8_next N r1.2 with
    | none => none
    | some r2 => f_X8_text_b20 N N r2.2 0
noncomputable def F_X8_text (N : Nat) : yF := fun as σ => match as with
  | [.inr (.inl 8, 0)] => (f_X8_text N σ).map (fun r => (some (.inl (.inl r.1)), r.2))
  | _ => none
theorem e_X8_text {N : Nat} {σ : yS} {r : Int × yS} (h : f_X8_text N σ = some r) : F_X8_text N [.inr (.inl 8, 0)] σ = some (some (.inl (.inl r.1)), r.2) := by
  show (f_X8_text N σ).map (fun r => ((some (.inl (.inl r.1)), r.2) : yR)) = _
  rw [h]
  rfl
noncomputable def tb_X8_text (N : Nat) : yTb := ([(59, 8, 8, 0), (70, 8, 11, 0), (73, 8, 14, 0), (76, 8, 15, 0), (94, 8, 17, 0), (97, 8, 22, 0), (103, 8, 23, 0), (106, 8, 18, 0), (125, 8, 20, 0)], [], [], [(53, 1, 8, F_X8_firstDraft N), (56, 1, 8, F_X8_keepDraft N), (139, 3, 8, F_X8_needs N), (147, 1, 8, F_X8_next N), (190, 1, 8, F_X8_readLine N)], [], [], [])
abbrev G_X8_text (N : Nat) (X : zXT) (sh : List yH) (l : Launch) (rm : Room) : yC → yR → Prop := yGoes X vwCl yct sh l rm cX8_text 2 wsX8_text RX8 (tb_X8_text N) pr_X8_text 1
set_option maxRecDepth 100000 in
set_option maxHeartbeats 4000000 in
theorem t_X8_text_b90 {N : Nat} {X : zXT} {sh : List yH} {l : Launch} {rm : Room} (σ : yS) (x1 : Int) (res : Int × yS) (h : f_X8_text_b90 N σ x1 = some res) : G_X8_text N X sh l rm (90, [(0, .inr (.inl 8, 0)), (1, .inl (.inl x1))], [.inr (.inl 8, 0)], σ) (some (.inl (.inl res.1)), res.2) := by
  unfold f_X8_text_b90 at h
  refine yG_n (n := 1) (C' := (93, [(0, .inr (.inl 8, 0)), (1, .inl (.inl x1))], [.inl (.inl (σ.1 0 22))], σ)) rfl ?_
  cases hg1 : ycP .le (σ.1 0 22) 0 with
  | true =>
    rw [hg1] at h
    dsimp only [cond] at h
    refine yG_t (C' := (104, [(0, .inr (.inl 8, 0)), (1, .inl (.inl x1))], [], σ)) rfl hg1 ?_
    refine yG_n (n := 1) (C' := (105, [(0, .inr (.inl 8, 0)), (1, .inl (.inl x1))], [.inr (.inl 8, 0)], σ)) rfl ?_
    cases hr2 : f_X8_keepDraft N σ with
    | none => rw [hr2] at h; dsimp only at h; cases h
    | some r3 =>
      rw [hr2] at h
      dsimp only at h
      refine yG_c (C1 := (108, [(0, .inr (.inl 8, 0)), (1, .inl (.inl x1))], [], r3.2)) rfl (e_X8_keepDraft hr2) rfl ?_
      refine yG_n (n := 1) (C' := (109, [(0, .inr (.inl 8, 0)), (1, .inl (.inl x1))], [.inl (.inl x1)], r3.2)) rfl ?_
      have h := Option.some.inj h
      subst h
      dsimp only
      exact yG_r rfl rfl
  | false =>
    rw [hg1] at h
    dsimp only [cond] at h
    refine yG_f (C' := (96, [(0, .inr (.inl 8, 0)), (1, .inl (.inl x1))], [], σ)) rfl hg1 ?_
    refine yG_n (n := 4) (C' := (103, [(0, .inr (.inl 8, 0)), (1, .inl (.inl x1))], [.inl (.inl (ysu ((-10)) (σ.1 0 23)))], σ)) rfl ?_
    have h := Option.some.inj h
    subst h
    dsimp only
    exact yG_r rfl rfl
set_option maxRecDepth 100000 in
set_option maxHeartbeats 4000000 in
theorem t_X8_text_b84 {N : Nat} {X : zXT} {sh : List yH} {l : Launch} {rm : Room} (σ : yS) (x1 : Int) (res : Int × yS) (h : f_X8_text_b84 N σ x1 = some res) : G_X8_text N X sh l rm (84, [(0, .inr (.inl 8, 0)), (1, .inl (.inl x1))], [], σ) (some (.inl (.inl res.1)), res.2) := by
  unfold f_X8_text_b84 at h
  refine yG_n (n := 4) (C' := (90, [(0, .inr (.inl 8, 0)), (1, .inl (.inl x1))], [.inr (.inl 8, 0)], yw σ 0 17 0)) rfl ?_
  exact t_X8_text_b90 (yw σ 0 17 0) x1 res h
set_option maxRecDepth 100000 in
set_option maxHeartbeats 4000000 in
theorem t_X8_text_b79 {N : Nat} {X : zXT} {sh : List yH} {l : Launch} {rm : Room} (σ : yS) (x1 : Int) (s0 : Int) (res : Int × yS) (h : f_X8_text_b79 N σ x1 s0 = some res) : G_X8_text N X sh l rm (79, [(0, .inr (.inl 8, 0)), (1, .inl (.inl x1))], [.inl (.inl s0), .inr (.inl 8, 0)], σ) (some (.inl (.inl res.1)), res.2) := by
  unfold f_X8_text_b79 at h
  refine yG_n (n := 1) (C' := (81, [(0, .inr (.inl 8, 0)), (1, .inl (.inl x1))], [.inl (.inl 6), .inl (.inl s0), .inr (.inl 8, 0)], σ)) rfl ?_
  cases hr3 : f_X8_needs N σ s0 6 with
  | none => rw [hr3] at h; dsimp only at h; cases h
  | some r4 =>
    rw [hr3] at h
    dsimp only at h
    refine yG_c (C1 := (84, [(0, .inr (.inl 8, 0)), (1, .inl (.inl x1))], [], r4.2)) rfl (e_X8_needs hr3) rfl ?_
    exact t_X8_text_b84 r4.2 x1 res h
set_option maxRecDepth 100000 in
set_option maxHeartbeats 4000000 in
theorem t_X8_text_b78 {N : Nat} {X : zXT} {sh : List yH} {l : Launch} {rm : Room} (σ : yS) (x1 : Int) (res : Int × yS) (h : f_X8_text_b78 N σ x1 = some res) : G_X8_text N X sh l rm (78, [(0, .inr (.inl 8, 0)), (1, .inl (.inl x1))], [.inr (.inl 8, 0)], σ) (some (.inl (.inl res.1)), res.2) := by
  unfold f_X8_text_b78 at h
  refine yG_n (n := 1) (C' := (79, [(0, .inr (.inl 8, 0)), (1, .inl (.inl x1))], [.inl (.inl 0), .inr (.inl 8, 0)], σ)) rfl ?_
  exact t_X8_text_b79 σ x1 0 res h
set_option maxRecDepth 100000 in
set_option maxHeartbeats 4000000 in
theorem t_X8_text_b44 {N : Nat} {X : zXT} {sh : List yH} {l : Launch} {rm : Room} (σ : yS) (x1 : Int) (res : Int × yS) (h : f_X8_text_b44 N σ x1 = some res) : G_X8_text N X sh l rm (44, [(0, .inr (.inl 8, 0)), (1, .inl (.inl x1))], [], σ) (some (.inl (.inl res.1)), res.2) := by
  unfold f_X8_text_b44 at h
  refine yG_n (n := 2) (C' := (48, [(0, .inr (.inl 8, 0)), (1, .inl (.inl x1))], [.inl (.inl (σ.1 0 22))], σ)) rfl ?_
  cases hg4 : ycP .ne (σ.1 0 22) 0 with
  | true =>
    rw [hg4] at h
    dsimp only [cond] at h
    refine yG_t (C' := (84, [(0, .inr (.inl 8, 0)), (1, .inl (.inl x1))], [], σ)) rfl hg4 ?_
    exact t_X8_text_b84 σ x1 res h
  | false =>
    rw [hg4] at h
    dsimp only [cond] at h
    refine yG_f (C' := (51, [(0, .inr (.inl 8, 0)), (1, .inl (.inl x1))], [], σ)) rfl hg4 ?_
    refine yG_n (n := 5) (C' := (60, [(0, .inr (.inl 8, 0)), (1, .inl (.inl x1))], [.inl (.inl (σ.1 0 8)), .inl (.inl (σ.1 0 14)), .inr (.inl 8, 0)], σ)) rfl ?_
    cases hg5 : ycP .ge (σ.1 0 14) (σ.1 0 8) with
    | true =>
      rw [hg5] at h
      dsimp only [cond] at h
      refine yG_t (C' := (78, [(0, .inr (.inl 8, 0)), (1, .inl (.inl x1))], [.inr (.inl 8, 0)], σ)) rfl hg5 ?_
      exact t_X8_text_b78 σ x1 res h
    | false =>
      rw [hg5] at h
      dsimp only [cond] at h
      refine yG_f (C' := (63, [(0, .inr (.inl 8, 0)), (1, .inl (.inl x1))], [.inr (.inl 8, 0)], σ)) rfl hg5 ?_
      refine yG_n (n := 4) (C' := (71, [(0, .inr (.inl 8, 0)), (1, .inl (.inl x1))], [.inl (.inl (σ.1 0 11)), .inl (.inl (σ.1 0 15)), .inr (.inl 8, 0)], σ)) rfl ?_
      cases hg6 : ycP .ge (σ.1 0 15) (σ.1 0 11) with
      | true =>
        rw [hg6] at h
        dsimp only [cond] at h
        refine yG_t (C' := (78, [(0, .inr (.inl 8, 0)), (1, .inl (.inl x1))], [.inr (.inl 8, 0)], σ)) rfl hg6 ?_
        exact t_X8_text_b78 σ x1 res h
      | false =>
        rw [hg6] at h
        dsimp only [cond] at h
        refine yG_f (C' := (74, [(0, .inr (.inl 8, 0)), (1, .inl (.inl x1))], [.inr (.inl 8, 0)], σ)) rfl hg6 ?_
        refine yG_n (n := 2) (C' := (79, [(0, .inr (.inl 8, 0)), (1, .inl (.inl x1))], [.inl (.inl 1), .inr (.inl 8, 0)], σ)) rfl ?_
        exact t_X8_text_b79 σ x1 1 res h
set_option maxRecDepth 100000 in
set_option maxHeartbeats 4000000 in
theorem t_X8_text_b20 {N : Nat} {X : zXT} {sh : List yH} {l : Launch} {rm : Room} : ∀ (n : Nat) (σ : yS) (x1 : Int) (res : Int × yS), f_X8_text_b20 N n σ x1 = some res → G_X8_text N X sh l rm (20, [(0, .inr (.inl 8, 0)), (1, .inl (.inl x1))], [], σ) (some (.inl (.inl res.1)), res.2) := by
  intro n
  induction n with
  | zero => intro σ x1 res h; exact (yno h).elim
  | succ n ih =>
    intro σ x1 res h
    rw [q_X8_text_b20] at h
    refine yG_n (n := 2) (C' := (24, [(0, .inr (.inl 8, 0)), (1, .inl (.inl x1))], [.inl (.inl (σ.1 0 22))], σ)) rfl ?_
    cases hg7 : ycP .ne (σ.1 0 22) 0 with
    | true =>
      rw [hg7] at h
      dsimp only [cond] at h
      refine yG_t (C' := (44, [(0, .inr (.inl 8, 0)), (1, .inl (.inl x1))], [], σ)) rfl hg7 ?_
      exact t_X8_text_b44 σ x1 res h
    | false =>
      rw [hg7] at h
      dsimp only [cond] at h
      refine yG_f (C' := (27, [(0, .inr (.inl 8, 0)), (1, .inl (.inl x1))], [], σ)) rfl hg7 ?_
      refine yG_n (n := 2) (C' := (31, [(0, .inr (.inl 8, 0)), (1, .inl (.inl x1))], [.inl (.inl (σ.1 0 20))], σ)) rfl ?_
      cases hg8 : ycP .eq (σ.1 0 20) 0 with
      | true =>
        rw [hg8] at h
        dsimp only [cond] at h
        refine yG_t (C' := (44, [(0, .inr (.inl 8, 0)), (1, .inl (.inl x1))], [], σ)) rfl hg8 ?_
        exact t_X8_text_b44 σ x1 res h
      | false =>
        rw [hg8] at h
        dsimp only [cond] at h
        refine yG_f (C' := (34, [(0, .inr (.inl 8, 0)), (1, .inl (.inl x1))], [], σ)) rfl hg8 ?_
        refine yG_n (n := 1) (C' := (35, [(0, .inr (.inl 8, 0)), (1, .inl (.inl x1))], [.inr (.inl 8, 0)], σ)) rfl ?_
        cases hr9 : f_X8_readLine N σ with
        | none => rw [hr9] at h; dsimp only at h; cases h
        | some r5 =>
          rw [hr9] at h
          dsimp only at h
          refine yG_c (C1 := (38, [(0, .inr (.inl 8, 0)), (1, .inl (.inl x1))], [], r5.2)) rfl (e_X8_readLine hr9) rfl ?_
          refine yG_n (n := 2) (C' := (20, [(1, .inl (.inl (yad x1 1))), (0, .inr (.inl 8, 0))], [], r5.2)) rfl ?_
          exact yG_w [1, 0] rfl (ih r5.2 (yad x1 1) res h)
set_option maxRecDepth 100000 in
set_option maxHeartbeats 4000000 in
theorem t_X8_text {N : Nat} {X : zXT} {sh : List yH} {l : Launch} {rm : Room} (σ : yS) (res : Int × yS) (h : f_X8_text N σ = some res) : G_X8_text N X sh l rm (0, [(0, .inr (.inl 8, 0))], [], σ) (some (.inl (.inl res.1)), res.2) := by
  unfold f_X8_text at h
  refine yG_n (n := 9) (C' := (13, [(1, .inl (.inl 0)), (0, .inr (.inl 8, 0))], [.inr (.inl 8, 0)], yw (yw σ 0 22 0) 0 18 0)) rfl ?_
  cases hr10 : f_X8_firstDraft N (yw (yw σ 0 22 0) 0 18 0) with
  | none => rw [hr10] at h; dsimp only at h; cases h
  | some r1 =>
    rw [hr10] at h
    dsimp only at h
    refine yG_c (C1 := (16, [(1, .inl (.inl 0)), (0, .inr (.inl 8, 0))], [], r1.2)) rfl (e_X8_firstDraft hr10) rfl ?_
    refine yG_n (n := 1) (C' := (17, [(1, .inl (.inl 0)), (0, .inr (.inl 8, 0))], [.inr (.inl 8, 0)], r1.2)) rfl ?_
    cases hr11 : f_X8_next N r1.2 with
    | none => rw [hr11] at h; dsimp only at h; cases h
    | some r2 =>
      rw [hr11] at h
      dsimp only at h
      refine yG_c (C1 := (20, [(1, .inl (.inl 0)), (0, .inr (.inl 8, 0))], [], r2.2)) rfl (e_X8_next hr11) rfl ?_
      exact yG_w [1, 0] rfl (t_X8_text_b20 N r2.2 0 res h)
set_option maxRecDepth 100000 in
set_option maxHeartbeats 4000000 in
theorem m_X8_text {N : Nat} {X : zXT} (hX : zXok X) (hN : zXn X) (l : Launch) {sh : List yH} : yMet X vwCl yct sh l yX8_text wsX8_text { frames := 8, cells := 0, slots := 0, locals := 221 } (F_X8_text N) :=
  ymeth (tb := tb_X8_text N) (pr := pr_X8_text) (rt := 1) (own := RX8) hX (by decide +kernel) rfl rfl ⟨Nat.le_of_ble_eq_true rfl, Nat.le_of_ble_eq_true rfl⟩
    (zfl_all (List.forall_mem_cons.mpr ⟨zfl_X8 (fun w h => List.mem_cons_of_mem _ (List.mem_append_right _ h)) (List.mem_of_getElem? (i := 5) rfl) (by decide) (by decide), List.forall_mem_cons.mpr ⟨zfl_X8 (fun w h => List.mem_cons_of_mem _ (List.mem_append_right _ h)) (List.mem_of_getElem? (i := 7) rfl) (by decide) (by decide), List.forall_mem_cons.mpr ⟨zfl_X8 (fun w h => List.mem_cons_of_mem _ (List.mem_append_right _ h)) (List.mem_of_getElem? (i := 4) rfl) (by decide) (by decide), List.forall_mem_cons.mpr ⟨zfl_X8 (fun w h => List.mem_cons_of_mem _ (List.mem_append_right _ h)) (List.mem_of_getElem? (i := 6) rfl) (by decide) (by decide), List.forall_mem_cons.mpr ⟨zfl_X8 (fun w h => List.mem_cons_of_mem _ (List.mem_append_right _ h)) (List.mem_of_getElem? (i := 8) rfl) (by decide) (by decide), List.forall_mem_cons.mpr ⟨zfl_X8 (fun w h => List.mem_cons_of_mem _ (List.mem_append_right _ h)) (List.mem_of_getElem? (i := 1) rfl) (by decide) (by decide), List.forall_mem_cons.mpr ⟨zfl_X8 (fun w h => List.mem_cons_of_mem _ (List.mem_append_right _ h)) (List.mem_of_getElem? (i := 9) rfl) (by decide) (by decide), List.forall_mem_cons.mpr ⟨zfl_X8 (fun w h => List.mem_cons_of_mem _ (List.mem_append_right _ h)) (List.mem_of_getElem? (i := 2) rfl) (by decide) (by decide), List.forall_mem_cons.mpr ⟨zfl_X8 (fun w h => List.mem_cons_of_mem _ (List.mem_append_right _ h)) (List.mem_of_getElem? (i := 3) rfl) (by decide) (by decide), fun _ h => absurd h List.not_mem_nil⟩⟩⟩⟩⟩⟩⟩⟩⟩))
    (zco_all (fun _ h => absurd h List.not_mem_nil)) (zlc_all (fun _ h => absurd h List.not_mem_nil))
    (List.forall_mem_cons.mpr ⟨ycal_V hX (m_X8_firstDraft hX hN l) rfl (fun s args hts => cwV 0 hts gX8_text_X8_firstDraft rfl rfl rfl (by decide +kernel) ⟨Nat.le_of_ble_eq_true rfl, Nat.le_of_ble_eq_true rfl⟩), List.forall_mem_cons.mpr ⟨ycal_V hX (m_X8_keepDraft hX hN l) rfl (fun s args hts => cwV 0 hts gX8_text_X8_keepDraft rfl rfl rfl (by decide +kernel) ⟨Nat.le_of_ble_eq_true rfl, Nat.le_of_ble_eq_true rfl⟩), List.forall_mem_cons.mpr ⟨ycal_V hX (m_X8_needs hX hN l) rfl (fun s args hts => cwV 2 hts gX8_text_X8_needs rfl rfl rfl (by decide +kernel) ⟨Nat.le_of_ble_eq_true rfl, Nat.le_of_ble_eq_true rfl⟩), List.forall_mem_cons.mpr ⟨ycal_V hX (m_X8_next hX hN l) rfl (fun s args hts => cwV 0 hts gX8_text_X8_next rfl rfl rfl (by decide +kernel) ⟨Nat.le_of_ble_eq_true rfl, Nat.le_of_ble_eq_true rfl⟩), List.forall_mem_cons.mpr ⟨ycal_V hX (m_X8_readLine hX hN l) rfl (fun s args hts => cwV 0 hts gX8_text_X8_readLine rfl rfl rfl (by decide +kernel) ⟨Nat.le_of_ble_eq_true rfl, Nat.le_of_ble_eq_true rfl⟩), fun _ h => absurd h List.not_mem_nil⟩⟩⟩⟩⟩)
    (fun _ h => absurd h List.not_mem_nil)
    (zmm_all (fun _ h => absurd h List.not_mem_nil)) (fun _ h => absurd h List.not_mem_nil) (zpr_all hp_X8_text) (fun as σ res h => by
      unfold F_X8_text at h
      split at h
      · cases hr : f_X8_text N σ with
        | none => rw [hr] at h; cases h
        | some r =>
          rw [hr] at h
          cases h
          exact ⟨Nat.le_of_ble_eq_true rfl, t_X8_text σ r hr⟩
      · cases h)
noncomputable def pr_X8_torn : List (Nat × Instr × Nat) := [(0, .aload_n 0, 1), (1, .getfield 330, 3), (4, .ireturn, 1)]
set_option maxRecDepth 100000 in
theorem hp_X8_torn : pr_X8_torn.all (fun x => decide (decode cX8_torn x.1 = .ok x.2)) = true := by decide +kernel
noncomputable def f_X8_torn (N : Nat) (σ : yS) : Option (Int × yS) :=
  some (σ.1 0 32, σ)
noncomputable def F_X8_torn (N : Nat) : yF := fun as σ => match as with
  | [.inr (.inl 8, 0)] => (f_X8_torn N σ).map (fun r => (some (.inl (.inl r.1)), r.2))
  | _ => none
theorem e_X8_torn {N : Nat} {σ : yS} {r : Int × yS} (h : f_X8_torn N σ = some r) : F_X8_torn N [.inr (.inl 8, 0)] σ = some (some (.inl (.inl r.1)), r.2) := by
  show (f_X8_torn N σ).map (fun r => ((some (.inl (.inl r.1)), r.2) : yR)) = _
  rw [h]
  rfl
noncomputable def tb_X8_torn (N : Nat) : yTb := ([(330, 8, 32, 0)], [], [], [], [], [], [])
abbrev G_X8_torn (N : Nat) (X : zXT) (sh : List yH) (l : Launch) (rm : Room) : yC → yR → Prop := yGoes X vwCl yct sh l rm cX8_torn 1 wsX8_torn RX8 (tb_X8_torn N) pr_X8_torn 1
set_option maxRecDepth 100000 in
set_option maxHeartbeats 4000000 in
theorem t_X8_torn {N : Nat} {X : zXT} {sh : List yH} {l : Launch} {rm : Room} (σ : yS) (res : Int × yS) (h : f_X8_torn N σ = some res) : G_X8_torn N X sh l rm (0, [(0, .inr (.inl 8, 0))], [], σ) (some (.inl (.inl res.1)), res.2) := by
  unfold f_X8_torn at h
  refine yG_n (n := 2) (C' := (4, [(0, .inr (.inl 8, 0))], [.inl (.inl (σ.1 0 32))], σ)) rfl ?_
  have h := Option.some.inj h
  subst h
  dsimp only
  exact yG_r rfl rfl
set_option maxRecDepth 100000 in
set_option maxHeartbeats 4000000 in
theorem m_X8_torn {N : Nat} {X : zXT} (hX : zXok X) (hN : zXn X) (l : Launch) {sh : List yH} : yMet X vwCl yct sh l yX8_torn wsX8_torn { frames := 1, cells := 0, slots := 0, locals := 64 } (F_X8_torn N) :=
  ymeth (tb := tb_X8_torn N) (pr := pr_X8_torn) (rt := 1) (own := RX8) hX (by decide +kernel) rfl rfl ⟨Nat.le_of_ble_eq_true rfl, Nat.le_of_ble_eq_true rfl⟩
    (zfl_all (List.forall_mem_cons.mpr ⟨zfl_X8 (fun w h => List.mem_cons_of_mem _ (List.mem_append_right _ h)) (List.mem_of_getElem? (i := 1) rfl) (by decide) (by decide), fun _ h => absurd h List.not_mem_nil⟩))
    (zco_all (fun _ h => absurd h List.not_mem_nil)) (zlc_all (fun _ h => absurd h List.not_mem_nil))
    (fun _ h => absurd h List.not_mem_nil)
    (fun _ h => absurd h List.not_mem_nil)
    (zmm_all (fun _ h => absurd h List.not_mem_nil)) (fun _ h => absurd h List.not_mem_nil) (zpr_all hp_X8_torn) (fun as σ res h => by
      unfold F_X8_torn at h
      split at h
      · cases hr : f_X8_torn N σ with
        | none => rw [hr] at h; cases h
        | some r =>
          rw [hr] at h
          cases h
          exact ⟨Nat.le_of_ble_eq_true rfl, t_X8_torn σ r hr⟩
      · cases h)
noncomputable def pr_X8_vow : List (Nat × Instr × Nat) := [(0, .iload_n 1, 1), (1, .i2l, 1), (2, .lconst 0, 1), (3, .aload_n 0, 1), (4, .getfield 7, 3), (7, .bipush 77, 2), (9, .iaload, 1), (10, .iconst 1, 1), (11, .isub, 1), (12, .i2l, 1), (13, .invokestatic 90, 3), (16, .ifCond .eq 31, 3), (19, .iload_n 2, 1), (20, .i2l, 1), (21, .lconst 0, 1), (22, .ldc2_w 195, 3), (25, .invokestatic 90, 3), (28, .ifCond .eq 19, 3), (31, .aload_n 0, 1), (32, .getfield 7, 3), (35, .bipush 78, 2), (37, .iconst 4, 1), (38, .iload_n 1, 1), (39, .imul, 1), (40, .iadd, 1), (41, .iload_n 2, 1), (42, .iadd, 1), (43, .iaload, 1), (44, .goto 4, 3), (47, .iconst (-1), 1), (48, .ireturn, 1)]
set_option maxRecDepth 100000 in
theorem hp_X8_vow : pr_X8_vow.all (fun x => decide (decode cX8_vow x.1 = .ok x.2)) = true := by decide +kernel
noncomputable def f_X8_vow_b48 (N : Nat) (σ : yS) (s0 : Int) : Option (Int × yS) :=
  some (s0, σ)
noncomputable def f_X8_vow_b47 (N : Nat) (σ : yS) : Option (Int × yS) :=
  f_X8_vow_b48 N σ ((-1))
noncomputable def f_X8_vow (N : Nat) (σ : yS) (x1 : Int) (x2 : Int) : Option (Int × yS) :=
  match f_X8_in N σ x1 0 (ysu (σ.1 1 77) 1) with
  | none => none
  | some r1 => bif ycP .eq r1.1 0 then
      f_X8_vow_b47 N r1.2
    else
      match f_X8_in N r1.2 x2 0 3 with
      | none => none
      | some r2 => bif ycP .eq r2.1 0 then
          f_X8_vow_b47 N r2.2
        else
          bif yin (yad (yad 78 (ymu 4 x1)) x2) 393 then
            f_X8_vow_b48 N r2.2 (r2.2.1 1 (yad (yad 78 (ymu 4 x1)) x2).toNat)
          else none
noncomputable def F_X8_vow (N : Nat) : yF := fun as σ => match as with
  | [.inr (.inl 8, 0), .inl (.inl x1), .inl (.inl x2)] => (f_X8_vow N σ x1 x2).map (fun r => (some (.inl (.inl r.1)), r.2))
  | _ => none
theorem e_X8_vow {N : Nat} {σ : yS} {x1 : Int} {x2 : Int} {r : Int × yS} (h : f_X8_vow N σ x1 x2 = some r) : F_X8_vow N [.inr (.inl 8, 0), .inl (.inl x1), .inl (.inl x2)] σ = some (some (.inl (.inl r.1)), r.2) := by
  show (f_X8_vow N σ x1 x2).map (fun r => ((some (.inl (.inl r.1)), r.2) : yR)) = _
  rw [h]
  rfl
noncomputable def tb_X8_vow (N : Nat) : yTb := ([(7, 8, 0, 3)], [], [(195, 3)], [], [(90, 3, F_X8_in N)], [], [])
abbrev G_X8_vow (N : Nat) (X : zXT) (sh : List yH) (l : Launch) (rm : Room) : yC → yR → Prop := yGoes X vwCl yct sh l rm cX8_vow 3 wsX8_vow RX8 (tb_X8_vow N) pr_X8_vow 1
set_option maxRecDepth 100000 in
set_option maxHeartbeats 4000000 in
theorem t_X8_vow_b48 {N : Nat} {X : zXT} {sh : List yH} {l : Launch} {rm : Room} (σ : yS) (s0 : Int) (res : Int × yS) (h : f_X8_vow_b48 N σ s0 = some res) : G_X8_vow N X sh l rm (48, [], [.inl (.inl s0)], σ) (some (.inl (.inl res.1)), res.2) := by
  unfold f_X8_vow_b48 at h
  have h := Option.some.inj h
  subst h
  dsimp only
  exact yG_r rfl rfl
set_option maxRecDepth 100000 in
set_option maxHeartbeats 4000000 in
theorem t_X8_vow_b47 {N : Nat} {X : zXT} {sh : List yH} {l : Launch} {rm : Room} (σ : yS) (res : Int × yS) (h : f_X8_vow_b47 N σ = some res) : G_X8_vow N X sh l rm (47, [], [], σ) (some (.inl (.inl res.1)), res.2) := by
  unfold f_X8_vow_b47 at h
  refine yG_n (n := 1) (C' := (48, [], [.inl (.inl ((-1)))], σ)) rfl ?_
  exact t_X8_vow_b48 σ ((-1)) res h
set_option maxRecDepth 100000 in
set_option maxHeartbeats 4000000 in
theorem t_X8_vow {N : Nat} {X : zXT} {sh : List yH} {l : Launch} {rm : Room} (σ : yS) (x1 : Int) (x2 : Int) (res : Int × yS) (h : f_X8_vow N σ x1 x2 = some res) : G_X8_vow N X sh l rm (0, [(0, .inr (.inl 8, 0)), (1, .inl (.inl x1)), (2, .inl (.inl x2))], [], σ) (some (.inl (.inl res.1)), res.2) := by
  unfold f_X8_vow at h
  refine yG_n (n := 10) (C' := (13, [(0, .inr (.inl 8, 0)), (1, .inl (.inl x1)), (2, .inl (.inl x2))], [.inl (.inr (ysu (σ.1 1 77) 1)), .inl (.inr 0), .inl (.inr x1)], σ)) rfl ?_
  cases hr1 : f_X8_in N σ x1 0 (ysu (σ.1 1 77) 1) with
  | none => rw [hr1] at h; dsimp only at h; cases h
  | some r1 =>
    rw [hr1] at h
    dsimp only at h
    refine yG_c (C1 := (16, [(0, .inr (.inl 8, 0)), (1, .inl (.inl x1)), (2, .inl (.inl x2))], [.inl (.inl r1.1)], r1.2)) rfl (e_X8_in hr1) rfl ?_
    cases hg2 : ycP .eq r1.1 0 with
    | true =>
      rw [hg2] at h
      dsimp only [cond] at h
      refine yG_t (C' := (47, [(0, .inr (.inl 8, 0)), (1, .inl (.inl x1)), (2, .inl (.inl x2))], [], r1.2)) rfl hg2 ?_
      exact yG_w [] rfl (t_X8_vow_b47 r1.2 res h)
    | false =>
      rw [hg2] at h
      dsimp only [cond] at h
      refine yG_f (C' := (19, [(0, .inr (.inl 8, 0)), (1, .inl (.inl x1)), (2, .inl (.inl x2))], [], r1.2)) rfl hg2 ?_
      refine yG_n (n := 4) (C' := (25, [(0, .inr (.inl 8, 0)), (1, .inl (.inl x1)), (2, .inl (.inl x2))], [.inl (.inr 3), .inl (.inr 0), .inl (.inr x2)], r1.2)) rfl ?_
      cases hr3 : f_X8_in N r1.2 x2 0 3 with
      | none => rw [hr3] at h; dsimp only at h; cases h
      | some r2 =>
        rw [hr3] at h
        dsimp only at h
        refine yG_c (C1 := (28, [(0, .inr (.inl 8, 0)), (1, .inl (.inl x1)), (2, .inl (.inl x2))], [.inl (.inl r2.1)], r2.2)) rfl (e_X8_in hr3) rfl ?_
        cases hg4 : ycP .eq r2.1 0 with
        | true =>
          rw [hg4] at h
          dsimp only [cond] at h
          refine yG_t (C' := (47, [(0, .inr (.inl 8, 0)), (1, .inl (.inl x1)), (2, .inl (.inl x2))], [], r2.2)) rfl hg4 ?_
          exact yG_w [] rfl (t_X8_vow_b47 r2.2 res h)
        | false =>
          rw [hg4] at h
          dsimp only [cond] at h
          refine yG_f (C' := (31, [(0, .inr (.inl 8, 0)), (1, .inl (.inl x1)), (2, .inl (.inl x2))], [], r2.2)) rfl hg4 ?_
          refine yG_n (n := 9) (C' := (43, [(0, .inr (.inl 8, 0)), (1, .inl (.inl x1)), (2, .inl (.inl x2))], [.inl (.inl (yad (yad 78 (ymu 4 x1)) x2)), .inr (.inr (0, 393), 1)], r2.2)) rfl ?_
          cases hg5 : yin (yad (yad 78 (ymu 4 x1)) x2) 393 with
          | false => rw [hg5] at h; dsimp only [cond] at h; cases h
          | true =>
            rw [hg5] at h
            dsimp only [cond] at h
            refine yG_t (C' := (44, [(0, .inr (.inl 8, 0)), (1, .inl (.inl x1)), (2, .inl (.inl x2))], [.inl (.inl (r2.2.1 1 (yad (yad 78 (ymu 4 x1)) x2).toNat))], r2.2)) rfl hg5 ?_
            refine yG_n (n := 1) (C' := (48, [(0, .inr (.inl 8, 0)), (1, .inl (.inl x1)), (2, .inl (.inl x2))], [.inl (.inl (r2.2.1 1 (yad (yad 78 (ymu 4 x1)) x2).toNat))], r2.2)) rfl ?_
            exact yG_w [] rfl (t_X8_vow_b48 r2.2 (r2.2.1 1 (yad (yad 78 (ymu 4 x1)) x2).toNat) res h)
set_option maxRecDepth 100000 in
set_option maxHeartbeats 4000000 in
theorem m_X8_vow {N : Nat} {X : zXT} (hX : zXok X) (hN : zXn X) (l : Launch) {sh : List yH} : yMet X vwCl yct sh l yX8_vow wsX8_vow { frames := 2, cells := 0, slots := 0, locals := 89 } (F_X8_vow N) :=
  ymeth (tb := tb_X8_vow N) (pr := pr_X8_vow) (rt := 1) (own := RX8) hX (by decide +kernel) rfl rfl ⟨Nat.le_of_ble_eq_true rfl, Nat.le_of_ble_eq_true rfl⟩
    (zfl_all (List.forall_mem_cons.mpr ⟨zfl_X8 (fun w h => List.mem_cons_of_mem _ (List.mem_append_right _ h)) (List.mem_of_getElem? (i := 1) rfl) (by decide) (by decide), fun _ h => absurd h List.not_mem_nil⟩))
    (zco_all (fun _ h => absurd h List.not_mem_nil)) (zlc_all (List.forall_mem_cons.mpr ⟨(List.mem_of_getElem? (i := 2) rfl), fun _ h => absurd h List.not_mem_nil⟩))
    (fun _ h => absurd h List.not_mem_nil)
    (List.forall_mem_cons.mpr ⟨ycal_S hX (m_X8_in hX hN l) (fun s args hts => va_cwS 3 hts gX8_vow_X8_in rfl rfl rfl (by decide +kernel) ⟨Nat.le_of_ble_eq_true rfl, Nat.le_of_ble_eq_true rfl⟩), fun _ h => absurd h List.not_mem_nil⟩)
    (zmm_all (fun _ h => absurd h List.not_mem_nil)) (fun _ h => absurd h List.not_mem_nil) (zpr_all hp_X8_vow) (fun as σ res h => by
      unfold F_X8_vow at h
      split at h
      · rename_i x1 x2
        cases hr : f_X8_vow N σ x1 x2 with
        | none => rw [hr] at h; cases h
        | some r =>
          rw [hr] at h
          cases h
          exact ⟨Nat.le_of_ble_eq_true rfl, t_X8_vow σ x1 x2 r hr⟩
      · cases h)
noncomputable def pr_X8_want : List (Nat × Instr × Nat) := [(0, .iload_n 1, 1), (1, .i2l, 1), (2, .lconst 0, 1), (3, .aload_n 0, 1), (4, .getfield 7, 3), (7, .bipush 118, 2), (9, .iaload, 1), (10, .iconst 1, 1), (11, .isub, 1), (12, .i2l, 1), (13, .invokestatic 90, 3), (16, .ifCond .eq 29, 3), (19, .iload_n 2, 1), (20, .i2l, 1), (21, .lconst 0, 1), (22, .lconst 1, 1), (23, .invokestatic 90, 3), (26, .ifCond .eq 19, 3), (29, .aload_n 0, 1), (30, .getfield 7, 3), (33, .bipush 119, 2), (35, .iconst 2, 1), (36, .iload_n 1, 1), (37, .imul, 1), (38, .iadd, 1), (39, .iload_n 2, 1), (40, .iadd, 1), (41, .iaload, 1), (42, .goto 4, 3), (45, .iconst (-1), 1), (46, .ireturn, 1)]
set_option maxRecDepth 100000 in
theorem hp_X8_want : pr_X8_want.all (fun x => decide (decode cX8_want x.1 = .ok x.2)) = true := by decide +kernel
noncomputable def f_X8_want_b46 (N : Nat) (σ : yS) (s0 : Int) : Option (Int × yS) :=
  some (s0, σ)
noncomputable def f_X8_want_b45 (N : Nat) (σ : yS) : Option (Int × yS) :=
  f_X8_want_b46 N σ ((-1))
noncomputable def f_X8_want (N : Nat) (σ : yS) (x1 : Int) (x2 : Int) : Option (Int × yS) :=
  match f_X8_in N σ x1 0 (ysu (σ.1 1 118) 1) with
  | none => none
  | some r1 => bif ycP .eq r1.1 0 then
      f_X8_want_b45 N r1.2
    else
      match f_X8_in N r1.2 x2 0 1 with
      | none => none
      | some r2 => bif ycP .eq r2.1 0 then
          f_X8_want_b45 N r2.2
        else
          bif yin (yad (yad 119 (ymu 2 x1)) x2) 393 then
            f_X8_want_b46 N r2.2 (r2.2.1 1 (yad (yad 119 (ymu 2 x1)) x2).toNat)
          else none
noncomputable def F_X8_want (N : Nat) : yF := fun as σ => match as with
  | [.inr (.inl 8, 0), .inl (.inl x1), .inl (.inl x2)] => (f_X8_want N σ x1 x2).map (fun r => (some (.inl (.inl r.1)), r.2))
  | _ => none
theorem e_X8_want {N : Nat} {σ : yS} {x1 : Int} {x2 : Int} {r : Int × yS} (h : f_X8_want N σ x1 x2 = some r) : F_X8_want N [.inr (.inl 8, 0), .inl (.inl x1), .inl (.inl x2)] σ = some (some (.inl (.inl r.1)), r.2) := by
  show (f_X8_want N σ x1 x2).map (fun r => ((some (.inl (.inl r.1)), r.2) : yR)) = _
  rw [h]
  rfl
noncomputable def tb_X8_want (N : Nat) : yTb := ([(7, 8, 0, 3)], [], [], [], [(90, 3, F_X8_in N)], [], [])
abbrev G_X8_want (N : Nat) (X : zXT) (sh : List yH) (l : Launch) (rm : Room) : yC → yR → Prop := yGoes X vwCl yct sh l rm cX8_want 3 wsX8_want RX8 (tb_X8_want N) pr_X8_want 1
set_option maxRecDepth 100000 in
set_option maxHeartbeats 4000000 in
theorem t_X8_want_b46 {N : Nat} {X : zXT} {sh : List yH} {l : Launch} {rm : Room} (σ : yS) (s0 : Int) (res : Int × yS) (h : f_X8_want_b46 N σ s0 = some res) : G_X8_want N X sh l rm (46, [], [.inl (.inl s0)], σ) (some (.inl (.inl res.1)), res.2) := by
  unfold f_X8_want_b46 at h
  have h := Option.some.inj h
  subst h
  dsimp only
  exact yG_r rfl rfl
set_option maxRecDepth 100000 in
set_option maxHeartbeats 4000000 in
theorem t_X8_want_b45 {N : Nat} {X : zXT} {sh : List yH} {l : Launch} {rm : Room} (σ : yS) (res : Int × yS) (h : f_X8_want_b45 N σ = some res) : G_X8_want N X sh l rm (45, [], [], σ) (some (.inl (.inl res.1)), res.2) := by
  unfold f_X8_want_b45 at h
  refine yG_n (n := 1) (C' := (46, [], [.inl (.inl ((-1)))], σ)) rfl ?_
  exact t_X8_want_b46 σ ((-1)) res h
set_option maxRecDepth 100000 in
set_option maxHeartbeats 4000000 in
theorem t_X8_want {N : Nat} {X : zXT} {sh : List yH} {l : Launch} {rm : Room} (σ : yS) (x1 : Int) (x2 : Int) (res : Int × yS) (h : f_X8_want N σ x1 x2 = some res) : G_X8_want N X sh l rm (0, [(0, .inr (.inl 8, 0)), (1, .inl (.inl x1)), (2, .inl (.inl x2))], [], σ) (some (.inl (.inl res.1)), res.2) := by
  unfold f_X8_want at h
  refine yG_n (n := 10) (C' := (13, [(0, .inr (.inl 8, 0)), (1, .inl (.inl x1)), (2, .inl (.inl x2))], [.inl (.inr (ysu (σ.1 1 118) 1)), .inl (.inr 0), .inl (.inr x1)], σ)) rfl ?_
  cases hr1 : f_X8_in N σ x1 0 (ysu (σ.1 1 118) 1) with
  | none => rw [hr1] at h; dsimp only at h; cases h
  | some r1 =>
    rw [hr1] at h
    dsimp only at h
    refine yG_c (C1 := (16, [(0, .inr (.inl 8, 0)), (1, .inl (.inl x1)), (2, .inl (.inl x2))], [.inl (.inl r1.1)], r1.2)) rfl (e_X8_in hr1) rfl ?_
    cases hg2 : ycP .eq r1.1 0 with
    | true =>
      rw [hg2] at h
      dsimp only [cond] at h
      refine yG_t (C' := (45, [(0, .inr (.inl 8, 0)), (1, .inl (.inl x1)), (2, .inl (.inl x2))], [], r1.2)) rfl hg2 ?_
      exact yG_w [] rfl (t_X8_want_b45 r1.2 res h)
    | false =>
      rw [hg2] at h
      dsimp only [cond] at h
      refine yG_f (C' := (19, [(0, .inr (.inl 8, 0)), (1, .inl (.inl x1)), (2, .inl (.inl x2))], [], r1.2)) rfl hg2 ?_
      refine yG_n (n := 4) (C' := (23, [(0, .inr (.inl 8, 0)), (1, .inl (.inl x1)), (2, .inl (.inl x2))], [.inl (.inr 1), .inl (.inr 0), .inl (.inr x2)], r1.2)) rfl ?_
      cases hr3 : f_X8_in N r1.2 x2 0 1 with
      | none => rw [hr3] at h; dsimp only at h; cases h
      | some r2 =>
        rw [hr3] at h
        dsimp only at h
        refine yG_c (C1 := (26, [(0, .inr (.inl 8, 0)), (1, .inl (.inl x1)), (2, .inl (.inl x2))], [.inl (.inl r2.1)], r2.2)) rfl (e_X8_in hr3) rfl ?_
        cases hg4 : ycP .eq r2.1 0 with
        | true =>
          rw [hg4] at h
          dsimp only [cond] at h
          refine yG_t (C' := (45, [(0, .inr (.inl 8, 0)), (1, .inl (.inl x1)), (2, .inl (.inl x2))], [], r2.2)) rfl hg4 ?_
          exact yG_w [] rfl (t_X8_want_b45 r2.2 res h)
        | false =>
          rw [hg4] at h
          dsimp only [cond] at h
          refine yG_f (C' := (29, [(0, .inr (.inl 8, 0)), (1, .inl (.inl x1)), (2, .inl (.inl x2))], [], r2.2)) rfl hg4 ?_
          refine yG_n (n := 9) (C' := (41, [(0, .inr (.inl 8, 0)), (1, .inl (.inl x1)), (2, .inl (.inl x2))], [.inl (.inl (yad (yad 119 (ymu 2 x1)) x2)), .inr (.inr (0, 393), 1)], r2.2)) rfl ?_
          cases hg5 : yin (yad (yad 119 (ymu 2 x1)) x2) 393 with
          | false => rw [hg5] at h; dsimp only [cond] at h; cases h
          | true =>
            rw [hg5] at h
            dsimp only [cond] at h
            refine yG_t (C' := (42, [(0, .inr (.inl 8, 0)), (1, .inl (.inl x1)), (2, .inl (.inl x2))], [.inl (.inl (r2.2.1 1 (yad (yad 119 (ymu 2 x1)) x2).toNat))], r2.2)) rfl hg5 ?_
            refine yG_n (n := 1) (C' := (46, [(0, .inr (.inl 8, 0)), (1, .inl (.inl x1)), (2, .inl (.inl x2))], [.inl (.inl (r2.2.1 1 (yad (yad 119 (ymu 2 x1)) x2).toNat))], r2.2)) rfl ?_
            exact yG_w [] rfl (t_X8_want_b46 r2.2 (r2.2.1 1 (yad (yad 119 (ymu 2 x1)) x2).toNat) res h)
set_option maxRecDepth 100000 in
set_option maxHeartbeats 4000000 in
theorem m_X8_want {N : Nat} {X : zXT} (hX : zXok X) (hN : zXn X) (l : Launch) {sh : List yH} : yMet X vwCl yct sh l yX8_want wsX8_want { frames := 2, cells := 0, slots := 0, locals := 89 } (F_X8_want N) :=
  ymeth (tb := tb_X8_want N) (pr := pr_X8_want) (rt := 1) (own := RX8) hX (by decide +kernel) rfl rfl ⟨Nat.le_of_ble_eq_true rfl, Nat.le_of_ble_eq_true rfl⟩
    (zfl_all (List.forall_mem_cons.mpr ⟨zfl_X8 (fun w h => List.mem_cons_of_mem _ (List.mem_append_right _ h)) (List.mem_of_getElem? (i := 1) rfl) (by decide) (by decide), fun _ h => absurd h List.not_mem_nil⟩))
    (zco_all (fun _ h => absurd h List.not_mem_nil)) (zlc_all (fun _ h => absurd h List.not_mem_nil))
    (fun _ h => absurd h List.not_mem_nil)
    (List.forall_mem_cons.mpr ⟨ycal_S hX (m_X8_in hX hN l) (fun s args hts => va_cwS 3 hts gX8_want_X8_in rfl rfl rfl (by decide +kernel) ⟨Nat.le_of_ble_eq_true rfl, Nat.le_of_ble_eq_true rfl⟩), fun _ h => absurd h List.not_mem_nil⟩)
    (zmm_all (fun _ h => absurd h List.not_mem_nil)) (fun _ h => absurd h List.not_mem_nil) (zpr_all hp_X8_want) (fun as σ res h => by
      unfold F_X8_want at h
      split at h
      · rename_i x1 x2
        cases hr : f_X8_want N σ x1 x2 with
        | none => rw [hr] at h; cases h
        | some r =>
          rw [hr] at h
          cases h
          exact ⟨Nat.le_of_ble_eq_true rfl, t_X8_want σ x1 x2 r hr⟩
      · cases h)
