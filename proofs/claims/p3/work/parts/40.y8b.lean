noncomputable def pr_X8_daysAll : List (Nat × Instr × Nat) := [(0, .aload_n 0, 1), (1, .iconst 0, 1), (2, .putfield 239, 3), (5, .iconst 0, 1), (6, .istore_n 2, 1), (7, .iload_n 2, 1), (8, .iload_n 1, 1), (9, .if_icmp .ge 13, 3), (12, .aload_n 0, 1), (13, .invokevirtual 261, 3), (16, .iinc 2 1, 3), (19, .goto (-12), 3), (22, .return_, 1)]
set_option maxRecDepth 100000 in
theorem hp_X8_daysAll : pr_X8_daysAll.all (fun x => decide (decode cX8_daysAll x.1 = .ok x.2)) = true := by decide +kernel
noncomputable def f_X8_daysAll_b7 (N : Nat) : Nat → yS → Int → Int → Option (Int × yS) := yfix (fun _ _ _ => none) (fun ih σ x1 x2 =>
    bif ycP .ge x2 x1 then
      some (0, σ)
    else
      match f_X8_days N σ with
      | none => none
      | some r1 => ih r1.2 x1 (yad x2 1))
theorem q_X8_daysAll_b7 (N : Nat) (n : Nat) (σ : yS) (x1 : Int) (x2 : Int) : f_X8_daysAll_b7 N (n + 1) σ x1 x2 =
    (bif ycP .ge x2 x1 then
      some (0, σ)
    else
      match f_X8_days N σ with
      | none => none
      | some r1 => (f_X8_daysAll_b7 N n) r1.2 x1 (yad x2 1)) := rfl
noncomputable def f_X8_daysAll (N : Nat) (σ : yS) (x1 : Int) : Option (Int × yS) :=
  f_X8_daysAll_b7 N N (yw σ 0 26 0) x1 0
noncomputable def F_X8_daysAll (N : Nat) : yF := fun as σ => match as with
  | [.inr (.inl 8, 0), .inl (.inl x1)] => (f_X8_daysAll N σ x1).map (fun r => (none, r.2))
  | _ => none
theorem e_X8_daysAll {N : Nat} {σ : yS} {x1 : Int} {r : Int × yS} (h : f_X8_daysAll N σ x1 = some r) : F_X8_daysAll N [.inr (.inl 8, 0), .inl (.inl x1)] σ = some (none, r.2) := by
  show (f_X8_daysAll N σ x1).map (fun r => ((none, r.2) : yR)) = _
  rw [h]
  rfl
noncomputable def tb_X8_daysAll (N : Nat) : yTb := ([(239, 8, 26, 0)], [], [], [(261, 1, 8, F_X8_days N)], [], [], [])
abbrev G_X8_daysAll (N : Nat) (X : zXT) (sh : List yH) (l : Launch) (rm : Room) : yC → yR → Prop := yGoes X vwCl yct sh l rm cX8_daysAll 3 wsX8_daysAll RX8 (tb_X8_daysAll N) pr_X8_daysAll 0
set_option maxRecDepth 100000 in
set_option maxHeartbeats 4000000 in
theorem t_X8_daysAll_b7 {N : Nat} {X : zXT} {sh : List yH} {l : Launch} {rm : Room} : ∀ (n : Nat) (σ : yS) (x1 : Int) (x2 : Int) (res : Int × yS), f_X8_daysAll_b7 N n σ x1 x2 = some res → G_X8_daysAll N X sh l rm (7, [(0, .inr (.inl 8, 0)), (1, .inl (.inl x1)), (2, .inl (.inl x2))], [], σ) (none, res.2) := by
  intro n
  induction n with
  | zero => intro σ x1 x2 res h; exact (yno h).elim
  | succ n ih =>
    intro σ x1 x2 res h
    rw [q_X8_daysAll_b7] at h
    refine yG_n (n := 2) (C' := (9, [(0, .inr (.inl 8, 0)), (1, .inl (.inl x1)), (2, .inl (.inl x2))], [.inl (.inl x1), .inl (.inl x2)], σ)) rfl ?_
    cases hg1 : ycP .ge x2 x1 with
    | true =>
      rw [hg1] at h
      dsimp only [cond] at h
      refine yG_t (C' := (22, [(0, .inr (.inl 8, 0)), (1, .inl (.inl x1)), (2, .inl (.inl x2))], [], σ)) rfl hg1 ?_
      have h := Option.some.inj h
      subst h
      dsimp only
      exact yG_r rfl rfl
    | false =>
      rw [hg1] at h
      dsimp only [cond] at h
      refine yG_f (C' := (12, [(0, .inr (.inl 8, 0)), (1, .inl (.inl x1)), (2, .inl (.inl x2))], [], σ)) rfl hg1 ?_
      refine yG_n (n := 1) (C' := (13, [(0, .inr (.inl 8, 0)), (1, .inl (.inl x1)), (2, .inl (.inl x2))], [.inr (.inl 8, 0)], σ)) rfl ?_
      cases hr2 : f_X8_days N σ with
      | none => rw [hr2] at h; dsimp only at h; cases h
      | some r1 =>
        rw [hr2] at h
        dsimp only at h
        refine yG_c (C1 := (16, [(0, .inr (.inl 8, 0)), (1, .inl (.inl x1)), (2, .inl (.inl x2))], [], r1.2)) rfl (e_X8_days hr2) rfl ?_
        refine yG_n (n := 2) (C' := (7, [(2, .inl (.inl (yad x2 1))), (0, .inr (.inl 8, 0)), (1, .inl (.inl x1))], [], r1.2)) rfl ?_
        exact yG_w [1, 2, 0] rfl (ih r1.2 x1 (yad x2 1) res h)
set_option maxRecDepth 100000 in
set_option maxHeartbeats 4000000 in
theorem t_X8_daysAll {N : Nat} {X : zXT} {sh : List yH} {l : Launch} {rm : Room} (σ : yS) (x1 : Int) (res : Int × yS) (h : f_X8_daysAll N σ x1 = some res) : G_X8_daysAll N X sh l rm (0, [(0, .inr (.inl 8, 0)), (1, .inl (.inl x1))], [], σ) (none, res.2) := by
  unfold f_X8_daysAll at h
  refine yG_n (n := 5) (C' := (7, [(2, .inl (.inl 0)), (0, .inr (.inl 8, 0)), (1, .inl (.inl x1))], [], yw σ 0 26 0)) rfl ?_
  exact yG_w [1, 2, 0] rfl (t_X8_daysAll_b7 N (yw σ 0 26 0) x1 0 res h)
set_option maxRecDepth 100000 in
set_option maxHeartbeats 4000000 in
theorem m_X8_daysAll {N : Nat} {X : zXT} (hX : zXok X) (hN : zXn X) (l : Launch) {sh : List yH} : yMet X vwCl yct sh l yX8_daysAll wsX8_daysAll { frames := 5, cells := 0, slots := 0, locals := 155 } (F_X8_daysAll N) :=
  ymeth (tb := tb_X8_daysAll N) (pr := pr_X8_daysAll) (rt := 0) (own := RX8) hX (by decide +kernel) rfl rfl ⟨Nat.le_of_ble_eq_true rfl, Nat.le_of_ble_eq_true rfl⟩
    (zfl_all (List.forall_mem_cons.mpr ⟨zfl_X8 (fun w h => List.mem_cons_of_mem _ (List.mem_append_right _ h)) (List.mem_of_getElem? (i := 1) rfl) (by decide) (by decide), fun _ h => absurd h List.not_mem_nil⟩))
    (zco_all (fun _ h => absurd h List.not_mem_nil)) (zlc_all (fun _ h => absurd h List.not_mem_nil))
    (List.forall_mem_cons.mpr ⟨ycal_V hX (m_X8_days hX hN l) rfl (fun s args hts => cwV 0 hts gX8_daysAll_X8_days rfl rfl rfl (by decide +kernel) ⟨Nat.le_of_ble_eq_true rfl, Nat.le_of_ble_eq_true rfl⟩), fun _ h => absurd h List.not_mem_nil⟩)
    (fun _ h => absurd h List.not_mem_nil)
    (zmm_all (fun _ h => absurd h List.not_mem_nil)) (fun _ h => absurd h List.not_mem_nil) (zpr_all hp_X8_daysAll) (fun as σ res h => by
      unfold F_X8_daysAll at h
      split at h
      · rename_i x1
        cases hr : f_X8_daysAll N σ x1 with
        | none => rw [hr] at h; cases h
        | some r =>
          rw [hr] at h
          cases h
          exact ⟨Nat.le_of_ble_eq_true rfl, t_X8_daysAll σ x1 r hr⟩
      · cases h)
noncomputable def pr_X8_ahead : List (Nat × Instr × Nat) := [(0, .aload_n 0, 1), (1, .iload_n 1, 1), (2, .invokevirtual 205, 3), (5, .ifCond .eq 23, 3), (8, .aload_n 0, 1), (9, .iload_n 2, 1), (10, .invokevirtual 209, 3), (13, .ifCond .eq 15, 3), (16, .iload_n 3, 1), (17, .i2l, 1), (18, .lconst 0, 1), (19, .ldc2_w 264, 3), (22, .invokestatic 90, 3), (25, .ifCond .ne 5, 3), (28, .iconst (-1), 1), (29, .ireturn, 1), (30, .aload_n 0, 1), (31, .invokevirtual 266, 3), (34, .aload_n 0, 1), (35, .iload_n 3, 1), (36, .invokevirtual 269, 3), (39, .aload_n 0, 1), (40, .getfield 13, 3), (43, .bipush 42, 2), (45, .iconst 5, 1), (46, .iload_n 1, 1), (47, .imul, 1), (48, .iadd, 1), (49, .iload_n 2, 1), (50, .iadd, 1), (51, .iaload, 1), (52, .ireturn, 1)]
set_option maxRecDepth 100000 in
theorem hp_X8_ahead : pr_X8_ahead.all (fun x => decide (decode cX8_ahead x.1 = .ok x.2)) = true := by decide +kernel
noncomputable def f_X8_ahead_b28 (N : Nat) (σ : yS) : Option (Int × yS) :=
  some ((-1), σ)
noncomputable def f_X8_ahead (N : Nat) (σ : yS) (x1 : Int) (x2 : Int) (x3 : Int) : Option (Int × yS) :=
  match f_X8_isHouse N σ x1 with
  | none => none
  | some r1 => bif ycP .eq r1.1 0 then
      f_X8_ahead_b28 N r1.2
    else
      match f_X8_isDeed N r1.2 x2 with
      | none => none
      | some r2 => bif ycP .eq r2.1 0 then
          f_X8_ahead_b28 N r2.2
        else
          match f_X8_in N r2.2 x3 0 60 with
          | none => none
          | some r3 => bif ycP .ne r3.1 0 then
              match f_X8_starts N r3.2 with
              | none => none
              | some r4 => match f_X8_daysAll N r4.2 x3 with
                | none => none
                | some r5 => bif yin (yad (yad 42 (ymu 5 x1)) x2) 131 then
                    some (r5.2.1 2 (yad (yad 42 (ymu 5 x1)) x2).toNat, r5.2)
                  else none
            else
              f_X8_ahead_b28 N r3.2
noncomputable def F_X8_ahead (N : Nat) : yF := fun as σ => match as with
  | [.inr (.inl 8, 0), .inl (.inl x1), .inl (.inl x2), .inl (.inl x3)] => (f_X8_ahead N σ x1 x2 x3).map (fun r => (some (.inl (.inl r.1)), r.2))
  | _ => none
theorem e_X8_ahead {N : Nat} {σ : yS} {x1 : Int} {x2 : Int} {x3 : Int} {r : Int × yS} (h : f_X8_ahead N σ x1 x2 x3 = some r) : F_X8_ahead N [.inr (.inl 8, 0), .inl (.inl x1), .inl (.inl x2), .inl (.inl x3)] σ = some (some (.inl (.inl r.1)), r.2) := by
  show (f_X8_ahead N σ x1 x2 x3).map (fun r => ((some (.inl (.inl r.1)), r.2) : yR)) = _
  rw [h]
  rfl
noncomputable def tb_X8_ahead (N : Nat) : yTb := ([(13, 8, 1, 3)], [], [(264, 60)], [(205, 2, 8, F_X8_isHouse N), (209, 2, 8, F_X8_isDeed N), (266, 1, 8, F_X8_starts N), (269, 2, 8, F_X8_daysAll N)], [(90, 3, F_X8_in N)], [], [])
abbrev G_X8_ahead (N : Nat) (X : zXT) (sh : List yH) (l : Launch) (rm : Room) : yC → yR → Prop := yGoes X vwCl yct sh l rm cX8_ahead 4 wsX8_ahead RX8 (tb_X8_ahead N) pr_X8_ahead 1
set_option maxRecDepth 100000 in
set_option maxHeartbeats 4000000 in
theorem t_X8_ahead_b28 {N : Nat} {X : zXT} {sh : List yH} {l : Launch} {rm : Room} (σ : yS) (res : Int × yS) (h : f_X8_ahead_b28 N σ = some res) : G_X8_ahead N X sh l rm (28, [], [], σ) (some (.inl (.inl res.1)), res.2) := by
  unfold f_X8_ahead_b28 at h
  refine yG_n (n := 1) (C' := (29, [], [.inl (.inl ((-1)))], σ)) rfl ?_
  have h := Option.some.inj h
  subst h
  dsimp only
  exact yG_r rfl rfl
set_option maxRecDepth 100000 in
set_option maxHeartbeats 4000000 in
theorem t_X8_ahead {N : Nat} {X : zXT} {sh : List yH} {l : Launch} {rm : Room} (σ : yS) (x1 : Int) (x2 : Int) (x3 : Int) (res : Int × yS) (h : f_X8_ahead N σ x1 x2 x3 = some res) : G_X8_ahead N X sh l rm (0, [(0, .inr (.inl 8, 0)), (1, .inl (.inl x1)), (2, .inl (.inl x2)), (3, .inl (.inl x3))], [], σ) (some (.inl (.inl res.1)), res.2) := by
  unfold f_X8_ahead at h
  refine yG_n (n := 2) (C' := (2, [(0, .inr (.inl 8, 0)), (1, .inl (.inl x1)), (2, .inl (.inl x2)), (3, .inl (.inl x3))], [.inl (.inl x1), .inr (.inl 8, 0)], σ)) rfl ?_
  cases hr1 : f_X8_isHouse N σ x1 with
  | none => rw [hr1] at h; dsimp only at h; cases h
  | some r1 =>
    rw [hr1] at h
    dsimp only at h
    refine yG_c (C1 := (5, [(0, .inr (.inl 8, 0)), (1, .inl (.inl x1)), (2, .inl (.inl x2)), (3, .inl (.inl x3))], [.inl (.inl r1.1)], r1.2)) rfl (e_X8_isHouse hr1) rfl ?_
    cases hg2 : ycP .eq r1.1 0 with
    | true =>
      rw [hg2] at h
      dsimp only [cond] at h
      refine yG_t (C' := (28, [(0, .inr (.inl 8, 0)), (1, .inl (.inl x1)), (2, .inl (.inl x2)), (3, .inl (.inl x3))], [], r1.2)) rfl hg2 ?_
      exact yG_w [] rfl (t_X8_ahead_b28 r1.2 res h)
    | false =>
      rw [hg2] at h
      dsimp only [cond] at h
      refine yG_f (C' := (8, [(0, .inr (.inl 8, 0)), (1, .inl (.inl x1)), (2, .inl (.inl x2)), (3, .inl (.inl x3))], [], r1.2)) rfl hg2 ?_
      refine yG_n (n := 2) (C' := (10, [(0, .inr (.inl 8, 0)), (1, .inl (.inl x1)), (2, .inl (.inl x2)), (3, .inl (.inl x3))], [.inl (.inl x2), .inr (.inl 8, 0)], r1.2)) rfl ?_
      cases hr3 : f_X8_isDeed N r1.2 x2 with
      | none => rw [hr3] at h; dsimp only at h; cases h
      | some r2 =>
        rw [hr3] at h
        dsimp only at h
        refine yG_c (C1 := (13, [(0, .inr (.inl 8, 0)), (1, .inl (.inl x1)), (2, .inl (.inl x2)), (3, .inl (.inl x3))], [.inl (.inl r2.1)], r2.2)) rfl (e_X8_isDeed hr3) rfl ?_
        cases hg4 : ycP .eq r2.1 0 with
        | true =>
          rw [hg4] at h
          dsimp only [cond] at h
          refine yG_t (C' := (28, [(0, .inr (.inl 8, 0)), (1, .inl (.inl x1)), (2, .inl (.inl x2)), (3, .inl (.inl x3))], [], r2.2)) rfl hg4 ?_
          exact yG_w [] rfl (t_X8_ahead_b28 r2.2 res h)
        | false =>
          rw [hg4] at h
          dsimp only [cond] at h
          refine yG_f (C' := (16, [(0, .inr (.inl 8, 0)), (1, .inl (.inl x1)), (2, .inl (.inl x2)), (3, .inl (.inl x3))], [], r2.2)) rfl hg4 ?_
          refine yG_n (n := 4) (C' := (22, [(0, .inr (.inl 8, 0)), (1, .inl (.inl x1)), (2, .inl (.inl x2)), (3, .inl (.inl x3))], [.inl (.inr 60), .inl (.inr 0), .inl (.inr x3)], r2.2)) rfl ?_
          cases hr5 : f_X8_in N r2.2 x3 0 60 with
          | none => rw [hr5] at h; dsimp only at h; cases h
          | some r3 =>
            rw [hr5] at h
            dsimp only at h
            refine yG_c (C1 := (25, [(0, .inr (.inl 8, 0)), (1, .inl (.inl x1)), (2, .inl (.inl x2)), (3, .inl (.inl x3))], [.inl (.inl r3.1)], r3.2)) rfl (e_X8_in hr5) rfl ?_
            cases hg6 : ycP .ne r3.1 0 with
            | true =>
              rw [hg6] at h
              dsimp only [cond] at h
              refine yG_t (C' := (30, [(0, .inr (.inl 8, 0)), (1, .inl (.inl x1)), (2, .inl (.inl x2)), (3, .inl (.inl x3))], [], r3.2)) rfl hg6 ?_
              refine yG_n (n := 1) (C' := (31, [(0, .inr (.inl 8, 0)), (1, .inl (.inl x1)), (2, .inl (.inl x2)), (3, .inl (.inl x3))], [.inr (.inl 8, 0)], r3.2)) rfl ?_
              cases hr7 : f_X8_starts N r3.2 with
              | none => rw [hr7] at h; dsimp only at h; cases h
              | some r4 =>
                rw [hr7] at h
                dsimp only at h
                refine yG_c (C1 := (34, [(0, .inr (.inl 8, 0)), (1, .inl (.inl x1)), (2, .inl (.inl x2)), (3, .inl (.inl x3))], [], r4.2)) rfl (e_X8_starts hr7) rfl ?_
                refine yG_n (n := 2) (C' := (36, [(0, .inr (.inl 8, 0)), (1, .inl (.inl x1)), (2, .inl (.inl x2)), (3, .inl (.inl x3))], [.inl (.inl x3), .inr (.inl 8, 0)], r4.2)) rfl ?_
                cases hr8 : f_X8_daysAll N r4.2 x3 with
                | none => rw [hr8] at h; dsimp only at h; cases h
                | some r5 =>
                  rw [hr8] at h
                  dsimp only at h
                  refine yG_c (C1 := (39, [(0, .inr (.inl 8, 0)), (1, .inl (.inl x1)), (2, .inl (.inl x2)), (3, .inl (.inl x3))], [], r5.2)) rfl (e_X8_daysAll hr8) rfl ?_
                  refine yG_n (n := 9) (C' := (51, [(0, .inr (.inl 8, 0)), (1, .inl (.inl x1)), (2, .inl (.inl x2)), (3, .inl (.inl x3))], [.inl (.inl (yad (yad 42 (ymu 5 x1)) x2)), .inr (.inr (0, 131), 2)], r5.2)) rfl ?_
                  cases hg9 : yin (yad (yad 42 (ymu 5 x1)) x2) 131 with
                  | false => rw [hg9] at h; dsimp only [cond] at h; cases h
                  | true =>
                    rw [hg9] at h
                    dsimp only [cond] at h
                    refine yG_t (C' := (52, [(0, .inr (.inl 8, 0)), (1, .inl (.inl x1)), (2, .inl (.inl x2)), (3, .inl (.inl x3))], [.inl (.inl (r5.2.1 2 (yad (yad 42 (ymu 5 x1)) x2).toNat))], r5.2)) rfl hg9 ?_
                    have h := Option.some.inj h
                    subst h
                    dsimp only
                    exact yG_r rfl rfl
            | false =>
              rw [hg6] at h
              dsimp only [cond] at h
              refine yG_f (C' := (28, [(0, .inr (.inl 8, 0)), (1, .inl (.inl x1)), (2, .inl (.inl x2)), (3, .inl (.inl x3))], [], r3.2)) rfl hg6 ?_
              exact yG_w [] rfl (t_X8_ahead_b28 r3.2 res h)
set_option maxRecDepth 100000 in
set_option maxHeartbeats 4000000 in
theorem m_X8_ahead {N : Nat} {X : zXT} (hX : zXok X) (hN : zXn X) (l : Launch) {sh : List yH} : yMet X vwCl yct sh l yX8_ahead wsX8_ahead { frames := 6, cells := 0, slots := 0, locals := 177 } (F_X8_ahead N) :=
  ymeth (tb := tb_X8_ahead N) (pr := pr_X8_ahead) (rt := 1) (own := RX8) hX (by decide +kernel) rfl rfl ⟨Nat.le_of_ble_eq_true rfl, Nat.le_of_ble_eq_true rfl⟩
    (zfl_all (List.forall_mem_cons.mpr ⟨zfl_X8 (fun w h => List.mem_cons_of_mem _ (List.mem_append_right _ h)) (List.mem_of_getElem? (i := 2) rfl) (by decide) (by decide), fun _ h => absurd h List.not_mem_nil⟩))
    (zco_all (fun _ h => absurd h List.not_mem_nil)) (zlc_all (List.forall_mem_cons.mpr ⟨(List.mem_of_getElem? (i := 1) rfl), fun _ h => absurd h List.not_mem_nil⟩))
    (List.forall_mem_cons.mpr ⟨ycal_V hX (m_X8_isHouse hX hN l) rfl (fun s args hts => cwV 1 hts gX8_ahead_X8_isHouse rfl rfl rfl (by decide +kernel) ⟨Nat.le_of_ble_eq_true rfl, Nat.le_of_ble_eq_true rfl⟩), List.forall_mem_cons.mpr ⟨ycal_V hX (m_X8_isDeed hX hN l) rfl (fun s args hts => cwV 1 hts gX8_ahead_X8_isDeed rfl rfl rfl (by decide +kernel) ⟨Nat.le_of_ble_eq_true rfl, Nat.le_of_ble_eq_true rfl⟩), List.forall_mem_cons.mpr ⟨ycal_V hX (m_X8_starts hX hN l) rfl (fun s args hts => cwV 0 hts gX8_ahead_X8_starts rfl rfl rfl (by decide +kernel) ⟨Nat.le_of_ble_eq_true rfl, Nat.le_of_ble_eq_true rfl⟩), List.forall_mem_cons.mpr ⟨ycal_V hX (m_X8_daysAll hX hN l) rfl (fun s args hts => cwV 1 hts gX8_ahead_X8_daysAll rfl rfl rfl (by decide +kernel) ⟨Nat.le_of_ble_eq_true rfl, Nat.le_of_ble_eq_true rfl⟩), fun _ h => absurd h List.not_mem_nil⟩⟩⟩⟩)
    (List.forall_mem_cons.mpr ⟨ycal_S hX (m_X8_in hX hN l) (fun s args hts => va_cwS 3 hts gX8_ahead_X8_in rfl rfl rfl (by decide +kernel) ⟨Nat.le_of_ble_eq_true rfl, Nat.le_of_ble_eq_true rfl⟩), fun _ h => absurd h List.not_mem_nil⟩)
    (zmm_all (fun _ h => absurd h List.not_mem_nil)) (fun _ h => absurd h List.not_mem_nil) (zpr_all hp_X8_ahead) (fun as σ res h => by
      unfold F_X8_ahead at h
      split at h
      · rename_i x1 x2 x3
        cases hr : f_X8_ahead N σ x1 x2 x3 with
        | none => rw [hr] at h; cases h
        | some r =>
          rw [hr] at h
          cases h
          exact ⟨Nat.le_of_ble_eq_true rfl, t_X8_ahead σ x1 x2 x3 r hr⟩
      · cases h)
noncomputable def pr_X8_copies : List (Nat × Instr × Nat) := [(0, .iconst 0, 1), (1, .istore_n 3, 1), (2, .iload_n 3, 1), (3, .sipush 131, 3), (6, .if_icmp .ge 25, 3), (9, .aload_n 0, 1), (10, .getfield 7, 3), (13, .iload_n 1, 1), (14, .iload_n 3, 1), (15, .iadd, 1), (16, .aload_n 0, 1), (17, .getfield 7, 3), (20, .iload_n 2, 1), (21, .iload_n 3, 1), (22, .iadd, 1), (23, .iaload, 1), (24, .iastore, 1), (25, .iinc 3 1, 3), (28, .goto (-26), 3), (31, .return_, 1)]
set_option maxRecDepth 100000 in
theorem hp_X8_copies : pr_X8_copies.all (fun x => decide (decode cX8_copies x.1 = .ok x.2)) = true := by decide +kernel
noncomputable def f_X8_copies_b2 (N : Nat) : Nat → yS → Int → Int → Int → Option (Int × yS) := yfix (fun _ _ _ _ => none) (fun ih σ x1 x2 x3 =>
    bif ycP .ge x3 131 then
      some (0, σ)
    else
      bif yin (yad x2 x3) 393 then
        bif yin (yad x1 x3) 393 then
          ih (yw σ 1 (yad x1 x3).toNat (σ.1 1 (yad x2 x3).toNat)) x1 x2 (yad x3 1)
        else none
      else none)
theorem q_X8_copies_b2 (N : Nat) (n : Nat) (σ : yS) (x1 : Int) (x2 : Int) (x3 : Int) : f_X8_copies_b2 N (n + 1) σ x1 x2 x3 =
    (bif ycP .ge x3 131 then
      some (0, σ)
    else
      bif yin (yad x2 x3) 393 then
        bif yin (yad x1 x3) 393 then
          (f_X8_copies_b2 N n) (yw σ 1 (yad x1 x3).toNat (σ.1 1 (yad x2 x3).toNat)) x1 x2 (yad x3 1)
        else none
      else none) := rfl
noncomputable def f_X8_copies (N : Nat) (σ : yS) (x1 : Int) (x2 : Int) : Option (Int × yS) :=
  f_X8_copies_b2 N N σ x1 x2 0
noncomputable def F_X8_copies (N : Nat) : yF := fun as σ => match as with
  | [.inr (.inl 8, 0), .inl (.inl x1), .inl (.inl x2)] => (f_X8_copies N σ x1 x2).map (fun r => (none, r.2))
  | _ => none
theorem e_X8_copies {N : Nat} {σ : yS} {x1 : Int} {x2 : Int} {r : Int × yS} (h : f_X8_copies N σ x1 x2 = some r) : F_X8_copies N [.inr (.inl 8, 0), .inl (.inl x1), .inl (.inl x2)] σ = some (none, r.2) := by
  show (f_X8_copies N σ x1 x2).map (fun r => ((none, r.2) : yR)) = _
  rw [h]
  rfl
noncomputable def tb_X8_copies (N : Nat) : yTb := ([(7, 8, 0, 3)], [], [], [], [], [], [])
abbrev G_X8_copies (N : Nat) (X : zXT) (sh : List yH) (l : Launch) (rm : Room) : yC → yR → Prop := yGoes X vwCl yct sh l rm cX8_copies 4 wsX8_copies RX8 (tb_X8_copies N) pr_X8_copies 0
set_option maxRecDepth 100000 in
set_option maxHeartbeats 4000000 in
theorem t_X8_copies_b2 {N : Nat} {X : zXT} {sh : List yH} {l : Launch} {rm : Room} : ∀ (n : Nat) (σ : yS) (x1 : Int) (x2 : Int) (x3 : Int) (res : Int × yS), f_X8_copies_b2 N n σ x1 x2 x3 = some res → G_X8_copies N X sh l rm (2, [(0, .inr (.inl 8, 0)), (1, .inl (.inl x1)), (2, .inl (.inl x2)), (3, .inl (.inl x3))], [], σ) (none, res.2) := by
  intro n
  induction n with
  | zero => intro σ x1 x2 x3 res h; exact (yno h).elim
  | succ n ih =>
    intro σ x1 x2 x3 res h
    rw [q_X8_copies_b2] at h
    refine yG_n (n := 2) (C' := (6, [(0, .inr (.inl 8, 0)), (1, .inl (.inl x1)), (2, .inl (.inl x2)), (3, .inl (.inl x3))], [.inl (.inl 131), .inl (.inl x3)], σ)) rfl ?_
    cases hg1 : ycP .ge x3 131 with
    | true =>
      rw [hg1] at h
      dsimp only [cond] at h
      refine yG_t (C' := (31, [(0, .inr (.inl 8, 0)), (1, .inl (.inl x1)), (2, .inl (.inl x2)), (3, .inl (.inl x3))], [], σ)) rfl hg1 ?_
      have h := Option.some.inj h
      subst h
      dsimp only
      exact yG_r rfl rfl
    | false =>
      rw [hg1] at h
      dsimp only [cond] at h
      refine yG_f (C' := (9, [(0, .inr (.inl 8, 0)), (1, .inl (.inl x1)), (2, .inl (.inl x2)), (3, .inl (.inl x3))], [], σ)) rfl hg1 ?_
      refine yG_n (n := 10) (C' := (23, [(0, .inr (.inl 8, 0)), (1, .inl (.inl x1)), (2, .inl (.inl x2)), (3, .inl (.inl x3))], [.inl (.inl (yad x2 x3)), .inr (.inr (0, 393), 1), .inl (.inl (yad x1 x3)), .inr (.inr (0, 393), 1)], σ)) rfl ?_
      cases hg2 : yin (yad x2 x3) 393 with
      | false => rw [hg2] at h; dsimp only [cond] at h; cases h
      | true =>
        rw [hg2] at h
        dsimp only [cond] at h
        refine yG_t (C' := (24, [(0, .inr (.inl 8, 0)), (1, .inl (.inl x1)), (2, .inl (.inl x2)), (3, .inl (.inl x3))], [.inl (.inl (σ.1 1 (yad x2 x3).toNat)), .inl (.inl (yad x1 x3)), .inr (.inr (0, 393), 1)], σ)) rfl hg2 ?_
        cases hg3 : yin (yad x1 x3) 393 with
        | false => rw [hg3] at h; dsimp only [cond] at h; cases h
        | true =>
          rw [hg3] at h
          dsimp only [cond] at h
          refine yG_t (C' := (25, [(0, .inr (.inl 8, 0)), (1, .inl (.inl x1)), (2, .inl (.inl x2)), (3, .inl (.inl x3))], [], yw σ 1 (yad x1 x3).toNat (σ.1 1 (yad x2 x3).toNat))) rfl hg3 ?_
          refine yG_n (n := 2) (C' := (2, [(3, .inl (.inl (yad x3 1))), (0, .inr (.inl 8, 0)), (1, .inl (.inl x1)), (2, .inl (.inl x2))], [], yw σ 1 (yad x1 x3).toNat (σ.1 1 (yad x2 x3).toNat))) rfl ?_
          exact yG_w [1, 2, 3, 0] rfl (ih (yw σ 1 (yad x1 x3).toNat (σ.1 1 (yad x2 x3).toNat)) x1 x2 (yad x3 1) res h)
set_option maxRecDepth 100000 in
set_option maxHeartbeats 4000000 in
theorem t_X8_copies {N : Nat} {X : zXT} {sh : List yH} {l : Launch} {rm : Room} (σ : yS) (x1 : Int) (x2 : Int) (res : Int × yS) (h : f_X8_copies N σ x1 x2 = some res) : G_X8_copies N X sh l rm (0, [(0, .inr (.inl 8, 0)), (1, .inl (.inl x1)), (2, .inl (.inl x2))], [], σ) (none, res.2) := by
  unfold f_X8_copies at h
  refine yG_n (n := 2) (C' := (2, [(3, .inl (.inl 0)), (0, .inr (.inl 8, 0)), (1, .inl (.inl x1)), (2, .inl (.inl x2))], [], σ)) rfl ?_
  exact yG_w [1, 2, 3, 0] rfl (t_X8_copies_b2 N σ x1 x2 0 res h)
set_option maxRecDepth 100000 in
set_option maxHeartbeats 4000000 in
theorem m_X8_copies {N : Nat} {X : zXT} (hX : zXok X) (hN : zXn X) (l : Launch) {sh : List yH} : yMet X vwCl yct sh l yX8_copies wsX8_copies { frames := 1, cells := 0, slots := 0, locals := 64 } (F_X8_copies N) :=
  ymeth (tb := tb_X8_copies N) (pr := pr_X8_copies) (rt := 0) (own := RX8) hX (by decide +kernel) rfl rfl ⟨Nat.le_of_ble_eq_true rfl, Nat.le_of_ble_eq_true rfl⟩
    (zfl_all (List.forall_mem_cons.mpr ⟨zfl_X8 (fun w h => List.mem_cons_of_mem _ (List.mem_append_right _ h)) (List.mem_of_getElem? (i := 1) rfl) (by decide) (by decide), fun _ h => absurd h List.not_mem_nil⟩))
    (zco_all (fun _ h => absurd h List.not_mem_nil)) (zlc_all (fun _ h => absurd h List.not_mem_nil))
    (fun _ h => absurd h List.not_mem_nil)
    (fun _ h => absurd h List.not_mem_nil)
    (zmm_all (fun _ h => absurd h List.not_mem_nil)) (fun _ h => absurd h List.not_mem_nil) (zpr_all hp_X8_copies) (fun as σ res h => by
      unfold F_X8_copies at h
      split at h
      · rename_i x1 x2
        cases hr : f_X8_copies N σ x1 x2 with
        | none => rw [hr] at h; cases h
        | some r =>
          rw [hr] at h
          cases h
          exact ⟨Nat.le_of_ble_eq_true rfl, t_X8_copies σ x1 x2 r hr⟩
      · cases h)
noncomputable def pr_X8_back : List (Nat × Instr × Nat) := [(0, .iload_n 1, 1), (1, .i2l, 1), (2, .lconst 0, 1), (3, .lconst 1, 1), (4, .invokestatic 90, 3), (7, .ifCond .ne 5, 3), (10, .iconst (-1), 1), (11, .ireturn, 1), (12, .aload_n 0, 1), (13, .getfield 16, 3), (16, .iload_n 1, 1), (17, .baload, 1), (18, .ifCond .ne 6, 3), (21, .bipush (-2), 2), (23, .ireturn, 1), (24, .aload_n 0, 1), (25, .iconst 0, 1), (26, .sipush 131, 3), (29, .iload_n 1, 1), (30, .iconst 1, 1), (31, .iadd, 1), (32, .imul, 1), (33, .invokevirtual 318, 3), (36, .aload_n 0, 1), (37, .getfield 7, 3), (40, .bipush 127, 2), (42, .iaload, 1), (43, .ireturn, 1)]
set_option maxRecDepth 100000 in
theorem hp_X8_back : pr_X8_back.all (fun x => decide (decode cX8_back x.1 = .ok x.2)) = true := by decide +kernel
noncomputable def f_X8_back (N : Nat) (σ : yS) (x1 : Int) : Option (Int × yS) :=
  match f_X8_in N σ x1 0 1 with
  | none => none
  | some r1 => bif ycP .ne r1.1 0 then
      bif yin x1 2 then
        bif ycP .ne (r1.2.1 3 x1.toNat) 0 then
          match f_X8_copies N r1.2 0 (ymu 131 (yad x1 1)) with
          | none => none
          | some r2 => some (r2.2.1 1 127, r2.2)
        else
          some ((-2), r1.2)
      else none
    else
      some ((-1), r1.2)
noncomputable def F_X8_back (N : Nat) : yF := fun as σ => match as with
  | [.inr (.inl 8, 0), .inl (.inl x1)] => (f_X8_back N σ x1).map (fun r => (some (.inl (.inl r.1)), r.2))
  | _ => none
theorem e_X8_back {N : Nat} {σ : yS} {x1 : Int} {r : Int × yS} (h : f_X8_back N σ x1 = some r) : F_X8_back N [.inr (.inl 8, 0), .inl (.inl x1)] σ = some (some (.inl (.inl r.1)), r.2) := by
  show (f_X8_back N σ x1).map (fun r => ((some (.inl (.inl r.1)), r.2) : yR)) = _
  rw [h]
  rfl
noncomputable def tb_X8_back (N : Nat) : yTb := ([(7, 8, 0, 3), (16, 8, 2, 3)], [], [], [(318, 3, 8, F_X8_copies N)], [(90, 3, F_X8_in N)], [], [])
abbrev G_X8_back (N : Nat) (X : zXT) (sh : List yH) (l : Launch) (rm : Room) : yC → yR → Prop := yGoes X vwCl yct sh l rm cX8_back 2 wsX8_back RX8 (tb_X8_back N) pr_X8_back 1
set_option maxRecDepth 100000 in
set_option maxHeartbeats 4000000 in
theorem t_X8_back {N : Nat} {X : zXT} {sh : List yH} {l : Launch} {rm : Room} (σ : yS) (x1 : Int) (res : Int × yS) (h : f_X8_back N σ x1 = some res) : G_X8_back N X sh l rm (0, [(0, .inr (.inl 8, 0)), (1, .inl (.inl x1))], [], σ) (some (.inl (.inl res.1)), res.2) := by
  unfold f_X8_back at h
  refine yG_n (n := 4) (C' := (4, [(0, .inr (.inl 8, 0)), (1, .inl (.inl x1))], [.inl (.inr 1), .inl (.inr 0), .inl (.inr x1)], σ)) rfl ?_
  cases hr1 : f_X8_in N σ x1 0 1 with
  | none => rw [hr1] at h; dsimp only at h; cases h
  | some r1 =>
    rw [hr1] at h
    dsimp only at h
    refine yG_c (C1 := (7, [(0, .inr (.inl 8, 0)), (1, .inl (.inl x1))], [.inl (.inl r1.1)], r1.2)) rfl (e_X8_in hr1) rfl ?_
    cases hg2 : ycP .ne r1.1 0 with
    | true =>
      rw [hg2] at h
      dsimp only [cond] at h
      refine yG_t (C' := (12, [(0, .inr (.inl 8, 0)), (1, .inl (.inl x1))], [], r1.2)) rfl hg2 ?_
      refine yG_n (n := 3) (C' := (17, [(0, .inr (.inl 8, 0)), (1, .inl (.inl x1))], [.inl (.inl x1), .inr (.inr (1, 2), 3)], r1.2)) rfl ?_
      cases hg3 : yin x1 2 with
      | false => rw [hg3] at h; dsimp only [cond] at h; cases h
      | true =>
        rw [hg3] at h
        dsimp only [cond] at h
        refine yG_t (C' := (18, [(0, .inr (.inl 8, 0)), (1, .inl (.inl x1))], [.inl (.inl (r1.2.1 3 x1.toNat))], r1.2)) rfl hg3 ?_
        cases hg4 : ycP .ne (r1.2.1 3 x1.toNat) 0 with
        | true =>
          rw [hg4] at h
          dsimp only [cond] at h
          refine yG_t (C' := (24, [(0, .inr (.inl 8, 0)), (1, .inl (.inl x1))], [], r1.2)) rfl hg4 ?_
          refine yG_n (n := 7) (C' := (33, [(0, .inr (.inl 8, 0)), (1, .inl (.inl x1))], [.inl (.inl (ymu 131 (yad x1 1))), .inl (.inl 0), .inr (.inl 8, 0)], r1.2)) rfl ?_
          cases hr5 : f_X8_copies N r1.2 0 (ymu 131 (yad x1 1)) with
          | none => rw [hr5] at h; dsimp only at h; cases h
          | some r2 =>
            rw [hr5] at h
            dsimp only at h
            refine yG_c (C1 := (36, [(0, .inr (.inl 8, 0)), (1, .inl (.inl x1))], [], r2.2)) rfl (e_X8_copies hr5) rfl ?_
            refine yG_n (n := 4) (C' := (43, [(0, .inr (.inl 8, 0)), (1, .inl (.inl x1))], [.inl (.inl (r2.2.1 1 127))], r2.2)) rfl ?_
            have h := Option.some.inj h
            subst h
            dsimp only
            exact yG_r rfl rfl
        | false =>
          rw [hg4] at h
          dsimp only [cond] at h
          refine yG_f (C' := (21, [(0, .inr (.inl 8, 0)), (1, .inl (.inl x1))], [], r1.2)) rfl hg4 ?_
          refine yG_n (n := 1) (C' := (23, [(0, .inr (.inl 8, 0)), (1, .inl (.inl x1))], [.inl (.inl ((-2)))], r1.2)) rfl ?_
          have h := Option.some.inj h
          subst h
          dsimp only
          exact yG_r rfl rfl
    | false =>
      rw [hg2] at h
      dsimp only [cond] at h
      refine yG_f (C' := (10, [(0, .inr (.inl 8, 0)), (1, .inl (.inl x1))], [], r1.2)) rfl hg2 ?_
      refine yG_n (n := 1) (C' := (11, [(0, .inr (.inl 8, 0)), (1, .inl (.inl x1))], [.inl (.inl ((-1)))], r1.2)) rfl ?_
      have h := Option.some.inj h
      subst h
      dsimp only
      exact yG_r rfl rfl
set_option maxRecDepth 100000 in
set_option maxHeartbeats 4000000 in
theorem m_X8_back {N : Nat} {X : zXT} (hX : zXok X) (hN : zXn X) (l : Launch) {sh : List yH} : yMet X vwCl yct sh l yX8_back wsX8_back { frames := 2, cells := 0, slots := 0, locals := 89 } (F_X8_back N) :=
  ymeth (tb := tb_X8_back N) (pr := pr_X8_back) (rt := 1) (own := RX8) hX (by decide +kernel) rfl rfl ⟨Nat.le_of_ble_eq_true rfl, Nat.le_of_ble_eq_true rfl⟩
    (zfl_all (List.forall_mem_cons.mpr ⟨zfl_X8 (fun w h => List.mem_cons_of_mem _ (List.mem_append_right _ h)) (List.mem_of_getElem? (i := 2) rfl) (by decide) (by decide), List.forall_mem_cons.mpr ⟨zfl_X8 (fun w h => List.mem_cons_of_mem _ (List.mem_append_right _ h)) (List.mem_of_getElem? (i := 1) rfl) (by decide) (by decide), fun _ h => absurd h List.not_mem_nil⟩⟩))
    (zco_all (fun _ h => absurd h List.not_mem_nil)) (zlc_all (fun _ h => absurd h List.not_mem_nil))
    (List.forall_mem_cons.mpr ⟨ycal_V hX (m_X8_copies hX hN l) rfl (fun s args hts => cwV 2 hts gX8_back_X8_copies rfl rfl rfl (by decide +kernel) ⟨Nat.le_of_ble_eq_true rfl, Nat.le_of_ble_eq_true rfl⟩), fun _ h => absurd h List.not_mem_nil⟩)
    (List.forall_mem_cons.mpr ⟨ycal_S hX (m_X8_in hX hN l) (fun s args hts => va_cwS 3 hts gX8_back_X8_in rfl rfl rfl (by decide +kernel) ⟨Nat.le_of_ble_eq_true rfl, Nat.le_of_ble_eq_true rfl⟩), fun _ h => absurd h List.not_mem_nil⟩)
    (zmm_all (fun _ h => absurd h List.not_mem_nil)) (fun _ h => absurd h List.not_mem_nil) (zpr_all hp_X8_back) (fun as σ res h => by
      unfold F_X8_back at h
      split at h
      · rename_i x1
        cases hr : f_X8_back N σ x1 with
        | none => rw [hr] at h; cases h
        | some r =>
          rw [hr] at h
          cases h
          exact ⟨Nat.le_of_ble_eq_true rfl, t_X8_back σ x1 r hr⟩
      · cases h)
noncomputable def pr_X8_becomes : List (Nat × Instr × Nat) := [(0, .aload_n 0, 1), (1, .getfield 7, 3), (4, .iload_n 1, 1), (5, .iaload, 1), (6, .istore_n 3, 1), (7, .aload_n 0, 1), (8, .getfield 7, 3), (11, .iload_n 1, 1), (12, .iload_n 2, 1), (13, .iastore, 1), (14, .iload_n 3, 1), (15, .ireturn, 1)]
set_option maxRecDepth 100000 in
theorem hp_X8_becomes : pr_X8_becomes.all (fun x => decide (decode cX8_becomes x.1 = .ok x.2)) = true := by decide +kernel
noncomputable def f_X8_becomes (N : Nat) (σ : yS) (x1 : Int) (x2 : Int) : Option (Int × yS) :=
  bif yin x1 393 then
    some (σ.1 1 x1.toNat, yw σ 1 x1.toNat x2)
  else none
noncomputable def F_X8_becomes (N : Nat) : yF := fun as σ => match as with
  | [.inr (.inl 8, 0), .inl (.inl x1), .inl (.inl x2)] => (f_X8_becomes N σ x1 x2).map (fun r => (some (.inl (.inl r.1)), r.2))
  | _ => none
theorem e_X8_becomes {N : Nat} {σ : yS} {x1 : Int} {x2 : Int} {r : Int × yS} (h : f_X8_becomes N σ x1 x2 = some r) : F_X8_becomes N [.inr (.inl 8, 0), .inl (.inl x1), .inl (.inl x2)] σ = some (some (.inl (.inl r.1)), r.2) := by
  show (f_X8_becomes N σ x1 x2).map (fun r => ((some (.inl (.inl r.1)), r.2) : yR)) = _
  rw [h]
  rfl
noncomputable def tb_X8_becomes (N : Nat) : yTb := ([(7, 8, 0, 3)], [], [], [], [], [], [])
abbrev G_X8_becomes (N : Nat) (X : zXT) (sh : List yH) (l : Launch) (rm : Room) : yC → yR → Prop := yGoes X vwCl yct sh l rm cX8_becomes 4 wsX8_becomes RX8 (tb_X8_becomes N) pr_X8_becomes 1
set_option maxRecDepth 100000 in
set_option maxHeartbeats 4000000 in
theorem t_X8_becomes {N : Nat} {X : zXT} {sh : List yH} {l : Launch} {rm : Room} (σ : yS) (x1 : Int) (x2 : Int) (res : Int × yS) (h : f_X8_becomes N σ x1 x2 = some res) : G_X8_becomes N X sh l rm (0, [(0, .inr (.inl 8, 0)), (1, .inl (.inl x1)), (2, .inl (.inl x2))], [], σ) (some (.inl (.inl res.1)), res.2) := by
  unfold f_X8_becomes at h
  refine yG_n (n := 3) (C' := (5, [(0, .inr (.inl 8, 0)), (1, .inl (.inl x1)), (2, .inl (.inl x2))], [.inl (.inl x1), .inr (.inr (0, 393), 1)], σ)) rfl ?_
  cases hg1 : yin x1 393 with
  | false => rw [hg1] at h; dsimp only [cond] at h; cases h
  | true =>
    rw [hg1] at h
    dsimp only [cond] at h
    refine yG_t (C' := (6, [(0, .inr (.inl 8, 0)), (1, .inl (.inl x1)), (2, .inl (.inl x2))], [.inl (.inl (σ.1 1 x1.toNat))], σ)) rfl hg1 ?_
    refine yG_n (n := 5) (C' := (13, [(3, .inl (.inl (σ.1 1 x1.toNat))), (0, .inr (.inl 8, 0)), (1, .inl (.inl x1)), (2, .inl (.inl x2))], [.inl (.inl x2), .inl (.inl x1), .inr (.inr (0, 393), 1)], σ)) rfl ?_
    refine yG_t (C' := (14, [(3, .inl (.inl (σ.1 1 x1.toNat))), (0, .inr (.inl 8, 0)), (1, .inl (.inl x1)), (2, .inl (.inl x2))], [], yw σ 1 x1.toNat x2)) rfl hg1 ?_
    refine yG_n (n := 1) (C' := (15, [(3, .inl (.inl (σ.1 1 x1.toNat))), (0, .inr (.inl 8, 0)), (1, .inl (.inl x1)), (2, .inl (.inl x2))], [.inl (.inl (σ.1 1 x1.toNat))], yw σ 1 x1.toNat x2)) rfl ?_
    have h := Option.some.inj h
    subst h
    dsimp only
    exact yG_r rfl rfl
set_option maxRecDepth 100000 in
set_option maxHeartbeats 4000000 in
theorem m_X8_becomes {N : Nat} {X : zXT} (hX : zXok X) (hN : zXn X) (l : Launch) {sh : List yH} : yMet X vwCl yct sh l yX8_becomes wsX8_becomes { frames := 1, cells := 0, slots := 0, locals := 64 } (F_X8_becomes N) :=
  ymeth (tb := tb_X8_becomes N) (pr := pr_X8_becomes) (rt := 1) (own := RX8) hX (by decide +kernel) rfl rfl ⟨Nat.le_of_ble_eq_true rfl, Nat.le_of_ble_eq_true rfl⟩
    (zfl_all (List.forall_mem_cons.mpr ⟨zfl_X8 (fun w h => List.mem_cons_of_mem _ (List.mem_append_right _ h)) (List.mem_of_getElem? (i := 1) rfl) (by decide) (by decide), fun _ h => absurd h List.not_mem_nil⟩))
    (zco_all (fun _ h => absurd h List.not_mem_nil)) (zlc_all (fun _ h => absurd h List.not_mem_nil))
    (fun _ h => absurd h List.not_mem_nil)
    (fun _ h => absurd h List.not_mem_nil)
    (zmm_all (fun _ h => absurd h List.not_mem_nil)) (fun _ h => absurd h List.not_mem_nil) (zpr_all hp_X8_becomes) (fun as σ res h => by
      unfold F_X8_becomes at h
      split at h
      · rename_i x1 x2
        cases hr : f_X8_becomes N σ x1 x2 with
        | none => rw [hr] at h; cases h
        | some r =>
          rw [hr] at h
          cases h
          exact ⟨Nat.le_of_ble_eq_true rfl, t_X8_becomes σ x1 x2 r hr⟩
      · cases h)
noncomputable def pr_X8_swaps : List (Nat × Instr × Nat) := [(0, .aload_n 0, 1), (1, .getfield 7, 3), (4, .iload_n 1, 1), (5, .iload_n 2, 1), (6, .iadd, 1), (7, .iaload, 1), (8, .istore 4, 2), (10, .aload_n 0, 1), (11, .getfield 7, 3), (14, .iload_n 1, 1), (15, .iload_n 2, 1), (16, .iadd, 1), (17, .aload_n 0, 1), (18, .getfield 7, 3), (21, .iload_n 1, 1), (22, .iload_n 3, 1), (23, .iadd, 1), (24, .iaload, 1), (25, .iastore, 1), (26, .aload_n 0, 1), (27, .getfield 7, 3), (30, .iload_n 1, 1), (31, .iload_n 3, 1), (32, .iadd, 1), (33, .iload 4, 2), (35, .iastore, 1), (36, .return_, 1)]
set_option maxRecDepth 100000 in
theorem hp_X8_swaps : pr_X8_swaps.all (fun x => decide (decode cX8_swaps x.1 = .ok x.2)) = true := by decide +kernel
noncomputable def f_X8_swaps (N : Nat) (σ : yS) (x1 : Int) (x2 : Int) (x3 : Int) : Option (Int × yS) :=
  bif yin (yad x1 x2) 393 then
    bif yin (yad x1 x3) 393 then
      some (0, yw (yw σ 1 (yad x1 x2).toNat (σ.1 1 (yad x1 x3).toNat)) 1 (yad x1 x3).toNat (σ.1 1 (yad x1 x2).toNat))
    else none
  else none
noncomputable def F_X8_swaps (N : Nat) : yF := fun as σ => match as with
  | [.inr (.inl 8, 0), .inl (.inl x1), .inl (.inl x2), .inl (.inl x3)] => (f_X8_swaps N σ x1 x2 x3).map (fun r => (none, r.2))
  | _ => none
theorem e_X8_swaps {N : Nat} {σ : yS} {x1 : Int} {x2 : Int} {x3 : Int} {r : Int × yS} (h : f_X8_swaps N σ x1 x2 x3 = some r) : F_X8_swaps N [.inr (.inl 8, 0), .inl (.inl x1), .inl (.inl x2), .inl (.inl x3)] σ = some (none, r.2) := by
  show (f_X8_swaps N σ x1 x2 x3).map (fun r => ((none, r.2) : yR)) = _
  rw [h]
  rfl
noncomputable def tb_X8_swaps (N : Nat) : yTb := ([(7, 8, 0, 3)], [], [], [], [], [], [])
abbrev G_X8_swaps (N : Nat) (X : zXT) (sh : List yH) (l : Launch) (rm : Room) : yC → yR → Prop := yGoes X vwCl yct sh l rm cX8_swaps 5 wsX8_swaps RX8 (tb_X8_swaps N) pr_X8_swaps 0
set_option maxRecDepth 100000 in
set_option maxHeartbeats 4000000 in
theorem t_X8_swaps {N : Nat} {X : zXT} {sh : List yH} {l : Launch} {rm : Room} (σ : yS) (x1 : Int) (x2 : Int) (x3 : Int) (res : Int × yS) (h : f_X8_swaps N σ x1 x2 x3 = some res) : G_X8_swaps N X sh l rm (0, [(0, .inr (.inl 8, 0)), (1, .inl (.inl x1)), (2, .inl (.inl x2)), (3, .inl (.inl x3))], [], σ) (none, res.2) := by
  unfold f_X8_swaps at h
  refine yG_n (n := 5) (C' := (7, [(0, .inr (.inl 8, 0)), (1, .inl (.inl x1)), (2, .inl (.inl x2)), (3, .inl (.inl x3))], [.inl (.inl (yad x1 x2)), .inr (.inr (0, 393), 1)], σ)) rfl ?_
  cases hg1 : yin (yad x1 x2) 393 with
  | false => rw [hg1] at h; dsimp only [cond] at h; cases h
  | true =>
    rw [hg1] at h
    dsimp only [cond] at h
    refine yG_t (C' := (8, [(0, .inr (.inl 8, 0)), (1, .inl (.inl x1)), (2, .inl (.inl x2)), (3, .inl (.inl x3))], [.inl (.inl (σ.1 1 (yad x1 x2).toNat))], σ)) rfl hg1 ?_
    refine yG_n (n := 11) (C' := (24, [(4, .inl (.inl (σ.1 1 (yad x1 x2).toNat))), (0, .inr (.inl 8, 0)), (1, .inl (.inl x1)), (2, .inl (.inl x2)), (3, .inl (.inl x3))], [.inl (.inl (yad x1 x3)), .inr (.inr (0, 393), 1), .inl (.inl (yad x1 x2)), .inr (.inr (0, 393), 1)], σ)) rfl ?_
    cases hg2 : yin (yad x1 x3) 393 with
    | false => rw [hg2] at h; dsimp only [cond] at h; cases h
    | true =>
      rw [hg2] at h
      dsimp only [cond] at h
      refine yG_t (C' := (25, [(4, .inl (.inl (σ.1 1 (yad x1 x2).toNat))), (0, .inr (.inl 8, 0)), (1, .inl (.inl x1)), (2, .inl (.inl x2)), (3, .inl (.inl x3))], [.inl (.inl (σ.1 1 (yad x1 x3).toNat)), .inl (.inl (yad x1 x2)), .inr (.inr (0, 393), 1)], σ)) rfl hg2 ?_
      refine yG_t (C' := (26, [(4, .inl (.inl (σ.1 1 (yad x1 x2).toNat))), (0, .inr (.inl 8, 0)), (1, .inl (.inl x1)), (2, .inl (.inl x2)), (3, .inl (.inl x3))], [], yw σ 1 (yad x1 x2).toNat (σ.1 1 (yad x1 x3).toNat))) rfl hg1 ?_
      refine yG_n (n := 6) (C' := (35, [(4, .inl (.inl (σ.1 1 (yad x1 x2).toNat))), (0, .inr (.inl 8, 0)), (1, .inl (.inl x1)), (2, .inl (.inl x2)), (3, .inl (.inl x3))], [.inl (.inl (σ.1 1 (yad x1 x2).toNat)), .inl (.inl (yad x1 x3)), .inr (.inr (0, 393), 1)], yw σ 1 (yad x1 x2).toNat (σ.1 1 (yad x1 x3).toNat))) rfl ?_
      refine yG_t (C' := (36, [(4, .inl (.inl (σ.1 1 (yad x1 x2).toNat))), (0, .inr (.inl 8, 0)), (1, .inl (.inl x1)), (2, .inl (.inl x2)), (3, .inl (.inl x3))], [], yw (yw σ 1 (yad x1 x2).toNat (σ.1 1 (yad x1 x3).toNat)) 1 (yad x1 x3).toNat (σ.1 1 (yad x1 x2).toNat))) rfl hg2 ?_
      have h := Option.some.inj h
      subst h
      dsimp only
      exact yG_r rfl rfl
set_option maxRecDepth 100000 in
set_option maxHeartbeats 4000000 in
theorem m_X8_swaps {N : Nat} {X : zXT} (hX : zXok X) (hN : zXn X) (l : Launch) {sh : List yH} : yMet X vwCl yct sh l yX8_swaps wsX8_swaps { frames := 1, cells := 0, slots := 0, locals := 64 } (F_X8_swaps N) :=
  ymeth (tb := tb_X8_swaps N) (pr := pr_X8_swaps) (rt := 0) (own := RX8) hX (by decide +kernel) rfl rfl ⟨Nat.le_of_ble_eq_true rfl, Nat.le_of_ble_eq_true rfl⟩
    (zfl_all (List.forall_mem_cons.mpr ⟨zfl_X8 (fun w h => List.mem_cons_of_mem _ (List.mem_append_right _ h)) (List.mem_of_getElem? (i := 1) rfl) (by decide) (by decide), fun _ h => absurd h List.not_mem_nil⟩))
    (zco_all (fun _ h => absurd h List.not_mem_nil)) (zlc_all (fun _ h => absurd h List.not_mem_nil))
    (fun _ h => absurd h List.not_mem_nil)
    (fun _ h => absurd h List.not_mem_nil)
    (zmm_all (fun _ h => absurd h List.not_mem_nil)) (fun _ h => absurd h List.not_mem_nil) (zpr_all hp_X8_swaps) (fun as σ res h => by
      unfold F_X8_swaps at h
      split at h
      · rename_i x1 x2 x3
        cases hr : f_X8_swaps N σ x1 x2 x3 with
        | none => rw [hr] at h; cases h
        | some r =>
          rw [hr] at h
          cases h
          exact ⟨Nat.le_of_ble_eq_true rfl, t_X8_swaps σ x1 x2 x3 r hr⟩
      · cases h)
noncomputable def pr_X8_moves : List (Nat × Instr × Nat) := [(0, .aload_n 0, 1), (1, .bipush 7, 2), (3, .iload_n 1, 1), (4, .iload_n 2, 1), (5, .invokevirtual 225, 3), (8, .aload_n 0, 1), (9, .iconst 0, 1), (10, .iload_n 1, 1), (11, .iload_n 2, 1), (12, .invokevirtual 225, 3), (15, .return_, 1)]
set_option maxRecDepth 100000 in
theorem hp_X8_moves : pr_X8_moves.all (fun x => decide (decode cX8_moves x.1 = .ok x.2)) = true := by decide +kernel
noncomputable def f_X8_moves (N : Nat) (σ : yS) (x1 : Int) (x2 : Int) : Option (Int × yS) :=
  match f_X8_swaps N σ 7 x1 x2 with
  | none => none
  | some r1 => match f_X8_swaps N r1.2 0 x1 x2 with
    | none => none
    | some r2 => some (0, r2.2)
noncomputable def F_X8_moves (N : Nat) : yF := fun as σ => match as with
  | [.inr (.inl 8, 0), .inl (.inl x1), .inl (.inl x2)] => (f_X8_moves N σ x1 x2).map (fun r => (none, r.2))
  | _ => none
theorem e_X8_moves {N : Nat} {σ : yS} {x1 : Int} {x2 : Int} {r : Int × yS} (h : f_X8_moves N σ x1 x2 = some r) : F_X8_moves N [.inr (.inl 8, 0), .inl (.inl x1), .inl (.inl x2)] σ = some (none, r.2) := by
  show (f_X8_moves N σ x1 x2).map (fun r => ((none, r.2) : yR)) = _
  rw [h]
  rfl
noncomputable def tb_X8_moves (N : Nat) : yTb := ([], [], [], [(225, 4, 8, F_X8_swaps N)], [], [], [])
abbrev G_X8_moves (N : Nat) (X : zXT) (sh : List yH) (l : Launch) (rm : Room) : yC → yR → Prop := yGoes X vwCl yct sh l rm cX8_moves 3 wsX8_moves RX8 (tb_X8_moves N) pr_X8_moves 0
set_option maxRecDepth 100000 in
set_option maxHeartbeats 4000000 in
theorem t_X8_moves {N : Nat} {X : zXT} {sh : List yH} {l : Launch} {rm : Room} (σ : yS) (x1 : Int) (x2 : Int) (res : Int × yS) (h : f_X8_moves N σ x1 x2 = some res) : G_X8_moves N X sh l rm (0, [(0, .inr (.inl 8, 0)), (1, .inl (.inl x1)), (2, .inl (.inl x2))], [], σ) (none, res.2) := by
  unfold f_X8_moves at h
  refine yG_n (n := 4) (C' := (5, [(0, .inr (.inl 8, 0)), (1, .inl (.inl x1)), (2, .inl (.inl x2))], [.inl (.inl x2), .inl (.inl x1), .inl (.inl 7), .inr (.inl 8, 0)], σ)) rfl ?_
  cases hr1 : f_X8_swaps N σ 7 x1 x2 with
  | none => rw [hr1] at h; dsimp only at h; cases h
  | some r1 =>
    rw [hr1] at h
    dsimp only at h
    refine yG_c (C1 := (8, [(0, .inr (.inl 8, 0)), (1, .inl (.inl x1)), (2, .inl (.inl x2))], [], r1.2)) rfl (e_X8_swaps hr1) rfl ?_
    refine yG_n (n := 4) (C' := (12, [(0, .inr (.inl 8, 0)), (1, .inl (.inl x1)), (2, .inl (.inl x2))], [.inl (.inl x2), .inl (.inl x1), .inl (.inl 0), .inr (.inl 8, 0)], r1.2)) rfl ?_
    cases hr2 : f_X8_swaps N r1.2 0 x1 x2 with
    | none => rw [hr2] at h; dsimp only at h; cases h
    | some r2 =>
      rw [hr2] at h
      dsimp only at h
      refine yG_c (C1 := (15, [(0, .inr (.inl 8, 0)), (1, .inl (.inl x1)), (2, .inl (.inl x2))], [], r2.2)) rfl (e_X8_swaps hr2) rfl ?_
      have h := Option.some.inj h
      subst h
      dsimp only
      exact yG_r rfl rfl
set_option maxRecDepth 100000 in
set_option maxHeartbeats 4000000 in
theorem m_X8_moves {N : Nat} {X : zXT} (hX : zXok X) (hN : zXn X) (l : Launch) {sh : List yH} : yMet X vwCl yct sh l yX8_moves wsX8_moves { frames := 2, cells := 0, slots := 0, locals := 88 } (F_X8_moves N) :=
  ymeth (tb := tb_X8_moves N) (pr := pr_X8_moves) (rt := 0) (own := RX8) hX (by decide +kernel) rfl rfl ⟨Nat.le_of_ble_eq_true rfl, Nat.le_of_ble_eq_true rfl⟩
    (zfl_all (fun _ h => absurd h List.not_mem_nil))
    (zco_all (fun _ h => absurd h List.not_mem_nil)) (zlc_all (fun _ h => absurd h List.not_mem_nil))
    (List.forall_mem_cons.mpr ⟨ycal_V hX (m_X8_swaps hX hN l) rfl (fun s args hts => cwV 3 hts gX8_moves_X8_swaps rfl rfl rfl (by decide +kernel) ⟨Nat.le_of_ble_eq_true rfl, Nat.le_of_ble_eq_true rfl⟩), fun _ h => absurd h List.not_mem_nil⟩)
    (fun _ h => absurd h List.not_mem_nil)
    (zmm_all (fun _ h => absurd h List.not_mem_nil)) (fun _ h => absurd h List.not_mem_nil) (zpr_all hp_X8_moves) (fun as σ res h => by
      unfold F_X8_moves at h
      split at h
      · rename_i x1 x2
        cases hr : f_X8_moves N σ x1 x2 with
        | none => rw [hr] at h; cases h
        | some r =>
          rw [hr] at h
          cases h
          exact ⟨Nat.le_of_ble_eq_true rfl, t_X8_moves σ x1 x2 r hr⟩
      · cases h)
noncomputable def pr_X8_best : List (Nat × Instr × Nat) := [(0, .iload_n 1, 1), (1, .i2l, 1), (2, .lconst 1, 1), (3, .ldc2_w 302, 3), (6, .invokestatic 90, 3), (9, .ifCond .eq 13, 3), (12, .iload_n 2, 1), (13, .i2l, 1), (14, .lconst 0, 1), (15, .lconst 1, 1), (16, .invokestatic 90, 3), (19, .ifCond .ne 5, 3), (22, .iconst (-1), 1), (23, .ireturn, 1), (24, .aload_n 0, 1), (25, .invokevirtual 266, 3), (28, .aload_n 0, 1), (29, .iload_n 1, 1), (30, .invokevirtual 269, 3), (33, .aload_n 0, 1), (34, .getfield 239, 3), (37, .istore_n 3, 1), (38, .bipush (-4), 2), (40, .istore 4, 2), (42, .iconst 0, 1), (43, .istore 5, 2), (45, .iload 5, 2), (47, .aload_n 0, 1), (48, .getfield 79, 3), (51, .if_icmp .ge 95, 3), (54, .iload 5, 2), (56, .iconst 1, 1), (57, .iadd, 1), (58, .istore 6, 2), (60, .iload 6, 2), (62, .aload_n 0, 1), (63, .getfield 79, 3), (66, .if_icmp .ge 74, 3), (69, .aload_n 0, 1), (70, .iload 5, 2), (72, .iload 6, 2), (74, .invokevirtual 229, 3), (77, .aload_n 0, 1), (78, .invokevirtual 266, 3), (81, .aload_n 0, 1), (82, .iload_n 1, 1), (83, .invokevirtual 269, 3), (86, .aload_n 0, 1), (87, .iload 5, 2), (89, .iload 6, 2), (91, .invokevirtual 229, 3), (94, .aload_n 0, 1), (95, .getfield 239, 3), (98, .iload_n 3, 1), (99, .if_icmp .le 14, 3), (102, .bipush 10, 2), (104, .iload 5, 2), (106, .imul, 1), (107, .iload 6, 2), (109, .iadd, 1), (110, .goto 5, 3), (113, .iload 4, 2), (115, .istore 4, 2), (117, .aload_n 0, 1), (118, .getfield 239, 3), (121, .iload_n 3, 1), (122, .if_icmp .le 10, 3), (125, .aload_n 0, 1), (126, .getfield 239, 3), (129, .goto 4, 3), (132, .iload_n 3, 1), (133, .istore_n 3, 1), (134, .iinc 6 1, 3), (137, .goto (-77), 3), (140, .iinc 5 1, 3), (143, .goto (-98), 3), (146, .iload 4, 2), (148, .bipush (-4), 2), (150, .if_icmp .ne 8, 3), (153, .bipush (-4), 2), (155, .goto 13, 3), (158, .iload_n 2, 1), (159, .ifCond .ne 8, 3), (162, .iload 4, 2), (164, .goto 4, 3), (167, .iload_n 3, 1), (168, .ireturn, 1)]
set_option maxRecDepth 100000 in
theorem hp_X8_best : pr_X8_best.all (fun x => decide (decode cX8_best x.1 = .ok x.2)) = true := by decide +kernel
noncomputable def f_X8_best_b22 (N : Nat) (σ : yS) : Option (Int × yS) :=
  some ((-1), σ)
noncomputable def f_X8_best_b168 (N : Nat) (σ : yS) (s0 : Int) : Option (Int × yS) :=
  some (s0, σ)
noncomputable def f_X8_best_b133 (N : Nat) (k45 : yS → Int → Int → Int → Int → Int → Option (Int × yS)) (k60 : yS → Int → Int → Int → Int → Int → Int → Option (Int × yS)) (σ : yS) (x1 : Int) (x2 : Int) (x4 : Int) (x5 : Int) (x6 : Int) (s0 : Int) : Option (Int × yS) :=
  k60 σ x1 x2 s0 x4 x5 (yad x6 1)
noncomputable def f_X8_best_b115 (N : Nat) (k45 : yS → Int → Int → Int → Int → Int → Option (Int × yS)) (k60 : yS → Int → Int → Int → Int → Int → Int → Option (Int × yS)) (σ : yS) (x1 : Int) (x2 : Int) (x3 : Int) (x5 : Int) (x6 : Int) (s0 : Int) : Option (Int × yS) :=
  bif ycP .le (σ.1 0 26) x3 then
    f_X8_best_b133 N k45 k60 σ x1 x2 s0 x5 x6 x3
  else
    f_X8_best_b133 N k45 k60 σ x1 x2 s0 x5 x6 (σ.1 0 26)
noncomputable def f_X8_best_b60 (N : Nat) (k45 : yS → Int → Int → Int → Int → Int → Option (Int × yS)) : Nat → yS → Int → Int → Int → Int → Int → Int → Option (Int × yS) := yfix (fun _ _ _ _ _ _ _ => none) (fun ih σ x1 x2 x3 x4 x5 x6 =>
    bif ycP .ge x6 (σ.1 0 3) then
      k45 σ x1 x2 x3 x4 (yad x5 1)
    else
      match f_X8_moves N σ x5 x6 with
      | none => none
      | some r5 => match f_X8_starts N r5.2 with
        | none => none
        | some r6 => match f_X8_daysAll N r6.2 x1 with
          | none => none
          | some r7 => match f_X8_moves N r7.2 x5 x6 with
            | none => none
            | some r8 => bif ycP .le (r8.2.1 0 26) x3 then
                f_X8_best_b115 N k45 ih r8.2 x1 x2 x3 x5 x6 x4
              else
                f_X8_best_b115 N k45 ih r8.2 x1 x2 x3 x5 x6 (yad (ymu 10 x5) x6))
theorem q_X8_best_b60 (N : Nat) (k45 : yS → Int → Int → Int → Int → Int → Option (Int × yS)) (n : Nat) (σ : yS) (x1 : Int) (x2 : Int) (x3 : Int) (x4 : Int) (x5 : Int) (x6 : Int) : f_X8_best_b60 N k45 (n + 1) σ x1 x2 x3 x4 x5 x6 =
    (bif ycP .ge x6 (σ.1 0 3) then
      k45 σ x1 x2 x3 x4 (yad x5 1)
    else
      match f_X8_moves N σ x5 x6 with
      | none => none
      | some r5 => match f_X8_starts N r5.2 with
        | none => none
        | some r6 => match f_X8_daysAll N r6.2 x1 with
          | none => none
          | some r7 => match f_X8_moves N r7.2 x5 x6 with
            | none => none
            | some r8 => bif ycP .le (r8.2.1 0 26) x3 then
                f_X8_best_b115 N k45 (f_X8_best_b60 N k45 n) r8.2 x1 x2 x3 x5 x6 x4
              else
                f_X8_best_b115 N k45 (f_X8_best_b60 N k45 n) r8.2 x1 x2 x3 x5 x6 (yad (ymu 10 x5) x6)) := rfl
noncomputable def f_X8_best_b45 (N : Nat) : Nat → yS → Int → Int → Int → Int → Int → Option (Int × yS) := yfix (fun _ _ _ _ _ _ => none) (fun ih σ x1 x2 x3 x4 x5 =>
    bif ycP .ge x5 (σ.1 0 3) then
      bif ycP .ne x4 ((-4)) then
        bif ycP .ne x2 0 then
          f_X8_best_b168 N σ x3
        else
          f_X8_best_b168 N σ x4
      else
        f_X8_best_b168 N σ ((-4))
    else
      f_X8_best_b60 N ih N σ x1 x2 x3 x4 x5 (yad x5 1))
theorem q_X8_best_b45 (N : Nat) (n : Nat) (σ : yS) (x1 : Int) (x2 : Int) (x3 : Int) (x4 : Int) (x5 : Int) : f_X8_best_b45 N (n + 1) σ x1 x2 x3 x4 x5 =
    (bif ycP .ge x5 (σ.1 0 3) then
      bif ycP .ne x4 ((-4)) then
        bif ycP .ne x2 0 then
          f_X8_best_b168 N σ x3
        else
          f_X8_best_b168 N σ x4
      else
        f_X8_best_b168 N σ ((-4))
    else
      f_X8_best_b60 N (f_X8_best_b45 N n) N σ x1 x2 x3 x4 x5 (yad x5 1)) := rfl
noncomputable def f_X8_best (N : Nat) (σ : yS) (x1 : Int) (x2 : Int) : Option (Int × yS) :=
  match f_X8_in N σ x1 1 20 with
  | none => none
  | some r1 => bif ycP .eq r1.1 0 then
      f_X8_best_b22 N r1.2
    else
      match f_X8_in N r1.2 x2 0 1 with
      | none => none
      | some r2 => bif ycP .ne r2.1 0 then
          match f_X8_starts N r2.2 with
          | none => none
          | some r3 => match f_X8_daysAll N r3.2 x1 with
            | none => none
            | some r4 => f_X8_best_b45 N N r4.2 x1 x2 (r4.2.1 0 26) ((-4)) 0
        else
          f_X8_best_b22 N r2.2
noncomputable def F_X8_best (N : Nat) : yF := fun as σ => match as with
  | [.inr (.inl 8, 0), .inl (.inl x1), .inl (.inl x2)] => (f_X8_best N σ x1 x2).map (fun r => (some (.inl (.inl r.1)), r.2))
  | _ => none
theorem e_X8_best {N : Nat} {σ : yS} {x1 : Int} {x2 : Int} {r : Int × yS} (h : f_X8_best N σ x1 x2 = some r) : F_X8_best N [.inr (.inl 8, 0), .inl (.inl x1), .inl (.inl x2)] σ = some (some (.inl (.inl r.1)), r.2) := by
  show (f_X8_best N σ x1 x2).map (fun r => ((some (.inl (.inl r.1)), r.2) : yR)) = _
  rw [h]
  rfl
noncomputable def tb_X8_best (N : Nat) : yTb := ([(79, 8, 3, 0), (239, 8, 26, 0)], [], [(302, 20)], [(229, 3, 8, F_X8_moves N), (266, 1, 8, F_X8_starts N), (269, 2, 8, F_X8_daysAll N)], [(90, 3, F_X8_in N)], [], [])
abbrev G_X8_best (N : Nat) (X : zXT) (sh : List yH) (l : Launch) (rm : Room) : yC → yR → Prop := yGoes X vwCl yct sh l rm cX8_best 7 wsX8_best RX8 (tb_X8_best N) pr_X8_best 1
set_option maxRecDepth 100000 in
set_option maxHeartbeats 4000000 in
theorem t_X8_best_b22 {N : Nat} {X : zXT} {sh : List yH} {l : Launch} {rm : Room} (σ : yS) (res : Int × yS) (h : f_X8_best_b22 N σ = some res) : G_X8_best N X sh l rm (22, [], [], σ) (some (.inl (.inl res.1)), res.2) := by
  unfold f_X8_best_b22 at h
  refine yG_n (n := 1) (C' := (23, [], [.inl (.inl ((-1)))], σ)) rfl ?_
  have h := Option.some.inj h
  subst h
  dsimp only
  exact yG_r rfl rfl
set_option maxRecDepth 100000 in
set_option maxHeartbeats 4000000 in
theorem t_X8_best_b168 {N : Nat} {X : zXT} {sh : List yH} {l : Launch} {rm : Room} (σ : yS) (s0 : Int) (res : Int × yS) (h : f_X8_best_b168 N σ s0 = some res) : G_X8_best N X sh l rm (168, [], [.inl (.inl s0)], σ) (some (.inl (.inl res.1)), res.2) := by
  unfold f_X8_best_b168 at h
  have h := Option.some.inj h
  subst h
  dsimp only
  exact yG_r rfl rfl
set_option maxRecDepth 100000 in
set_option maxHeartbeats 4000000 in
theorem t_X8_best_b133 {N : Nat} {X : zXT} {sh : List yH} {l : Launch} {rm : Room} (k45 : yS → Int → Int → Int → Int → Int → Option (Int × yS)) (hk45 : ∀ (σ : yS) (x1 : Int) (x2 : Int) (x3 : Int) (x4 : Int) (x5 : Int) (res : Int × yS), k45 σ x1 x2 x3 x4 x5 = some res → G_X8_best N X sh l rm (45, [(0, .inr (.inl 8, 0)), (1, .inl (.inl x1)), (2, .inl (.inl x2)), (3, .inl (.inl x3)), (4, .inl (.inl x4)), (5, .inl (.inl x5))], [], σ) (some (.inl (.inl res.1)), res.2)) (k60 : yS → Int → Int → Int → Int → Int → Int → Option (Int × yS)) (hk60 : ∀ (σ : yS) (x1 : Int) (x2 : Int) (x3 : Int) (x4 : Int) (x5 : Int) (x6 : Int) (res : Int × yS), k60 σ x1 x2 x3 x4 x5 x6 = some res → G_X8_best N X sh l rm (60, [(0, .inr (.inl 8, 0)), (1, .inl (.inl x1)), (2, .inl (.inl x2)), (3, .inl (.inl x3)), (4, .inl (.inl x4)), (5, .inl (.inl x5)), (6, .inl (.inl x6))], [], σ) (some (.inl (.inl res.1)), res.2)) (σ : yS) (x1 : Int) (x2 : Int) (x4 : Int) (x5 : Int) (x6 : Int) (s0 : Int) (res : Int × yS) (h : f_X8_best_b133 N k45 k60 σ x1 x2 x4 x5 x6 s0 = some res) : G_X8_best N X sh l rm (133, [(0, .inr (.inl 8, 0)), (1, .inl (.inl x1)), (2, .inl (.inl x2)), (4, .inl (.inl x4)), (5, .inl (.inl x5)), (6, .inl (.inl x6))], [.inl (.inl s0)], σ) (some (.inl (.inl res.1)), res.2) := by
  unfold f_X8_best_b133 at h
  refine yG_n (n := 3) (C' := (60, [(6, .inl (.inl (yad x6 1))), (3, .inl (.inl s0)), (0, .inr (.inl 8, 0)), (1, .inl (.inl x1)), (2, .inl (.inl x2)), (4, .inl (.inl x4)), (5, .inl (.inl x5))], [], σ)) rfl ?_
  exact yG_w [2, 3, 4, 1, 5, 6, 0] rfl (hk60 σ x1 x2 s0 x4 x5 (yad x6 1) res h)
set_option maxRecDepth 100000 in
set_option maxHeartbeats 4000000 in
theorem t_X8_best_b115 {N : Nat} {X : zXT} {sh : List yH} {l : Launch} {rm : Room} (k45 : yS → Int → Int → Int → Int → Int → Option (Int × yS)) (hk45 : ∀ (σ : yS) (x1 : Int) (x2 : Int) (x3 : Int) (x4 : Int) (x5 : Int) (res : Int × yS), k45 σ x1 x2 x3 x4 x5 = some res → G_X8_best N X sh l rm (45, [(0, .inr (.inl 8, 0)), (1, .inl (.inl x1)), (2, .inl (.inl x2)), (3, .inl (.inl x3)), (4, .inl (.inl x4)), (5, .inl (.inl x5))], [], σ) (some (.inl (.inl res.1)), res.2)) (k60 : yS → Int → Int → Int → Int → Int → Int → Option (Int × yS)) (hk60 : ∀ (σ : yS) (x1 : Int) (x2 : Int) (x3 : Int) (x4 : Int) (x5 : Int) (x6 : Int) (res : Int × yS), k60 σ x1 x2 x3 x4 x5 x6 = some res → G_X8_best N X sh l rm (60, [(0, .inr (.inl 8, 0)), (1, .inl (.inl x1)), (2, .inl (.inl x2)), (3, .inl (.inl x3)), (4, .inl (.inl x4)), (5, .inl (.inl x5)), (6, .inl (.inl x6))], [], σ) (some (.inl (.inl res.1)), res.2)) (σ : yS) (x1 : Int) (x2 : Int) (x3 : Int) (x5 : Int) (x6 : Int) (s0 : Int) (res : Int × yS) (h : f_X8_best_b115 N k45 k60 σ x1 x2 x3 x5 x6 s0 = some res) : G_X8_best N X sh l rm (115, [(0, .inr (.inl 8, 0)), (1, .inl (.inl x1)), (2, .inl (.inl x2)), (3, .inl (.inl x3)), (5, .inl (.inl x5)), (6, .inl (.inl x6))], [.inl (.inl s0)], σ) (some (.inl (.inl res.1)), res.2) := by
  unfold f_X8_best_b115 at h
  refine yG_n (n := 4) (C' := (122, [(4, .inl (.inl s0)), (0, .inr (.inl 8, 0)), (1, .inl (.inl x1)), (2, .inl (.inl x2)), (3, .inl (.inl x3)), (5, .inl (.inl x5)), (6, .inl (.inl x6))], [.inl (.inl x3), .inl (.inl (σ.1 0 26))], σ)) rfl ?_
  cases hg1 : ycP .le (σ.1 0 26) x3 with
  | true =>
    rw [hg1] at h
    dsimp only [cond] at h
    refine yG_t (C' := (132, [(4, .inl (.inl s0)), (0, .inr (.inl 8, 0)), (1, .inl (.inl x1)), (2, .inl (.inl x2)), (3, .inl (.inl x3)), (5, .inl (.inl x5)), (6, .inl (.inl x6))], [], σ)) rfl hg1 ?_
    refine yG_n (n := 1) (C' := (133, [(4, .inl (.inl s0)), (0, .inr (.inl 8, 0)), (1, .inl (.inl x1)), (2, .inl (.inl x2)), (3, .inl (.inl x3)), (5, .inl (.inl x5)), (6, .inl (.inl x6))], [.inl (.inl x3)], σ)) rfl ?_
    exact yG_w [1, 2, 3, 0, 5, 6] rfl (t_X8_best_b133 k45 hk45 k60 hk60 σ x1 x2 s0 x5 x6 x3 res h)
  | false =>
    rw [hg1] at h
    dsimp only [cond] at h
    refine yG_f (C' := (125, [(4, .inl (.inl s0)), (0, .inr (.inl 8, 0)), (1, .inl (.inl x1)), (2, .inl (.inl x2)), (3, .inl (.inl x3)), (5, .inl (.inl x5)), (6, .inl (.inl x6))], [], σ)) rfl hg1 ?_
    refine yG_n (n := 3) (C' := (133, [(4, .inl (.inl s0)), (0, .inr (.inl 8, 0)), (1, .inl (.inl x1)), (2, .inl (.inl x2)), (3, .inl (.inl x3)), (5, .inl (.inl x5)), (6, .inl (.inl x6))], [.inl (.inl (σ.1 0 26))], σ)) rfl ?_
    exact yG_w [1, 2, 3, 0, 5, 6] rfl (t_X8_best_b133 k45 hk45 k60 hk60 σ x1 x2 s0 x5 x6 (σ.1 0 26) res h)
set_option maxRecDepth 100000 in
set_option maxHeartbeats 4000000 in
theorem t_X8_best_b60 {N : Nat} {X : zXT} {sh : List yH} {l : Launch} {rm : Room} (k45 : yS → Int → Int → Int → Int → Int → Option (Int × yS)) (hk45 : ∀ (σ : yS) (x1 : Int) (x2 : Int) (x3 : Int) (x4 : Int) (x5 : Int) (res : Int × yS), k45 σ x1 x2 x3 x4 x5 = some res → G_X8_best N X sh l rm (45, [(0, .inr (.inl 8, 0)), (1, .inl (.inl x1)), (2, .inl (.inl x2)), (3, .inl (.inl x3)), (4, .inl (.inl x4)), (5, .inl (.inl x5))], [], σ) (some (.inl (.inl res.1)), res.2)) : ∀ (n : Nat) (σ : yS) (x1 : Int) (x2 : Int) (x3 : Int) (x4 : Int) (x5 : Int) (x6 : Int) (res : Int × yS), f_X8_best_b60 N k45 n σ x1 x2 x3 x4 x5 x6 = some res → G_X8_best N X sh l rm (60, [(0, .inr (.inl 8, 0)), (1, .inl (.inl x1)), (2, .inl (.inl x2)), (3, .inl (.inl x3)), (4, .inl (.inl x4)), (5, .inl (.inl x5)), (6, .inl (.inl x6))], [], σ) (some (.inl (.inl res.1)), res.2) := by
  intro n
  induction n with
  | zero => intro σ x1 x2 x3 x4 x5 x6 res h; exact (yno h).elim
  | succ n ih =>
    intro σ x1 x2 x3 x4 x5 x6 res h
    rw [q_X8_best_b60] at h
    refine yG_n (n := 3) (C' := (66, [(0, .inr (.inl 8, 0)), (1, .inl (.inl x1)), (2, .inl (.inl x2)), (3, .inl (.inl x3)), (4, .inl (.inl x4)), (5, .inl (.inl x5)), (6, .inl (.inl x6))], [.inl (.inl (σ.1 0 3)), .inl (.inl x6)], σ)) rfl ?_
    cases hg2 : ycP .ge x6 (σ.1 0 3) with
    | true =>
      rw [hg2] at h
      dsimp only [cond] at h
      refine yG_t (C' := (140, [(0, .inr (.inl 8, 0)), (1, .inl (.inl x1)), (2, .inl (.inl x2)), (3, .inl (.inl x3)), (4, .inl (.inl x4)), (5, .inl (.inl x5)), (6, .inl (.inl x6))], [], σ)) rfl hg2 ?_
      refine yG_n (n := 2) (C' := (45, [(5, .inl (.inl (yad x5 1))), (0, .inr (.inl 8, 0)), (1, .inl (.inl x1)), (2, .inl (.inl x2)), (3, .inl (.inl x3)), (4, .inl (.inl x4)), (6, .inl (.inl x6))], [], σ)) rfl ?_
      exact yG_w [1, 2, 3, 4, 5, 0] rfl (hk45 σ x1 x2 x3 x4 (yad x5 1) res h)
    | false =>
      rw [hg2] at h
      dsimp only [cond] at h
      refine yG_f (C' := (69, [(0, .inr (.inl 8, 0)), (1, .inl (.inl x1)), (2, .inl (.inl x2)), (3, .inl (.inl x3)), (4, .inl (.inl x4)), (5, .inl (.inl x5)), (6, .inl (.inl x6))], [], σ)) rfl hg2 ?_
      refine yG_n (n := 3) (C' := (74, [(0, .inr (.inl 8, 0)), (1, .inl (.inl x1)), (2, .inl (.inl x2)), (3, .inl (.inl x3)), (4, .inl (.inl x4)), (5, .inl (.inl x5)), (6, .inl (.inl x6))], [.inl (.inl x6), .inl (.inl x5), .inr (.inl 8, 0)], σ)) rfl ?_
      cases hr3 : f_X8_moves N σ x5 x6 with
      | none => rw [hr3] at h; dsimp only at h; cases h
      | some r5 =>
        rw [hr3] at h
        dsimp only at h
        refine yG_c (C1 := (77, [(0, .inr (.inl 8, 0)), (1, .inl (.inl x1)), (2, .inl (.inl x2)), (3, .inl (.inl x3)), (4, .inl (.inl x4)), (5, .inl (.inl x5)), (6, .inl (.inl x6))], [], r5.2)) rfl (e_X8_moves hr3) rfl ?_
        refine yG_n (n := 1) (C' := (78, [(0, .inr (.inl 8, 0)), (1, .inl (.inl x1)), (2, .inl (.inl x2)), (3, .inl (.inl x3)), (4, .inl (.inl x4)), (5, .inl (.inl x5)), (6, .inl (.inl x6))], [.inr (.inl 8, 0)], r5.2)) rfl ?_
        cases hr4 : f_X8_starts N r5.2 with
        | none => rw [hr4] at h; dsimp only at h; cases h
        | some r6 =>
          rw [hr4] at h
          dsimp only at h
          refine yG_c (C1 := (81, [(0, .inr (.inl 8, 0)), (1, .inl (.inl x1)), (2, .inl (.inl x2)), (3, .inl (.inl x3)), (4, .inl (.inl x4)), (5, .inl (.inl x5)), (6, .inl (.inl x6))], [], r6.2)) rfl (e_X8_starts hr4) rfl ?_
          refine yG_n (n := 2) (C' := (83, [(0, .inr (.inl 8, 0)), (1, .inl (.inl x1)), (2, .inl (.inl x2)), (3, .inl (.inl x3)), (4, .inl (.inl x4)), (5, .inl (.inl x5)), (6, .inl (.inl x6))], [.inl (.inl x1), .inr (.inl 8, 0)], r6.2)) rfl ?_
          cases hr5 : f_X8_daysAll N r6.2 x1 with
          | none => rw [hr5] at h; dsimp only at h; cases h
          | some r7 =>
            rw [hr5] at h
            dsimp only at h
            refine yG_c (C1 := (86, [(0, .inr (.inl 8, 0)), (1, .inl (.inl x1)), (2, .inl (.inl x2)), (3, .inl (.inl x3)), (4, .inl (.inl x4)), (5, .inl (.inl x5)), (6, .inl (.inl x6))], [], r7.2)) rfl (e_X8_daysAll hr5) rfl ?_
            refine yG_n (n := 3) (C' := (91, [(0, .inr (.inl 8, 0)), (1, .inl (.inl x1)), (2, .inl (.inl x2)), (3, .inl (.inl x3)), (4, .inl (.inl x4)), (5, .inl (.inl x5)), (6, .inl (.inl x6))], [.inl (.inl x6), .inl (.inl x5), .inr (.inl 8, 0)], r7.2)) rfl ?_
            cases hr6 : f_X8_moves N r7.2 x5 x6 with
            | none => rw [hr6] at h; dsimp only at h; cases h
            | some r8 =>
              rw [hr6] at h
              dsimp only at h
              refine yG_c (C1 := (94, [(0, .inr (.inl 8, 0)), (1, .inl (.inl x1)), (2, .inl (.inl x2)), (3, .inl (.inl x3)), (4, .inl (.inl x4)), (5, .inl (.inl x5)), (6, .inl (.inl x6))], [], r8.2)) rfl (e_X8_moves hr6) rfl ?_
              refine yG_n (n := 3) (C' := (99, [(0, .inr (.inl 8, 0)), (1, .inl (.inl x1)), (2, .inl (.inl x2)), (3, .inl (.inl x3)), (4, .inl (.inl x4)), (5, .inl (.inl x5)), (6, .inl (.inl x6))], [.inl (.inl x3), .inl (.inl (r8.2.1 0 26))], r8.2)) rfl ?_
              cases hg7 : ycP .le (r8.2.1 0 26) x3 with
              | true =>
                rw [hg7] at h
                dsimp only [cond] at h
                refine yG_t (C' := (113, [(0, .inr (.inl 8, 0)), (1, .inl (.inl x1)), (2, .inl (.inl x2)), (3, .inl (.inl x3)), (4, .inl (.inl x4)), (5, .inl (.inl x5)), (6, .inl (.inl x6))], [], r8.2)) rfl hg7 ?_
                refine yG_n (n := 1) (C' := (115, [(0, .inr (.inl 8, 0)), (1, .inl (.inl x1)), (2, .inl (.inl x2)), (3, .inl (.inl x3)), (4, .inl (.inl x4)), (5, .inl (.inl x5)), (6, .inl (.inl x6))], [.inl (.inl x4)], r8.2)) rfl ?_
                exact yG_w [0, 1, 2, 3, 5, 6] rfl (t_X8_best_b115 k45 hk45 (f_X8_best_b60 N k45 n) ih r8.2 x1 x2 x3 x5 x6 x4 res h)
              | false =>
                rw [hg7] at h
                dsimp only [cond] at h
                refine yG_f (C' := (102, [(0, .inr (.inl 8, 0)), (1, .inl (.inl x1)), (2, .inl (.inl x2)), (3, .inl (.inl x3)), (4, .inl (.inl x4)), (5, .inl (.inl x5)), (6, .inl (.inl x6))], [], r8.2)) rfl hg7 ?_
                refine yG_n (n := 6) (C' := (115, [(0, .inr (.inl 8, 0)), (1, .inl (.inl x1)), (2, .inl (.inl x2)), (3, .inl (.inl x3)), (4, .inl (.inl x4)), (5, .inl (.inl x5)), (6, .inl (.inl x6))], [.inl (.inl (yad (ymu 10 x5) x6))], r8.2)) rfl ?_
                exact yG_w [0, 1, 2, 3, 5, 6] rfl (t_X8_best_b115 k45 hk45 (f_X8_best_b60 N k45 n) ih r8.2 x1 x2 x3 x5 x6 (yad (ymu 10 x5) x6) res h)
set_option maxRecDepth 100000 in
set_option maxHeartbeats 4000000 in
theorem t_X8_best_b45 {N : Nat} {X : zXT} {sh : List yH} {l : Launch} {rm : Room} : ∀ (n : Nat) (σ : yS) (x1 : Int) (x2 : Int) (x3 : Int) (x4 : Int) (x5 : Int) (res : Int × yS), f_X8_best_b45 N n σ x1 x2 x3 x4 x5 = some res → G_X8_best N X sh l rm (45, [(0, .inr (.inl 8, 0)), (1, .inl (.inl x1)), (2, .inl (.inl x2)), (3, .inl (.inl x3)), (4, .inl (.inl x4)), (5, .inl (.inl x5))], [], σ) (some (.inl (.inl res.1)), res.2) := by
  intro n
  induction n with
  | zero => intro σ x1 x2 x3 x4 x5 res h; exact (yno h).elim
  | succ n ih =>
    intro σ x1 x2 x3 x4 x5 res h
    rw [q_X8_best_b45] at h
    refine yG_n (n := 3) (C' := (51, [(0, .inr (.inl 8, 0)), (1, .inl (.inl x1)), (2, .inl (.inl x2)), (3, .inl (.inl x3)), (4, .inl (.inl x4)), (5, .inl (.inl x5))], [.inl (.inl (σ.1 0 3)), .inl (.inl x5)], σ)) rfl ?_
    cases hg8 : ycP .ge x5 (σ.1 0 3) with
    | true =>
      rw [hg8] at h
      dsimp only [cond] at h
      refine yG_t (C' := (146, [(0, .inr (.inl 8, 0)), (1, .inl (.inl x1)), (2, .inl (.inl x2)), (3, .inl (.inl x3)), (4, .inl (.inl x4)), (5, .inl (.inl x5))], [], σ)) rfl hg8 ?_
      refine yG_n (n := 2) (C' := (150, [(0, .inr (.inl 8, 0)), (1, .inl (.inl x1)), (2, .inl (.inl x2)), (3, .inl (.inl x3)), (4, .inl (.inl x4)), (5, .inl (.inl x5))], [.inl (.inl ((-4))), .inl (.inl x4)], σ)) rfl ?_
      cases hg9 : ycP .ne x4 ((-4)) with
      | true =>
        rw [hg9] at h
        dsimp only [cond] at h
        refine yG_t (C' := (158, [(0, .inr (.inl 8, 0)), (1, .inl (.inl x1)), (2, .inl (.inl x2)), (3, .inl (.inl x3)), (4, .inl (.inl x4)), (5, .inl (.inl x5))], [], σ)) rfl hg9 ?_
        refine yG_n (n := 1) (C' := (159, [(0, .inr (.inl 8, 0)), (1, .inl (.inl x1)), (2, .inl (.inl x2)), (3, .inl (.inl x3)), (4, .inl (.inl x4)), (5, .inl (.inl x5))], [.inl (.inl x2)], σ)) rfl ?_
        cases hg10 : ycP .ne x2 0 with
        | true =>
          rw [hg10] at h
          dsimp only [cond] at h
          refine yG_t (C' := (167, [(0, .inr (.inl 8, 0)), (1, .inl (.inl x1)), (2, .inl (.inl x2)), (3, .inl (.inl x3)), (4, .inl (.inl x4)), (5, .inl (.inl x5))], [], σ)) rfl hg10 ?_
          refine yG_n (n := 1) (C' := (168, [(0, .inr (.inl 8, 0)), (1, .inl (.inl x1)), (2, .inl (.inl x2)), (3, .inl (.inl x3)), (4, .inl (.inl x4)), (5, .inl (.inl x5))], [.inl (.inl x3)], σ)) rfl ?_
          exact yG_w [] rfl (t_X8_best_b168 σ x3 res h)
        | false =>
          rw [hg10] at h
          dsimp only [cond] at h
          refine yG_f (C' := (162, [(0, .inr (.inl 8, 0)), (1, .inl (.inl x1)), (2, .inl (.inl x2)), (3, .inl (.inl x3)), (4, .inl (.inl x4)), (5, .inl (.inl x5))], [], σ)) rfl hg10 ?_
          refine yG_n (n := 2) (C' := (168, [(0, .inr (.inl 8, 0)), (1, .inl (.inl x1)), (2, .inl (.inl x2)), (3, .inl (.inl x3)), (4, .inl (.inl x4)), (5, .inl (.inl x5))], [.inl (.inl x4)], σ)) rfl ?_
          exact yG_w [] rfl (t_X8_best_b168 σ x4 res h)
      | false =>
        rw [hg9] at h
        dsimp only [cond] at h
        refine yG_f (C' := (153, [(0, .inr (.inl 8, 0)), (1, .inl (.inl x1)), (2, .inl (.inl x2)), (3, .inl (.inl x3)), (4, .inl (.inl x4)), (5, .inl (.inl x5))], [], σ)) rfl hg9 ?_
        refine yG_n (n := 2) (C' := (168, [(0, .inr (.inl 8, 0)), (1, .inl (.inl x1)), (2, .inl (.inl x2)), (3, .inl (.inl x3)), (4, .inl (.inl x4)), (5, .inl (.inl x5))], [.inl (.inl ((-4)))], σ)) rfl ?_
        exact yG_w [] rfl (t_X8_best_b168 σ ((-4)) res h)
    | false =>
      rw [hg8] at h
      dsimp only [cond] at h
      refine yG_f (C' := (54, [(0, .inr (.inl 8, 0)), (1, .inl (.inl x1)), (2, .inl (.inl x2)), (3, .inl (.inl x3)), (4, .inl (.inl x4)), (5, .inl (.inl x5))], [], σ)) rfl hg8 ?_
      refine yG_n (n := 4) (C' := (60, [(6, .inl (.inl (yad x5 1))), (0, .inr (.inl 8, 0)), (1, .inl (.inl x1)), (2, .inl (.inl x2)), (3, .inl (.inl x3)), (4, .inl (.inl x4)), (5, .inl (.inl x5))], [], σ)) rfl ?_
      exact yG_w [1, 2, 3, 4, 5, 6, 0] rfl (t_X8_best_b60 (f_X8_best_b45 N n) ih N σ x1 x2 x3 x4 x5 (yad x5 1) res h)
set_option maxRecDepth 100000 in
set_option maxHeartbeats 4000000 in
theorem t_X8_best {N : Nat} {X : zXT} {sh : List yH} {l : Launch} {rm : Room} (σ : yS) (x1 : Int) (x2 : Int) (res : Int × yS) (h : f_X8_best N σ x1 x2 = some res) : G_X8_best N X sh l rm (0, [(0, .inr (.inl 8, 0)), (1, .inl (.inl x1)), (2, .inl (.inl x2))], [], σ) (some (.inl (.inl res.1)), res.2) := by
  unfold f_X8_best at h
  refine yG_n (n := 4) (C' := (6, [(0, .inr (.inl 8, 0)), (1, .inl (.inl x1)), (2, .inl (.inl x2))], [.inl (.inr 20), .inl (.inr 1), .inl (.inr x1)], σ)) rfl ?_
  cases hr11 : f_X8_in N σ x1 1 20 with
  | none => rw [hr11] at h; dsimp only at h; cases h
  | some r1 =>
    rw [hr11] at h
    dsimp only at h
    refine yG_c (C1 := (9, [(0, .inr (.inl 8, 0)), (1, .inl (.inl x1)), (2, .inl (.inl x2))], [.inl (.inl r1.1)], r1.2)) rfl (e_X8_in hr11) rfl ?_
    cases hg12 : ycP .eq r1.1 0 with
    | true =>
      rw [hg12] at h
      dsimp only [cond] at h
      refine yG_t (C' := (22, [(0, .inr (.inl 8, 0)), (1, .inl (.inl x1)), (2, .inl (.inl x2))], [], r1.2)) rfl hg12 ?_
      exact yG_w [] rfl (t_X8_best_b22 r1.2 res h)
    | false =>
      rw [hg12] at h
      dsimp only [cond] at h
      refine yG_f (C' := (12, [(0, .inr (.inl 8, 0)), (1, .inl (.inl x1)), (2, .inl (.inl x2))], [], r1.2)) rfl hg12 ?_
      refine yG_n (n := 4) (C' := (16, [(0, .inr (.inl 8, 0)), (1, .inl (.inl x1)), (2, .inl (.inl x2))], [.inl (.inr 1), .inl (.inr 0), .inl (.inr x2)], r1.2)) rfl ?_
      cases hr13 : f_X8_in N r1.2 x2 0 1 with
      | none => rw [hr13] at h; dsimp only at h; cases h
      | some r2 =>
        rw [hr13] at h
        dsimp only at h
        refine yG_c (C1 := (19, [(0, .inr (.inl 8, 0)), (1, .inl (.inl x1)), (2, .inl (.inl x2))], [.inl (.inl r2.1)], r2.2)) rfl (e_X8_in hr13) rfl ?_
        cases hg14 : ycP .ne r2.1 0 with
        | true =>
          rw [hg14] at h
          dsimp only [cond] at h
          refine yG_t (C' := (24, [(0, .inr (.inl 8, 0)), (1, .inl (.inl x1)), (2, .inl (.inl x2))], [], r2.2)) rfl hg14 ?_
          refine yG_n (n := 1) (C' := (25, [(0, .inr (.inl 8, 0)), (1, .inl (.inl x1)), (2, .inl (.inl x2))], [.inr (.inl 8, 0)], r2.2)) rfl ?_
          cases hr15 : f_X8_starts N r2.2 with
          | none => rw [hr15] at h; dsimp only at h; cases h
          | some r3 =>
            rw [hr15] at h
            dsimp only at h
            refine yG_c (C1 := (28, [(0, .inr (.inl 8, 0)), (1, .inl (.inl x1)), (2, .inl (.inl x2))], [], r3.2)) rfl (e_X8_starts hr15) rfl ?_
            refine yG_n (n := 2) (C' := (30, [(0, .inr (.inl 8, 0)), (1, .inl (.inl x1)), (2, .inl (.inl x2))], [.inl (.inl x1), .inr (.inl 8, 0)], r3.2)) rfl ?_
            cases hr16 : f_X8_daysAll N r3.2 x1 with
            | none => rw [hr16] at h; dsimp only at h; cases h
            | some r4 =>
              rw [hr16] at h
              dsimp only at h
              refine yG_c (C1 := (33, [(0, .inr (.inl 8, 0)), (1, .inl (.inl x1)), (2, .inl (.inl x2))], [], r4.2)) rfl (e_X8_daysAll hr16) rfl ?_
              refine yG_n (n := 7) (C' := (45, [(5, .inl (.inl 0)), (4, .inl (.inl ((-4)))), (3, .inl (.inl (r4.2.1 0 26))), (0, .inr (.inl 8, 0)), (1, .inl (.inl x1)), (2, .inl (.inl x2))], [], r4.2)) rfl ?_
              exact yG_w [3, 4, 5, 2, 1, 0] rfl (t_X8_best_b45 N r4.2 x1 x2 (r4.2.1 0 26) ((-4)) 0 res h)
        | false =>
          rw [hg14] at h
          dsimp only [cond] at h
          refine yG_f (C' := (22, [(0, .inr (.inl 8, 0)), (1, .inl (.inl x1)), (2, .inl (.inl x2))], [], r2.2)) rfl hg14 ?_
          exact yG_w [] rfl (t_X8_best_b22 r2.2 res h)
set_option maxRecDepth 100000 in
set_option maxHeartbeats 4000000 in
theorem m_X8_best {N : Nat} {X : zXT} (hX : zXok X) (hN : zXn X) (l : Launch) {sh : List yH} : yMet X vwCl yct sh l yX8_best wsX8_best { frames := 6, cells := 0, slots := 0, locals := 177 } (F_X8_best N) :=
  ymeth (tb := tb_X8_best N) (pr := pr_X8_best) (rt := 1) (own := RX8) hX (by decide +kernel) rfl rfl ⟨Nat.le_of_ble_eq_true rfl, Nat.le_of_ble_eq_true rfl⟩
    (zfl_all (List.forall_mem_cons.mpr ⟨zfl_X8 (fun w h => List.mem_cons_of_mem _ (List.mem_append_right _ h)) (List.mem_of_getElem? (i := 3) rfl) (by decide) (by decide), List.forall_mem_cons.mpr ⟨zfl_X8 (fun w h => List.mem_cons_of_mem _ (List.mem_append_right _ h)) (List.mem_of_getElem? (i := 2) rfl) (by decide) (by decide), fun _ h => absurd h List.not_mem_nil⟩⟩))
    (zco_all (fun _ h => absurd h List.not_mem_nil)) (zlc_all (List.forall_mem_cons.mpr ⟨(List.mem_of_getElem? (i := 1) rfl), fun _ h => absurd h List.not_mem_nil⟩))
    (List.forall_mem_cons.mpr ⟨ycal_V hX (m_X8_moves hX hN l) rfl (fun s args hts => cwV 2 hts gX8_best_X8_moves rfl rfl rfl (by decide +kernel) ⟨Nat.le_of_ble_eq_true rfl, Nat.le_of_ble_eq_true rfl⟩), List.forall_mem_cons.mpr ⟨ycal_V hX (m_X8_starts hX hN l) rfl (fun s args hts => cwV 0 hts gX8_best_X8_starts rfl rfl rfl (by decide +kernel) ⟨Nat.le_of_ble_eq_true rfl, Nat.le_of_ble_eq_true rfl⟩), List.forall_mem_cons.mpr ⟨ycal_V hX (m_X8_daysAll hX hN l) rfl (fun s args hts => cwV 1 hts gX8_best_X8_daysAll rfl rfl rfl (by decide +kernel) ⟨Nat.le_of_ble_eq_true rfl, Nat.le_of_ble_eq_true rfl⟩), fun _ h => absurd h List.not_mem_nil⟩⟩⟩)
    (List.forall_mem_cons.mpr ⟨ycal_S hX (m_X8_in hX hN l) (fun s args hts => va_cwS 3 hts gX8_best_X8_in rfl rfl rfl (by decide +kernel) ⟨Nat.le_of_ble_eq_true rfl, Nat.le_of_ble_eq_true rfl⟩), fun _ h => absurd h List.not_mem_nil⟩)
    (zmm_all (fun _ h => absurd h List.not_mem_nil)) (fun _ h => absurd h List.not_mem_nil) (zpr_all hp_X8_best) (fun as σ res h => by
      unfold F_X8_best at h
      split at h
      · rename_i x1 x2
        cases hr : f_X8_best N σ x1 x2 with
        | none => rw [hr] at h; cases h
        | some r =>
          rw [hr] at h
          cases h
          exact ⟨Nat.le_of_ble_eq_true rfl, t_X8_best σ x1 x2 r hr⟩
      · cases h)
noncomputable def pr_X8_bitsOf : List (Nat × Instr × Nat) := [(0, .iconst 0, 1), (1, .istore_n 1, 1), (2, .iconst 0, 1), (3, .istore_n 2, 1), (4, .iload_n 2, 1), (5, .bipush 7, 2), (7, .if_icmp .ge 17, 3), (10, .iload_n 1, 1), (11, .iload_n 0, 1), (12, .iload_n 2, 1), (13, .ishr, 1), (14, .iconst 1, 1), (15, .iand, 1), (16, .iadd, 1), (17, .istore_n 1, 1), (18, .iinc 2 1, 3), (21, .goto (-17), 3), (24, .iload_n 1, 1), (25, .ireturn, 1)]
set_option maxRecDepth 100000 in
theorem hp_X8_bitsOf : pr_X8_bitsOf.all (fun x => decide (decode cX8_bitsOf x.1 = .ok x.2)) = true := by decide +kernel
noncomputable def f_X8_bitsOf_b4 (N : Nat) : Nat → yS → Int → Int → Int → Option (Int × yS) := yfix (fun _ _ _ _ => none) (fun ih σ x0 x1 x2 =>
    bif ycP .ge x2 7 then
      some (x1, σ)
    else
      ih σ x0 (yad x1 (yan (ysr x0 x2) 1)) (yad x2 1))
theorem q_X8_bitsOf_b4 (N : Nat) (n : Nat) (σ : yS) (x0 : Int) (x1 : Int) (x2 : Int) : f_X8_bitsOf_b4 N (n + 1) σ x0 x1 x2 =
    (bif ycP .ge x2 7 then
      some (x1, σ)
    else
      (f_X8_bitsOf_b4 N n) σ x0 (yad x1 (yan (ysr x0 x2) 1)) (yad x2 1)) := rfl
noncomputable def f_X8_bitsOf (N : Nat) (σ : yS) (x0 : Int) : Option (Int × yS) :=
  f_X8_bitsOf_b4 N N σ x0 0 0
noncomputable def F_X8_bitsOf (N : Nat) : yF := fun as σ => match as with
  | [.inl (.inl x0)] => (f_X8_bitsOf N σ x0).map (fun r => (some (.inl (.inl r.1)), r.2))
  | _ => none
theorem e_X8_bitsOf {N : Nat} {σ : yS} {x0 : Int} {r : Int × yS} (h : f_X8_bitsOf N σ x0 = some r) : F_X8_bitsOf N [.inl (.inl x0)] σ = some (some (.inl (.inl r.1)), r.2) := by
  show (f_X8_bitsOf N σ x0).map (fun r => ((some (.inl (.inl r.1)), r.2) : yR)) = _
  rw [h]
  rfl
noncomputable def tb_X8_bitsOf (N : Nat) : yTb := ([], [], [], [], [], [], [])
abbrev G_X8_bitsOf (N : Nat) (X : zXT) (sh : List yH) (l : Launch) (rm : Room) : yC → yR → Prop := yGoes X vwCl yct sh l rm cX8_bitsOf 3 wsX8_bitsOf RX8 (tb_X8_bitsOf N) pr_X8_bitsOf 1
set_option maxRecDepth 100000 in
set_option maxHeartbeats 4000000 in
theorem t_X8_bitsOf_b4 {N : Nat} {X : zXT} {sh : List yH} {l : Launch} {rm : Room} : ∀ (n : Nat) (σ : yS) (x0 : Int) (x1 : Int) (x2 : Int) (res : Int × yS), f_X8_bitsOf_b4 N n σ x0 x1 x2 = some res → G_X8_bitsOf N X sh l rm (4, [(0, .inl (.inl x0)), (1, .inl (.inl x1)), (2, .inl (.inl x2))], [], σ) (some (.inl (.inl res.1)), res.2) := by
  intro n
  induction n with
  | zero => intro σ x0 x1 x2 res h; exact (yno h).elim
  | succ n ih =>
    intro σ x0 x1 x2 res h
    rw [q_X8_bitsOf_b4] at h
    refine yG_n (n := 2) (C' := (7, [(0, .inl (.inl x0)), (1, .inl (.inl x1)), (2, .inl (.inl x2))], [.inl (.inl 7), .inl (.inl x2)], σ)) rfl ?_
    cases hg1 : ycP .ge x2 7 with
    | true =>
      rw [hg1] at h
      dsimp only [cond] at h
      refine yG_t (C' := (24, [(0, .inl (.inl x0)), (1, .inl (.inl x1)), (2, .inl (.inl x2))], [], σ)) rfl hg1 ?_
      refine yG_n (n := 1) (C' := (25, [(0, .inl (.inl x0)), (1, .inl (.inl x1)), (2, .inl (.inl x2))], [.inl (.inl x1)], σ)) rfl ?_
      have h := Option.some.inj h
      subst h
      dsimp only
      exact yG_r rfl rfl
    | false =>
      rw [hg1] at h
      dsimp only [cond] at h
      refine yG_f (C' := (10, [(0, .inl (.inl x0)), (1, .inl (.inl x1)), (2, .inl (.inl x2))], [], σ)) rfl hg1 ?_
      refine yG_n (n := 10) (C' := (4, [(2, .inl (.inl (yad x2 1))), (1, .inl (.inl (yad x1 (yan (ysr x0 x2) 1)))), (0, .inl (.inl x0))], [], σ)) rfl ?_
      exact yG_w [2, 1, 0] rfl (ih σ x0 (yad x1 (yan (ysr x0 x2) 1)) (yad x2 1) res h)
set_option maxRecDepth 100000 in
set_option maxHeartbeats 4000000 in
theorem t_X8_bitsOf {N : Nat} {X : zXT} {sh : List yH} {l : Launch} {rm : Room} (σ : yS) (x0 : Int) (res : Int × yS) (h : f_X8_bitsOf N σ x0 = some res) : G_X8_bitsOf N X sh l rm (0, [(0, .inl (.inl x0))], [], σ) (some (.inl (.inl res.1)), res.2) := by
  unfold f_X8_bitsOf at h
  refine yG_n (n := 4) (C' := (4, [(2, .inl (.inl 0)), (1, .inl (.inl 0)), (0, .inl (.inl x0))], [], σ)) rfl ?_
  exact yG_w [2, 1, 0] rfl (t_X8_bitsOf_b4 N σ x0 0 0 res h)
set_option maxRecDepth 100000 in
set_option maxHeartbeats 4000000 in
theorem m_X8_bitsOf {N : Nat} {X : zXT} (hX : zXok X) (hN : zXn X) (l : Launch) {sh : List yH} : yMet X vwCl yct sh l yX8_bitsOf wsX8_bitsOf { frames := 1, cells := 0, slots := 0, locals := 64 } (F_X8_bitsOf N) :=
  ymeth (tb := tb_X8_bitsOf N) (pr := pr_X8_bitsOf) (rt := 1) (own := RX8) hX (by decide +kernel) rfl rfl ⟨Nat.le_of_ble_eq_true rfl, Nat.le_of_ble_eq_true rfl⟩
    (zfl_all (fun _ h => absurd h List.not_mem_nil))
    (zco_all (fun _ h => absurd h List.not_mem_nil)) (zlc_all (fun _ h => absurd h List.not_mem_nil))
    (fun _ h => absurd h List.not_mem_nil)
    (fun _ h => absurd h List.not_mem_nil)
    (zmm_all (fun _ h => absurd h List.not_mem_nil)) (fun _ h => absurd h List.not_mem_nil) (zpr_all hp_X8_bitsOf) (fun as σ res h => by
      unfold F_X8_bitsOf at h
      split at h
      · rename_i x0
        cases hr : f_X8_bitsOf N σ x0 with
        | none => rw [hr] at h; cases h
        | some r =>
          rw [hr] at h
          cases h
          exact ⟨Nat.le_of_ble_eq_true rfl, t_X8_bitsOf σ x0 r hr⟩
      · cases h)
noncomputable def pr_X8_can : List (Nat × Instr × Nat) := [(0, .aload_n 0, 1), (1, .iload_n 1, 1), (2, .invokevirtual 205, 3), (5, .ifCond .eq 11, 3), (8, .aload_n 0, 1), (9, .iload_n 2, 1), (10, .invokevirtual 209, 3), (13, .ifCond .ne 5, 3), (16, .iconst (-1), 1), (17, .ireturn, 1), (18, .aload_n 0, 1), (19, .getfield 7, 3), (22, .bipush 7, 2), (24, .iload_n 1, 1), (25, .iadd, 1), (26, .iaload, 1), (27, .iload_n 2, 1), (28, .ishr, 1), (29, .iconst 1, 1), (30, .iand, 1), (31, .istore 4, 2), (33, .aload_n 0, 1), (34, .getfield 7, 3), (37, .bipush 7, 2), (39, .iload_n 1, 1), (40, .iadd, 1), (41, .iload_n 3, 1), (42, .ifCond .eq 19, 3), (45, .aload_n 0, 1), (46, .getfield 7, 3), (49, .bipush 7, 2), (51, .iload_n 1, 1), (52, .iadd, 1), (53, .iaload, 1), (54, .iconst 1, 1), (55, .iload_n 2, 1), (56, .ishl, 1), (57, .ior, 1), (58, .goto 18, 3), (61, .aload_n 0, 1), (62, .getfield 7, 3), (65, .bipush 7, 2), (67, .iload_n 1, 1), (68, .iadd, 1), (69, .iaload, 1), (70, .iconst 1, 1), (71, .iload_n 2, 1), (72, .ishl, 1), (73, .iconst (-1), 1), (74, .ixor, 1), (75, .iand, 1), (76, .iastore, 1), (77, .iload 4, 2), (79, .ireturn, 1)]
set_option maxRecDepth 100000 in
theorem hp_X8_can : pr_X8_can.all (fun x => decide (decode cX8_can x.1 = .ok x.2)) = true := by decide +kernel
noncomputable def f_X8_can_b16 (N : Nat) (σ : yS) : Option (Int × yS) :=
  some ((-1), σ)
noncomputable def f_X8_can_b76 (N : Nat) (σ : yS) (x4 : Int) (s0 : Int) (s1 : Int) : Option (Int × yS) :=
  bif yin s1 393 then
    some (x4, yw σ 1 s1.toNat s0)
  else none
noncomputable def f_X8_can (N : Nat) (σ : yS) (x1 : Int) (x2 : Int) (x3 : Int) : Option (Int × yS) :=
  match f_X8_isHouse N σ x1 with
  | none => none
  | some r1 => bif ycP .eq r1.1 0 then
      f_X8_can_b16 N r1.2
    else
      match f_X8_isDeed N r1.2 x2 with
      | none => none
      | some r2 => bif ycP .ne r2.1 0 then
          bif yin (yad 7 x1) 393 then
            bif ycP .eq x3 0 then
              f_X8_can_b76 N r2.2 (yan (ysr (r2.2.1 1 (yad 7 x1).toNat) x2) 1) (yan (r2.2.1 1 (yad 7 x1).toNat) (yxo (ysl 1 x2) ((-1)))) (yad 7 x1)
            else
              f_X8_can_b76 N r2.2 (yan (ysr (r2.2.1 1 (yad 7 x1).toNat) x2) 1) (yor (r2.2.1 1 (yad 7 x1).toNat) (ysl 1 x2)) (yad 7 x1)
          else none
        else
          f_X8_can_b16 N r2.2
noncomputable def F_X8_can (N : Nat) : yF := fun as σ => match as with
  | [.inr (.inl 8, 0), .inl (.inl x1), .inl (.inl x2), .inl (.inl x3)] => (f_X8_can N σ x1 x2 x3).map (fun r => (some (.inl (.inl r.1)), r.2))
  | _ => none
theorem e_X8_can {N : Nat} {σ : yS} {x1 : Int} {x2 : Int} {x3 : Int} {r : Int × yS} (h : f_X8_can N σ x1 x2 x3 = some r) : F_X8_can N [.inr (.inl 8, 0), .inl (.inl x1), .inl (.inl x2), .inl (.inl x3)] σ = some (some (.inl (.inl r.1)), r.2) := by
  show (f_X8_can N σ x1 x2 x3).map (fun r => ((some (.inl (.inl r.1)), r.2) : yR)) = _
  rw [h]
  rfl
noncomputable def tb_X8_can (N : Nat) : yTb := ([(7, 8, 0, 3)], [], [], [(205, 2, 8, F_X8_isHouse N), (209, 2, 8, F_X8_isDeed N)], [], [], [])
abbrev G_X8_can (N : Nat) (X : zXT) (sh : List yH) (l : Launch) (rm : Room) : yC → yR → Prop := yGoes X vwCl yct sh l rm cX8_can 5 wsX8_can RX8 (tb_X8_can N) pr_X8_can 1
set_option maxRecDepth 100000 in
set_option maxHeartbeats 4000000 in
theorem t_X8_can_b16 {N : Nat} {X : zXT} {sh : List yH} {l : Launch} {rm : Room} (σ : yS) (res : Int × yS) (h : f_X8_can_b16 N σ = some res) : G_X8_can N X sh l rm (16, [], [], σ) (some (.inl (.inl res.1)), res.2) := by
  unfold f_X8_can_b16 at h
  refine yG_n (n := 1) (C' := (17, [], [.inl (.inl ((-1)))], σ)) rfl ?_
  have h := Option.some.inj h
  subst h
  dsimp only
  exact yG_r rfl rfl
set_option maxRecDepth 100000 in
set_option maxHeartbeats 4000000 in
theorem t_X8_can_b76 {N : Nat} {X : zXT} {sh : List yH} {l : Launch} {rm : Room} (σ : yS) (x4 : Int) (s0 : Int) (s1 : Int) (res : Int × yS) (h : f_X8_can_b76 N σ x4 s0 s1 = some res) : G_X8_can N X sh l rm (76, [(4, .inl (.inl x4))], [.inl (.inl s0), .inl (.inl s1), .inr (.inr (0, 393), 1)], σ) (some (.inl (.inl res.1)), res.2) := by
  unfold f_X8_can_b76 at h
  cases hg1 : yin s1 393 with
  | false => rw [hg1] at h; dsimp only [cond] at h; cases h
  | true =>
    rw [hg1] at h
    dsimp only [cond] at h
    refine yG_t (C' := (77, [(4, .inl (.inl x4))], [], yw σ 1 s1.toNat s0)) rfl hg1 ?_
    refine yG_n (n := 1) (C' := (79, [(4, .inl (.inl x4))], [.inl (.inl x4)], yw σ 1 s1.toNat s0)) rfl ?_
    have h := Option.some.inj h
    subst h
    dsimp only
    exact yG_r rfl rfl
set_option maxRecDepth 100000 in
set_option maxHeartbeats 4000000 in
theorem t_X8_can {N : Nat} {X : zXT} {sh : List yH} {l : Launch} {rm : Room} (σ : yS) (x1 : Int) (x2 : Int) (x3 : Int) (res : Int × yS) (h : f_X8_can N σ x1 x2 x3 = some res) : G_X8_can N X sh l rm (0, [(0, .inr (.inl 8, 0)), (1, .inl (.inl x1)), (2, .inl (.inl x2)), (3, .inl (.inl x3))], [], σ) (some (.inl (.inl res.1)), res.2) := by
  unfold f_X8_can at h
  refine yG_n (n := 2) (C' := (2, [(0, .inr (.inl 8, 0)), (1, .inl (.inl x1)), (2, .inl (.inl x2)), (3, .inl (.inl x3))], [.inl (.inl x1), .inr (.inl 8, 0)], σ)) rfl ?_
  cases hr2 : f_X8_isHouse N σ x1 with
  | none => rw [hr2] at h; dsimp only at h; cases h
  | some r1 =>
    rw [hr2] at h
    dsimp only at h
    refine yG_c (C1 := (5, [(0, .inr (.inl 8, 0)), (1, .inl (.inl x1)), (2, .inl (.inl x2)), (3, .inl (.inl x3))], [.inl (.inl r1.1)], r1.2)) rfl (e_X8_isHouse hr2) rfl ?_
    cases hg3 : ycP .eq r1.1 0 with
    | true =>
      rw [hg3] at h
      dsimp only [cond] at h
      refine yG_t (C' := (16, [(0, .inr (.inl 8, 0)), (1, .inl (.inl x1)), (2, .inl (.inl x2)), (3, .inl (.inl x3))], [], r1.2)) rfl hg3 ?_
      exact yG_w [] rfl (t_X8_can_b16 r1.2 res h)
    | false =>
      rw [hg3] at h
      dsimp only [cond] at h
      refine yG_f (C' := (8, [(0, .inr (.inl 8, 0)), (1, .inl (.inl x1)), (2, .inl (.inl x2)), (3, .inl (.inl x3))], [], r1.2)) rfl hg3 ?_
      refine yG_n (n := 2) (C' := (10, [(0, .inr (.inl 8, 0)), (1, .inl (.inl x1)), (2, .inl (.inl x2)), (3, .inl (.inl x3))], [.inl (.inl x2), .inr (.inl 8, 0)], r1.2)) rfl ?_
      cases hr4 : f_X8_isDeed N r1.2 x2 with
      | none => rw [hr4] at h; dsimp only at h; cases h
      | some r2 =>
        rw [hr4] at h
        dsimp only at h
        refine yG_c (C1 := (13, [(0, .inr (.inl 8, 0)), (1, .inl (.inl x1)), (2, .inl (.inl x2)), (3, .inl (.inl x3))], [.inl (.inl r2.1)], r2.2)) rfl (e_X8_isDeed hr4) rfl ?_
        cases hg5 : ycP .ne r2.1 0 with
        | true =>
          rw [hg5] at h
          dsimp only [cond] at h
          refine yG_t (C' := (18, [(0, .inr (.inl 8, 0)), (1, .inl (.inl x1)), (2, .inl (.inl x2)), (3, .inl (.inl x3))], [], r2.2)) rfl hg5 ?_
          refine yG_n (n := 5) (C' := (26, [(0, .inr (.inl 8, 0)), (1, .inl (.inl x1)), (2, .inl (.inl x2)), (3, .inl (.inl x3))], [.inl (.inl (yad 7 x1)), .inr (.inr (0, 393), 1)], r2.2)) rfl ?_
          cases hg6 : yin (yad 7 x1) 393 with
          | false => rw [hg6] at h; dsimp only [cond] at h; cases h
          | true =>
            rw [hg6] at h
            dsimp only [cond] at h
            refine yG_t (C' := (27, [(0, .inr (.inl 8, 0)), (1, .inl (.inl x1)), (2, .inl (.inl x2)), (3, .inl (.inl x3))], [.inl (.inl (r2.2.1 1 (yad 7 x1).toNat))], r2.2)) rfl hg6 ?_
            refine yG_n (n := 11) (C' := (42, [(4, .inl (.inl (yan (ysr (r2.2.1 1 (yad 7 x1).toNat) x2) 1))), (0, .inr (.inl 8, 0)), (1, .inl (.inl x1)), (2, .inl (.inl x2)), (3, .inl (.inl x3))], [.inl (.inl x3), .inl (.inl (yad 7 x1)), .inr (.inr (0, 393), 1)], r2.2)) rfl ?_
            cases hg7 : ycP .eq x3 0 with
            | true =>
              rw [hg7] at h
              dsimp only [cond] at h
              refine yG_t (C' := (61, [(4, .inl (.inl (yan (ysr (r2.2.1 1 (yad 7 x1).toNat) x2) 1))), (0, .inr (.inl 8, 0)), (1, .inl (.inl x1)), (2, .inl (.inl x2)), (3, .inl (.inl x3))], [.inl (.inl (yad 7 x1)), .inr (.inr (0, 393), 1)], r2.2)) rfl hg7 ?_
              refine yG_n (n := 5) (C' := (69, [(4, .inl (.inl (yan (ysr (r2.2.1 1 (yad 7 x1).toNat) x2) 1))), (0, .inr (.inl 8, 0)), (1, .inl (.inl x1)), (2, .inl (.inl x2)), (3, .inl (.inl x3))], [.inl (.inl (yad 7 x1)), .inr (.inr (0, 393), 1), .inl (.inl (yad 7 x1)), .inr (.inr (0, 393), 1)], r2.2)) rfl ?_
              refine yG_t (C' := (70, [(4, .inl (.inl (yan (ysr (r2.2.1 1 (yad 7 x1).toNat) x2) 1))), (0, .inr (.inl 8, 0)), (1, .inl (.inl x1)), (2, .inl (.inl x2)), (3, .inl (.inl x3))], [.inl (.inl (r2.2.1 1 (yad 7 x1).toNat)), .inl (.inl (yad 7 x1)), .inr (.inr (0, 393), 1)], r2.2)) rfl hg6 ?_
              refine yG_n (n := 6) (C' := (76, [(4, .inl (.inl (yan (ysr (r2.2.1 1 (yad 7 x1).toNat) x2) 1))), (0, .inr (.inl 8, 0)), (1, .inl (.inl x1)), (2, .inl (.inl x2)), (3, .inl (.inl x3))], [.inl (.inl (yan (r2.2.1 1 (yad 7 x1).toNat) (yxo (ysl 1 x2) ((-1))))), .inl (.inl (yad 7 x1)), .inr (.inr (0, 393), 1)], r2.2)) rfl ?_
              exact yG_w [0] rfl (t_X8_can_b76 r2.2 (yan (ysr (r2.2.1 1 (yad 7 x1).toNat) x2) 1) (yan (r2.2.1 1 (yad 7 x1).toNat) (yxo (ysl 1 x2) ((-1)))) (yad 7 x1) res h)
            | false =>
              rw [hg7] at h
              dsimp only [cond] at h
              refine yG_f (C' := (45, [(4, .inl (.inl (yan (ysr (r2.2.1 1 (yad 7 x1).toNat) x2) 1))), (0, .inr (.inl 8, 0)), (1, .inl (.inl x1)), (2, .inl (.inl x2)), (3, .inl (.inl x3))], [.inl (.inl (yad 7 x1)), .inr (.inr (0, 393), 1)], r2.2)) rfl hg7 ?_
              refine yG_n (n := 5) (C' := (53, [(4, .inl (.inl (yan (ysr (r2.2.1 1 (yad 7 x1).toNat) x2) 1))), (0, .inr (.inl 8, 0)), (1, .inl (.inl x1)), (2, .inl (.inl x2)), (3, .inl (.inl x3))], [.inl (.inl (yad 7 x1)), .inr (.inr (0, 393), 1), .inl (.inl (yad 7 x1)), .inr (.inr (0, 393), 1)], r2.2)) rfl ?_
              refine yG_t (C' := (54, [(4, .inl (.inl (yan (ysr (r2.2.1 1 (yad 7 x1).toNat) x2) 1))), (0, .inr (.inl 8, 0)), (1, .inl (.inl x1)), (2, .inl (.inl x2)), (3, .inl (.inl x3))], [.inl (.inl (r2.2.1 1 (yad 7 x1).toNat)), .inl (.inl (yad 7 x1)), .inr (.inr (0, 393), 1)], r2.2)) rfl hg6 ?_
              refine yG_n (n := 5) (C' := (76, [(4, .inl (.inl (yan (ysr (r2.2.1 1 (yad 7 x1).toNat) x2) 1))), (0, .inr (.inl 8, 0)), (1, .inl (.inl x1)), (2, .inl (.inl x2)), (3, .inl (.inl x3))], [.inl (.inl (yor (r2.2.1 1 (yad 7 x1).toNat) (ysl 1 x2))), .inl (.inl (yad 7 x1)), .inr (.inr (0, 393), 1)], r2.2)) rfl ?_
              exact yG_w [0] rfl (t_X8_can_b76 r2.2 (yan (ysr (r2.2.1 1 (yad 7 x1).toNat) x2) 1) (yor (r2.2.1 1 (yad 7 x1).toNat) (ysl 1 x2)) (yad 7 x1) res h)
        | false =>
          rw [hg5] at h
          dsimp only [cond] at h
          refine yG_f (C' := (16, [(0, .inr (.inl 8, 0)), (1, .inl (.inl x1)), (2, .inl (.inl x2)), (3, .inl (.inl x3))], [], r2.2)) rfl hg5 ?_
          exact yG_w [] rfl (t_X8_can_b16 r2.2 res h)
set_option maxRecDepth 100000 in
set_option maxHeartbeats 4000000 in
theorem m_X8_can {N : Nat} {X : zXT} (hX : zXok X) (hN : zXn X) (l : Launch) {sh : List yH} : yMet X vwCl yct sh l yX8_can wsX8_can { frames := 3, cells := 0, slots := 0, locals := 110 } (F_X8_can N) :=
  ymeth (tb := tb_X8_can N) (pr := pr_X8_can) (rt := 1) (own := RX8) hX (by decide +kernel) rfl rfl ⟨Nat.le_of_ble_eq_true rfl, Nat.le_of_ble_eq_true rfl⟩
    (zfl_all (List.forall_mem_cons.mpr ⟨zfl_X8 (fun w h => List.mem_cons_of_mem _ (List.mem_append_right _ h)) (List.mem_of_getElem? (i := 1) rfl) (by decide) (by decide), fun _ h => absurd h List.not_mem_nil⟩))
    (zco_all (fun _ h => absurd h List.not_mem_nil)) (zlc_all (fun _ h => absurd h List.not_mem_nil))
    (List.forall_mem_cons.mpr ⟨ycal_V hX (m_X8_isHouse hX hN l) rfl (fun s args hts => cwV 1 hts gX8_can_X8_isHouse rfl rfl rfl (by decide +kernel) ⟨Nat.le_of_ble_eq_true rfl, Nat.le_of_ble_eq_true rfl⟩), List.forall_mem_cons.mpr ⟨ycal_V hX (m_X8_isDeed hX hN l) rfl (fun s args hts => cwV 1 hts gX8_can_X8_isDeed rfl rfl rfl (by decide +kernel) ⟨Nat.le_of_ble_eq_true rfl, Nat.le_of_ble_eq_true rfl⟩), fun _ h => absurd h List.not_mem_nil⟩⟩)
    (fun _ h => absurd h List.not_mem_nil)
    (zmm_all (fun _ h => absurd h List.not_mem_nil)) (fun _ h => absurd h List.not_mem_nil) (zpr_all hp_X8_can) (fun as σ res h => by
      unfold F_X8_can at h
      split at h
      · rename_i x1 x2 x3
        cases hr : f_X8_can N σ x1 x2 x3 with
        | none => rw [hr] at h; cases h
        | some r =>
          rw [hr] at h
          cases h
          exact ⟨Nat.le_of_ble_eq_true rfl, t_X8_can σ x1 x2 x3 r hr⟩
      · cases h)
