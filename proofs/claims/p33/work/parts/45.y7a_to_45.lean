section
noncomputable def pr_X7_within : List (Nat × Instr × Nat) := [(0, .iload_n 1, 1), (1, .iload_n 0, 1), (2, .if_icmp .gt 12, 3), (5, .iload_n 0, 1), (6, .iload_n 2, 1), (7, .if_icmp .gt 7, 3), (10, .iconst 1, 1), (11, .goto 4, 3), (14, .iconst 0, 1), (15, .ireturn, 1)]
set_option maxRecDepth 100000 in
theorem hp_X7_within : pr_X7_within.all (fun x => decide (decode cX7_within x.1 = .ok x.2)) = true := by decide +kernel
noncomputable def f_X7_within_b15 (N : Nat) (σ : yS) (s0 : Int) : Option (Int × yS) :=
  bif yb1 s0 then some (s0, σ) else none
noncomputable def f_X7_within_b14 (N : Nat) (σ : yS) : Option (Int × yS) :=
  f_X7_within_b15 N σ 0
noncomputable def f_X7_within (N : Nat) (σ : yS) (x0 : Int) (x1 : Int) (x2 : Int) : Option (Int × yS) :=
  bif ycP .gt x1 x0 then
    f_X7_within_b14 N σ
  else
    bif ycP .gt x0 x2 then
      f_X7_within_b14 N σ
    else
      f_X7_within_b15 N σ 1
noncomputable def F_X7_within (N : Nat) : yF := fun as σ => match as with
  | [.inl (.inl x0), .inl (.inl x1), .inl (.inl x2)] => (f_X7_within N σ x0 x1 x2).map (fun r => (some (.inl (.inl r.1)), r.2))
  | _ => none
theorem e_X7_within {N : Nat} {σ : yS} {x0 : Int} {x1 : Int} {x2 : Int} {r : Int × yS} (h : f_X7_within N σ x0 x1 x2 = some r) : F_X7_within N [.inl (.inl x0), .inl (.inl x1), .inl (.inl x2)] σ = some (some (.inl (.inl r.1)), r.2) := by
  show (f_X7_within N σ x0 x1 x2).map (fun r => ((some (.inl (.inl r.1)), r.2) : yR)) = _
  rw [h]
  rfl
noncomputable def tb_X7_within (N : Nat) : yTb := ([], [], [], [], [], [], [])
abbrev G_X7_within (N : Nat) (X : zXT) (sh : List yH) (l : Launch) (rm : Room) : yC → yR → Prop := yGoes X vwCl yct sh l rm cX7_within 3 wsX7_within RX7 (tb_X7_within N) pr_X7_within 2
set_option maxRecDepth 100000 in
set_option maxHeartbeats 4000000 in
theorem t_X7_within_b15 {N : Nat} {X : zXT} {sh : List yH} {l : Launch} {rm : Room} (σ : yS) (s0 : Int) (res : Int × yS) (h : f_X7_within_b15 N σ s0 = some res) : G_X7_within N X sh l rm (15, [], [.inl (.inl s0)], σ) (some (.inl (.inl res.1)), res.2) := by
  unfold f_X7_within_b15 at h
  cases hg1 : yb1 s0 with
  | false => rw [hg1] at h; dsimp only [cond] at h; cases h
  | true =>
    rw [hg1] at h
    dsimp only [cond] at h
    have h := Option.some.inj h
    subst h
    dsimp only
    exact yG_r rfl hg1
set_option maxRecDepth 100000 in
set_option maxHeartbeats 4000000 in
theorem t_X7_within_b14 {N : Nat} {X : zXT} {sh : List yH} {l : Launch} {rm : Room} (σ : yS) (res : Int × yS) (h : f_X7_within_b14 N σ = some res) : G_X7_within N X sh l rm (14, [], [], σ) (some (.inl (.inl res.1)), res.2) := by
  unfold f_X7_within_b14 at h
  refine yG_n (n := 1) (C' := (15, [], [.inl (.inl 0)], σ)) rfl ?_
  exact t_X7_within_b15 σ 0 res h
set_option maxRecDepth 100000 in
set_option maxHeartbeats 4000000 in
theorem t_X7_within {N : Nat} {X : zXT} {sh : List yH} {l : Launch} {rm : Room} (σ : yS) (x0 : Int) (x1 : Int) (x2 : Int) (res : Int × yS) (h : f_X7_within N σ x0 x1 x2 = some res) : G_X7_within N X sh l rm (0, [(0, .inl (.inl x0)), (1, .inl (.inl x1)), (2, .inl (.inl x2))], [], σ) (some (.inl (.inl res.1)), res.2) := by
  unfold f_X7_within at h
  refine yG_n (n := 2) (C' := (2, [(0, .inl (.inl x0)), (1, .inl (.inl x1)), (2, .inl (.inl x2))], [.inl (.inl x0), .inl (.inl x1)], σ)) rfl ?_
  cases hg2 : ycP .gt x1 x0 with
  | true =>
    rw [hg2] at h
    dsimp only [cond] at h
    refine yG_t (C' := (14, [(0, .inl (.inl x0)), (1, .inl (.inl x1)), (2, .inl (.inl x2))], [], σ)) rfl hg2 ?_
    exact yG_w [] rfl (t_X7_within_b14 σ res h)
  | false =>
    rw [hg2] at h
    dsimp only [cond] at h
    refine yG_f (C' := (5, [(0, .inl (.inl x0)), (1, .inl (.inl x1)), (2, .inl (.inl x2))], [], σ)) rfl hg2 ?_
    refine yG_n (n := 2) (C' := (7, [(0, .inl (.inl x0)), (1, .inl (.inl x1)), (2, .inl (.inl x2))], [.inl (.inl x2), .inl (.inl x0)], σ)) rfl ?_
    cases hg3 : ycP .gt x0 x2 with
    | true =>
      rw [hg3] at h
      dsimp only [cond] at h
      refine yG_t (C' := (14, [(0, .inl (.inl x0)), (1, .inl (.inl x1)), (2, .inl (.inl x2))], [], σ)) rfl hg3 ?_
      exact yG_w [] rfl (t_X7_within_b14 σ res h)
    | false =>
      rw [hg3] at h
      dsimp only [cond] at h
      refine yG_f (C' := (10, [(0, .inl (.inl x0)), (1, .inl (.inl x1)), (2, .inl (.inl x2))], [], σ)) rfl hg3 ?_
      refine yG_n (n := 2) (C' := (15, [(0, .inl (.inl x0)), (1, .inl (.inl x1)), (2, .inl (.inl x2))], [.inl (.inl 1)], σ)) rfl ?_
      exact yG_w [] rfl (t_X7_within_b15 σ 1 res h)
set_option maxRecDepth 100000 in
set_option maxHeartbeats 4000000 in
theorem m_X7_within {N : Nat} {X : zXT} (hX : zXok X) (hN : zXn X) (l : Launch) {sh : List yH} : yMet X vwCl yct sh l yX7_within wsX7_within { frames := 1, cells := 0, slots := 0, locals := 64 } (F_X7_within N) :=
  ymeth (tb := tb_X7_within N) (pr := pr_X7_within) (rt := 2) (own := RX7) hX (by decide +kernel) rfl rfl ⟨Nat.le_of_ble_eq_true rfl, Nat.le_of_ble_eq_true rfl⟩
    (zfl_all (fun _ h => absurd h List.not_mem_nil))
    (zco_all (fun _ h => absurd h List.not_mem_nil)) (zlc_all (fun _ h => absurd h List.not_mem_nil))
    (fun _ h => absurd h List.not_mem_nil)
    (fun _ h => absurd h List.not_mem_nil)
    (zmm_all (fun _ h => absurd h List.not_mem_nil)) (fun _ h => absurd h List.not_mem_nil) (zpr_all hp_X7_within) (fun as σ res h => by
      unfold F_X7_within at h
      split at h
      · rename_i x0 x1 x2
        cases hr : f_X7_within N σ x0 x1 x2 with
        | none => rw [hr] at h; cases h
        | some r =>
          rw [hr] at h
          cases h
          exact ⟨Nat.le_of_ble_eq_true rfl, t_X7_within σ x0 x1 x2 r hr⟩
      · cases h)
noncomputable def pr_X4_isHouse : List (Nat × Instr × Nat) := [(0, .iload_n 1, 1), (1, .iconst 0, 1), (2, .aload_n 0, 1), (3, .getfield 9, 3), (6, .iconst 1, 1), (7, .isub, 1), (8, .invokestatic 54, 3), (11, .ireturn, 1)]
set_option maxRecDepth 100000 in
theorem hp_X4_isHouse : pr_X4_isHouse.all (fun x => decide (decode cX4_isHouse x.1 = .ok x.2)) = true := by decide +kernel
noncomputable def f_X4_isHouse (N : Nat) (σ : yS) (x0 : Nat) (x1 : Int) : Option (Int × yS) :=
  match f_X7_within N σ x1 0 (ysu (σ.1 x0 0) 1) with
  | none => none
  | some r1 => bif yb1 r1.1 then some (r1.1, r1.2) else none
noncomputable def F_X4_isHouse (N : Nat) : yF := fun as σ => match as with
  | [.inr (.inl 4, x0), .inl (.inl x1)] => (f_X4_isHouse N σ x0 x1).map (fun r => (some (.inl (.inl r.1)), r.2))
  | _ => none
theorem e_X4_isHouse {N : Nat} {σ : yS} {x0 : Nat} {x1 : Int} {r : Int × yS} (h : f_X4_isHouse N σ x0 x1 = some r) : F_X4_isHouse N [.inr (.inl 4, x0), .inl (.inl x1)] σ = some (some (.inl (.inl r.1)), r.2) := by
  show (f_X4_isHouse N σ x0 x1).map (fun r => ((some (.inl (.inl r.1)), r.2) : yR)) = _
  rw [h]
  rfl
noncomputable def tb_X4_isHouse (N : Nat) : yTb := ([(9, 4, 0, 0)], [], [], [], [(54, 3, F_X7_within N)], [], [])
abbrev G_X4_isHouse (N : Nat) (X : zXT) (sh : List yH) (l : Launch) (rm : Room) : yC → yR → Prop := yGoes X vwCl yct sh l rm cX4_isHouse 2 wsX4_isHouse RX4 (tb_X4_isHouse N) pr_X4_isHouse 2
set_option maxRecDepth 100000 in
set_option maxHeartbeats 4000000 in
theorem t_X4_isHouse {N : Nat} {X : zXT} {sh : List yH} {l : Launch} {rm : Room} (σ : yS) (x0 : Nat) (x1 : Int) (res : Int × yS) (h : f_X4_isHouse N σ x0 x1 = some res) : G_X4_isHouse N X sh l rm (0, [(0, .inr (.inl 4, x0)), (1, .inl (.inl x1))], [], σ) (some (.inl (.inl res.1)), res.2) := by
  unfold f_X4_isHouse at h
  refine yG_n (n := 6) (C' := (8, [(0, .inr (.inl 4, x0)), (1, .inl (.inl x1))], [.inl (.inl (ysu (σ.1 x0 0) 1)), .inl (.inl 0), .inl (.inl x1)], σ)) rfl ?_
  cases hr1 : f_X7_within N σ x1 0 (ysu (σ.1 x0 0) 1) with
  | none => rw [hr1] at h; dsimp only at h; cases h
  | some r1 =>
    rw [hr1] at h
    dsimp only at h
    refine yG_c (C1 := (11, [(0, .inr (.inl 4, x0)), (1, .inl (.inl x1))], [.inl (.inl r1.1)], r1.2)) rfl (e_X7_within hr1) rfl ?_
    cases hg2 : yb1 r1.1 with
    | false => rw [hg2] at h; dsimp only [cond] at h; cases h
    | true =>
      rw [hg2] at h
      dsimp only [cond] at h
      have h := Option.some.inj h
      subst h
      dsimp only
      exact yG_r rfl hg2
set_option maxRecDepth 100000 in
set_option maxHeartbeats 4000000 in
theorem m_X4_isHouse {N : Nat} {X : zXT} (hX : zXok X) (hN : zXn X) (l : Launch) {sh : List yH} : yMet X vwCl yct sh l yX4_isHouse wsX4_isHouse { frames := 2, cells := 0, slots := 0, locals := 86 } (F_X4_isHouse N) :=
  ymeth (tb := tb_X4_isHouse N) (pr := pr_X4_isHouse) (rt := 2) (own := RX4) hX (by decide +kernel) rfl rfl ⟨Nat.le_of_ble_eq_true rfl, Nat.le_of_ble_eq_true rfl⟩
    (zfl_all (List.forall_mem_cons.mpr ⟨zfl_X4 (fun w h => List.mem_cons_of_mem _ (List.mem_append_right _ h)) (List.mem_of_getElem? (i := 1) rfl) (by decide) (by decide), fun _ h => absurd h List.not_mem_nil⟩))
    (zco_all (fun _ h => absurd h List.not_mem_nil)) (zlc_all (fun _ h => absurd h List.not_mem_nil))
    (fun _ h => absurd h List.not_mem_nil)
    (List.forall_mem_cons.mpr ⟨ycal_SN hX (m_X7_within hX hN l) (fun A s args hts hx => ⟨va_cnB 3 hts ggX4_isHouse_X7_within rfl rfl rfl (hN A s s.heap hx RX4 54 yX7_within RX7 (by decide +kernel)) (hts _ (List.mem_of_getElem? (i := 3) rfl)) (by decide +kernel) ⟨Nat.le_of_ble_eq_true rfl, Nat.le_of_ble_eq_true rfl⟩, hts _ (List.mem_of_getElem? (i := 2) rfl), trivial⟩), fun _ h => absurd h List.not_mem_nil⟩)
    (zmm_all (fun _ h => absurd h List.not_mem_nil)) (fun _ h => absurd h List.not_mem_nil) (zpr_all hp_X4_isHouse) (fun as σ res h => by
      unfold F_X4_isHouse at h
      split at h
      · rename_i x0 x1
        cases hr : f_X4_isHouse N σ x0 x1 with
        | none => rw [hr] at h; cases h
        | some r =>
          rw [hr] at h
          cases h
          exact ⟨Nat.le_of_ble_eq_true rfl, t_X4_isHouse σ x0 x1 r hr⟩
      · cases h)
noncomputable def pr_X4_isDeed : List (Nat × Instr × Nat) := [(0, .iload_n 1, 1), (1, .iconst 0, 1), (2, .aload_n 0, 1), (3, .getfield 58, 3), (6, .iconst 1, 1), (7, .isub, 1), (8, .invokestatic 54, 3), (11, .ireturn, 1)]
set_option maxRecDepth 100000 in
theorem hp_X4_isDeed : pr_X4_isDeed.all (fun x => decide (decode cX4_isDeed x.1 = .ok x.2)) = true := by decide +kernel
noncomputable def f_X4_isDeed (N : Nat) (σ : yS) (x0 : Nat) (x1 : Int) : Option (Int × yS) :=
  match f_X7_within N σ x1 0 (ysu (σ.1 x0 2) 1) with
  | none => none
  | some r1 => bif yb1 r1.1 then some (r1.1, r1.2) else none
noncomputable def F_X4_isDeed (N : Nat) : yF := fun as σ => match as with
  | [.inr (.inl 4, x0), .inl (.inl x1)] => (f_X4_isDeed N σ x0 x1).map (fun r => (some (.inl (.inl r.1)), r.2))
  | _ => none
theorem e_X4_isDeed {N : Nat} {σ : yS} {x0 : Nat} {x1 : Int} {r : Int × yS} (h : f_X4_isDeed N σ x0 x1 = some r) : F_X4_isDeed N [.inr (.inl 4, x0), .inl (.inl x1)] σ = some (some (.inl (.inl r.1)), r.2) := by
  show (f_X4_isDeed N σ x0 x1).map (fun r => ((some (.inl (.inl r.1)), r.2) : yR)) = _
  rw [h]
  rfl
noncomputable def tb_X4_isDeed (N : Nat) : yTb := ([(58, 4, 2, 0)], [], [], [], [(54, 3, F_X7_within N)], [], [])
abbrev G_X4_isDeed (N : Nat) (X : zXT) (sh : List yH) (l : Launch) (rm : Room) : yC → yR → Prop := yGoes X vwCl yct sh l rm cX4_isDeed 2 wsX4_isDeed RX4 (tb_X4_isDeed N) pr_X4_isDeed 2
set_option maxRecDepth 100000 in
set_option maxHeartbeats 4000000 in
theorem t_X4_isDeed {N : Nat} {X : zXT} {sh : List yH} {l : Launch} {rm : Room} (σ : yS) (x0 : Nat) (x1 : Int) (res : Int × yS) (h : f_X4_isDeed N σ x0 x1 = some res) : G_X4_isDeed N X sh l rm (0, [(0, .inr (.inl 4, x0)), (1, .inl (.inl x1))], [], σ) (some (.inl (.inl res.1)), res.2) := by
  unfold f_X4_isDeed at h
  refine yG_n (n := 6) (C' := (8, [(0, .inr (.inl 4, x0)), (1, .inl (.inl x1))], [.inl (.inl (ysu (σ.1 x0 2) 1)), .inl (.inl 0), .inl (.inl x1)], σ)) rfl ?_
  cases hr1 : f_X7_within N σ x1 0 (ysu (σ.1 x0 2) 1) with
  | none => rw [hr1] at h; dsimp only at h; cases h
  | some r1 =>
    rw [hr1] at h
    dsimp only at h
    refine yG_c (C1 := (11, [(0, .inr (.inl 4, x0)), (1, .inl (.inl x1))], [.inl (.inl r1.1)], r1.2)) rfl (e_X7_within hr1) rfl ?_
    cases hg2 : yb1 r1.1 with
    | false => rw [hg2] at h; dsimp only [cond] at h; cases h
    | true =>
      rw [hg2] at h
      dsimp only [cond] at h
      have h := Option.some.inj h
      subst h
      dsimp only
      exact yG_r rfl hg2
set_option maxRecDepth 100000 in
set_option maxHeartbeats 4000000 in
theorem m_X4_isDeed {N : Nat} {X : zXT} (hX : zXok X) (hN : zXn X) (l : Launch) {sh : List yH} : yMet X vwCl yct sh l yX4_isDeed wsX4_isDeed { frames := 2, cells := 0, slots := 0, locals := 86 } (F_X4_isDeed N) :=
  ymeth (tb := tb_X4_isDeed N) (pr := pr_X4_isDeed) (rt := 2) (own := RX4) hX (by decide +kernel) rfl rfl ⟨Nat.le_of_ble_eq_true rfl, Nat.le_of_ble_eq_true rfl⟩
    (zfl_all (List.forall_mem_cons.mpr ⟨zfl_X4 (fun w h => List.mem_cons_of_mem _ (List.mem_append_right _ h)) (List.mem_of_getElem? (i := 1) rfl) (by decide) (by decide), fun _ h => absurd h List.not_mem_nil⟩))
    (zco_all (fun _ h => absurd h List.not_mem_nil)) (zlc_all (fun _ h => absurd h List.not_mem_nil))
    (fun _ h => absurd h List.not_mem_nil)
    (List.forall_mem_cons.mpr ⟨ycal_SN hX (m_X7_within hX hN l) (fun A s args hts hx => ⟨va_cnB 3 hts ggX4_isDeed_X7_within rfl rfl rfl (hN A s s.heap hx RX4 54 yX7_within RX7 (by decide +kernel)) (hts _ (List.mem_of_getElem? (i := 3) rfl)) (by decide +kernel) ⟨Nat.le_of_ble_eq_true rfl, Nat.le_of_ble_eq_true rfl⟩, hts _ (List.mem_of_getElem? (i := 2) rfl), trivial⟩), fun _ h => absurd h List.not_mem_nil⟩)
    (zmm_all (fun _ h => absurd h List.not_mem_nil)) (fun _ h => absurd h List.not_mem_nil) (zpr_all hp_X4_isDeed) (fun as σ res h => by
      unfold F_X4_isDeed at h
      split at h
      · rename_i x0 x1
        cases hr : f_X4_isDeed N σ x0 x1 with
        | none => rw [hr] at h; cases h
        | some r =>
          rw [hr] at h
          cases h
          exact ⟨Nat.le_of_ble_eq_true rfl, t_X4_isDeed σ x0 x1 r hr⟩
      · cases h)
noncomputable def pr_X5_copyFrom : List (Nat × Instr × Nat) := [(0, .aload_n 0, 1), (1, .aload_n 1, 1), (2, .getfield 24, 3), (5, .putfield 24, 3), (8, .aload_n 1, 1), (9, .getfield 9, 3), (12, .iconst 0, 1), (13, .aload_n 0, 1), (14, .getfield 9, 3), (17, .iconst 0, 1), (18, .bipush 10, 2), (20, .invokestatic 28, 3), (23, .aload_n 1, 1), (24, .getfield 15, 3), (27, .iconst 0, 1), (28, .aload_n 0, 1), (29, .getfield 15, 3), (32, .iconst 0, 1), (33, .bipush 10, 2), (35, .invokestatic 28, 3), (38, .aload_n 1, 1), (39, .getfield 18, 3), (42, .iconst 0, 1), (43, .aload_n 0, 1), (44, .getfield 18, 3), (47, .iconst 0, 1), (48, .bipush 10, 2), (50, .invokestatic 28, 3), (53, .aload_n 1, 1), (54, .getfield 21, 3), (57, .iconst 0, 1), (58, .aload_n 0, 1), (59, .getfield 21, 3), (62, .iconst 0, 1), (63, .bipush 10, 2), (65, .invokestatic 28, 3), (68, .return_, 1)]
set_option maxRecDepth 100000 in
theorem hp_X5_copyFrom : pr_X5_copyFrom.all (fun x => decide (decode cX5_copyFrom x.1 = .ok x.2)) = true := by decide +kernel
noncomputable def f_X5_copyFrom (N : Nat) (σ : yS) (x0 : Nat) (x1 : Nat) : Option (Int × yS) :=
  some (0, ycp (ycp (ycp (ycp (yw σ x0 0 (σ.1 x1 0)) (x1 + 1) (x0 + 1) 0 0 10) (x1 + 2) (x0 + 2) 0 0 10) (x1 + 3) (x0 + 3) 0 0 10) (x1 + 4) (x0 + 4) 0 0 10)
noncomputable def F_X5_copyFrom (N : Nat) : yF := fun as σ => match as with
  | [.inr (.inl 5, x0), .inr (.inl 5, x1)] => (f_X5_copyFrom N σ x0 x1).map (fun r => (none, r.2))
  | _ => none
theorem e_X5_copyFrom {N : Nat} {σ : yS} {x0 : Nat} {x1 : Nat} {r : Int × yS} (h : f_X5_copyFrom N σ x0 x1 = some r) : F_X5_copyFrom N [.inr (.inl 5, x0), .inr (.inl 5, x1)] σ = some (none, r.2) := by
  show (f_X5_copyFrom N σ x0 x1).map (fun r => ((none, r.2) : yR)) = _
  rw [h]
  rfl
noncomputable def tb_X5_copyFrom (N : Nat) : yTb := ([(9, 5, 1, 3), (15, 5, 2, 3), (18, 5, 3, 3), (21, 5, 4, 3), (24, 5, 0, 0)], [], [], [], [], [(28, 2)], [])
abbrev G_X5_copyFrom (N : Nat) (X : zXT) (sh : List yH) (l : Launch) (rm : Room) : yC → yR → Prop := yGoes X vwCl yct sh l rm cX5_copyFrom 2 wsX5_copyFrom RX5 (tb_X5_copyFrom N) pr_X5_copyFrom 0
set_option maxRecDepth 100000 in
set_option maxHeartbeats 4000000 in
theorem t_X5_copyFrom {N : Nat} {X : zXT} {sh : List yH} {l : Launch} {rm : Room} (σ : yS) (x0 : Nat) (x1 : Nat) (res : Int × yS) (h : f_X5_copyFrom N σ x0 x1 = some res) : G_X5_copyFrom N X sh l rm (0, [(0, .inr (.inl 5, x0)), (1, .inr (.inl 5, x1))], [], σ) (none, res.2) := by
  unfold f_X5_copyFrom at h
  refine yG_n (n := 36) (C' := (68, [(0, .inr (.inl 5, x0)), (1, .inr (.inl 5, x1))], [], ycp (ycp (ycp (ycp (yw σ x0 0 (σ.1 x1 0)) (x1 + 1) (x0 + 1) 0 0 10) (x1 + 2) (x0 + 2) 0 0 10) (x1 + 3) (x0 + 3) 0 0 10) (x1 + 4) (x0 + 4) 0 0 10)) rfl ?_
  have h := Option.some.inj h
  subst h
  dsimp only
  exact yG_r rfl rfl
set_option maxRecDepth 100000 in
set_option maxHeartbeats 4000000 in
theorem m_X5_copyFrom {N : Nat} {X : zXT} (hX : zXok X) (hN : zXn X) (l : Launch) {sh : List yH} : yMet X vwCl yct sh l yX5_copyFrom wsX5_copyFrom { frames := 1, cells := 0, slots := 0, locals := 64 } (F_X5_copyFrom N) :=
  ymeth (tb := tb_X5_copyFrom N) (pr := pr_X5_copyFrom) (rt := 0) (own := RX5) hX (by decide +kernel) rfl rfl ⟨Nat.le_of_ble_eq_true rfl, Nat.le_of_ble_eq_true rfl⟩
    (zfl_all (List.forall_mem_cons.mpr ⟨zfl_X5 (fun w h => List.mem_cons_of_mem _ (List.mem_append_right _ h)) (List.mem_of_getElem? (i := 2) rfl) (by decide) (by decide), List.forall_mem_cons.mpr ⟨zfl_X5 (fun w h => List.mem_cons_of_mem _ (List.mem_append_right _ h)) (List.mem_of_getElem? (i := 7) rfl) (by decide) (by decide), List.forall_mem_cons.mpr ⟨zfl_X5 (fun w h => List.mem_cons_of_mem _ (List.mem_append_right _ h)) (List.mem_of_getElem? (i := 8) rfl) (by decide) (by decide), List.forall_mem_cons.mpr ⟨zfl_X5 (fun w h => List.mem_cons_of_mem _ (List.mem_append_right _ h)) (List.mem_of_getElem? (i := 9) rfl) (by decide) (by decide), List.forall_mem_cons.mpr ⟨zfl_X5 (fun w h => List.mem_cons_of_mem _ (List.mem_append_right _ h)) (List.mem_of_getElem? (i := 1) rfl) (by decide) (by decide), fun _ h => absurd h List.not_mem_nil⟩⟩⟩⟩⟩))
    (zco_all (fun _ h => absurd h List.not_mem_nil)) (zlc_all (fun _ h => absurd h List.not_mem_nil))
    (fun _ h => absurd h List.not_mem_nil)
    (fun _ h => absurd h List.not_mem_nil)
    (zmm_all (List.forall_mem_cons.mpr ⟨⟨List.mem_of_getElem? (i := 3) rfl, List.mem_of_getElem? (i := 4) rfl, List.mem_of_getElem? (i := 5) rfl, List.mem_of_getElem? (i := 6) rfl⟩, fun _ h => absurd h List.not_mem_nil⟩)) (fun _ h => absurd h List.not_mem_nil) (zpr_all hp_X5_copyFrom) (fun as σ res h => by
      unfold F_X5_copyFrom at h
      split at h
      · rename_i x0 x1
        cases hr : f_X5_copyFrom N σ x0 x1 with
        | none => rw [hr] at h; cases h
        | some r =>
          rw [hr] at h
          cases h
          exact ⟨Nat.le_of_ble_eq_true rfl, t_X5_copyFrom σ x0 x1 r hr⟩
      · cases h)
noncomputable def pr_X6_copyFrom : List (Nat × Instr × Nat) := [(0, .aload_n 0, 1), (1, .aload_n 1, 1), (2, .getfield 18, 3), (5, .putfield 18, 3), (8, .aload_n 1, 1), (9, .getfield 9, 3), (12, .iconst 0, 1), (13, .aload_n 0, 1), (14, .getfield 9, 3), (17, .iconst 0, 1), (18, .iconst 4, 1), (19, .invokestatic 22, 3), (22, .aload_n 1, 1), (23, .getfield 15, 3), (26, .iconst 0, 1), (27, .aload_n 0, 1), (28, .getfield 15, 3), (31, .iconst 0, 1), (32, .iconst 4, 1), (33, .invokestatic 22, 3), (36, .return_, 1)]
set_option maxRecDepth 100000 in
theorem hp_X6_copyFrom : pr_X6_copyFrom.all (fun x => decide (decode cX6_copyFrom x.1 = .ok x.2)) = true := by decide +kernel
noncomputable def f_X6_copyFrom (N : Nat) (σ : yS) (x0 : Nat) (x1 : Nat) : Option (Int × yS) :=
  some (0, ycp (ycp (yw σ x0 0 (σ.1 x1 0)) (x1 + 1) (x0 + 1) 0 0 4) (x1 + 2) (x0 + 2) 0 0 4)
noncomputable def F_X6_copyFrom (N : Nat) : yF := fun as σ => match as with
  | [.inr (.inl 6, x0), .inr (.inl 6, x1)] => (f_X6_copyFrom N σ x0 x1).map (fun r => (none, r.2))
  | _ => none
theorem e_X6_copyFrom {N : Nat} {σ : yS} {x0 : Nat} {x1 : Nat} {r : Int × yS} (h : f_X6_copyFrom N σ x0 x1 = some r) : F_X6_copyFrom N [.inr (.inl 6, x0), .inr (.inl 6, x1)] σ = some (none, r.2) := by
  show (f_X6_copyFrom N σ x0 x1).map (fun r => ((none, r.2) : yR)) = _
  rw [h]
  rfl
noncomputable def tb_X6_copyFrom (N : Nat) : yTb := ([(9, 6, 1, 3), (15, 6, 2, 3), (18, 6, 0, 0)], [], [], [], [], [(22, 2)], [])
abbrev G_X6_copyFrom (N : Nat) (X : zXT) (sh : List yH) (l : Launch) (rm : Room) : yC → yR → Prop := yGoes X vwCl yct sh l rm cX6_copyFrom 2 wsX6_copyFrom RX6 (tb_X6_copyFrom N) pr_X6_copyFrom 0
set_option maxRecDepth 100000 in
set_option maxHeartbeats 4000000 in
theorem t_X6_copyFrom {N : Nat} {X : zXT} {sh : List yH} {l : Launch} {rm : Room} (σ : yS) (x0 : Nat) (x1 : Nat) (res : Int × yS) (h : f_X6_copyFrom N σ x0 x1 = some res) : G_X6_copyFrom N X sh l rm (0, [(0, .inr (.inl 6, x0)), (1, .inr (.inl 6, x1))], [], σ) (none, res.2) := by
  unfold f_X6_copyFrom at h
  refine yG_n (n := 20) (C' := (36, [(0, .inr (.inl 6, x0)), (1, .inr (.inl 6, x1))], [], ycp (ycp (yw σ x0 0 (σ.1 x1 0)) (x1 + 1) (x0 + 1) 0 0 4) (x1 + 2) (x0 + 2) 0 0 4)) rfl ?_
  have h := Option.some.inj h
  subst h
  dsimp only
  exact yG_r rfl rfl
set_option maxRecDepth 100000 in
set_option maxHeartbeats 4000000 in
theorem m_X6_copyFrom {N : Nat} {X : zXT} (hX : zXok X) (hN : zXn X) (l : Launch) {sh : List yH} : yMet X vwCl yct sh l yX6_copyFrom wsX6_copyFrom { frames := 1, cells := 0, slots := 0, locals := 64 } (F_X6_copyFrom N) :=
  ymeth (tb := tb_X6_copyFrom N) (pr := pr_X6_copyFrom) (rt := 0) (own := RX6) hX (by decide +kernel) rfl rfl ⟨Nat.le_of_ble_eq_true rfl, Nat.le_of_ble_eq_true rfl⟩
    (zfl_all (List.forall_mem_cons.mpr ⟨zfl_X6 (fun w h => List.mem_cons_of_mem _ (List.mem_append_right _ h)) (List.mem_of_getElem? (i := 2) rfl) (by decide) (by decide), List.forall_mem_cons.mpr ⟨zfl_X6 (fun w h => List.mem_cons_of_mem _ (List.mem_append_right _ h)) (List.mem_of_getElem? (i := 7) rfl) (by decide) (by decide), List.forall_mem_cons.mpr ⟨zfl_X6 (fun w h => List.mem_cons_of_mem _ (List.mem_append_right _ h)) (List.mem_of_getElem? (i := 1) rfl) (by decide) (by decide), fun _ h => absurd h List.not_mem_nil⟩⟩⟩))
    (zco_all (fun _ h => absurd h List.not_mem_nil)) (zlc_all (fun _ h => absurd h List.not_mem_nil))
    (fun _ h => absurd h List.not_mem_nil)
    (fun _ h => absurd h List.not_mem_nil)
    (zmm_all (List.forall_mem_cons.mpr ⟨⟨List.mem_of_getElem? (i := 3) rfl, List.mem_of_getElem? (i := 4) rfl, List.mem_of_getElem? (i := 5) rfl, List.mem_of_getElem? (i := 6) rfl⟩, fun _ h => absurd h List.not_mem_nil⟩)) (fun _ h => absurd h List.not_mem_nil) (zpr_all hp_X6_copyFrom) (fun as σ res h => by
      unfold F_X6_copyFrom at h
      split at h
      · rename_i x0 x1
        cases hr : f_X6_copyFrom N σ x0 x1 with
        | none => rw [hr] at h; cases h
        | some r =>
          rw [hr] at h
          cases h
          exact ⟨Nat.le_of_ble_eq_true rfl, t_X6_copyFrom σ x0 x1 r hr⟩
      · cases h)
noncomputable def pr_X4_copyFrom : List (Nat × Instr × Nat) := [(0, .aload_n 0, 1), (1, .aload_n 1, 1), (2, .getfield 9, 3), (5, .putfield 9, 3), (8, .aload_n 0, 1), (9, .aload_n 1, 1), (10, .getfield 61, 3), (13, .putfield 61, 3), (16, .aload_n 0, 1), (17, .aload_n 1, 1), (18, .getfield 58, 3), (21, .putfield 58, 3), (24, .aload_n 0, 1), (25, .aload_n 1, 1), (26, .getfield 65, 3), (29, .putfield 65, 3), (32, .aload_n 1, 1), (33, .getfield 15, 3), (36, .iconst 0, 1), (37, .aload_n 0, 1), (38, .getfield 15, 3), (41, .iconst 0, 1), (42, .iconst 5, 1), (43, .invokestatic 88, 3), (46, .aload_n 1, 1), (47, .getfield 19, 3), (50, .iconst 0, 1), (51, .aload_n 0, 1), (52, .getfield 19, 3), (55, .iconst 0, 1), (56, .bipush 7, 2), (58, .invokestatic 88, 3), (61, .aload_n 1, 1), (62, .getfield 22, 3), (65, .iconst 0, 1), (66, .aload_n 0, 1), (67, .getfield 22, 3), (70, .iconst 0, 1), (71, .bipush 7, 2), (73, .invokestatic 88, 3), (76, .aload_n 1, 1), (77, .getfield 25, 3), (80, .iconst 0, 1), (81, .aload_n 0, 1), (82, .getfield 25, 3), (85, .iconst 0, 1), (86, .bipush 7, 2), (88, .invokestatic 88, 3), (91, .aload_n 1, 1), (92, .getfield 28, 3), (95, .iconst 0, 1), (96, .aload_n 0, 1), (97, .getfield 28, 3), (100, .iconst 0, 1), (101, .bipush 7, 2), (103, .invokestatic 88, 3), (106, .aload_n 1, 1), (107, .getfield 31, 3), (110, .iconst 0, 1), (111, .aload_n 0, 1), (112, .getfield 31, 3), (115, .iconst 0, 1), (116, .bipush 7, 2), (118, .invokestatic 88, 3), (121, .aload_n 1, 1), (122, .getfield 34, 3), (125, .iconst 0, 1), (126, .aload_n 0, 1), (127, .getfield 34, 3), (130, .iconst 0, 1), (131, .bipush 35, 2), (133, .invokestatic 88, 3), (136, .aload_n 0, 1), (137, .getfield 40, 3), (140, .aload_n 1, 1), (141, .getfield 40, 3), (144, .invokevirtual 94, 3), (147, .aload_n 0, 1), (148, .getfield 50, 3), (151, .aload_n 1, 1), (152, .getfield 50, 3), (155, .invokevirtual 98, 3), (158, .aload_n 0, 1), (159, .aload_n 1, 1), (160, .getfield 76, 3), (163, .putfield 76, 3), (166, .aload_n 0, 1), (167, .aload_n 1, 1), (168, .getfield 79, 3), (171, .putfield 79, 3), (174, .aload_n 0, 1), (175, .aload_n 1, 1), (176, .getfield 82, 3), (179, .putfield 82, 3), (182, .aload_n 0, 1), (183, .aload_n 1, 1), (184, .getfield 85, 3), (187, .putfield 85, 3), (190, .return_, 1)]
set_option maxRecDepth 100000 in
theorem hp_X4_copyFrom : pr_X4_copyFrom.all (fun x => decide (decode cX4_copyFrom x.1 = .ok x.2)) = true := by decide +kernel
noncomputable def f_X4_copyFrom_b184 (N : Nat) (σ : yS) (s0 : Nat) (s1 : Nat) : Option (Int × yS) :=
  some (0, yw σ s1 17 (σ.1 s0 17))
noncomputable def f_X4_copyFrom_b176 (N : Nat) (σ : yS) (x0 : Nat) (x1 : Nat) (s0 : Nat) (s1 : Nat) : Option (Int × yS) :=
  f_X4_copyFrom_b184 N (yw σ s1 16 (σ.1 s0 16)) x1 x0
noncomputable def f_X4_copyFrom_b168 (N : Nat) (σ : yS) (x0 : Nat) (x1 : Nat) (s0 : Nat) (s1 : Nat) : Option (Int × yS) :=
  f_X4_copyFrom_b176 N (yw σ s1 15 (σ.1 s0 15)) x0 x1 x1 x0
noncomputable def f_X4_copyFrom_b137 (N : Nat) (σ : yS) (x0 : Nat) (x1 : Nat) (s0 : Nat) : Option (Int × yS) :=
  match f_X5_copyFrom N σ (σ.2 s0 11) (σ.2 x1 11) with
  | none => none
  | some r1 => match f_X6_copyFrom N r1.2 (x0 + 18) (x1 + 18) with
    | none => none
    | some r2 => f_X4_copyFrom_b168 N (yw r2.2 x0 14 (r2.2.1 x1 14)) x0 x1 x1 x0
noncomputable def f_X4_copyFrom_b26 (N : Nat) (σ : yS) (x0 : Nat) (x1 : Nat) (s0 : Nat) (s1 : Nat) : Option (Int × yS) :=
  f_X4_copyFrom_b137 N (ycp (ycp (ycp (ycp (ycp (ycp (ycp (yw σ s1 6 (σ.1 s0 6)) (x1 + 1) (x0 + 1) 0 0 5) (x1 + 2) (x0 + 2) 0 0 7) (x1 + 3) (x0 + 3) 0 0 7) (x1 + 4) (x0 + 4) 0 0 7) (x1 + 5) (x0 + 5) 0 0 7) (x1 + 6) (x0 + 6) 0 0 7) (x1 + 7) (x0 + 7) 0 0 35) x0 x1 x0
noncomputable def f_X4_copyFrom_b18 (N : Nat) (σ : yS) (x0 : Nat) (x1 : Nat) (s0 : Nat) (s1 : Nat) : Option (Int × yS) :=
  f_X4_copyFrom_b26 N (yw σ s1 2 (σ.1 s0 2)) x0 x1 x1 x0
noncomputable def f_X4_copyFrom_b10 (N : Nat) (σ : yS) (x0 : Nat) (x1 : Nat) (s0 : Nat) (s1 : Nat) : Option (Int × yS) :=
  bif yb1 (σ.1 s0 1) then
    f_X4_copyFrom_b18 N (yw σ s1 1 (σ.1 s0 1)) x0 x1 x1 x0
  else none
noncomputable def f_X4_copyFrom (N : Nat) (σ : yS) (x0 : Nat) (x1 : Nat) : Option (Int × yS) :=
  f_X4_copyFrom_b10 N (yw σ x0 0 (σ.1 x1 0)) x0 x1 x1 x0
noncomputable def F_X4_copyFrom (N : Nat) : yF := fun as σ => match as with
  | [.inr (.inl 4, x0), .inr (.inl 4, x1)] => (f_X4_copyFrom N σ x0 x1).map (fun r => (none, r.2))
  | _ => none
theorem e_X4_copyFrom {N : Nat} {σ : yS} {x0 : Nat} {x1 : Nat} {r : Int × yS} (h : f_X4_copyFrom N σ x0 x1 = some r) : F_X4_copyFrom N [.inr (.inl 4, x0), .inr (.inl 4, x1)] σ = some (none, r.2) := by
  show (f_X4_copyFrom N σ x0 x1).map (fun r => ((none, r.2) : yR)) = _
  rw [h]
  rfl
noncomputable def tb_X4_copyFrom (N : Nat) : yTb := ([(9, 4, 0, 0), (15, 4, 3, 3), (19, 4, 4, 3), (22, 4, 5, 3), (25, 4, 7, 3), (28, 4, 8, 3), (31, 4, 9, 3), (34, 4, 10, 3), (40, 4, 11, 2), (50, 4, 13, 3), (58, 4, 2, 0), (61, 4, 1, 1), (65, 4, 6, 0), (76, 4, 14, 0), (79, 4, 15, 0), (82, 4, 16, 0), (85, 4, 17, 0)], [], [], [(94, 2, 5, F_X5_copyFrom N), (98, 2, 6, F_X6_copyFrom N)], [], [(88, 2)], [])
abbrev G_X4_copyFrom (N : Nat) (X : zXT) (sh : List yH) (l : Launch) (rm : Room) : yC → yR → Prop := yGoes X vwCl yct sh l rm cX4_copyFrom 2 wsX4_copyFrom RX4 (tb_X4_copyFrom N) pr_X4_copyFrom 0
set_option maxRecDepth 100000 in
set_option maxHeartbeats 4000000 in
theorem t_X4_copyFrom_b184 {N : Nat} {X : zXT} {sh : List yH} {l : Launch} {rm : Room} (σ : yS) (s0 : Nat) (s1 : Nat) (res : Int × yS) (h : f_X4_copyFrom_b184 N σ s0 s1 = some res) : G_X4_copyFrom N X sh l rm (184, [], [.inr (.inl 4, s0), .inr (.inl 4, s1)], σ) (none, res.2) := by
  unfold f_X4_copyFrom_b184 at h
  refine yG_n (n := 2) (C' := (190, [], [], yw σ s1 17 (σ.1 s0 17))) rfl ?_
  have h := Option.some.inj h
  subst h
  dsimp only
  exact yG_r rfl rfl
set_option maxRecDepth 100000 in
set_option maxHeartbeats 4000000 in
theorem t_X4_copyFrom_b176 {N : Nat} {X : zXT} {sh : List yH} {l : Launch} {rm : Room} (σ : yS) (x0 : Nat) (x1 : Nat) (s0 : Nat) (s1 : Nat) (res : Int × yS) (h : f_X4_copyFrom_b176 N σ x0 x1 s0 s1 = some res) : G_X4_copyFrom N X sh l rm (176, [(0, .inr (.inl 4, x0)), (1, .inr (.inl 4, x1))], [.inr (.inl 4, s0), .inr (.inl 4, s1)], σ) (none, res.2) := by
  unfold f_X4_copyFrom_b176 at h
  refine yG_n (n := 4) (C' := (184, [(0, .inr (.inl 4, x0)), (1, .inr (.inl 4, x1))], [.inr (.inl 4, x1), .inr (.inl 4, x0)], yw σ s1 16 (σ.1 s0 16))) rfl ?_
  exact yG_w [] rfl (t_X4_copyFrom_b184 (yw σ s1 16 (σ.1 s0 16)) x1 x0 res h)
set_option maxRecDepth 100000 in
set_option maxHeartbeats 4000000 in
theorem t_X4_copyFrom_b168 {N : Nat} {X : zXT} {sh : List yH} {l : Launch} {rm : Room} (σ : yS) (x0 : Nat) (x1 : Nat) (s0 : Nat) (s1 : Nat) (res : Int × yS) (h : f_X4_copyFrom_b168 N σ x0 x1 s0 s1 = some res) : G_X4_copyFrom N X sh l rm (168, [(0, .inr (.inl 4, x0)), (1, .inr (.inl 4, x1))], [.inr (.inl 4, s0), .inr (.inl 4, s1)], σ) (none, res.2) := by
  unfold f_X4_copyFrom_b168 at h
  refine yG_n (n := 4) (C' := (176, [(0, .inr (.inl 4, x0)), (1, .inr (.inl 4, x1))], [.inr (.inl 4, x1), .inr (.inl 4, x0)], yw σ s1 15 (σ.1 s0 15))) rfl ?_
  exact t_X4_copyFrom_b176 (yw σ s1 15 (σ.1 s0 15)) x0 x1 x1 x0 res h
set_option maxRecDepth 100000 in
set_option maxHeartbeats 4000000 in
theorem t_X4_copyFrom_b137 {N : Nat} {X : zXT} {sh : List yH} {l : Launch} {rm : Room} (σ : yS) (x0 : Nat) (x1 : Nat) (s0 : Nat) (res : Int × yS) (h : f_X4_copyFrom_b137 N σ x0 x1 s0 = some res) : G_X4_copyFrom N X sh l rm (137, [(0, .inr (.inl 4, x0)), (1, .inr (.inl 4, x1))], [.inr (.inl 4, s0)], σ) (none, res.2) := by
  unfold f_X4_copyFrom_b137 at h
  refine yG_n (n := 3) (C' := (144, [(0, .inr (.inl 4, x0)), (1, .inr (.inl 4, x1))], [.inr (.inl 5, σ.2 x1 11), .inr (.inl 5, σ.2 s0 11)], σ)) rfl ?_
  cases hr1 : f_X5_copyFrom N σ (σ.2 s0 11) (σ.2 x1 11) with
  | none => rw [hr1] at h; dsimp only at h; cases h
  | some r1 =>
    rw [hr1] at h
    dsimp only at h
    refine yG_c (C1 := (147, [(0, .inr (.inl 4, x0)), (1, .inr (.inl 4, x1))], [], r1.2)) rfl (e_X5_copyFrom hr1) rfl ?_
    refine yG_n (n := 4) (C' := (155, [(0, .inr (.inl 4, x0)), (1, .inr (.inl 4, x1))], [.inr (.inl 6, x1 + 18), .inr (.inl 6, x0 + 18)], r1.2)) rfl ?_
    cases hr2 : f_X6_copyFrom N r1.2 (x0 + 18) (x1 + 18) with
    | none => rw [hr2] at h; dsimp only at h; cases h
    | some r2 =>
      rw [hr2] at h
      dsimp only at h
      refine yG_c (C1 := (158, [(0, .inr (.inl 4, x0)), (1, .inr (.inl 4, x1))], [], r2.2)) rfl (e_X6_copyFrom hr2) rfl ?_
      refine yG_n (n := 6) (C' := (168, [(0, .inr (.inl 4, x0)), (1, .inr (.inl 4, x1))], [.inr (.inl 4, x1), .inr (.inl 4, x0)], yw r2.2 x0 14 (r2.2.1 x1 14))) rfl ?_
      exact t_X4_copyFrom_b168 (yw r2.2 x0 14 (r2.2.1 x1 14)) x0 x1 x1 x0 res h
set_option maxRecDepth 100000 in
set_option maxHeartbeats 4000000 in
theorem t_X4_copyFrom_b26 {N : Nat} {X : zXT} {sh : List yH} {l : Launch} {rm : Room} (σ : yS) (x0 : Nat) (x1 : Nat) (s0 : Nat) (s1 : Nat) (res : Int × yS) (h : f_X4_copyFrom_b26 N σ x0 x1 s0 s1 = some res) : G_X4_copyFrom N X sh l rm (26, [(0, .inr (.inl 4, x0)), (1, .inr (.inl 4, x1))], [.inr (.inl 4, s0), .inr (.inl 4, s1)], σ) (none, res.2) := by
  unfold f_X4_copyFrom_b26 at h
  refine yG_n (n := 59) (C' := (137, [(0, .inr (.inl 4, x0)), (1, .inr (.inl 4, x1))], [.inr (.inl 4, x0)], ycp (ycp (ycp (ycp (ycp (ycp (ycp (yw σ s1 6 (σ.1 s0 6)) (x1 + 1) (x0 + 1) 0 0 5) (x1 + 2) (x0 + 2) 0 0 7) (x1 + 3) (x0 + 3) 0 0 7) (x1 + 4) (x0 + 4) 0 0 7) (x1 + 5) (x0 + 5) 0 0 7) (x1 + 6) (x0 + 6) 0 0 7) (x1 + 7) (x0 + 7) 0 0 35)) rfl ?_
  exact t_X4_copyFrom_b137 (ycp (ycp (ycp (ycp (ycp (ycp (ycp (yw σ s1 6 (σ.1 s0 6)) (x1 + 1) (x0 + 1) 0 0 5) (x1 + 2) (x0 + 2) 0 0 7) (x1 + 3) (x0 + 3) 0 0 7) (x1 + 4) (x0 + 4) 0 0 7) (x1 + 5) (x0 + 5) 0 0 7) (x1 + 6) (x0 + 6) 0 0 7) (x1 + 7) (x0 + 7) 0 0 35) x0 x1 x0 res h
set_option maxRecDepth 100000 in
set_option maxHeartbeats 4000000 in
theorem t_X4_copyFrom_b18 {N : Nat} {X : zXT} {sh : List yH} {l : Launch} {rm : Room} (σ : yS) (x0 : Nat) (x1 : Nat) (s0 : Nat) (s1 : Nat) (res : Int × yS) (h : f_X4_copyFrom_b18 N σ x0 x1 s0 s1 = some res) : G_X4_copyFrom N X sh l rm (18, [(0, .inr (.inl 4, x0)), (1, .inr (.inl 4, x1))], [.inr (.inl 4, s0), .inr (.inl 4, s1)], σ) (none, res.2) := by
  unfold f_X4_copyFrom_b18 at h
  refine yG_n (n := 4) (C' := (26, [(0, .inr (.inl 4, x0)), (1, .inr (.inl 4, x1))], [.inr (.inl 4, x1), .inr (.inl 4, x0)], yw σ s1 2 (σ.1 s0 2))) rfl ?_
  exact t_X4_copyFrom_b26 (yw σ s1 2 (σ.1 s0 2)) x0 x1 x1 x0 res h
set_option maxRecDepth 100000 in
set_option maxHeartbeats 4000000 in
theorem t_X4_copyFrom_b10 {N : Nat} {X : zXT} {sh : List yH} {l : Launch} {rm : Room} (σ : yS) (x0 : Nat) (x1 : Nat) (s0 : Nat) (s1 : Nat) (res : Int × yS) (h : f_X4_copyFrom_b10 N σ x0 x1 s0 s1 = some res) : G_X4_copyFrom N X sh l rm (10, [(0, .inr (.inl 4, x0)), (1, .inr (.inl 4, x1))], [.inr (.inl 4, s0), .inr (.inl 4, s1)], σ) (none, res.2) := by
  unfold f_X4_copyFrom_b10 at h
  refine yG_n (n := 1) (C' := (13, [(0, .inr (.inl 4, x0)), (1, .inr (.inl 4, x1))], [.inl (.inl (σ.1 s0 1)), .inr (.inl 4, s1)], σ)) rfl ?_
  cases hg3 : yb1 (σ.1 s0 1) with
  | false => rw [hg3] at h; dsimp only [cond] at h; cases h
  | true =>
    rw [hg3] at h
    dsimp only [cond] at h
    refine yG_t (C' := (16, [(0, .inr (.inl 4, x0)), (1, .inr (.inl 4, x1))], [], yw σ s1 1 (σ.1 s0 1))) rfl hg3 ?_
    refine yG_n (n := 2) (C' := (18, [(0, .inr (.inl 4, x0)), (1, .inr (.inl 4, x1))], [.inr (.inl 4, x1), .inr (.inl 4, x0)], yw σ s1 1 (σ.1 s0 1))) rfl ?_
    exact t_X4_copyFrom_b18 (yw σ s1 1 (σ.1 s0 1)) x0 x1 x1 x0 res h
set_option maxRecDepth 100000 in
set_option maxHeartbeats 4000000 in
theorem t_X4_copyFrom {N : Nat} {X : zXT} {sh : List yH} {l : Launch} {rm : Room} (σ : yS) (x0 : Nat) (x1 : Nat) (res : Int × yS) (h : f_X4_copyFrom N σ x0 x1 = some res) : G_X4_copyFrom N X sh l rm (0, [(0, .inr (.inl 4, x0)), (1, .inr (.inl 4, x1))], [], σ) (none, res.2) := by
  unfold f_X4_copyFrom at h
  refine yG_n (n := 6) (C' := (10, [(0, .inr (.inl 4, x0)), (1, .inr (.inl 4, x1))], [.inr (.inl 4, x1), .inr (.inl 4, x0)], yw σ x0 0 (σ.1 x1 0))) rfl ?_
  exact t_X4_copyFrom_b10 (yw σ x0 0 (σ.1 x1 0)) x0 x1 x1 x0 res h
set_option maxRecDepth 100000 in
set_option maxHeartbeats 4000000 in
theorem m_X4_copyFrom {N : Nat} {X : zXT} (hX : zXok X) (hN : zXn X) (l : Launch) {sh : List yH} : yMet X vwCl yct sh l yX4_copyFrom wsX4_copyFrom { frames := 2, cells := 0, slots := 0, locals := 85 } (F_X4_copyFrom N) :=
  ymeth (tb := tb_X4_copyFrom N) (pr := pr_X4_copyFrom) (rt := 0) (own := RX4) hX (by decide +kernel) rfl rfl ⟨Nat.le_of_ble_eq_true rfl, Nat.le_of_ble_eq_true rfl⟩
    (zfl_all (List.forall_mem_cons.mpr ⟨zfl_X4 (fun w h => List.mem_cons_of_mem _ (List.mem_append_left _ (List.mem_append_left _ (List.mem_append_right _ h)))) (List.mem_of_getElem? (i := 1) rfl) (by decide) (by decide), List.forall_mem_cons.mpr ⟨zfl_X4 (fun w h => List.mem_cons_of_mem _ (List.mem_append_left _ (List.mem_append_left _ (List.mem_append_right _ h)))) (List.mem_of_getElem? (i := 5) rfl) (by decide) (by decide), List.forall_mem_cons.mpr ⟨zfl_X4 (fun w h => List.mem_cons_of_mem _ (List.mem_append_left _ (List.mem_append_left _ (List.mem_append_right _ h)))) (List.mem_of_getElem? (i := 10) rfl) (by decide) (by decide), List.forall_mem_cons.mpr ⟨zfl_X4 (fun w h => List.mem_cons_of_mem _ (List.mem_append_left _ (List.mem_append_left _ (List.mem_append_right _ h)))) (List.mem_of_getElem? (i := 11) rfl) (by decide) (by decide), List.forall_mem_cons.mpr ⟨zfl_X4 (fun w h => List.mem_cons_of_mem _ (List.mem_append_left _ (List.mem_append_left _ (List.mem_append_right _ h)))) (List.mem_of_getElem? (i := 12) rfl) (by decide) (by decide), List.forall_mem_cons.mpr ⟨zfl_X4 (fun w h => List.mem_cons_of_mem _ (List.mem_append_left _ (List.mem_append_left _ (List.mem_append_right _ h)))) (List.mem_of_getElem? (i := 13) rfl) (by decide) (by decide), List.forall_mem_cons.mpr ⟨zfl_X4 (fun w h => List.mem_cons_of_mem _ (List.mem_append_left _ (List.mem_append_left _ (List.mem_append_right _ h)))) (List.mem_of_getElem? (i := 14) rfl) (by decide) (by decide), List.forall_mem_cons.mpr ⟨zfl_X4 (fun w h => List.mem_cons_of_mem _ (List.mem_append_left _ (List.mem_append_left _ (List.mem_append_right _ h)))) (List.mem_of_getElem? (i := 15) rfl) (by decide) (by decide), List.forall_mem_cons.mpr ⟨zfl_X4 (fun w h => List.mem_cons_of_mem _ (List.mem_append_left _ (List.mem_append_left _ (List.mem_append_right _ h)))) (List.mem_of_getElem? (i := 16) rfl) (by decide) (by decide), List.forall_mem_cons.mpr ⟨zfl_X4 (fun w h => List.mem_cons_of_mem _ (List.mem_append_left _ (List.mem_append_left _ (List.mem_append_right _ h)))) (List.mem_of_getElem? (i := 17) rfl) (by decide) (by decide), List.forall_mem_cons.mpr ⟨zfl_X4 (fun w h => List.mem_cons_of_mem _ (List.mem_append_left _ (List.mem_append_left _ (List.mem_append_right _ h)))) (List.mem_of_getElem? (i := 3) rfl) (by decide) (by decide), List.forall_mem_cons.mpr ⟨zfl_X4 (fun w h => List.mem_cons_of_mem _ (List.mem_append_left _ (List.mem_append_left _ (List.mem_append_right _ h)))) (List.mem_of_getElem? (i := 2) rfl) (by decide) (by decide), List.forall_mem_cons.mpr ⟨zfl_X4 (fun w h => List.mem_cons_of_mem _ (List.mem_append_left _ (List.mem_append_left _ (List.mem_append_right _ h)))) (List.mem_of_getElem? (i := 4) rfl) (by decide) (by decide), List.forall_mem_cons.mpr ⟨zfl_X4 (fun w h => List.mem_cons_of_mem _ (List.mem_append_left _ (List.mem_append_left _ (List.mem_append_right _ h)))) (List.mem_of_getElem? (i := 18) rfl) (by decide) (by decide), List.forall_mem_cons.mpr ⟨zfl_X4 (fun w h => List.mem_cons_of_mem _ (List.mem_append_left _ (List.mem_append_left _ (List.mem_append_right _ h)))) (List.mem_of_getElem? (i := 19) rfl) (by decide) (by decide), List.forall_mem_cons.mpr ⟨zfl_X4 (fun w h => List.mem_cons_of_mem _ (List.mem_append_left _ (List.mem_append_left _ (List.mem_append_right _ h)))) (List.mem_of_getElem? (i := 20) rfl) (by decide) (by decide), List.forall_mem_cons.mpr ⟨zfl_X4 (fun w h => List.mem_cons_of_mem _ (List.mem_append_left _ (List.mem_append_left _ (List.mem_append_right _ h)))) (List.mem_of_getElem? (i := 21) rfl) (by decide) (by decide), fun _ h => absurd h List.not_mem_nil⟩⟩⟩⟩⟩⟩⟩⟩⟩⟩⟩⟩⟩⟩⟩⟩⟩))
    (zco_all (fun _ h => absurd h List.not_mem_nil)) (zlc_all (fun _ h => absurd h List.not_mem_nil))
    (List.forall_mem_cons.mpr ⟨ycal_V hX (m_X5_copyFrom hX hN l) rfl (fun s args hts => cwV 1 hts gX4_copyFrom_X5_copyFrom rfl rfl rfl (by decide +kernel) ⟨Nat.le_of_ble_eq_true rfl, Nat.le_of_ble_eq_true rfl⟩), List.forall_mem_cons.mpr ⟨ycal_V hX (m_X6_copyFrom hX hN l) rfl (fun s args hts => cwV 1 hts gX4_copyFrom_X6_copyFrom rfl rfl rfl (by decide +kernel) ⟨Nat.le_of_ble_eq_true rfl, Nat.le_of_ble_eq_true rfl⟩), fun _ h => absurd h List.not_mem_nil⟩⟩)
    (fun _ h => absurd h List.not_mem_nil)
    (zmm_all (List.forall_mem_cons.mpr ⟨⟨List.mem_of_getElem? (i := 6) rfl, List.mem_of_getElem? (i := 7) rfl, List.mem_of_getElem? (i := 8) rfl, List.mem_of_getElem? (i := 9) rfl⟩, fun _ h => absurd h List.not_mem_nil⟩)) (fun _ h => absurd h List.not_mem_nil) (zpr_all hp_X4_copyFrom) (fun as σ res h => by
      unfold F_X4_copyFrom at h
      split at h
      · rename_i x0 x1
        cases hr : f_X4_copyFrom N σ x0 x1 with
        | none => rw [hr] at h; cases h
        | some r =>
          rw [hr] at h
          cases h
          exact ⟨Nat.le_of_ble_eq_true rfl, t_X4_copyFrom σ x0 x1 r hr⟩
      · cases h)
noncomputable def pr_X4_fallsOf : List (Nat × Instr × Nat) := [(0, .iload_n 0, 1), (1, .iconst 3, 1), (2, .if_icmp .ne 7, 3), (5, .iconst 2, 1), (6, .goto 4, 3), (9, .iconst 1, 1), (10, .ireturn, 1)]
set_option maxRecDepth 100000 in
theorem hp_X4_fallsOf : pr_X4_fallsOf.all (fun x => decide (decode cX4_fallsOf x.1 = .ok x.2)) = true := by decide +kernel
noncomputable def f_X4_fallsOf_b10 (N : Nat) (σ : yS) (s0 : Int) : Option (Int × yS) :=
  some (s0, σ)
noncomputable def f_X4_fallsOf (N : Nat) (σ : yS) (x0 : Int) : Option (Int × yS) :=
  bif ycP .ne x0 3 then
    f_X4_fallsOf_b10 N σ 1
  else
    f_X4_fallsOf_b10 N σ 2
noncomputable def F_X4_fallsOf (N : Nat) : yF := fun as σ => match as with
  | [.inl (.inl x0)] => (f_X4_fallsOf N σ x0).map (fun r => (some (.inl (.inl r.1)), r.2))
  | _ => none
theorem e_X4_fallsOf {N : Nat} {σ : yS} {x0 : Int} {r : Int × yS} (h : f_X4_fallsOf N σ x0 = some r) : F_X4_fallsOf N [.inl (.inl x0)] σ = some (some (.inl (.inl r.1)), r.2) := by
  show (f_X4_fallsOf N σ x0).map (fun r => ((some (.inl (.inl r.1)), r.2) : yR)) = _
  rw [h]
  rfl
noncomputable def tb_X4_fallsOf (N : Nat) : yTb := ([], [], [], [], [], [], [])
abbrev G_X4_fallsOf (N : Nat) (X : zXT) (sh : List yH) (l : Launch) (rm : Room) : yC → yR → Prop := yGoes X vwCl yct sh l rm cX4_fallsOf 1 wsX4_fallsOf RX4 (tb_X4_fallsOf N) pr_X4_fallsOf 1
set_option maxRecDepth 100000 in
set_option maxHeartbeats 4000000 in
theorem t_X4_fallsOf_b10 {N : Nat} {X : zXT} {sh : List yH} {l : Launch} {rm : Room} (σ : yS) (s0 : Int) (res : Int × yS) (h : f_X4_fallsOf_b10 N σ s0 = some res) : G_X4_fallsOf N X sh l rm (10, [], [.inl (.inl s0)], σ) (some (.inl (.inl res.1)), res.2) := by
  unfold f_X4_fallsOf_b10 at h
  have h := Option.some.inj h
  subst h
  dsimp only
  exact yG_r rfl rfl
set_option maxRecDepth 100000 in
set_option maxHeartbeats 4000000 in
theorem t_X4_fallsOf {N : Nat} {X : zXT} {sh : List yH} {l : Launch} {rm : Room} (σ : yS) (x0 : Int) (res : Int × yS) (h : f_X4_fallsOf N σ x0 = some res) : G_X4_fallsOf N X sh l rm (0, [(0, .inl (.inl x0))], [], σ) (some (.inl (.inl res.1)), res.2) := by
  unfold f_X4_fallsOf at h
  refine yG_n (n := 2) (C' := (2, [(0, .inl (.inl x0))], [.inl (.inl 3), .inl (.inl x0)], σ)) rfl ?_
  cases hg1 : ycP .ne x0 3 with
  | true =>
    rw [hg1] at h
    dsimp only [cond] at h
    refine yG_t (C' := (9, [(0, .inl (.inl x0))], [], σ)) rfl hg1 ?_
    refine yG_n (n := 1) (C' := (10, [(0, .inl (.inl x0))], [.inl (.inl 1)], σ)) rfl ?_
    exact yG_w [] rfl (t_X4_fallsOf_b10 σ 1 res h)
  | false =>
    rw [hg1] at h
    dsimp only [cond] at h
    refine yG_f (C' := (5, [(0, .inl (.inl x0))], [], σ)) rfl hg1 ?_
    refine yG_n (n := 2) (C' := (10, [(0, .inl (.inl x0))], [.inl (.inl 2)], σ)) rfl ?_
    exact yG_w [] rfl (t_X4_fallsOf_b10 σ 2 res h)
set_option maxRecDepth 100000 in
set_option maxHeartbeats 4000000 in
theorem m_X4_fallsOf {N : Nat} {X : zXT} (hX : zXok X) (hN : zXn X) (l : Launch) {sh : List yH} : yMet X vwCl yct sh l yX4_fallsOf wsX4_fallsOf { frames := 1, cells := 0, slots := 0, locals := 64 } (F_X4_fallsOf N) :=
  ymeth (tb := tb_X4_fallsOf N) (pr := pr_X4_fallsOf) (rt := 1) (own := RX4) hX (by decide +kernel) rfl rfl ⟨Nat.le_of_ble_eq_true rfl, Nat.le_of_ble_eq_true rfl⟩
    (zfl_all (fun _ h => absurd h List.not_mem_nil))
    (zco_all (fun _ h => absurd h List.not_mem_nil)) (zlc_all (fun _ h => absurd h List.not_mem_nil))
    (fun _ h => absurd h List.not_mem_nil)
    (fun _ h => absurd h List.not_mem_nil)
    (zmm_all (fun _ h => absurd h List.not_mem_nil)) (fun _ h => absurd h List.not_mem_nil) (zpr_all hp_X4_fallsOf) (fun as σ res h => by
      unfold F_X4_fallsOf at h
      split at h
      · rename_i x0
        cases hr : f_X4_fallsOf N σ x0 with
        | none => rw [hr] at h; cases h
        | some r =>
          rw [hr] at h
          cases h
          exact ⟨Nat.le_of_ble_eq_true rfl, t_X4_fallsOf σ x0 r hr⟩
      · cases h)
noncomputable def pr_X4_stepOf : List (Nat × Instr × Nat) := [(0, .iload_n 0, 1), (1, .iconst 1, 1), (2, .if_icmp .eq 12, 3), (5, .iload_n 0, 1), (6, .iconst 3, 1), (7, .if_icmp .ne 9, 3), (10, .iload_n 1, 1), (11, .ifCond .ne 5, 3), (14, .iconst (-1), 1), (15, .ireturn, 1), (16, .iload_n 0, 1), (17, .iconst 2, 1), (18, .if_icmp .ne 7, 3), (21, .iconst 2, 1), (22, .goto 4, 3), (25, .iconst 1, 1), (26, .ireturn, 1)]
set_option maxRecDepth 100000 in
theorem hp_X4_stepOf : pr_X4_stepOf.all (fun x => decide (decode cX4_stepOf x.1 = .ok x.2)) = true := by decide +kernel
noncomputable def f_X4_stepOf_b14 (N : Nat) (σ : yS) : Option (Int × yS) :=
  some ((-1), σ)
noncomputable def f_X4_stepOf_b26 (N : Nat) (σ : yS) (s0 : Int) : Option (Int × yS) :=
  some (s0, σ)
noncomputable def f_X4_stepOf_b16 (N : Nat) (σ : yS) (x0 : Int) : Option (Int × yS) :=
  bif ycP .ne x0 2 then
    f_X4_stepOf_b26 N σ 1
  else
    f_X4_stepOf_b26 N σ 2
noncomputable def f_X4_stepOf (N : Nat) (σ : yS) (x0 : Int) (x1 : Int) : Option (Int × yS) :=
  bif ycP .eq x0 1 then
    f_X4_stepOf_b14 N σ
  else
    bif ycP .ne x0 3 then
      f_X4_stepOf_b16 N σ x0
    else
      bif ycP .ne x1 0 then
        f_X4_stepOf_b16 N σ x0
      else
        f_X4_stepOf_b14 N σ
noncomputable def F_X4_stepOf (N : Nat) : yF := fun as σ => match as with
  | [.inl (.inl x0), .inl (.inl x1)] => (f_X4_stepOf N σ x0 x1).map (fun r => (some (.inl (.inl r.1)), r.2))
  | _ => none
theorem e_X4_stepOf {N : Nat} {σ : yS} {x0 : Int} {x1 : Int} {r : Int × yS} (h : f_X4_stepOf N σ x0 x1 = some r) : F_X4_stepOf N [.inl (.inl x0), .inl (.inl x1)] σ = some (some (.inl (.inl r.1)), r.2) := by
  show (f_X4_stepOf N σ x0 x1).map (fun r => ((some (.inl (.inl r.1)), r.2) : yR)) = _
  rw [h]
  rfl
noncomputable def tb_X4_stepOf (N : Nat) : yTb := ([], [], [], [], [], [], [])
abbrev G_X4_stepOf (N : Nat) (X : zXT) (sh : List yH) (l : Launch) (rm : Room) : yC → yR → Prop := yGoes X vwCl yct sh l rm cX4_stepOf 2 wsX4_stepOf RX4 (tb_X4_stepOf N) pr_X4_stepOf 1
set_option maxRecDepth 100000 in
set_option maxHeartbeats 4000000 in
theorem t_X4_stepOf_b14 {N : Nat} {X : zXT} {sh : List yH} {l : Launch} {rm : Room} (σ : yS) (res : Int × yS) (h : f_X4_stepOf_b14 N σ = some res) : G_X4_stepOf N X sh l rm (14, [], [], σ) (some (.inl (.inl res.1)), res.2) := by
  unfold f_X4_stepOf_b14 at h
  refine yG_n (n := 1) (C' := (15, [], [.inl (.inl ((-1)))], σ)) rfl ?_
  have h := Option.some.inj h
  subst h
  dsimp only
  exact yG_r rfl rfl
set_option maxRecDepth 100000 in
set_option maxHeartbeats 4000000 in
theorem t_X4_stepOf_b26 {N : Nat} {X : zXT} {sh : List yH} {l : Launch} {rm : Room} (σ : yS) (s0 : Int) (res : Int × yS) (h : f_X4_stepOf_b26 N σ s0 = some res) : G_X4_stepOf N X sh l rm (26, [], [.inl (.inl s0)], σ) (some (.inl (.inl res.1)), res.2) := by
  unfold f_X4_stepOf_b26 at h
  have h := Option.some.inj h
  subst h
  dsimp only
  exact yG_r rfl rfl
set_option maxRecDepth 100000 in
set_option maxHeartbeats 4000000 in
theorem t_X4_stepOf_b16 {N : Nat} {X : zXT} {sh : List yH} {l : Launch} {rm : Room} (σ : yS) (x0 : Int) (res : Int × yS) (h : f_X4_stepOf_b16 N σ x0 = some res) : G_X4_stepOf N X sh l rm (16, [(0, .inl (.inl x0))], [], σ) (some (.inl (.inl res.1)), res.2) := by
  unfold f_X4_stepOf_b16 at h
  refine yG_n (n := 2) (C' := (18, [(0, .inl (.inl x0))], [.inl (.inl 2), .inl (.inl x0)], σ)) rfl ?_
  cases hg1 : ycP .ne x0 2 with
  | true =>
    rw [hg1] at h
    dsimp only [cond] at h
    refine yG_t (C' := (25, [(0, .inl (.inl x0))], [], σ)) rfl hg1 ?_
    refine yG_n (n := 1) (C' := (26, [(0, .inl (.inl x0))], [.inl (.inl 1)], σ)) rfl ?_
    exact yG_w [] rfl (t_X4_stepOf_b26 σ 1 res h)
  | false =>
    rw [hg1] at h
    dsimp only [cond] at h
    refine yG_f (C' := (21, [(0, .inl (.inl x0))], [], σ)) rfl hg1 ?_
    refine yG_n (n := 2) (C' := (26, [(0, .inl (.inl x0))], [.inl (.inl 2)], σ)) rfl ?_
    exact yG_w [] rfl (t_X4_stepOf_b26 σ 2 res h)
set_option maxRecDepth 100000 in
set_option maxHeartbeats 4000000 in
theorem t_X4_stepOf {N : Nat} {X : zXT} {sh : List yH} {l : Launch} {rm : Room} (σ : yS) (x0 : Int) (x1 : Int) (res : Int × yS) (h : f_X4_stepOf N σ x0 x1 = some res) : G_X4_stepOf N X sh l rm (0, [(0, .inl (.inl x0)), (1, .inl (.inl x1))], [], σ) (some (.inl (.inl res.1)), res.2) := by
  unfold f_X4_stepOf at h
  refine yG_n (n := 2) (C' := (2, [(0, .inl (.inl x0)), (1, .inl (.inl x1))], [.inl (.inl 1), .inl (.inl x0)], σ)) rfl ?_
  cases hg2 : ycP .eq x0 1 with
  | true =>
    rw [hg2] at h
    dsimp only [cond] at h
    refine yG_t (C' := (14, [(0, .inl (.inl x0)), (1, .inl (.inl x1))], [], σ)) rfl hg2 ?_
    exact yG_w [] rfl (t_X4_stepOf_b14 σ res h)
  | false =>
    rw [hg2] at h
    dsimp only [cond] at h
    refine yG_f (C' := (5, [(0, .inl (.inl x0)), (1, .inl (.inl x1))], [], σ)) rfl hg2 ?_
    refine yG_n (n := 2) (C' := (7, [(0, .inl (.inl x0)), (1, .inl (.inl x1))], [.inl (.inl 3), .inl (.inl x0)], σ)) rfl ?_
    cases hg3 : ycP .ne x0 3 with
    | true =>
      rw [hg3] at h
      dsimp only [cond] at h
      refine yG_t (C' := (16, [(0, .inl (.inl x0)), (1, .inl (.inl x1))], [], σ)) rfl hg3 ?_
      exact yG_w [0] rfl (t_X4_stepOf_b16 σ x0 res h)
    | false =>
      rw [hg3] at h
      dsimp only [cond] at h
      refine yG_f (C' := (10, [(0, .inl (.inl x0)), (1, .inl (.inl x1))], [], σ)) rfl hg3 ?_
      refine yG_n (n := 1) (C' := (11, [(0, .inl (.inl x0)), (1, .inl (.inl x1))], [.inl (.inl x1)], σ)) rfl ?_
      cases hg4 : ycP .ne x1 0 with
      | true =>
        rw [hg4] at h
        dsimp only [cond] at h
        refine yG_t (C' := (16, [(0, .inl (.inl x0)), (1, .inl (.inl x1))], [], σ)) rfl hg4 ?_
        exact yG_w [0] rfl (t_X4_stepOf_b16 σ x0 res h)
      | false =>
        rw [hg4] at h
        dsimp only [cond] at h
        refine yG_f (C' := (14, [(0, .inl (.inl x0)), (1, .inl (.inl x1))], [], σ)) rfl hg4 ?_
        exact yG_w [] rfl (t_X4_stepOf_b14 σ res h)
set_option maxRecDepth 100000 in
set_option maxHeartbeats 4000000 in
theorem m_X4_stepOf {N : Nat} {X : zXT} (hX : zXok X) (hN : zXn X) (l : Launch) {sh : List yH} : yMet X vwCl yct sh l yX4_stepOf wsX4_stepOf { frames := 1, cells := 0, slots := 0, locals := 64 } (F_X4_stepOf N) :=
  ymeth (tb := tb_X4_stepOf N) (pr := pr_X4_stepOf) (rt := 1) (own := RX4) hX (by decide +kernel) rfl rfl ⟨Nat.le_of_ble_eq_true rfl, Nat.le_of_ble_eq_true rfl⟩
    (zfl_all (fun _ h => absurd h List.not_mem_nil))
    (zco_all (fun _ h => absurd h List.not_mem_nil)) (zlc_all (fun _ h => absurd h List.not_mem_nil))
    (fun _ h => absurd h List.not_mem_nil)
    (fun _ h => absurd h List.not_mem_nil)
    (zmm_all (fun _ h => absurd h List.not_mem_nil)) (fun _ h => absurd h List.not_mem_nil) (zpr_all hp_X4_stepOf) (fun as σ res h => by
      unfold F_X4_stepOf at h
      split at h
      · rename_i x0 x1
        cases hr : f_X4_stepOf N σ x0 x1 with
        | none => rw [hr] at h; cases h
        | some r =>
          rw [hr] at h
          cases h
          exact ⟨Nat.le_of_ble_eq_true rfl, t_X4_stepOf σ x0 x1 r hr⟩
      · cases h)
noncomputable def pr_X4_whereFalls : List (Nat × Instr × Nat) := [(0, .iload_n 1, 1), (1, .iload_n 2, 1), (2, .iadd, 1), (3, .istore_n 3, 1), (4, .aload_n 0, 1), (5, .getfield 61, 3), (8, .ifCond .eq 22, 3), (11, .aload_n 0, 1), (12, .getfield 9, 3), (15, .ifCond .le 15, 3), (18, .iload_n 3, 1), (19, .aload_n 0, 1), (20, .getfield 9, 3), (23, .iadd, 1), (24, .aload_n 0, 1), (25, .getfield 9, 3), (28, .irem, 1), (29, .ireturn, 1), (30, .iconst 0, 1), (31, .iload_n 3, 1), (32, .if_icmp .gt 15, 3), (35, .iload_n 3, 1), (36, .aload_n 0, 1), (37, .getfield 9, 3), (40, .if_icmp .ge 7, 3), (43, .iload_n 3, 1), (44, .goto 4, 3), (47, .iconst (-1), 1), (48, .ireturn, 1)]
set_option maxRecDepth 100000 in
theorem hp_X4_whereFalls : pr_X4_whereFalls.all (fun x => decide (decode cX4_whereFalls x.1 = .ok x.2)) = true := by decide +kernel
noncomputable def f_X4_whereFalls_b48 (N : Nat) (σ : yS) (s0 : Int) : Option (Int × yS) :=
  some (s0, σ)
noncomputable def f_X4_whereFalls_b47 (N : Nat) (σ : yS) : Option (Int × yS) :=
  f_X4_whereFalls_b48 N σ ((-1))
noncomputable def f_X4_whereFalls_b30 (N : Nat) (σ : yS) (x0 : Nat) (x3 : Int) : Option (Int × yS) :=
  bif ycP .gt 0 x3 then
    f_X4_whereFalls_b47 N σ
  else
    bif ycP .ge x3 (σ.1 x0 0) then
      f_X4_whereFalls_b47 N σ
    else
      f_X4_whereFalls_b48 N σ x3
noncomputable def f_X4_whereFalls (N : Nat) (σ : yS) (x0 : Nat) (x1 : Int) (x2 : Int) : Option (Int × yS) :=
  bif ycP .eq (σ.1 x0 1) 0 then
    f_X4_whereFalls_b30 N σ x0 (yad x1 x2)
  else
    bif ycP .le (σ.1 x0 0) 0 then
      f_X4_whereFalls_b30 N σ x0 (yad x1 x2)
    else
      bif ynz (σ.1 x0 0) then
        some (yrm (yad (yad x1 x2) (σ.1 x0 0)) (σ.1 x0 0), σ)
      else none
noncomputable def F_X4_whereFalls (N : Nat) : yF := fun as σ => match as with
  | [.inr (.inl 4, x0), .inl (.inl x1), .inl (.inl x2)] => (f_X4_whereFalls N σ x0 x1 x2).map (fun r => (some (.inl (.inl r.1)), r.2))
  | _ => none
theorem e_X4_whereFalls {N : Nat} {σ : yS} {x0 : Nat} {x1 : Int} {x2 : Int} {r : Int × yS} (h : f_X4_whereFalls N σ x0 x1 x2 = some r) : F_X4_whereFalls N [.inr (.inl 4, x0), .inl (.inl x1), .inl (.inl x2)] σ = some (some (.inl (.inl r.1)), r.2) := by
  show (f_X4_whereFalls N σ x0 x1 x2).map (fun r => ((some (.inl (.inl r.1)), r.2) : yR)) = _
  rw [h]
  rfl
noncomputable def tb_X4_whereFalls (N : Nat) : yTb := ([(9, 4, 0, 0), (61, 4, 1, 1)], [], [], [], [], [], [])
abbrev G_X4_whereFalls (N : Nat) (X : zXT) (sh : List yH) (l : Launch) (rm : Room) : yC → yR → Prop := yGoes X vwCl yct sh l rm cX4_whereFalls 4 wsX4_whereFalls RX4 (tb_X4_whereFalls N) pr_X4_whereFalls 1
set_option maxRecDepth 100000 in
set_option maxHeartbeats 4000000 in
theorem t_X4_whereFalls_b48 {N : Nat} {X : zXT} {sh : List yH} {l : Launch} {rm : Room} (σ : yS) (s0 : Int) (res : Int × yS) (h : f_X4_whereFalls_b48 N σ s0 = some res) : G_X4_whereFalls N X sh l rm (48, [], [.inl (.inl s0)], σ) (some (.inl (.inl res.1)), res.2) := by
  unfold f_X4_whereFalls_b48 at h
  have h := Option.some.inj h
  subst h
  dsimp only
  exact yG_r rfl rfl
set_option maxRecDepth 100000 in
set_option maxHeartbeats 4000000 in
theorem t_X4_whereFalls_b47 {N : Nat} {X : zXT} {sh : List yH} {l : Launch} {rm : Room} (σ : yS) (res : Int × yS) (h : f_X4_whereFalls_b47 N σ = some res) : G_X4_whereFalls N X sh l rm (47, [], [], σ) (some (.inl (.inl res.1)), res.2) := by
  unfold f_X4_whereFalls_b47 at h
  refine yG_n (n := 1) (C' := (48, [], [.inl (.inl ((-1)))], σ)) rfl ?_
  exact t_X4_whereFalls_b48 σ ((-1)) res h
set_option maxRecDepth 100000 in
set_option maxHeartbeats 4000000 in
theorem t_X4_whereFalls_b30 {N : Nat} {X : zXT} {sh : List yH} {l : Launch} {rm : Room} (σ : yS) (x0 : Nat) (x3 : Int) (res : Int × yS) (h : f_X4_whereFalls_b30 N σ x0 x3 = some res) : G_X4_whereFalls N X sh l rm (30, [(0, .inr (.inl 4, x0)), (3, .inl (.inl x3))], [], σ) (some (.inl (.inl res.1)), res.2) := by
  unfold f_X4_whereFalls_b30 at h
  refine yG_n (n := 2) (C' := (32, [(0, .inr (.inl 4, x0)), (3, .inl (.inl x3))], [.inl (.inl x3), .inl (.inl 0)], σ)) rfl ?_
  cases hg1 : ycP .gt 0 x3 with
  | true =>
    rw [hg1] at h
    dsimp only [cond] at h
    refine yG_t (C' := (47, [(0, .inr (.inl 4, x0)), (3, .inl (.inl x3))], [], σ)) rfl hg1 ?_
    exact yG_w [] rfl (t_X4_whereFalls_b47 σ res h)
  | false =>
    rw [hg1] at h
    dsimp only [cond] at h
    refine yG_f (C' := (35, [(0, .inr (.inl 4, x0)), (3, .inl (.inl x3))], [], σ)) rfl hg1 ?_
    refine yG_n (n := 3) (C' := (40, [(0, .inr (.inl 4, x0)), (3, .inl (.inl x3))], [.inl (.inl (σ.1 x0 0)), .inl (.inl x3)], σ)) rfl ?_
    cases hg2 : ycP .ge x3 (σ.1 x0 0) with
    | true =>
      rw [hg2] at h
      dsimp only [cond] at h
      refine yG_t (C' := (47, [(0, .inr (.inl 4, x0)), (3, .inl (.inl x3))], [], σ)) rfl hg2 ?_
      exact yG_w [] rfl (t_X4_whereFalls_b47 σ res h)
    | false =>
      rw [hg2] at h
      dsimp only [cond] at h
      refine yG_f (C' := (43, [(0, .inr (.inl 4, x0)), (3, .inl (.inl x3))], [], σ)) rfl hg2 ?_
      refine yG_n (n := 2) (C' := (48, [(0, .inr (.inl 4, x0)), (3, .inl (.inl x3))], [.inl (.inl x3)], σ)) rfl ?_
      exact yG_w [] rfl (t_X4_whereFalls_b48 σ x3 res h)
set_option maxRecDepth 100000 in
set_option maxHeartbeats 4000000 in
theorem t_X4_whereFalls {N : Nat} {X : zXT} {sh : List yH} {l : Launch} {rm : Room} (σ : yS) (x0 : Nat) (x1 : Int) (x2 : Int) (res : Int × yS) (h : f_X4_whereFalls N σ x0 x1 x2 = some res) : G_X4_whereFalls N X sh l rm (0, [(0, .inr (.inl 4, x0)), (1, .inl (.inl x1)), (2, .inl (.inl x2))], [], σ) (some (.inl (.inl res.1)), res.2) := by
  unfold f_X4_whereFalls at h
  refine yG_n (n := 6) (C' := (8, [(3, .inl (.inl (yad x1 x2))), (0, .inr (.inl 4, x0)), (1, .inl (.inl x1)), (2, .inl (.inl x2))], [.inl (.inl (σ.1 x0 1))], σ)) rfl ?_
  cases hg3 : ycP .eq (σ.1 x0 1) 0 with
  | true =>
    rw [hg3] at h
    dsimp only [cond] at h
    refine yG_t (C' := (30, [(3, .inl (.inl (yad x1 x2))), (0, .inr (.inl 4, x0)), (1, .inl (.inl x1)), (2, .inl (.inl x2))], [], σ)) rfl hg3 ?_
    exact yG_w [1, 0] rfl (t_X4_whereFalls_b30 σ x0 (yad x1 x2) res h)
  | false =>
    rw [hg3] at h
    dsimp only [cond] at h
    refine yG_f (C' := (11, [(3, .inl (.inl (yad x1 x2))), (0, .inr (.inl 4, x0)), (1, .inl (.inl x1)), (2, .inl (.inl x2))], [], σ)) rfl hg3 ?_
    refine yG_n (n := 2) (C' := (15, [(3, .inl (.inl (yad x1 x2))), (0, .inr (.inl 4, x0)), (1, .inl (.inl x1)), (2, .inl (.inl x2))], [.inl (.inl (σ.1 x0 0))], σ)) rfl ?_
    cases hg4 : ycP .le (σ.1 x0 0) 0 with
    | true =>
      rw [hg4] at h
      dsimp only [cond] at h
      refine yG_t (C' := (30, [(3, .inl (.inl (yad x1 x2))), (0, .inr (.inl 4, x0)), (1, .inl (.inl x1)), (2, .inl (.inl x2))], [], σ)) rfl hg4 ?_
      exact yG_w [1, 0] rfl (t_X4_whereFalls_b30 σ x0 (yad x1 x2) res h)
    | false =>
      rw [hg4] at h
      dsimp only [cond] at h
      refine yG_f (C' := (18, [(3, .inl (.inl (yad x1 x2))), (0, .inr (.inl 4, x0)), (1, .inl (.inl x1)), (2, .inl (.inl x2))], [], σ)) rfl hg4 ?_
      refine yG_n (n := 6) (C' := (28, [(3, .inl (.inl (yad x1 x2))), (0, .inr (.inl 4, x0)), (1, .inl (.inl x1)), (2, .inl (.inl x2))], [.inl (.inl (σ.1 x0 0)), .inl (.inl (yad (yad x1 x2) (σ.1 x0 0)))], σ)) rfl ?_
      cases hg5 : ynz (σ.1 x0 0) with
      | false => rw [hg5] at h; dsimp only [cond] at h; cases h
      | true =>
        rw [hg5] at h
        dsimp only [cond] at h
        refine yG_t (C' := (29, [(3, .inl (.inl (yad x1 x2))), (0, .inr (.inl 4, x0)), (1, .inl (.inl x1)), (2, .inl (.inl x2))], [.inl (.inl (yrm (yad (yad x1 x2) (σ.1 x0 0)) (σ.1 x0 0)))], σ)) rfl hg5 ?_
        have h := Option.some.inj h
        subst h
        dsimp only
        exact yG_r rfl rfl
set_option maxRecDepth 100000 in
set_option maxHeartbeats 4000000 in
theorem m_X4_whereFalls {N : Nat} {X : zXT} (hX : zXok X) (hN : zXn X) (l : Launch) {sh : List yH} : yMet X vwCl yct sh l yX4_whereFalls wsX4_whereFalls { frames := 1, cells := 0, slots := 0, locals := 64 } (F_X4_whereFalls N) :=
  ymeth (tb := tb_X4_whereFalls N) (pr := pr_X4_whereFalls) (rt := 1) (own := RX4) hX (by decide +kernel) rfl rfl ⟨Nat.le_of_ble_eq_true rfl, Nat.le_of_ble_eq_true rfl⟩
    (zfl_all (List.forall_mem_cons.mpr ⟨zfl_X4 (fun w h => List.mem_cons_of_mem _ (List.mem_append_right _ h)) (List.mem_of_getElem? (i := 2) rfl) (by decide) (by decide), List.forall_mem_cons.mpr ⟨zfl_X4 (fun w h => List.mem_cons_of_mem _ (List.mem_append_right _ h)) (List.mem_of_getElem? (i := 1) rfl) (by decide) (by decide), fun _ h => absurd h List.not_mem_nil⟩⟩))
    (zco_all (fun _ h => absurd h List.not_mem_nil)) (zlc_all (fun _ h => absurd h List.not_mem_nil))
    (fun _ h => absurd h List.not_mem_nil)
    (fun _ h => absurd h List.not_mem_nil)
    (zmm_all (fun _ h => absurd h List.not_mem_nil)) (fun _ h => absurd h List.not_mem_nil) (zpr_all hp_X4_whereFalls) (fun as σ res h => by
      unfold F_X4_whereFalls at h
      split at h
      · rename_i x0 x1 x2
        cases hr : f_X4_whereFalls N σ x0 x1 x2 with
        | none => rw [hr] at h; cases h
        | some r =>
          rw [hr] at h
          cases h
          exact ⟨Nat.le_of_ble_eq_true rfl, t_X4_whereFalls σ x0 x1 x2 r hr⟩
      · cases h)
noncomputable def pr_X7_bit : List (Nat × Instr × Nat) := [(0, .iload_n 0, 1), (1, .iload_n 1, 1), (2, .ishr, 1), (3, .iconst 1, 1), (4, .iand, 1), (5, .ireturn, 1)]
set_option maxRecDepth 100000 in
theorem hp_X7_bit : pr_X7_bit.all (fun x => decide (decode cX7_bit x.1 = .ok x.2)) = true := by decide +kernel
noncomputable def f_X7_bit (N : Nat) (σ : yS) (x0 : Int) (x1 : Int) : Option (Int × yS) :=
  some (yan (ysr x0 x1) 1, σ)
noncomputable def F_X7_bit (N : Nat) : yF := fun as σ => match as with
  | [.inl (.inl x0), .inl (.inl x1)] => (f_X7_bit N σ x0 x1).map (fun r => (some (.inl (.inl r.1)), r.2))
  | _ => none
theorem e_X7_bit {N : Nat} {σ : yS} {x0 : Int} {x1 : Int} {r : Int × yS} (h : f_X7_bit N σ x0 x1 = some r) : F_X7_bit N [.inl (.inl x0), .inl (.inl x1)] σ = some (some (.inl (.inl r.1)), r.2) := by
  show (f_X7_bit N σ x0 x1).map (fun r => ((some (.inl (.inl r.1)), r.2) : yR)) = _
  rw [h]
  rfl
noncomputable def tb_X7_bit (N : Nat) : yTb := ([], [], [], [], [], [], [])
abbrev G_X7_bit (N : Nat) (X : zXT) (sh : List yH) (l : Launch) (rm : Room) : yC → yR → Prop := yGoes X vwCl yct sh l rm cX7_bit 2 wsX7_bit RX7 (tb_X7_bit N) pr_X7_bit 1
set_option maxRecDepth 100000 in
set_option maxHeartbeats 4000000 in
theorem t_X7_bit {N : Nat} {X : zXT} {sh : List yH} {l : Launch} {rm : Room} (σ : yS) (x0 : Int) (x1 : Int) (res : Int × yS) (h : f_X7_bit N σ x0 x1 = some res) : G_X7_bit N X sh l rm (0, [(0, .inl (.inl x0)), (1, .inl (.inl x1))], [], σ) (some (.inl (.inl res.1)), res.2) := by
  unfold f_X7_bit at h
  refine yG_n (n := 5) (C' := (5, [(0, .inl (.inl x0)), (1, .inl (.inl x1))], [.inl (.inl (yan (ysr x0 x1) 1))], σ)) rfl ?_
  have h := Option.some.inj h
  subst h
  dsimp only
  exact yG_r rfl rfl
set_option maxRecDepth 100000 in
set_option maxHeartbeats 4000000 in
theorem m_X7_bit {N : Nat} {X : zXT} (hX : zXok X) (hN : zXn X) (l : Launch) {sh : List yH} : yMet X vwCl yct sh l yX7_bit wsX7_bit { frames := 1, cells := 0, slots := 0, locals := 64 } (F_X7_bit N) :=
  ymeth (tb := tb_X7_bit N) (pr := pr_X7_bit) (rt := 1) (own := RX7) hX (by decide +kernel) rfl rfl ⟨Nat.le_of_ble_eq_true rfl, Nat.le_of_ble_eq_true rfl⟩
    (zfl_all (fun _ h => absurd h List.not_mem_nil))
    (zco_all (fun _ h => absurd h List.not_mem_nil)) (zlc_all (fun _ h => absurd h List.not_mem_nil))
    (fun _ h => absurd h List.not_mem_nil)
    (fun _ h => absurd h List.not_mem_nil)
    (zmm_all (fun _ h => absurd h List.not_mem_nil)) (fun _ h => absurd h List.not_mem_nil) (zpr_all hp_X7_bit) (fun as σ res h => by
      unfold F_X7_bit at h
      split at h
      · rename_i x0 x1
        cases hr : f_X7_bit N σ x0 x1 with
        | none => rw [hr] at h; cases h
        | some r =>
          rw [hr] at h
          cases h
          exact ⟨Nat.le_of_ble_eq_true rfl, t_X7_bit σ x0 x1 r hr⟩
      · cases h)
noncomputable def pr_X5_append : List (Nat × Instr × Nat) := [(0, .aload_n 0, 1), (1, .getfield 24, 3), (4, .bipush 10, 2), (6, .if_icmp .lt 5, 3), (9, .iconst 0, 1), (10, .ireturn, 1), (11, .aload_n 0, 1), (12, .getfield 9, 3), (15, .aload_n 0, 1), (16, .getfield 24, 3), (19, .iload_n 1, 1), (20, .iastore, 1), (21, .aload_n 0, 1), (22, .getfield 15, 3), (25, .aload_n 0, 1), (26, .getfield 24, 3), (29, .iload_n 2, 1), (30, .iastore, 1), (31, .aload_n 0, 1), (32, .getfield 18, 3), (35, .aload_n 0, 1), (36, .getfield 24, 3), (39, .iload_n 3, 1), (40, .iastore, 1), (41, .aload_n 0, 1), (42, .getfield 21, 3), (45, .aload_n 0, 1), (46, .getfield 24, 3), (49, .iload 4, 2), (51, .iastore, 1), (52, .aload_n 0, 1), (53, .dup, 1), (54, .getfield 24, 3), (57, .iconst 1, 1), (58, .iadd, 1), (59, .putfield 24, 3), (62, .iconst 1, 1), (63, .ireturn, 1)]
set_option maxRecDepth 100000 in
theorem hp_X5_append : pr_X5_append.all (fun x => decide (decode cX5_append x.1 = .ok x.2)) = true := by decide +kernel
noncomputable def f_X5_append_b54 (N : Nat) (σ : yS) (s0 : Nat) (s1 : Nat) : Option (Int × yS) :=
  some (1, yw σ s1 0 (yad (σ.1 s0 0) 1))
noncomputable def f_X5_append_b46 (N : Nat) (σ : yS) (x0 : Nat) (x4 : Int) (s0 : Nat) (s1 : Nat) : Option (Int × yS) :=
  bif yin (σ.1 s0 0) 10 then
    f_X5_append_b54 N (yw σ s1 (σ.1 s0 0).toNat x4) x0 x0
  else none
noncomputable def f_X5_append_b36 (N : Nat) (σ : yS) (x0 : Nat) (x3 : Int) (x4 : Int) (s0 : Nat) (s1 : Nat) : Option (Int × yS) :=
  bif yin (σ.1 s0 0) 10 then
    f_X5_append_b46 N (yw σ s1 (σ.1 s0 0).toNat x3) x0 x4 x0 (x0 + 4)
  else none
noncomputable def f_X5_append_b26 (N : Nat) (σ : yS) (x0 : Nat) (x2 : Int) (x3 : Int) (x4 : Int) (s0 : Nat) (s1 : Nat) : Option (Int × yS) :=
  bif yin (σ.1 s0 0) 10 then
    f_X5_append_b36 N (yw σ s1 (σ.1 s0 0).toNat x2) x0 x3 x4 x0 (x0 + 3)
  else none
noncomputable def f_X5_append (N : Nat) (σ : yS) (x0 : Nat) (x1 : Int) (x2 : Int) (x3 : Int) (x4 : Int) : Option (Int × yS) :=
  bif ycP .lt (σ.1 x0 0) 10 then
    bif yin (σ.1 x0 0) 10 then
      f_X5_append_b26 N (yw σ (x0 + 1) (σ.1 x0 0).toNat x1) x0 x2 x3 x4 x0 (x0 + 2)
    else none
  else
    some (0, σ)
noncomputable def F_X5_append (N : Nat) : yF := fun as σ => match as with
  | [.inr (.inl 5, x0), .inl (.inl x1), .inl (.inl x2), .inl (.inl x3), .inl (.inl x4)] => (f_X5_append N σ x0 x1 x2 x3 x4).map (fun r => (some (.inl (.inl r.1)), r.2))
  | _ => none
theorem e_X5_append {N : Nat} {σ : yS} {x0 : Nat} {x1 : Int} {x2 : Int} {x3 : Int} {x4 : Int} {r : Int × yS} (h : f_X5_append N σ x0 x1 x2 x3 x4 = some r) : F_X5_append N [.inr (.inl 5, x0), .inl (.inl x1), .inl (.inl x2), .inl (.inl x3), .inl (.inl x4)] σ = some (some (.inl (.inl r.1)), r.2) := by
  show (f_X5_append N σ x0 x1 x2 x3 x4).map (fun r => ((some (.inl (.inl r.1)), r.2) : yR)) = _
  rw [h]
  rfl
noncomputable def tb_X5_append (N : Nat) : yTb := ([(9, 5, 1, 3), (15, 5, 2, 3), (18, 5, 3, 3), (21, 5, 4, 3), (24, 5, 0, 0)], [], [], [], [], [], [])
abbrev G_X5_append (N : Nat) (X : zXT) (sh : List yH) (l : Launch) (rm : Room) : yC → yR → Prop := yGoes X vwCl yct sh l rm cX5_append 5 wsX5_append RX5 (tb_X5_append N) pr_X5_append 2
set_option maxRecDepth 100000 in
set_option maxHeartbeats 4000000 in
theorem t_X5_append_b54 {N : Nat} {X : zXT} {sh : List yH} {l : Launch} {rm : Room} (σ : yS) (s0 : Nat) (s1 : Nat) (res : Int × yS) (h : f_X5_append_b54 N σ s0 s1 = some res) : G_X5_append N X sh l rm (54, [], [.inr (.inl 5, s0), .inr (.inl 5, s1)], σ) (some (.inl (.inl res.1)), res.2) := by
  unfold f_X5_append_b54 at h
  refine yG_n (n := 5) (C' := (63, [], [.inl (.inl 1)], yw σ s1 0 (yad (σ.1 s0 0) 1))) rfl ?_
  have h := Option.some.inj h
  subst h
  dsimp only
  exact yG_r rfl rfl
set_option maxRecDepth 100000 in
set_option maxHeartbeats 4000000 in
theorem t_X5_append_b46 {N : Nat} {X : zXT} {sh : List yH} {l : Launch} {rm : Room} (σ : yS) (x0 : Nat) (x4 : Int) (s0 : Nat) (s1 : Nat) (res : Int × yS) (h : f_X5_append_b46 N σ x0 x4 s0 s1 = some res) : G_X5_append N X sh l rm (46, [(0, .inr (.inl 5, x0)), (4, .inl (.inl x4))], [.inr (.inl 5, s0), .inr (.inr (0, 10), s1)], σ) (some (.inl (.inl res.1)), res.2) := by
  unfold f_X5_append_b46 at h
  refine yG_n (n := 2) (C' := (51, [(0, .inr (.inl 5, x0)), (4, .inl (.inl x4))], [.inl (.inl x4), .inl (.inl (σ.1 s0 0)), .inr (.inr (0, 10), s1)], σ)) rfl ?_
  cases hg1 : yin (σ.1 s0 0) 10 with
  | false => rw [hg1] at h; dsimp only [cond] at h; cases h
  | true =>
    rw [hg1] at h
    dsimp only [cond] at h
    refine yG_t (C' := (52, [(0, .inr (.inl 5, x0)), (4, .inl (.inl x4))], [], yw σ s1 (σ.1 s0 0).toNat x4)) rfl hg1 ?_
    refine yG_n (n := 2) (C' := (54, [(0, .inr (.inl 5, x0)), (4, .inl (.inl x4))], [.inr (.inl 5, x0), .inr (.inl 5, x0)], yw σ s1 (σ.1 s0 0).toNat x4)) rfl ?_
    exact yG_w [] rfl (t_X5_append_b54 (yw σ s1 (σ.1 s0 0).toNat x4) x0 x0 res h)
set_option maxRecDepth 100000 in
set_option maxHeartbeats 4000000 in
theorem t_X5_append_b36 {N : Nat} {X : zXT} {sh : List yH} {l : Launch} {rm : Room} (σ : yS) (x0 : Nat) (x3 : Int) (x4 : Int) (s0 : Nat) (s1 : Nat) (res : Int × yS) (h : f_X5_append_b36 N σ x0 x3 x4 s0 s1 = some res) : G_X5_append N X sh l rm (36, [(0, .inr (.inl 5, x0)), (3, .inl (.inl x3)), (4, .inl (.inl x4))], [.inr (.inl 5, s0), .inr (.inr (0, 10), s1)], σ) (some (.inl (.inl res.1)), res.2) := by
  unfold f_X5_append_b36 at h
  refine yG_n (n := 2) (C' := (40, [(0, .inr (.inl 5, x0)), (3, .inl (.inl x3)), (4, .inl (.inl x4))], [.inl (.inl x3), .inl (.inl (σ.1 s0 0)), .inr (.inr (0, 10), s1)], σ)) rfl ?_
  cases hg2 : yin (σ.1 s0 0) 10 with
  | false => rw [hg2] at h; dsimp only [cond] at h; cases h
  | true =>
    rw [hg2] at h
    dsimp only [cond] at h
    refine yG_t (C' := (41, [(0, .inr (.inl 5, x0)), (3, .inl (.inl x3)), (4, .inl (.inl x4))], [], yw σ s1 (σ.1 s0 0).toNat x3)) rfl hg2 ?_
    refine yG_n (n := 3) (C' := (46, [(0, .inr (.inl 5, x0)), (3, .inl (.inl x3)), (4, .inl (.inl x4))], [.inr (.inl 5, x0), .inr (.inr (0, 10), x0 + 4)], yw σ s1 (σ.1 s0 0).toNat x3)) rfl ?_
    exact yG_w [0, 2] rfl (t_X5_append_b46 (yw σ s1 (σ.1 s0 0).toNat x3) x0 x4 x0 (x0 + 4) res h)
set_option maxRecDepth 100000 in
set_option maxHeartbeats 4000000 in
theorem t_X5_append_b26 {N : Nat} {X : zXT} {sh : List yH} {l : Launch} {rm : Room} (σ : yS) (x0 : Nat) (x2 : Int) (x3 : Int) (x4 : Int) (s0 : Nat) (s1 : Nat) (res : Int × yS) (h : f_X5_append_b26 N σ x0 x2 x3 x4 s0 s1 = some res) : G_X5_append N X sh l rm (26, [(0, .inr (.inl 5, x0)), (2, .inl (.inl x2)), (3, .inl (.inl x3)), (4, .inl (.inl x4))], [.inr (.inl 5, s0), .inr (.inr (0, 10), s1)], σ) (some (.inl (.inl res.1)), res.2) := by
  unfold f_X5_append_b26 at h
  refine yG_n (n := 2) (C' := (30, [(0, .inr (.inl 5, x0)), (2, .inl (.inl x2)), (3, .inl (.inl x3)), (4, .inl (.inl x4))], [.inl (.inl x2), .inl (.inl (σ.1 s0 0)), .inr (.inr (0, 10), s1)], σ)) rfl ?_
  cases hg3 : yin (σ.1 s0 0) 10 with
  | false => rw [hg3] at h; dsimp only [cond] at h; cases h
  | true =>
    rw [hg3] at h
    dsimp only [cond] at h
    refine yG_t (C' := (31, [(0, .inr (.inl 5, x0)), (2, .inl (.inl x2)), (3, .inl (.inl x3)), (4, .inl (.inl x4))], [], yw σ s1 (σ.1 s0 0).toNat x2)) rfl hg3 ?_
    refine yG_n (n := 3) (C' := (36, [(0, .inr (.inl 5, x0)), (2, .inl (.inl x2)), (3, .inl (.inl x3)), (4, .inl (.inl x4))], [.inr (.inl 5, x0), .inr (.inr (0, 10), x0 + 3)], yw σ s1 (σ.1 s0 0).toNat x2)) rfl ?_
    exact yG_w [0, 2, 3] rfl (t_X5_append_b36 (yw σ s1 (σ.1 s0 0).toNat x2) x0 x3 x4 x0 (x0 + 3) res h)
set_option maxRecDepth 100000 in
set_option maxHeartbeats 4000000 in
theorem t_X5_append {N : Nat} {X : zXT} {sh : List yH} {l : Launch} {rm : Room} (σ : yS) (x0 : Nat) (x1 : Int) (x2 : Int) (x3 : Int) (x4 : Int) (res : Int × yS) (h : f_X5_append N σ x0 x1 x2 x3 x4 = some res) : G_X5_append N X sh l rm (0, [(0, .inr (.inl 5, x0)), (1, .inl (.inl x1)), (2, .inl (.inl x2)), (3, .inl (.inl x3)), (4, .inl (.inl x4))], [], σ) (some (.inl (.inl res.1)), res.2) := by
  unfold f_X5_append at h
  refine yG_n (n := 3) (C' := (6, [(0, .inr (.inl 5, x0)), (1, .inl (.inl x1)), (2, .inl (.inl x2)), (3, .inl (.inl x3)), (4, .inl (.inl x4))], [.inl (.inl 10), .inl (.inl (σ.1 x0 0))], σ)) rfl ?_
  cases hg4 : ycP .lt (σ.1 x0 0) 10 with
  | true =>
    rw [hg4] at h
    dsimp only [cond] at h
    refine yG_t (C' := (11, [(0, .inr (.inl 5, x0)), (1, .inl (.inl x1)), (2, .inl (.inl x2)), (3, .inl (.inl x3)), (4, .inl (.inl x4))], [], σ)) rfl hg4 ?_
    refine yG_n (n := 5) (C' := (20, [(0, .inr (.inl 5, x0)), (1, .inl (.inl x1)), (2, .inl (.inl x2)), (3, .inl (.inl x3)), (4, .inl (.inl x4))], [.inl (.inl x1), .inl (.inl (σ.1 x0 0)), .inr (.inr (0, 10), x0 + 1)], σ)) rfl ?_
    cases hg5 : yin (σ.1 x0 0) 10 with
    | false => rw [hg5] at h; dsimp only [cond] at h; cases h
    | true =>
      rw [hg5] at h
      dsimp only [cond] at h
      refine yG_t (C' := (21, [(0, .inr (.inl 5, x0)), (1, .inl (.inl x1)), (2, .inl (.inl x2)), (3, .inl (.inl x3)), (4, .inl (.inl x4))], [], yw σ (x0 + 1) (σ.1 x0 0).toNat x1)) rfl hg5 ?_
      refine yG_n (n := 3) (C' := (26, [(0, .inr (.inl 5, x0)), (1, .inl (.inl x1)), (2, .inl (.inl x2)), (3, .inl (.inl x3)), (4, .inl (.inl x4))], [.inr (.inl 5, x0), .inr (.inr (0, 10), x0 + 2)], yw σ (x0 + 1) (σ.1 x0 0).toNat x1)) rfl ?_
      exact yG_w [0, 2, 3, 4] rfl (t_X5_append_b26 (yw σ (x0 + 1) (σ.1 x0 0).toNat x1) x0 x2 x3 x4 x0 (x0 + 2) res h)
  | false =>
    rw [hg4] at h
    dsimp only [cond] at h
    refine yG_f (C' := (9, [(0, .inr (.inl 5, x0)), (1, .inl (.inl x1)), (2, .inl (.inl x2)), (3, .inl (.inl x3)), (4, .inl (.inl x4))], [], σ)) rfl hg4 ?_
    refine yG_n (n := 1) (C' := (10, [(0, .inr (.inl 5, x0)), (1, .inl (.inl x1)), (2, .inl (.inl x2)), (3, .inl (.inl x3)), (4, .inl (.inl x4))], [.inl (.inl 0)], σ)) rfl ?_
    have h := Option.some.inj h
    subst h
    dsimp only
    exact yG_r rfl rfl
set_option maxRecDepth 100000 in
set_option maxHeartbeats 4000000 in
theorem m_X5_append {N : Nat} {X : zXT} (hX : zXok X) (hN : zXn X) (l : Launch) {sh : List yH} : yMet X vwCl yct sh l yX5_append wsX5_append { frames := 1, cells := 0, slots := 0, locals := 64 } (F_X5_append N) :=
  ymeth (tb := tb_X5_append N) (pr := pr_X5_append) (rt := 2) (own := RX5) hX (by decide +kernel) rfl rfl ⟨Nat.le_of_ble_eq_true rfl, Nat.le_of_ble_eq_true rfl⟩
    (zfl_all (List.forall_mem_cons.mpr ⟨zfl_X5 (fun w h => List.mem_cons_of_mem _ (List.mem_append_right _ h)) (List.mem_of_getElem? (i := 2) rfl) (by decide) (by decide), List.forall_mem_cons.mpr ⟨zfl_X5 (fun w h => List.mem_cons_of_mem _ (List.mem_append_right _ h)) (List.mem_of_getElem? (i := 3) rfl) (by decide) (by decide), List.forall_mem_cons.mpr ⟨zfl_X5 (fun w h => List.mem_cons_of_mem _ (List.mem_append_right _ h)) (List.mem_of_getElem? (i := 4) rfl) (by decide) (by decide), List.forall_mem_cons.mpr ⟨zfl_X5 (fun w h => List.mem_cons_of_mem _ (List.mem_append_right _ h)) (List.mem_of_getElem? (i := 5) rfl) (by decide) (by decide), List.forall_mem_cons.mpr ⟨zfl_X5 (fun w h => List.mem_cons_of_mem _ (List.mem_append_right _ h)) (List.mem_of_getElem? (i := 1) rfl) (by decide) (by decide), fun _ h => absurd h List.not_mem_nil⟩⟩⟩⟩⟩))
    (zco_all (fun _ h => absurd h List.not_mem_nil)) (zlc_all (fun _ h => absurd h List.not_mem_nil))
    (fun _ h => absurd h List.not_mem_nil)
    (fun _ h => absurd h List.not_mem_nil)
    (zmm_all (fun _ h => absurd h List.not_mem_nil)) (fun _ h => absurd h List.not_mem_nil) (zpr_all hp_X5_append) (fun as σ res h => by
      unfold F_X5_append at h
      split at h
      · rename_i x0 x1 x2 x3 x4
        cases hr : f_X5_append N σ x0 x1 x2 x3 x4 with
        | none => rw [hr] at h; cases h
        | some r =>
          rw [hr] at h
          cases h
          exact ⟨Nat.le_of_ble_eq_true rfl, t_X5_append σ x0 x1 x2 x3 x4 r hr⟩
      · cases h)
noncomputable def pr_X7_doneAt : List (Nat × Instr × Nat) := [(0, .iload_n 0, 1), (1, .iconst 5, 1), (2, .imul, 1), (3, .iload_n 1, 1), (4, .iadd, 1), (5, .ireturn, 1)]
set_option maxRecDepth 100000 in
theorem hp_X7_doneAt : pr_X7_doneAt.all (fun x => decide (decode cX7_doneAt x.1 = .ok x.2)) = true := by decide +kernel
noncomputable def f_X7_doneAt (N : Nat) (σ : yS) (x0 : Int) (x1 : Int) : Option (Int × yS) :=
  some (yad (ymu x0 5) x1, σ)
noncomputable def F_X7_doneAt (N : Nat) : yF := fun as σ => match as with
  | [.inl (.inl x0), .inl (.inl x1)] => (f_X7_doneAt N σ x0 x1).map (fun r => (some (.inl (.inl r.1)), r.2))
  | _ => none
theorem e_X7_doneAt {N : Nat} {σ : yS} {x0 : Int} {x1 : Int} {r : Int × yS} (h : f_X7_doneAt N σ x0 x1 = some r) : F_X7_doneAt N [.inl (.inl x0), .inl (.inl x1)] σ = some (some (.inl (.inl r.1)), r.2) := by
  show (f_X7_doneAt N σ x0 x1).map (fun r => ((some (.inl (.inl r.1)), r.2) : yR)) = _
  rw [h]
  rfl
noncomputable def tb_X7_doneAt (N : Nat) : yTb := ([], [], [], [], [], [], [])
abbrev G_X7_doneAt (N : Nat) (X : zXT) (sh : List yH) (l : Launch) (rm : Room) : yC → yR → Prop := yGoes X vwCl yct sh l rm cX7_doneAt 2 wsX7_doneAt RX7 (tb_X7_doneAt N) pr_X7_doneAt 1
set_option maxRecDepth 100000 in
set_option maxHeartbeats 4000000 in
theorem t_X7_doneAt {N : Nat} {X : zXT} {sh : List yH} {l : Launch} {rm : Room} (σ : yS) (x0 : Int) (x1 : Int) (res : Int × yS) (h : f_X7_doneAt N σ x0 x1 = some res) : G_X7_doneAt N X sh l rm (0, [(0, .inl (.inl x0)), (1, .inl (.inl x1))], [], σ) (some (.inl (.inl res.1)), res.2) := by
  unfold f_X7_doneAt at h
  refine yG_n (n := 5) (C' := (5, [(0, .inl (.inl x0)), (1, .inl (.inl x1))], [.inl (.inl (yad (ymu x0 5) x1))], σ)) rfl ?_
  have h := Option.some.inj h
  subst h
  dsimp only
  exact yG_r rfl rfl
set_option maxRecDepth 100000 in
set_option maxHeartbeats 4000000 in
theorem m_X7_doneAt {N : Nat} {X : zXT} (hX : zXok X) (hN : zXn X) (l : Launch) {sh : List yH} : yMet X vwCl yct sh l yX7_doneAt wsX7_doneAt { frames := 1, cells := 0, slots := 0, locals := 64 } (F_X7_doneAt N) :=
  ymeth (tb := tb_X7_doneAt N) (pr := pr_X7_doneAt) (rt := 1) (own := RX7) hX (by decide +kernel) rfl rfl ⟨Nat.le_of_ble_eq_true rfl, Nat.le_of_ble_eq_true rfl⟩
    (zfl_all (fun _ h => absurd h List.not_mem_nil))
    (zco_all (fun _ h => absurd h List.not_mem_nil)) (zlc_all (fun _ h => absurd h List.not_mem_nil))
    (fun _ h => absurd h List.not_mem_nil)
    (fun _ h => absurd h List.not_mem_nil)
    (zmm_all (fun _ h => absurd h List.not_mem_nil)) (fun _ h => absurd h List.not_mem_nil) (zpr_all hp_X7_doneAt) (fun as σ res h => by
      unfold F_X7_doneAt at h
      split at h
      · rename_i x0 x1
        cases hr : f_X7_doneAt N σ x0 x1 with
        | none => rw [hr] at h; cases h
        | some r =>
          rw [hr] at h
          cases h
          exact ⟨Nat.le_of_ble_eq_true rfl, t_X7_doneAt σ x0 x1 r hr⟩
      · cases h)
noncomputable def pr_X4_comesTrue : List (Nat × Instr × Nat) := [(0, .iload_n 1, 1), (1, .iload_n 3, 1), (2, .invokestatic 142, 3), (5, .istore 4, 2), (7, .iload_n 2, 1), (8, .iconst 4, 1), (9, .if_icmp .ne 25, 3), (12, .aload_n 0, 1), (13, .getfield 34, 3), (16, .iload 4, 2), (18, .iconst 0, 1), (19, .aload_n 0, 1), (20, .getfield 34, 3), (23, .iload 4, 2), (25, .iaload, 1), (26, .iconst 1, 1), (27, .isub, 1), (28, .invokestatic 145, 3), (31, .iastore, 1), (32, .iconst 0, 1), (33, .ireturn, 1), (34, .aload_n 0, 1), (35, .getfield 22, 3), (38, .iload_n 1, 1), (39, .iaload, 1), (40, .iload_n 3, 1), (41, .invokestatic 126, 3), (44, .ifCond .eq 18, 3), (47, .aload_n 0, 1), (48, .getfield 19, 3), (51, .iload_n 1, 1), (52, .iaload, 1), (53, .aload_n 0, 1), (54, .getfield 15, 3), (57, .iload_n 3, 1), (58, .iaload, 1), (59, .if_icmp .ge 15, 3), (62, .aload_n 0, 1), (63, .dup, 1), (64, .getfield 85, 3), (67, .iconst 1, 1), (68, .iadd, 1), (69, .putfield 85, 3), (72, .iconst 0, 1), (73, .ireturn, 1), (74, .aload_n 0, 1), (75, .getfield 34, 3), (78, .iload 4, 2), (80, .bipush 99, 2), (82, .aload_n 0, 1), (83, .getfield 34, 3), (86, .iload 4, 2), (88, .iaload, 1), (89, .iconst 1, 1), (90, .iadd, 1), (91, .invokestatic 150, 3), (94, .iastore, 1), (95, .aload_n 0, 1), (96, .getfield 19, 3), (99, .iload_n 1, 1), (100, .dup2, 1), (101, .iaload, 1), (102, .aload_n 0, 1), (103, .getfield 15, 3), (106, .iload_n 3, 1), (107, .iaload, 1), (108, .isub, 1), (109, .iastore, 1), (110, .iconst 1, 1), (111, .ireturn, 1)]
set_option maxRecDepth 100000 in
theorem hp_X4_comesTrue : pr_X4_comesTrue.all (fun x => decide (decode cX4_comesTrue x.1 = .ok x.2)) = true := by decide +kernel
noncomputable def f_X4_comesTrue_b62 (N : Nat) (σ : yS) (x0 : Nat) : Option (Int × yS) :=
  some (0, yw σ x0 17 (yad (σ.1 x0 17) 1))
noncomputable def f_X4_comesTrue_b101 (N : Nat) (σ : yS) (x0 : Nat) (x3 : Int) (s0 : Int) (s1 : Nat) (s2 : Int) (s3 : Nat) : Option (Int × yS) :=
  bif yin s0 7 then
    bif yin x3 5 then
      bif yin s2 7 then
        some (1, yw σ s3 s2.toNat (ysu (σ.1 s1 s0.toNat) (σ.1 (x0 + 1) x3.toNat)))
      else none
    else none
  else none
noncomputable def f_X4_comesTrue (N : Nat) (σ : yS) (x0 : Nat) (x1 : Int) (x2 : Int) (x3 : Int) : Option (Int × yS) :=
  match f_X7_doneAt N σ x1 x3 with
  | none => none
  | some r1 => bif ycP .ne x2 4 then
      bif yin x1 7 then
        match f_X7_bit N r1.2 (r1.2.1 (x0 + 3) x1.toNat) x3 with
        | none => none
        | some r2 => bif ycP .eq r2.1 0 then
            f_X4_comesTrue_b62 N r2.2 x0
          else
            bif yin x3 5 then
              bif ycP .ge (r2.2.1 (x0 + 2) x1.toNat) (r2.2.1 (x0 + 1) x3.toNat) then
                bif yin r1.1 35 then
                  f_X4_comesTrue_b101 N (yw r2.2 (x0 + 7) r1.1.toNat (ymn 99 (yad (r2.2.1 (x0 + 7) r1.1.toNat) 1))) x0 x3 x1 (x0 + 2) x1 (x0 + 2)
                else none
              else
                f_X4_comesTrue_b62 N r2.2 x0
            else none
      else none
    else
      bif yin r1.1 35 then
        some (0, yw r1.2 (x0 + 7) r1.1.toNat (ymx 0 (ysu (r1.2.1 (x0 + 7) r1.1.toNat) 1)))
      else none
noncomputable def F_X4_comesTrue (N : Nat) : yF := fun as σ => match as with
  | [.inr (.inl 4, x0), .inl (.inl x1), .inl (.inl x2), .inl (.inl x3)] => (f_X4_comesTrue N σ x0 x1 x2 x3).map (fun r => (some (.inl (.inl r.1)), r.2))
  | _ => none
theorem e_X4_comesTrue {N : Nat} {σ : yS} {x0 : Nat} {x1 : Int} {x2 : Int} {x3 : Int} {r : Int × yS} (h : f_X4_comesTrue N σ x0 x1 x2 x3 = some r) : F_X4_comesTrue N [.inr (.inl 4, x0), .inl (.inl x1), .inl (.inl x2), .inl (.inl x3)] σ = some (some (.inl (.inl r.1)), r.2) := by
  show (f_X4_comesTrue N σ x0 x1 x2 x3).map (fun r => ((some (.inl (.inl r.1)), r.2) : yR)) = _
  rw [h]
  rfl
noncomputable def tb_X4_comesTrue (N : Nat) : yTb := ([(15, 4, 3, 3), (19, 4, 4, 3), (22, 4, 5, 3), (34, 4, 10, 3), (85, 4, 17, 0)], [], [], [], [(126, 2, F_X7_bit N), (142, 2, F_X7_doneAt N)], [(145, 0), (150, 1)], [])
abbrev G_X4_comesTrue (N : Nat) (X : zXT) (sh : List yH) (l : Launch) (rm : Room) : yC → yR → Prop := yGoes X vwCl yct sh l rm cX4_comesTrue 5 wsX4_comesTrue RX4 (tb_X4_comesTrue N) pr_X4_comesTrue 2
set_option maxRecDepth 100000 in
set_option maxHeartbeats 4000000 in
theorem t_X4_comesTrue_b62 {N : Nat} {X : zXT} {sh : List yH} {l : Launch} {rm : Room} (σ : yS) (x0 : Nat) (res : Int × yS) (h : f_X4_comesTrue_b62 N σ x0 = some res) : G_X4_comesTrue N X sh l rm (62, [(0, .inr (.inl 4, x0))], [], σ) (some (.inl (.inl res.1)), res.2) := by
  unfold f_X4_comesTrue_b62 at h
  refine yG_n (n := 7) (C' := (73, [(0, .inr (.inl 4, x0))], [.inl (.inl 0)], yw σ x0 17 (yad (σ.1 x0 17) 1))) rfl ?_
  have h := Option.some.inj h
  subst h
  dsimp only
  exact yG_r rfl rfl
set_option maxRecDepth 100000 in
set_option maxHeartbeats 4000000 in
theorem t_X4_comesTrue_b101 {N : Nat} {X : zXT} {sh : List yH} {l : Launch} {rm : Room} (σ : yS) (x0 : Nat) (x3 : Int) (s0 : Int) (s1 : Nat) (s2 : Int) (s3 : Nat) (res : Int × yS) (h : f_X4_comesTrue_b101 N σ x0 x3 s0 s1 s2 s3 = some res) : G_X4_comesTrue N X sh l rm (101, [(0, .inr (.inl 4, x0)), (3, .inl (.inl x3))], [.inl (.inl s0), .inr (.inr (0, 7), s1), .inl (.inl s2), .inr (.inr (0, 7), s3)], σ) (some (.inl (.inl res.1)), res.2) := by
  unfold f_X4_comesTrue_b101 at h
  cases hg1 : yin s0 7 with
  | false => rw [hg1] at h; dsimp only [cond] at h; cases h
  | true =>
    rw [hg1] at h
    dsimp only [cond] at h
    refine yG_t (C' := (102, [(0, .inr (.inl 4, x0)), (3, .inl (.inl x3))], [.inl (.inl (σ.1 s1 s0.toNat)), .inl (.inl s2), .inr (.inr (0, 7), s3)], σ)) rfl hg1 ?_
    refine yG_n (n := 3) (C' := (107, [(0, .inr (.inl 4, x0)), (3, .inl (.inl x3))], [.inl (.inl x3), .inr (.inr (0, 5), x0 + 1), .inl (.inl (σ.1 s1 s0.toNat)), .inl (.inl s2), .inr (.inr (0, 7), s3)], σ)) rfl ?_
    cases hg2 : yin x3 5 with
    | false => rw [hg2] at h; dsimp only [cond] at h; cases h
    | true =>
      rw [hg2] at h
      dsimp only [cond] at h
      refine yG_t (C' := (108, [(0, .inr (.inl 4, x0)), (3, .inl (.inl x3))], [.inl (.inl (σ.1 (x0 + 1) x3.toNat)), .inl (.inl (σ.1 s1 s0.toNat)), .inl (.inl s2), .inr (.inr (0, 7), s3)], σ)) rfl hg2 ?_
      refine yG_n (n := 1) (C' := (109, [(0, .inr (.inl 4, x0)), (3, .inl (.inl x3))], [.inl (.inl (ysu (σ.1 s1 s0.toNat) (σ.1 (x0 + 1) x3.toNat))), .inl (.inl s2), .inr (.inr (0, 7), s3)], σ)) rfl ?_
      cases hg3 : yin s2 7 with
      | false => rw [hg3] at h; dsimp only [cond] at h; cases h
      | true =>
        rw [hg3] at h
        dsimp only [cond] at h
        refine yG_t (C' := (110, [(0, .inr (.inl 4, x0)), (3, .inl (.inl x3))], [], yw σ s3 s2.toNat (ysu (σ.1 s1 s0.toNat) (σ.1 (x0 + 1) x3.toNat)))) rfl hg3 ?_
        refine yG_n (n := 1) (C' := (111, [(0, .inr (.inl 4, x0)), (3, .inl (.inl x3))], [.inl (.inl 1)], yw σ s3 s2.toNat (ysu (σ.1 s1 s0.toNat) (σ.1 (x0 + 1) x3.toNat)))) rfl ?_
        have h := Option.some.inj h
        subst h
        dsimp only
        exact yG_r rfl rfl
set_option maxRecDepth 100000 in
set_option maxHeartbeats 4000000 in
theorem t_X4_comesTrue {N : Nat} {X : zXT} {sh : List yH} {l : Launch} {rm : Room} (σ : yS) (x0 : Nat) (x1 : Int) (x2 : Int) (x3 : Int) (res : Int × yS) (h : f_X4_comesTrue N σ x0 x1 x2 x3 = some res) : G_X4_comesTrue N X sh l rm (0, [(0, .inr (.inl 4, x0)), (1, .inl (.inl x1)), (2, .inl (.inl x2)), (3, .inl (.inl x3))], [], σ) (some (.inl (.inl res.1)), res.2) := by
  unfold f_X4_comesTrue at h
  refine yG_n (n := 2) (C' := (2, [(0, .inr (.inl 4, x0)), (1, .inl (.inl x1)), (2, .inl (.inl x2)), (3, .inl (.inl x3))], [.inl (.inl x3), .inl (.inl x1)], σ)) rfl ?_
  cases hr4 : f_X7_doneAt N σ x1 x3 with
  | none => rw [hr4] at h; dsimp only at h; cases h
  | some r1 =>
    rw [hr4] at h
    dsimp only at h
    refine yG_c (C1 := (5, [(0, .inr (.inl 4, x0)), (1, .inl (.inl x1)), (2, .inl (.inl x2)), (3, .inl (.inl x3))], [.inl (.inl r1.1)], r1.2)) rfl (e_X7_doneAt hr4) rfl ?_
    refine yG_n (n := 3) (C' := (9, [(4, .inl (.inl r1.1)), (0, .inr (.inl 4, x0)), (1, .inl (.inl x1)), (2, .inl (.inl x2)), (3, .inl (.inl x3))], [.inl (.inl 4), .inl (.inl x2)], r1.2)) rfl ?_
    cases hg5 : ycP .ne x2 4 with
    | true =>
      rw [hg5] at h
      dsimp only [cond] at h
      refine yG_t (C' := (34, [(4, .inl (.inl r1.1)), (0, .inr (.inl 4, x0)), (1, .inl (.inl x1)), (2, .inl (.inl x2)), (3, .inl (.inl x3))], [], r1.2)) rfl hg5 ?_
      refine yG_n (n := 3) (C' := (39, [(4, .inl (.inl r1.1)), (0, .inr (.inl 4, x0)), (1, .inl (.inl x1)), (2, .inl (.inl x2)), (3, .inl (.inl x3))], [.inl (.inl x1), .inr (.inr (0, 7), x0 + 3)], r1.2)) rfl ?_
      cases hg6 : yin x1 7 with
      | false => rw [hg6] at h; dsimp only [cond] at h; cases h
      | true =>
        rw [hg6] at h
        dsimp only [cond] at h
        refine yG_t (C' := (40, [(4, .inl (.inl r1.1)), (0, .inr (.inl 4, x0)), (1, .inl (.inl x1)), (2, .inl (.inl x2)), (3, .inl (.inl x3))], [.inl (.inl (r1.2.1 (x0 + 3) x1.toNat))], r1.2)) rfl hg6 ?_
        refine yG_n (n := 1) (C' := (41, [(4, .inl (.inl r1.1)), (0, .inr (.inl 4, x0)), (1, .inl (.inl x1)), (2, .inl (.inl x2)), (3, .inl (.inl x3))], [.inl (.inl x3), .inl (.inl (r1.2.1 (x0 + 3) x1.toNat))], r1.2)) rfl ?_
        cases hr7 : f_X7_bit N r1.2 (r1.2.1 (x0 + 3) x1.toNat) x3 with
        | none => rw [hr7] at h; dsimp only at h; cases h
        | some r2 =>
          rw [hr7] at h
          dsimp only at h
          refine yG_c (C1 := (44, [(4, .inl (.inl r1.1)), (0, .inr (.inl 4, x0)), (1, .inl (.inl x1)), (2, .inl (.inl x2)), (3, .inl (.inl x3))], [.inl (.inl r2.1)], r2.2)) rfl (e_X7_bit hr7) rfl ?_
          cases hg8 : ycP .eq r2.1 0 with
          | true =>
            rw [hg8] at h
            dsimp only [cond] at h
            refine yG_t (C' := (62, [(4, .inl (.inl r1.1)), (0, .inr (.inl 4, x0)), (1, .inl (.inl x1)), (2, .inl (.inl x2)), (3, .inl (.inl x3))], [], r2.2)) rfl hg8 ?_
            exact yG_w [1] rfl (t_X4_comesTrue_b62 r2.2 x0 res h)
          | false =>
            rw [hg8] at h
            dsimp only [cond] at h
            refine yG_f (C' := (47, [(4, .inl (.inl r1.1)), (0, .inr (.inl 4, x0)), (1, .inl (.inl x1)), (2, .inl (.inl x2)), (3, .inl (.inl x3))], [], r2.2)) rfl hg8 ?_
            refine yG_n (n := 3) (C' := (52, [(4, .inl (.inl r1.1)), (0, .inr (.inl 4, x0)), (1, .inl (.inl x1)), (2, .inl (.inl x2)), (3, .inl (.inl x3))], [.inl (.inl x1), .inr (.inr (0, 7), x0 + 2)], r2.2)) rfl ?_
            refine yG_t (C' := (53, [(4, .inl (.inl r1.1)), (0, .inr (.inl 4, x0)), (1, .inl (.inl x1)), (2, .inl (.inl x2)), (3, .inl (.inl x3))], [.inl (.inl (r2.2.1 (x0 + 2) x1.toNat))], r2.2)) rfl hg6 ?_
            refine yG_n (n := 3) (C' := (58, [(4, .inl (.inl r1.1)), (0, .inr (.inl 4, x0)), (1, .inl (.inl x1)), (2, .inl (.inl x2)), (3, .inl (.inl x3))], [.inl (.inl x3), .inr (.inr (0, 5), x0 + 1), .inl (.inl (r2.2.1 (x0 + 2) x1.toNat))], r2.2)) rfl ?_
            cases hg9 : yin x3 5 with
            | false => rw [hg9] at h; dsimp only [cond] at h; cases h
            | true =>
              rw [hg9] at h
              dsimp only [cond] at h
              refine yG_t (C' := (59, [(4, .inl (.inl r1.1)), (0, .inr (.inl 4, x0)), (1, .inl (.inl x1)), (2, .inl (.inl x2)), (3, .inl (.inl x3))], [.inl (.inl (r2.2.1 (x0 + 1) x3.toNat)), .inl (.inl (r2.2.1 (x0 + 2) x1.toNat))], r2.2)) rfl hg9 ?_
              cases hg10 : ycP .ge (r2.2.1 (x0 + 2) x1.toNat) (r2.2.1 (x0 + 1) x3.toNat) with
              | true =>
                rw [hg10] at h
                dsimp only [cond] at h
                refine yG_t (C' := (74, [(4, .inl (.inl r1.1)), (0, .inr (.inl 4, x0)), (1, .inl (.inl x1)), (2, .inl (.inl x2)), (3, .inl (.inl x3))], [], r2.2)) rfl hg10 ?_
                refine yG_n (n := 7) (C' := (88, [(4, .inl (.inl r1.1)), (0, .inr (.inl 4, x0)), (1, .inl (.inl x1)), (2, .inl (.inl x2)), (3, .inl (.inl x3))], [.inl (.inl r1.1), .inr (.inr (0, 35), x0 + 7), .inl (.inl 99), .inl (.inl r1.1), .inr (.inr (0, 35), x0 + 7)], r2.2)) rfl ?_
                cases hg11 : yin r1.1 35 with
                | false => rw [hg11] at h; dsimp only [cond] at h; cases h
                | true =>
                  rw [hg11] at h
                  dsimp only [cond] at h
                  refine yG_t (C' := (89, [(4, .inl (.inl r1.1)), (0, .inr (.inl 4, x0)), (1, .inl (.inl x1)), (2, .inl (.inl x2)), (3, .inl (.inl x3))], [.inl (.inl (r2.2.1 (x0 + 7) r1.1.toNat)), .inl (.inl 99), .inl (.inl r1.1), .inr (.inr (0, 35), x0 + 7)], r2.2)) rfl hg11 ?_
                  refine yG_n (n := 3) (C' := (94, [(4, .inl (.inl r1.1)), (0, .inr (.inl 4, x0)), (1, .inl (.inl x1)), (2, .inl (.inl x2)), (3, .inl (.inl x3))], [.inl (.inl (ymn 99 (yad (r2.2.1 (x0 + 7) r1.1.toNat) 1))), .inl (.inl r1.1), .inr (.inr (0, 35), x0 + 7)], r2.2)) rfl ?_
                  refine yG_t (C' := (95, [(4, .inl (.inl r1.1)), (0, .inr (.inl 4, x0)), (1, .inl (.inl x1)), (2, .inl (.inl x2)), (3, .inl (.inl x3))], [], yw r2.2 (x0 + 7) r1.1.toNat (ymn 99 (yad (r2.2.1 (x0 + 7) r1.1.toNat) 1)))) rfl hg11 ?_
                  refine yG_n (n := 4) (C' := (101, [(4, .inl (.inl r1.1)), (0, .inr (.inl 4, x0)), (1, .inl (.inl x1)), (2, .inl (.inl x2)), (3, .inl (.inl x3))], [.inl (.inl x1), .inr (.inr (0, 7), x0 + 2), .inl (.inl x1), .inr (.inr (0, 7), x0 + 2)], yw r2.2 (x0 + 7) r1.1.toNat (ymn 99 (yad (r2.2.1 (x0 + 7) r1.1.toNat) 1)))) rfl ?_
                  exact yG_w [1, 4] rfl (t_X4_comesTrue_b101 (yw r2.2 (x0 + 7) r1.1.toNat (ymn 99 (yad (r2.2.1 (x0 + 7) r1.1.toNat) 1))) x0 x3 x1 (x0 + 2) x1 (x0 + 2) res h)
              | false =>
                rw [hg10] at h
                dsimp only [cond] at h
                refine yG_f (C' := (62, [(4, .inl (.inl r1.1)), (0, .inr (.inl 4, x0)), (1, .inl (.inl x1)), (2, .inl (.inl x2)), (3, .inl (.inl x3))], [], r2.2)) rfl hg10 ?_
                exact yG_w [1] rfl (t_X4_comesTrue_b62 r2.2 x0 res h)
    | false =>
      rw [hg5] at h
      dsimp only [cond] at h
      refine yG_f (C' := (12, [(4, .inl (.inl r1.1)), (0, .inr (.inl 4, x0)), (1, .inl (.inl x1)), (2, .inl (.inl x2)), (3, .inl (.inl x3))], [], r1.2)) rfl hg5 ?_
      refine yG_n (n := 7) (C' := (25, [(4, .inl (.inl r1.1)), (0, .inr (.inl 4, x0)), (1, .inl (.inl x1)), (2, .inl (.inl x2)), (3, .inl (.inl x3))], [.inl (.inl r1.1), .inr (.inr (0, 35), x0 + 7), .inl (.inl 0), .inl (.inl r1.1), .inr (.inr (0, 35), x0 + 7)], r1.2)) rfl ?_
      cases hg12 : yin r1.1 35 with
      | false => rw [hg12] at h; dsimp only [cond] at h; cases h
      | true =>
        rw [hg12] at h
        dsimp only [cond] at h
        refine yG_t (C' := (26, [(4, .inl (.inl r1.1)), (0, .inr (.inl 4, x0)), (1, .inl (.inl x1)), (2, .inl (.inl x2)), (3, .inl (.inl x3))], [.inl (.inl (r1.2.1 (x0 + 7) r1.1.toNat)), .inl (.inl 0), .inl (.inl r1.1), .inr (.inr (0, 35), x0 + 7)], r1.2)) rfl hg12 ?_
        refine yG_n (n := 3) (C' := (31, [(4, .inl (.inl r1.1)), (0, .inr (.inl 4, x0)), (1, .inl (.inl x1)), (2, .inl (.inl x2)), (3, .inl (.inl x3))], [.inl (.inl (ymx 0 (ysu (r1.2.1 (x0 + 7) r1.1.toNat) 1))), .inl (.inl r1.1), .inr (.inr (0, 35), x0 + 7)], r1.2)) rfl ?_
        refine yG_t (C' := (32, [(4, .inl (.inl r1.1)), (0, .inr (.inl 4, x0)), (1, .inl (.inl x1)), (2, .inl (.inl x2)), (3, .inl (.inl x3))], [], yw r1.2 (x0 + 7) r1.1.toNat (ymx 0 (ysu (r1.2.1 (x0 + 7) r1.1.toNat) 1)))) rfl hg12 ?_
        refine yG_n (n := 1) (C' := (33, [(4, .inl (.inl r1.1)), (0, .inr (.inl 4, x0)), (1, .inl (.inl x1)), (2, .inl (.inl x2)), (3, .inl (.inl x3))], [.inl (.inl 0)], yw r1.2 (x0 + 7) r1.1.toNat (ymx 0 (ysu (r1.2.1 (x0 + 7) r1.1.toNat) 1)))) rfl ?_
        have h := Option.some.inj h
        subst h
        dsimp only
        exact yG_r rfl rfl
set_option maxRecDepth 100000 in
set_option maxHeartbeats 4000000 in
theorem m_X4_comesTrue {N : Nat} {X : zXT} (hX : zXok X) (hN : zXn X) (l : Launch) {sh : List yH} : yMet X vwCl yct sh l yX4_comesTrue wsX4_comesTrue { frames := 2, cells := 0, slots := 0, locals := 85 } (F_X4_comesTrue N) :=
  ymeth (tb := tb_X4_comesTrue N) (pr := pr_X4_comesTrue) (rt := 2) (own := RX4) hX (by decide +kernel) rfl rfl ⟨Nat.le_of_ble_eq_true rfl, Nat.le_of_ble_eq_true rfl⟩
    (zfl_all (List.forall_mem_cons.mpr ⟨zfl_X4 (fun w h => List.mem_cons_of_mem _ (List.mem_append_right _ h)) (List.mem_of_getElem? (i := 8) rfl) (by decide) (by decide), List.forall_mem_cons.mpr ⟨zfl_X4 (fun w h => List.mem_cons_of_mem _ (List.mem_append_right _ h)) (List.mem_of_getElem? (i := 7) rfl) (by decide) (by decide), List.forall_mem_cons.mpr ⟨zfl_X4 (fun w h => List.mem_cons_of_mem _ (List.mem_append_right _ h)) (List.mem_of_getElem? (i := 6) rfl) (by decide) (by decide), List.forall_mem_cons.mpr ⟨zfl_X4 (fun w h => List.mem_cons_of_mem _ (List.mem_append_right _ h)) (List.mem_of_getElem? (i := 1) rfl) (by decide) (by decide), List.forall_mem_cons.mpr ⟨zfl_X4 (fun w h => List.mem_cons_of_mem _ (List.mem_append_right _ h)) (List.mem_of_getElem? (i := 9) rfl) (by decide) (by decide), fun _ h => absurd h List.not_mem_nil⟩⟩⟩⟩⟩))
    (zco_all (fun _ h => absurd h List.not_mem_nil)) (zlc_all (fun _ h => absurd h List.not_mem_nil))
    (fun _ h => absurd h List.not_mem_nil)
    (List.forall_mem_cons.mpr ⟨ycal_SN hX (m_X7_bit hX hN l) (fun A s args hts hx => ⟨va_cnB 2 hts ggX4_comesTrue_X7_bit rfl rfl rfl (hN A s s.heap hx RX4 126 yX7_bit RX7 (by decide +kernel)) (hts _ (List.mem_of_getElem? (i := 14) rfl)) (by decide +kernel) ⟨Nat.le_of_ble_eq_true rfl, Nat.le_of_ble_eq_true rfl⟩, hts _ (List.mem_of_getElem? (i := 16) rfl), trivial⟩), List.forall_mem_cons.mpr ⟨ycal_SN hX (m_X7_doneAt hX hN l) (fun A s args hts hx => ⟨va_cnB 2 hts ggX4_comesTrue_X7_doneAt rfl rfl rfl (hN A s s.heap hx RX4 142 yX7_doneAt RX7 (by decide +kernel)) (hts _ (List.mem_of_getElem? (i := 14) rfl)) (by decide +kernel) ⟨Nat.le_of_ble_eq_true rfl, Nat.le_of_ble_eq_true rfl⟩, hts _ (List.mem_of_getElem? (i := 13) rfl), trivial⟩), fun _ h => absurd h List.not_mem_nil⟩⟩)
    (zmm_all (List.forall_mem_cons.mpr ⟨⟨List.mem_of_getElem? (i := 2) rfl, List.mem_of_getElem? (i := 3) rfl, List.mem_of_getElem? (i := 4) rfl, List.mem_of_getElem? (i := 5) rfl⟩, List.forall_mem_cons.mpr ⟨⟨List.mem_of_getElem? (i := 10) rfl, List.mem_of_getElem? (i := 11) rfl, List.mem_of_getElem? (i := 4) rfl, List.mem_of_getElem? (i := 12) rfl⟩, fun _ h => absurd h List.not_mem_nil⟩⟩)) (fun _ h => absurd h List.not_mem_nil) (zpr_all hp_X4_comesTrue) (fun as σ res h => by
      unfold F_X4_comesTrue at h
      split at h
      · rename_i x0 x1 x2 x3
        cases hr : f_X4_comesTrue N σ x0 x1 x2 x3 with
        | none => rw [hr] at h; cases h
        | some r =>
          rw [hr] at h
          cases h
          exact ⟨Nat.le_of_ble_eq_true rfl, t_X4_comesTrue σ x0 x1 x2 x3 r hr⟩
      · cases h)
end
section
noncomputable def pr_X4_letFall : List (Nat × Instr × Nat) := [(0, .iload_n 2, 1), (1, .iconst (-1), 1), (2, .if_icmp .ne 15, 3), (5, .aload_n 0, 1), (6, .dup, 1), (7, .getfield 79, 3), (10, .iconst 1, 1), (11, .iadd, 1), (12, .putfield 79, 3), (15, .iconst 0, 1), (16, .ireturn, 1), (17, .aload_n 0, 1), (18, .getfield 65, 3), (21, .iload_n 2, 1), (22, .invokestatic 126, 3), (25, .iconst 1, 1), (26, .if_icmp .ne 15, 3), (29, .aload_n 0, 1), (30, .dup, 1), (31, .getfield 82, 3), (34, .iconst 1, 1), (35, .iadd, 1), (36, .putfield 82, 3), (39, .iconst 0, 1), (40, .ireturn, 1), (41, .aload_n 0, 1), (42, .getfield 40, 3), (45, .getfield 129, 3), (48, .iload_n 1, 1), (49, .iaload, 1), (50, .istore_n 3, 1), (51, .iload_n 3, 1), (52, .ifCond .le 62, 3), (55, .iload_n 3, 1), (56, .bipush 9, 2), (58, .if_icmp .ne 8, 3), (61, .bipush 9, 2), (63, .goto 6, 3), (66, .iload_n 3, 1), (67, .iconst 1, 1), (68, .isub, 1), (69, .istore 4, 2), (71, .aload_n 0, 1), (72, .getfield 44, 3), (75, .iload_n 2, 1), (76, .aload_n 0, 1), (77, .getfield 40, 3), (80, .getfield 105, 3), (83, .iload_n 1, 1), (84, .iaload, 1), (85, .iload 4, 2), (87, .aload_n 0, 1), (88, .getfield 40, 3), (91, .getfield 132, 3), (94, .iload_n 1, 1), (95, .iaload, 1), (96, .invokevirtual 135, 3), (99, .ifCond .ne 13, 3), (102, .aload_n 0, 1), (103, .dup, 1), (104, .getfield 79, 3), (107, .iconst 1, 1), (108, .iadd, 1), (109, .putfield 79, 3), (112, .iconst 0, 1), (113, .ireturn, 1), (114, .aload_n 0, 1), (115, .iload_n 2, 1), (116, .aload_n 0, 1), (117, .getfield 40, 3), (120, .getfield 105, 3), (123, .iload_n 1, 1), (124, .iaload, 1), (125, .aload_n 0, 1), (126, .getfield 40, 3), (129, .getfield 132, 3), (132, .iload_n 1, 1), (133, .iaload, 1), (134, .invokevirtual 139, 3), (137, .ireturn, 1)]
set_option maxRecDepth 100000 in
theorem hp_X4_letFall : pr_X4_letFall.all (fun x => decide (decode cX4_letFall x.1 = .ok x.2)) = true := by decide +kernel
noncomputable def f_X4_letFall_b112 (N : Nat) (σ : yS) : Option (Int × yS) :=
  some (0, σ)
noncomputable def f_X4_letFall_b69 (N : Nat) (σ : yS) (x0 : Nat) (x1 : Int) (x2 : Int) (s0 : Int) : Option (Int × yS) :=
  bif yin x1 10 then
    match f_X5_append N σ (σ.2 x0 12) x2 (σ.1 (σ.2 x0 11 + 2) x1.toNat) s0 (σ.1 (σ.2 x0 11 + 4) x1.toNat) with
    | none => none
    | some r3 => bif ycP .ne r3.1 0 then
        f_X4_letFall_b112 N r3.2
      else
        f_X4_letFall_b112 N (yw r3.2 x0 15 (yad (r3.2.1 x0 15) 1))
  else none
noncomputable def f_X4_letFall (N : Nat) (σ : yS) (x0 : Nat) (x1 : Int) (x2 : Int) : Option (Int × yS) :=
  bif ycP .ne x2 ((-1)) then
    match f_X7_bit N σ (σ.1 x0 6) x2 with
    | none => none
    | some r1 => bif ycP .ne r1.1 1 then
        bif yin x1 10 then
          bif ycP .le (r1.2.1 (r1.2.2 x0 11 + 3) x1.toNat) 0 then
            match f_X4_comesTrue N r1.2 x0 x2 (r1.2.1 (r1.2.2 x0 11 + 2) x1.toNat) (r1.2.1 (r1.2.2 x0 11 + 4) x1.toNat) with
            | none => none
            | some r2 => bif yb1 r2.1 then some (r2.1, r2.2) else none
          else
            bif ycP .ne (r1.2.1 (r1.2.2 x0 11 + 3) x1.toNat) 9 then
              f_X4_letFall_b69 N r1.2 x0 x1 x2 (ysu (r1.2.1 (r1.2.2 x0 11 + 3) x1.toNat) 1)
            else
              f_X4_letFall_b69 N r1.2 x0 x1 x2 9
        else none
      else
        some (0, yw r1.2 x0 16 (yad (r1.2.1 x0 16) 1))
  else
    some (0, yw σ x0 15 (yad (σ.1 x0 15) 1))
noncomputable def F_X4_letFall (N : Nat) : yF := fun as σ => match as with
  | [.inr (.inl 4, x0), .inl (.inl x1), .inl (.inl x2)] => (f_X4_letFall N σ x0 x1 x2).map (fun r => (some (.inl (.inl r.1)), r.2))
  | _ => none
theorem e_X4_letFall {N : Nat} {σ : yS} {x0 : Nat} {x1 : Int} {x2 : Int} {r : Int × yS} (h : f_X4_letFall N σ x0 x1 x2 = some r) : F_X4_letFall N [.inr (.inl 4, x0), .inl (.inl x1), .inl (.inl x2)] σ = some (some (.inl (.inl r.1)), r.2) := by
  show (f_X4_letFall N σ x0 x1 x2).map (fun r => ((some (.inl (.inl r.1)), r.2) : yR)) = _
  rw [h]
  rfl
noncomputable def tb_X4_letFall (N : Nat) : yTb := ([(40, 4, 11, 2), (44, 4, 12, 2), (65, 4, 6, 0), (79, 4, 15, 0), (82, 4, 16, 0), (105, 5, 2, 3), (129, 5, 3, 3), (132, 5, 4, 3)], [], [], [(135, 5, 5, F_X5_append N), (139, 4, 4, F_X4_comesTrue N)], [(126, 2, F_X7_bit N)], [], [])
abbrev G_X4_letFall (N : Nat) (X : zXT) (sh : List yH) (l : Launch) (rm : Room) : yC → yR → Prop := yGoes X vwCl yct sh l rm cX4_letFall 5 wsX4_letFall RX4 (tb_X4_letFall N) pr_X4_letFall 2
set_option maxRecDepth 100000 in
set_option maxHeartbeats 4000000 in
theorem t_X4_letFall_b112 {N : Nat} {X : zXT} {sh : List yH} {l : Launch} {rm : Room} (σ : yS) (res : Int × yS) (h : f_X4_letFall_b112 N σ = some res) : G_X4_letFall N X sh l rm (112, [], [], σ) (some (.inl (.inl res.1)), res.2) := by
  unfold f_X4_letFall_b112 at h
  refine yG_n (n := 1) (C' := (113, [], [.inl (.inl 0)], σ)) rfl ?_
  have h := Option.some.inj h
  subst h
  dsimp only
  exact yG_r rfl rfl
set_option maxRecDepth 100000 in
set_option maxHeartbeats 4000000 in
theorem t_X4_letFall_b69 {N : Nat} {X : zXT} {sh : List yH} {l : Launch} {rm : Room} (σ : yS) (x0 : Nat) (x1 : Int) (x2 : Int) (s0 : Int) (res : Int × yS) (h : f_X4_letFall_b69 N σ x0 x1 x2 s0 = some res) : G_X4_letFall N X sh l rm (69, [(0, .inr (.inl 4, x0)), (1, .inl (.inl x1)), (2, .inl (.inl x2))], [.inl (.inl s0)], σ) (some (.inl (.inl res.1)), res.2) := by
  unfold f_X4_letFall_b69 at h
  refine yG_n (n := 8) (C' := (84, [(4, .inl (.inl s0)), (0, .inr (.inl 4, x0)), (1, .inl (.inl x1)), (2, .inl (.inl x2))], [.inl (.inl x1), .inr (.inr (0, 10), σ.2 x0 11 + 2), .inl (.inl x2), .inr (.inl 5, σ.2 x0 12)], σ)) rfl ?_
  cases hg1 : yin x1 10 with
  | false => rw [hg1] at h; dsimp only [cond] at h; cases h
  | true =>
    rw [hg1] at h
    dsimp only [cond] at h
    refine yG_t (C' := (85, [(4, .inl (.inl s0)), (0, .inr (.inl 4, x0)), (1, .inl (.inl x1)), (2, .inl (.inl x2))], [.inl (.inl (σ.1 (σ.2 x0 11 + 2) x1.toNat)), .inl (.inl x2), .inr (.inl 5, σ.2 x0 12)], σ)) rfl hg1 ?_
    refine yG_n (n := 5) (C' := (95, [(4, .inl (.inl s0)), (0, .inr (.inl 4, x0)), (1, .inl (.inl x1)), (2, .inl (.inl x2))], [.inl (.inl x1), .inr (.inr (0, 10), σ.2 x0 11 + 4), .inl (.inl s0), .inl (.inl (σ.1 (σ.2 x0 11 + 2) x1.toNat)), .inl (.inl x2), .inr (.inl 5, σ.2 x0 12)], σ)) rfl ?_
    refine yG_t (C' := (96, [(4, .inl (.inl s0)), (0, .inr (.inl 4, x0)), (1, .inl (.inl x1)), (2, .inl (.inl x2))], [.inl (.inl (σ.1 (σ.2 x0 11 + 4) x1.toNat)), .inl (.inl s0), .inl (.inl (σ.1 (σ.2 x0 11 + 2) x1.toNat)), .inl (.inl x2), .inr (.inl 5, σ.2 x0 12)], σ)) rfl hg1 ?_
    cases hr2 : f_X5_append N σ (σ.2 x0 12) x2 (σ.1 (σ.2 x0 11 + 2) x1.toNat) s0 (σ.1 (σ.2 x0 11 + 4) x1.toNat) with
    | none => rw [hr2] at h; dsimp only at h; cases h
    | some r3 =>
      rw [hr2] at h
      dsimp only at h
      refine yG_c (C1 := (99, [(4, .inl (.inl s0)), (0, .inr (.inl 4, x0)), (1, .inl (.inl x1)), (2, .inl (.inl x2))], [.inl (.inl r3.1)], r3.2)) rfl (e_X5_append hr2) rfl ?_
      cases hg3 : ycP .ne r3.1 0 with
      | true =>
        rw [hg3] at h
        dsimp only [cond] at h
        refine yG_t (C' := (112, [(4, .inl (.inl s0)), (0, .inr (.inl 4, x0)), (1, .inl (.inl x1)), (2, .inl (.inl x2))], [], r3.2)) rfl hg3 ?_
        exact yG_w [] rfl (t_X4_letFall_b112 r3.2 res h)
      | false =>
        rw [hg3] at h
        dsimp only [cond] at h
        refine yG_f (C' := (102, [(4, .inl (.inl s0)), (0, .inr (.inl 4, x0)), (1, .inl (.inl x1)), (2, .inl (.inl x2))], [], r3.2)) rfl hg3 ?_
        refine yG_n (n := 6) (C' := (112, [(4, .inl (.inl s0)), (0, .inr (.inl 4, x0)), (1, .inl (.inl x1)), (2, .inl (.inl x2))], [], yw r3.2 x0 15 (yad (r3.2.1 x0 15) 1))) rfl ?_
        exact yG_w [] rfl (t_X4_letFall_b112 (yw r3.2 x0 15 (yad (r3.2.1 x0 15) 1)) res h)
set_option maxRecDepth 100000 in
set_option maxHeartbeats 4000000 in
theorem t_X4_letFall {N : Nat} {X : zXT} {sh : List yH} {l : Launch} {rm : Room} (σ : yS) (x0 : Nat) (x1 : Int) (x2 : Int) (res : Int × yS) (h : f_X4_letFall N σ x0 x1 x2 = some res) : G_X4_letFall N X sh l rm (0, [(0, .inr (.inl 4, x0)), (1, .inl (.inl x1)), (2, .inl (.inl x2))], [], σ) (some (.inl (.inl res.1)), res.2) := by
  unfold f_X4_letFall at h
  refine yG_n (n := 2) (C' := (2, [(0, .inr (.inl 4, x0)), (1, .inl (.inl x1)), (2, .inl (.inl x2))], [.inl (.inl ((-1))), .inl (.inl x2)], σ)) rfl ?_
  cases hg4 : ycP .ne x2 ((-1)) with
  | true =>
    rw [hg4] at h
    dsimp only [cond] at h
    refine yG_t (C' := (17, [(0, .inr (.inl 4, x0)), (1, .inl (.inl x1)), (2, .inl (.inl x2))], [], σ)) rfl hg4 ?_
    refine yG_n (n := 3) (C' := (22, [(0, .inr (.inl 4, x0)), (1, .inl (.inl x1)), (2, .inl (.inl x2))], [.inl (.inl x2), .inl (.inl (σ.1 x0 6))], σ)) rfl ?_
    cases hr5 : f_X7_bit N σ (σ.1 x0 6) x2 with
    | none => rw [hr5] at h; dsimp only at h; cases h
    | some r1 =>
      rw [hr5] at h
      dsimp only at h
      refine yG_c (C1 := (25, [(0, .inr (.inl 4, x0)), (1, .inl (.inl x1)), (2, .inl (.inl x2))], [.inl (.inl r1.1)], r1.2)) rfl (e_X7_bit hr5) rfl ?_
      refine yG_n (n := 1) (C' := (26, [(0, .inr (.inl 4, x0)), (1, .inl (.inl x1)), (2, .inl (.inl x2))], [.inl (.inl 1), .inl (.inl r1.1)], r1.2)) rfl ?_
      cases hg6 : ycP .ne r1.1 1 with
      | true =>
        rw [hg6] at h
        dsimp only [cond] at h
        refine yG_t (C' := (41, [(0, .inr (.inl 4, x0)), (1, .inl (.inl x1)), (2, .inl (.inl x2))], [], r1.2)) rfl hg6 ?_
        refine yG_n (n := 4) (C' := (49, [(0, .inr (.inl 4, x0)), (1, .inl (.inl x1)), (2, .inl (.inl x2))], [.inl (.inl x1), .inr (.inr (0, 10), r1.2.2 x0 11 + 3)], r1.2)) rfl ?_
        cases hg7 : yin x1 10 with
        | false => rw [hg7] at h; dsimp only [cond] at h; cases h
        | true =>
          rw [hg7] at h
          dsimp only [cond] at h
          refine yG_t (C' := (50, [(0, .inr (.inl 4, x0)), (1, .inl (.inl x1)), (2, .inl (.inl x2))], [.inl (.inl (r1.2.1 (r1.2.2 x0 11 + 3) x1.toNat))], r1.2)) rfl hg7 ?_
          refine yG_n (n := 2) (C' := (52, [(3, .inl (.inl (r1.2.1 (r1.2.2 x0 11 + 3) x1.toNat))), (0, .inr (.inl 4, x0)), (1, .inl (.inl x1)), (2, .inl (.inl x2))], [.inl (.inl (r1.2.1 (r1.2.2 x0 11 + 3) x1.toNat))], r1.2)) rfl ?_
          cases hg8 : ycP .le (r1.2.1 (r1.2.2 x0 11 + 3) x1.toNat) 0 with
          | true =>
            rw [hg8] at h
            dsimp only [cond] at h
            refine yG_t (C' := (114, [(3, .inl (.inl (r1.2.1 (r1.2.2 x0 11 + 3) x1.toNat))), (0, .inr (.inl 4, x0)), (1, .inl (.inl x1)), (2, .inl (.inl x2))], [], r1.2)) rfl hg8 ?_
            refine yG_n (n := 6) (C' := (124, [(3, .inl (.inl (r1.2.1 (r1.2.2 x0 11 + 3) x1.toNat))), (0, .inr (.inl 4, x0)), (1, .inl (.inl x1)), (2, .inl (.inl x2))], [.inl (.inl x1), .inr (.inr (0, 10), r1.2.2 x0 11 + 2), .inl (.inl x2), .inr (.inl 4, x0)], r1.2)) rfl ?_
            refine yG_t (C' := (125, [(3, .inl (.inl (r1.2.1 (r1.2.2 x0 11 + 3) x1.toNat))), (0, .inr (.inl 4, x0)), (1, .inl (.inl x1)), (2, .inl (.inl x2))], [.inl (.inl (r1.2.1 (r1.2.2 x0 11 + 2) x1.toNat)), .inl (.inl x2), .inr (.inl 4, x0)], r1.2)) rfl hg7 ?_
            refine yG_n (n := 4) (C' := (133, [(3, .inl (.inl (r1.2.1 (r1.2.2 x0 11 + 3) x1.toNat))), (0, .inr (.inl 4, x0)), (1, .inl (.inl x1)), (2, .inl (.inl x2))], [.inl (.inl x1), .inr (.inr (0, 10), r1.2.2 x0 11 + 4), .inl (.inl (r1.2.1 (r1.2.2 x0 11 + 2) x1.toNat)), .inl (.inl x2), .inr (.inl 4, x0)], r1.2)) rfl ?_
            refine yG_t (C' := (134, [(3, .inl (.inl (r1.2.1 (r1.2.2 x0 11 + 3) x1.toNat))), (0, .inr (.inl 4, x0)), (1, .inl (.inl x1)), (2, .inl (.inl x2))], [.inl (.inl (r1.2.1 (r1.2.2 x0 11 + 4) x1.toNat)), .inl (.inl (r1.2.1 (r1.2.2 x0 11 + 2) x1.toNat)), .inl (.inl x2), .inr (.inl 4, x0)], r1.2)) rfl hg7 ?_
            cases hr9 : f_X4_comesTrue N r1.2 x0 x2 (r1.2.1 (r1.2.2 x0 11 + 2) x1.toNat) (r1.2.1 (r1.2.2 x0 11 + 4) x1.toNat) with
            | none => rw [hr9] at h; dsimp only at h; cases h
            | some r2 =>
              rw [hr9] at h
              dsimp only at h
              refine yG_c (C1 := (137, [(3, .inl (.inl (r1.2.1 (r1.2.2 x0 11 + 3) x1.toNat))), (0, .inr (.inl 4, x0)), (1, .inl (.inl x1)), (2, .inl (.inl x2))], [.inl (.inl r2.1)], r2.2)) rfl (e_X4_comesTrue hr9) rfl ?_
              cases hg10 : yb1 r2.1 with
              | false => rw [hg10] at h; dsimp only [cond] at h; cases h
              | true =>
                rw [hg10] at h
                dsimp only [cond] at h
                have h := Option.some.inj h
                subst h
                dsimp only
                exact yG_r rfl hg10
          | false =>
            rw [hg8] at h
            dsimp only [cond] at h
            refine yG_f (C' := (55, [(3, .inl (.inl (r1.2.1 (r1.2.2 x0 11 + 3) x1.toNat))), (0, .inr (.inl 4, x0)), (1, .inl (.inl x1)), (2, .inl (.inl x2))], [], r1.2)) rfl hg8 ?_
            refine yG_n (n := 2) (C' := (58, [(3, .inl (.inl (r1.2.1 (r1.2.2 x0 11 + 3) x1.toNat))), (0, .inr (.inl 4, x0)), (1, .inl (.inl x1)), (2, .inl (.inl x2))], [.inl (.inl 9), .inl (.inl (r1.2.1 (r1.2.2 x0 11 + 3) x1.toNat))], r1.2)) rfl ?_
            cases hg11 : ycP .ne (r1.2.1 (r1.2.2 x0 11 + 3) x1.toNat) 9 with
            | true =>
              rw [hg11] at h
              dsimp only [cond] at h
              refine yG_t (C' := (66, [(3, .inl (.inl (r1.2.1 (r1.2.2 x0 11 + 3) x1.toNat))), (0, .inr (.inl 4, x0)), (1, .inl (.inl x1)), (2, .inl (.inl x2))], [], r1.2)) rfl hg11 ?_
              refine yG_n (n := 3) (C' := (69, [(3, .inl (.inl (r1.2.1 (r1.2.2 x0 11 + 3) x1.toNat))), (0, .inr (.inl 4, x0)), (1, .inl (.inl x1)), (2, .inl (.inl x2))], [.inl (.inl (ysu (r1.2.1 (r1.2.2 x0 11 + 3) x1.toNat) 1))], r1.2)) rfl ?_
              exact yG_w [1, 2, 3] rfl (t_X4_letFall_b69 r1.2 x0 x1 x2 (ysu (r1.2.1 (r1.2.2 x0 11 + 3) x1.toNat) 1) res h)
            | false =>
              rw [hg11] at h
              dsimp only [cond] at h
              refine yG_f (C' := (61, [(3, .inl (.inl (r1.2.1 (r1.2.2 x0 11 + 3) x1.toNat))), (0, .inr (.inl 4, x0)), (1, .inl (.inl x1)), (2, .inl (.inl x2))], [], r1.2)) rfl hg11 ?_
              refine yG_n (n := 2) (C' := (69, [(3, .inl (.inl (r1.2.1 (r1.2.2 x0 11 + 3) x1.toNat))), (0, .inr (.inl 4, x0)), (1, .inl (.inl x1)), (2, .inl (.inl x2))], [.inl (.inl 9)], r1.2)) rfl ?_
              exact yG_w [1, 2, 3] rfl (t_X4_letFall_b69 r1.2 x0 x1 x2 9 res h)
      | false =>
        rw [hg6] at h
        dsimp only [cond] at h
        refine yG_f (C' := (29, [(0, .inr (.inl 4, x0)), (1, .inl (.inl x1)), (2, .inl (.inl x2))], [], r1.2)) rfl hg6 ?_
        refine yG_n (n := 7) (C' := (40, [(0, .inr (.inl 4, x0)), (1, .inl (.inl x1)), (2, .inl (.inl x2))], [.inl (.inl 0)], yw r1.2 x0 16 (yad (r1.2.1 x0 16) 1))) rfl ?_
        have h := Option.some.inj h
        subst h
        dsimp only
        exact yG_r rfl rfl
  | false =>
    rw [hg4] at h
    dsimp only [cond] at h
    refine yG_f (C' := (5, [(0, .inr (.inl 4, x0)), (1, .inl (.inl x1)), (2, .inl (.inl x2))], [], σ)) rfl hg4 ?_
    refine yG_n (n := 7) (C' := (16, [(0, .inr (.inl 4, x0)), (1, .inl (.inl x1)), (2, .inl (.inl x2))], [.inl (.inl 0)], yw σ x0 15 (yad (σ.1 x0 15) 1))) rfl ?_
    have h := Option.some.inj h
    subst h
    dsimp only
    exact yG_r rfl rfl
set_option maxRecDepth 100000 in
set_option maxHeartbeats 4000000 in
theorem m_X4_letFall {N : Nat} {X : zXT} (hX : zXok X) (hN : zXn X) (l : Launch) {sh : List yH} : yMet X vwCl yct sh l yX4_letFall wsX4_letFall { frames := 3, cells := 0, slots := 0, locals := 109 } (F_X4_letFall N) :=
  ymeth (tb := tb_X4_letFall N) (pr := pr_X4_letFall) (rt := 2) (own := RX4) hX (by decide +kernel) rfl rfl ⟨Nat.le_of_ble_eq_true rfl, Nat.le_of_ble_eq_true rfl⟩
    (zfl_all (List.forall_mem_cons.mpr ⟨zfl_X4 (fun w h => List.mem_cons_of_mem _ (List.mem_append_left _ (List.mem_append_right _ h))) (List.mem_of_getElem? (i := 4) rfl) (by decide) (by decide), List.forall_mem_cons.mpr ⟨zfl_X4 (fun w h => List.mem_cons_of_mem _ (List.mem_append_left _ (List.mem_append_right _ h))) (List.mem_of_getElem? (i := 6) rfl) (by decide) (by decide), List.forall_mem_cons.mpr ⟨zfl_X4 (fun w h => List.mem_cons_of_mem _ (List.mem_append_left _ (List.mem_append_right _ h))) (List.mem_of_getElem? (i := 2) rfl) (by decide) (by decide), List.forall_mem_cons.mpr ⟨zfl_X4 (fun w h => List.mem_cons_of_mem _ (List.mem_append_left _ (List.mem_append_right _ h))) (List.mem_of_getElem? (i := 1) rfl) (by decide) (by decide), List.forall_mem_cons.mpr ⟨zfl_X4 (fun w h => List.mem_cons_of_mem _ (List.mem_append_left _ (List.mem_append_right _ h))) (List.mem_of_getElem? (i := 3) rfl) (by decide) (by decide), List.forall_mem_cons.mpr ⟨zfl_X5 (fun w h => List.mem_cons_of_mem _ (List.mem_append_right _ h)) (List.mem_of_getElem? (i := 7) rfl) (by decide) (by decide), List.forall_mem_cons.mpr ⟨zfl_X5 (fun w h => List.mem_cons_of_mem _ (List.mem_append_right _ h)) (List.mem_of_getElem? (i := 5) rfl) (by decide) (by decide), List.forall_mem_cons.mpr ⟨zfl_X5 (fun w h => List.mem_cons_of_mem _ (List.mem_append_right _ h)) (List.mem_of_getElem? (i := 8) rfl) (by decide) (by decide), fun _ h => absurd h List.not_mem_nil⟩⟩⟩⟩⟩⟩⟩⟩))
    (zco_all (fun _ h => absurd h List.not_mem_nil)) (zlc_all (fun _ h => absurd h List.not_mem_nil))
    (List.forall_mem_cons.mpr ⟨ycal_V hX (m_X5_append hX hN l) rfl (fun s args hts => cwV 4 hts gX4_letFall_X5_append rfl rfl rfl (by decide +kernel) ⟨Nat.le_of_ble_eq_true rfl, Nat.le_of_ble_eq_true rfl⟩), List.forall_mem_cons.mpr ⟨ycal_V hX (m_X4_comesTrue hX hN l) rfl (fun s args hts => cwV 3 hts gX4_letFall_X4_comesTrue rfl rfl rfl (by decide +kernel) ⟨Nat.le_of_ble_eq_true rfl, Nat.le_of_ble_eq_true rfl⟩), fun _ h => absurd h List.not_mem_nil⟩⟩)
    (List.forall_mem_cons.mpr ⟨ycal_SN hX (m_X7_bit hX hN l) (fun A s args hts hx => ⟨va_cnB 2 hts ggX4_letFall_X7_bit rfl rfl rfl (hN A s s.heap hx RX4 126 yX7_bit RX7 (by decide +kernel)) (hts _ (List.mem_of_getElem? (i := 10) rfl)) (by decide +kernel) ⟨Nat.le_of_ble_eq_true rfl, Nat.le_of_ble_eq_true rfl⟩, hts _ (List.mem_of_getElem? (i := 9) rfl), trivial⟩), fun _ h => absurd h List.not_mem_nil⟩)
    (zmm_all (fun _ h => absurd h List.not_mem_nil)) (fun _ h => absurd h List.not_mem_nil) (zpr_all hp_X4_letFall) (fun as σ res h => by
      unfold F_X4_letFall at h
      split at h
      · rename_i x0 x1 x2
        cases hr : f_X4_letFall N σ x0 x1 x2 with
        | none => rw [hr] at h; cases h
        | some r =>
          rw [hr] at h
          cases h
          exact ⟨Nat.le_of_ble_eq_true rfl, t_X4_letFall σ x0 x1 x2 r hr⟩
      · cases h)
noncomputable def pr_X4_passDay : List (Nat × Instr × Nat) := [(0, .iconst 0, 1), (1, .istore_n 1, 1), (2, .aload_n 0, 1), (3, .getfield 44, 3), (6, .iconst 0, 1), (7, .putfield 72, 3), (10, .iconst 0, 1), (11, .istore_n 2, 1), (12, .iload_n 2, 1), (13, .aload_n 0, 1), (14, .getfield 40, 3), (17, .getfield 72, 3), (20, .if_icmp .ge 76, 3), (23, .aload_n 0, 1), (24, .getfield 40, 3), (27, .getfield 105, 3), (30, .iload_n 2, 1), (31, .iaload, 1), (32, .istore_n 3, 1), (33, .iconst 0, 1), (34, .istore 4, 2), (36, .iload 4, 2), (38, .iload_n 3, 1), (39, .invokestatic 108, 3), (42, .if_icmp .ge 48, 3), (45, .aload_n 0, 1), (46, .aload_n 0, 1), (47, .getfield 40, 3), (50, .getfield 112, 3), (53, .iload_n 2, 1), (54, .iaload, 1), (55, .iload_n 3, 1), (56, .iload 4, 2), (58, .invokestatic 115, 3), (61, .invokevirtual 119, 3), (64, .istore 5, 2), (66, .iload_n 1, 1), (67, .aload_n 0, 1), (68, .iload_n 2, 1), (69, .iload 5, 2), (71, .invokevirtual 122, 3), (74, .ifCond .eq 7, 3), (77, .iconst 1, 1), (78, .goto 4, 3), (81, .iconst 0, 1), (82, .iadd, 1), (83, .istore_n 1, 1), (84, .iinc 4 1, 3), (87, .goto (-51), 3), (90, .iinc 2 1, 3), (93, .goto (-81), 3), (96, .aload_n 0, 1), (97, .getfield 40, 3), (100, .astore_n 2, 1), (101, .aload_n 0, 1), (102, .aload_n 0, 1), (103, .getfield 44, 3), (106, .putfield 40, 3), (109, .aload_n 0, 1), (110, .aload_n 2, 1), (111, .putfield 44, 3), (114, .aload_n 0, 1), (115, .dup, 1), (116, .getfield 76, 3), (119, .iconst 1, 1), (120, .iadd, 1), (121, .putfield 76, 3), (124, .iload_n 1, 1), (125, .ireturn, 1)]
set_option maxRecDepth 100000 in
theorem hp_X4_passDay : pr_X4_passDay.all (fun x => decide (decode cX4_passDay x.1 = .ok x.2)) = true := by decide +kernel
noncomputable def f_X4_passDay_b116 (N : Nat) (σ : yS) (x1 : Int) (s0 : Nat) (s1 : Nat) : Option (Int × yS) :=
  some (x1, yw σ s1 14 (yad (σ.1 s0 14) 1))
noncomputable def f_X4_passDay_b82 (N : Nat) (k12 : yS → Nat → Int → Int → Option (Int × yS)) (k36 : yS → Nat → Int → Int → Int → Int → Option (Int × yS)) (σ : yS) (x0 : Nat) (x2 : Int) (x3 : Int) (x4 : Int) (s0 : Int) (s1 : Int) : Option (Int × yS) :=
  k36 σ x0 (yad s1 s0) x2 x3 (yad x4 1)
noncomputable def f_X4_passDay_b36 (N : Nat) (k12 : yS → Nat → Int → Int → Option (Int × yS)) : Nat → yS → Nat → Int → Int → Int → Int → Option (Int × yS) := yfix (fun _ _ _ _ _ _ => none) (fun ih σ x0 x1 x2 x3 x4 =>
    match f_X4_fallsOf N σ x3 with
    | none => none
    | some r1 => bif ycP .ge x4 r1.1 then
        k12 r1.2 x0 x1 (yad x2 1)
      else
        bif yin x2 10 then
          match f_X4_stepOf N r1.2 x3 x4 with
          | none => none
          | some r2 => match f_X4_whereFalls N r2.2 x0 (r1.2.1 (r1.2.2 x0 11 + 1) x2.toNat) r2.1 with
            | none => none
            | some r3 => match f_X4_letFall N r3.2 x0 x2 r3.1 with
              | none => none
              | some r4 => bif ycP .eq r4.1 0 then
                  f_X4_passDay_b82 N k12 ih r4.2 x0 x2 x3 x4 0 x1
                else
                  f_X4_passDay_b82 N k12 ih r4.2 x0 x2 x3 x4 1 x1
        else none)
theorem q_X4_passDay_b36 (N : Nat) (k12 : yS → Nat → Int → Int → Option (Int × yS)) (n : Nat) (σ : yS) (x0 : Nat) (x1 : Int) (x2 : Int) (x3 : Int) (x4 : Int) : f_X4_passDay_b36 N k12 (n + 1) σ x0 x1 x2 x3 x4 =
    (match f_X4_fallsOf N σ x3 with
    | none => none
    | some r1 => bif ycP .ge x4 r1.1 then
        k12 r1.2 x0 x1 (yad x2 1)
      else
        bif yin x2 10 then
          match f_X4_stepOf N r1.2 x3 x4 with
          | none => none
          | some r2 => match f_X4_whereFalls N r2.2 x0 (r1.2.1 (r1.2.2 x0 11 + 1) x2.toNat) r2.1 with
            | none => none
            | some r3 => match f_X4_letFall N r3.2 x0 x2 r3.1 with
              | none => none
              | some r4 => bif ycP .eq r4.1 0 then
                  f_X4_passDay_b82 N k12 (f_X4_passDay_b36 N k12 n) r4.2 x0 x2 x3 x4 0 x1
                else
                  f_X4_passDay_b82 N k12 (f_X4_passDay_b36 N k12 n) r4.2 x0 x2 x3 x4 1 x1
        else none) := rfl
noncomputable def f_X4_passDay_b12 (N : Nat) : Nat → yS → Nat → Int → Int → Option (Int × yS) := yfix (fun _ _ _ _ => none) (fun ih σ x0 x1 x2 =>
    bif ycP .ge x2 (σ.1 (σ.2 x0 11) 0) then
      f_X4_passDay_b116 N (yq (yq σ x0 11 (σ.2 x0 12)) x0 12 (σ.2 x0 11)) x1 x0 x0
    else
      bif yin x2 10 then
        f_X4_passDay_b36 N ih N σ x0 x1 x2 (σ.1 (σ.2 x0 11 + 2) x2.toNat) 0
      else none)
theorem q_X4_passDay_b12 (N : Nat) (n : Nat) (σ : yS) (x0 : Nat) (x1 : Int) (x2 : Int) : f_X4_passDay_b12 N (n + 1) σ x0 x1 x2 =
    (bif ycP .ge x2 (σ.1 (σ.2 x0 11) 0) then
      f_X4_passDay_b116 N (yq (yq σ x0 11 (σ.2 x0 12)) x0 12 (σ.2 x0 11)) x1 x0 x0
    else
      bif yin x2 10 then
        f_X4_passDay_b36 N (f_X4_passDay_b12 N n) N σ x0 x1 x2 (σ.1 (σ.2 x0 11 + 2) x2.toNat) 0
      else none) := rfl
noncomputable def f_X4_passDay (N : Nat) (σ : yS) (x0 : Nat) : Option (Int × yS) :=
  f_X4_passDay_b12 N N (yw σ (σ.2 x0 12) 0 0) x0 0 0
noncomputable def F_X4_passDay (N : Nat) : yF := fun as σ => match as with
  | [.inr (.inl 4, x0)] => (f_X4_passDay N σ x0).map (fun r => (some (.inl (.inl r.1)), r.2))
  | _ => none
theorem e_X4_passDay {N : Nat} {σ : yS} {x0 : Nat} {r : Int × yS} (h : f_X4_passDay N σ x0 = some r) : F_X4_passDay N [.inr (.inl 4, x0)] σ = some (some (.inl (.inl r.1)), r.2) := by
  show (f_X4_passDay N σ x0).map (fun r => ((some (.inl (.inl r.1)), r.2) : yR)) = _
  rw [h]
  rfl
noncomputable def tb_X4_passDay (N : Nat) : yTb := ([(40, 4, 11, 2), (44, 4, 12, 2), (72, 5, 0, 0), (76, 4, 14, 0), (105, 5, 2, 3), (112, 5, 1, 3)], [], [], [(119, 3, 4, F_X4_whereFalls N), (122, 3, 4, F_X4_letFall N)], [(108, 1, F_X4_fallsOf N), (115, 2, F_X4_stepOf N)], [], [])
abbrev G_X4_passDay (N : Nat) (X : zXT) (sh : List yH) (l : Launch) (rm : Room) : yC → yR → Prop := yGoes X vwCl yct sh l rm cX4_passDay 6 wsX4_passDay RX4 (tb_X4_passDay N) pr_X4_passDay 1
set_option maxRecDepth 100000 in
set_option maxHeartbeats 4000000 in
theorem t_X4_passDay_b116 {N : Nat} {X : zXT} {sh : List yH} {l : Launch} {rm : Room} (σ : yS) (x1 : Int) (s0 : Nat) (s1 : Nat) (res : Int × yS) (h : f_X4_passDay_b116 N σ x1 s0 s1 = some res) : G_X4_passDay N X sh l rm (116, [(1, .inl (.inl x1))], [.inr (.inl 4, s0), .inr (.inl 4, s1)], σ) (some (.inl (.inl res.1)), res.2) := by
  unfold f_X4_passDay_b116 at h
  refine yG_n (n := 5) (C' := (125, [(1, .inl (.inl x1))], [.inl (.inl x1)], yw σ s1 14 (yad (σ.1 s0 14) 1))) rfl ?_
  have h := Option.some.inj h
  subst h
  dsimp only
  exact yG_r rfl rfl
set_option maxRecDepth 100000 in
set_option maxHeartbeats 4000000 in
theorem t_X4_passDay_b82 {N : Nat} {X : zXT} {sh : List yH} {l : Launch} {rm : Room} (k12 : yS → Nat → Int → Int → Option (Int × yS)) (hk12 : ∀ (σ : yS) (x0 : Nat) (x1 : Int) (x2 : Int) (res : Int × yS), k12 σ x0 x1 x2 = some res → G_X4_passDay N X sh l rm (12, [(0, .inr (.inl 4, x0)), (1, .inl (.inl x1)), (2, .inl (.inl x2))], [], σ) (some (.inl (.inl res.1)), res.2)) (k36 : yS → Nat → Int → Int → Int → Int → Option (Int × yS)) (hk36 : ∀ (σ : yS) (x0 : Nat) (x1 : Int) (x2 : Int) (x3 : Int) (x4 : Int) (res : Int × yS), k36 σ x0 x1 x2 x3 x4 = some res → G_X4_passDay N X sh l rm (36, [(0, .inr (.inl 4, x0)), (1, .inl (.inl x1)), (2, .inl (.inl x2)), (3, .inl (.inl x3)), (4, .inl (.inl x4))], [], σ) (some (.inl (.inl res.1)), res.2)) (σ : yS) (x0 : Nat) (x2 : Int) (x3 : Int) (x4 : Int) (s0 : Int) (s1 : Int) (res : Int × yS) (h : f_X4_passDay_b82 N k12 k36 σ x0 x2 x3 x4 s0 s1 = some res) : G_X4_passDay N X sh l rm (82, [(0, .inr (.inl 4, x0)), (2, .inl (.inl x2)), (3, .inl (.inl x3)), (4, .inl (.inl x4))], [.inl (.inl s0), .inl (.inl s1)], σ) (some (.inl (.inl res.1)), res.2) := by
  unfold f_X4_passDay_b82 at h
  refine yG_n (n := 4) (C' := (36, [(4, .inl (.inl (yad x4 1))), (1, .inl (.inl (yad s1 s0))), (0, .inr (.inl 4, x0)), (2, .inl (.inl x2)), (3, .inl (.inl x3))], [], σ)) rfl ?_
  exact yG_w [2, 1, 3, 4, 0] rfl (hk36 σ x0 (yad s1 s0) x2 x3 (yad x4 1) res h)
set_option maxRecDepth 100000 in
set_option maxHeartbeats 4000000 in
theorem t_X4_passDay_b36 {N : Nat} {X : zXT} {sh : List yH} {l : Launch} {rm : Room} (k12 : yS → Nat → Int → Int → Option (Int × yS)) (hk12 : ∀ (σ : yS) (x0 : Nat) (x1 : Int) (x2 : Int) (res : Int × yS), k12 σ x0 x1 x2 = some res → G_X4_passDay N X sh l rm (12, [(0, .inr (.inl 4, x0)), (1, .inl (.inl x1)), (2, .inl (.inl x2))], [], σ) (some (.inl (.inl res.1)), res.2)) : ∀ (n : Nat) (σ : yS) (x0 : Nat) (x1 : Int) (x2 : Int) (x3 : Int) (x4 : Int) (res : Int × yS), f_X4_passDay_b36 N k12 n σ x0 x1 x2 x3 x4 = some res → G_X4_passDay N X sh l rm (36, [(0, .inr (.inl 4, x0)), (1, .inl (.inl x1)), (2, .inl (.inl x2)), (3, .inl (.inl x3)), (4, .inl (.inl x4))], [], σ) (some (.inl (.inl res.1)), res.2) := by
  intro n
  induction n with
  | zero => intro σ x0 x1 x2 x3 x4 res h; exact (yno h).elim
  | succ n ih =>
    intro σ x0 x1 x2 x3 x4 res h
    rw [q_X4_passDay_b36] at h
    refine yG_n (n := 2) (C' := (39, [(0, .inr (.inl 4, x0)), (1, .inl (.inl x1)), (2, .inl (.inl x2)), (3, .inl (.inl x3)), (4, .inl (.inl x4))], [.inl (.inl x3), .inl (.inl x4)], σ)) rfl ?_
    cases hr1 : f_X4_fallsOf N σ x3 with
    | none => rw [hr1] at h; dsimp only at h; cases h
    | some r1 =>
      rw [hr1] at h
      dsimp only at h
      refine yG_c (C1 := (42, [(0, .inr (.inl 4, x0)), (1, .inl (.inl x1)), (2, .inl (.inl x2)), (3, .inl (.inl x3)), (4, .inl (.inl x4))], [.inl (.inl r1.1), .inl (.inl x4)], r1.2)) rfl (e_X4_fallsOf hr1) rfl ?_
      cases hg2 : ycP .ge x4 r1.1 with
      | true =>
        rw [hg2] at h
        dsimp only [cond] at h
        refine yG_t (C' := (90, [(0, .inr (.inl 4, x0)), (1, .inl (.inl x1)), (2, .inl (.inl x2)), (3, .inl (.inl x3)), (4, .inl (.inl x4))], [], r1.2)) rfl hg2 ?_
        refine yG_n (n := 2) (C' := (12, [(2, .inl (.inl (yad x2 1))), (0, .inr (.inl 4, x0)), (1, .inl (.inl x1)), (3, .inl (.inl x3)), (4, .inl (.inl x4))], [], r1.2)) rfl ?_
        exact yG_w [1, 2, 0] rfl (hk12 r1.2 x0 x1 (yad x2 1) res h)
      | false =>
        rw [hg2] at h
        dsimp only [cond] at h
        refine yG_f (C' := (45, [(0, .inr (.inl 4, x0)), (1, .inl (.inl x1)), (2, .inl (.inl x2)), (3, .inl (.inl x3)), (4, .inl (.inl x4))], [], r1.2)) rfl hg2 ?_
        refine yG_n (n := 5) (C' := (54, [(0, .inr (.inl 4, x0)), (1, .inl (.inl x1)), (2, .inl (.inl x2)), (3, .inl (.inl x3)), (4, .inl (.inl x4))], [.inl (.inl x2), .inr (.inr (0, 10), r1.2.2 x0 11 + 1), .inr (.inl 4, x0)], r1.2)) rfl ?_
        cases hg3 : yin x2 10 with
        | false => rw [hg3] at h; dsimp only [cond] at h; cases h
        | true =>
          rw [hg3] at h
          dsimp only [cond] at h
          refine yG_t (C' := (55, [(0, .inr (.inl 4, x0)), (1, .inl (.inl x1)), (2, .inl (.inl x2)), (3, .inl (.inl x3)), (4, .inl (.inl x4))], [.inl (.inl (r1.2.1 (r1.2.2 x0 11 + 1) x2.toNat)), .inr (.inl 4, x0)], r1.2)) rfl hg3 ?_
          refine yG_n (n := 2) (C' := (58, [(0, .inr (.inl 4, x0)), (1, .inl (.inl x1)), (2, .inl (.inl x2)), (3, .inl (.inl x3)), (4, .inl (.inl x4))], [.inl (.inl x4), .inl (.inl x3), .inl (.inl (r1.2.1 (r1.2.2 x0 11 + 1) x2.toNat)), .inr (.inl 4, x0)], r1.2)) rfl ?_
          cases hr4 : f_X4_stepOf N r1.2 x3 x4 with
          | none => rw [hr4] at h; dsimp only at h; cases h
          | some r2 =>
            rw [hr4] at h
            dsimp only at h
            refine yG_c (C1 := (61, [(0, .inr (.inl 4, x0)), (1, .inl (.inl x1)), (2, .inl (.inl x2)), (3, .inl (.inl x3)), (4, .inl (.inl x4))], [.inl (.inl r2.1), .inl (.inl (r1.2.1 (r1.2.2 x0 11 + 1) x2.toNat)), .inr (.inl 4, x0)], r2.2)) rfl (e_X4_stepOf hr4) rfl ?_
            cases hr5 : f_X4_whereFalls N r2.2 x0 (r1.2.1 (r1.2.2 x0 11 + 1) x2.toNat) r2.1 with
            | none => rw [hr5] at h; dsimp only at h; cases h
            | some r3 =>
              rw [hr5] at h
              dsimp only at h
              refine yG_c (C1 := (64, [(0, .inr (.inl 4, x0)), (1, .inl (.inl x1)), (2, .inl (.inl x2)), (3, .inl (.inl x3)), (4, .inl (.inl x4))], [.inl (.inl r3.1)], r3.2)) rfl (e_X4_whereFalls hr5) rfl ?_
              refine yG_n (n := 5) (C' := (71, [(5, .inl (.inl r3.1)), (0, .inr (.inl 4, x0)), (1, .inl (.inl x1)), (2, .inl (.inl x2)), (3, .inl (.inl x3)), (4, .inl (.inl x4))], [.inl (.inl r3.1), .inl (.inl x2), .inr (.inl 4, x0), .inl (.inl x1)], r3.2)) rfl ?_
              cases hr6 : f_X4_letFall N r3.2 x0 x2 r3.1 with
              | none => rw [hr6] at h; dsimp only at h; cases h
              | some r4 =>
                rw [hr6] at h
                dsimp only at h
                refine yG_c (C1 := (74, [(5, .inl (.inl r3.1)), (0, .inr (.inl 4, x0)), (1, .inl (.inl x1)), (2, .inl (.inl x2)), (3, .inl (.inl x3)), (4, .inl (.inl x4))], [.inl (.inl r4.1), .inl (.inl x1)], r4.2)) rfl (e_X4_letFall hr6) rfl ?_
                cases hg7 : ycP .eq r4.1 0 with
                | true =>
                  rw [hg7] at h
                  dsimp only [cond] at h
                  refine yG_t (C' := (81, [(5, .inl (.inl r3.1)), (0, .inr (.inl 4, x0)), (1, .inl (.inl x1)), (2, .inl (.inl x2)), (3, .inl (.inl x3)), (4, .inl (.inl x4))], [.inl (.inl x1)], r4.2)) rfl hg7 ?_
                  refine yG_n (n := 1) (C' := (82, [(5, .inl (.inl r3.1)), (0, .inr (.inl 4, x0)), (1, .inl (.inl x1)), (2, .inl (.inl x2)), (3, .inl (.inl x3)), (4, .inl (.inl x4))], [.inl (.inl 0), .inl (.inl x1)], r4.2)) rfl ?_
                  exact yG_w [1, 3, 4, 5] rfl (t_X4_passDay_b82 k12 hk12 (f_X4_passDay_b36 N k12 n) ih r4.2 x0 x2 x3 x4 0 x1 res h)
                | false =>
                  rw [hg7] at h
                  dsimp only [cond] at h
                  refine yG_f (C' := (77, [(5, .inl (.inl r3.1)), (0, .inr (.inl 4, x0)), (1, .inl (.inl x1)), (2, .inl (.inl x2)), (3, .inl (.inl x3)), (4, .inl (.inl x4))], [.inl (.inl x1)], r4.2)) rfl hg7 ?_
                  refine yG_n (n := 2) (C' := (82, [(5, .inl (.inl r3.1)), (0, .inr (.inl 4, x0)), (1, .inl (.inl x1)), (2, .inl (.inl x2)), (3, .inl (.inl x3)), (4, .inl (.inl x4))], [.inl (.inl 1), .inl (.inl x1)], r4.2)) rfl ?_
                  exact yG_w [1, 3, 4, 5] rfl (t_X4_passDay_b82 k12 hk12 (f_X4_passDay_b36 N k12 n) ih r4.2 x0 x2 x3 x4 1 x1 res h)
set_option maxRecDepth 100000 in
set_option maxHeartbeats 4000000 in
theorem t_X4_passDay_b12 {N : Nat} {X : zXT} {sh : List yH} {l : Launch} {rm : Room} : ∀ (n : Nat) (σ : yS) (x0 : Nat) (x1 : Int) (x2 : Int) (res : Int × yS), f_X4_passDay_b12 N n σ x0 x1 x2 = some res → G_X4_passDay N X sh l rm (12, [(0, .inr (.inl 4, x0)), (1, .inl (.inl x1)), (2, .inl (.inl x2))], [], σ) (some (.inl (.inl res.1)), res.2) := by
  intro n
  induction n with
  | zero => intro σ x0 x1 x2 res h; exact (yno h).elim
  | succ n ih =>
    intro σ x0 x1 x2 res h
    rw [q_X4_passDay_b12] at h
    refine yG_n (n := 4) (C' := (20, [(0, .inr (.inl 4, x0)), (1, .inl (.inl x1)), (2, .inl (.inl x2))], [.inl (.inl (σ.1 (σ.2 x0 11) 0)), .inl (.inl x2)], σ)) rfl ?_
    cases hg8 : ycP .ge x2 (σ.1 (σ.2 x0 11) 0) with
    | true =>
      rw [hg8] at h
      dsimp only [cond] at h
      refine yG_t (C' := (96, [(0, .inr (.inl 4, x0)), (1, .inl (.inl x1)), (2, .inl (.inl x2))], [], σ)) rfl hg8 ?_
      refine yG_n (n := 12) (C' := (116, [(2, .inr (.inl 5, σ.2 x0 11)), (0, .inr (.inl 4, x0)), (1, .inl (.inl x1))], [.inr (.inl 4, x0), .inr (.inl 4, x0)], yq (yq σ x0 11 (σ.2 x0 12)) x0 12 (σ.2 x0 11))) rfl ?_
      exact yG_w [2] rfl (t_X4_passDay_b116 (yq (yq σ x0 11 (σ.2 x0 12)) x0 12 (σ.2 x0 11)) x1 x0 x0 res h)
    | false =>
      rw [hg8] at h
      dsimp only [cond] at h
      refine yG_f (C' := (23, [(0, .inr (.inl 4, x0)), (1, .inl (.inl x1)), (2, .inl (.inl x2))], [], σ)) rfl hg8 ?_
      refine yG_n (n := 4) (C' := (31, [(0, .inr (.inl 4, x0)), (1, .inl (.inl x1)), (2, .inl (.inl x2))], [.inl (.inl x2), .inr (.inr (0, 10), σ.2 x0 11 + 2)], σ)) rfl ?_
      cases hg9 : yin x2 10 with
      | false => rw [hg9] at h; dsimp only [cond] at h; cases h
      | true =>
        rw [hg9] at h
        dsimp only [cond] at h
        refine yG_t (C' := (32, [(0, .inr (.inl 4, x0)), (1, .inl (.inl x1)), (2, .inl (.inl x2))], [.inl (.inl (σ.1 (σ.2 x0 11 + 2) x2.toNat))], σ)) rfl hg9 ?_
        refine yG_n (n := 3) (C' := (36, [(4, .inl (.inl 0)), (3, .inl (.inl (σ.1 (σ.2 x0 11 + 2) x2.toNat))), (0, .inr (.inl 4, x0)), (1, .inl (.inl x1)), (2, .inl (.inl x2))], [], σ)) rfl ?_
        exact yG_w [2, 3, 4, 1, 0] rfl (t_X4_passDay_b36 (f_X4_passDay_b12 N n) ih N σ x0 x1 x2 (σ.1 (σ.2 x0 11 + 2) x2.toNat) 0 res h)
set_option maxRecDepth 100000 in
set_option maxHeartbeats 4000000 in
theorem t_X4_passDay {N : Nat} {X : zXT} {sh : List yH} {l : Launch} {rm : Room} (σ : yS) (x0 : Nat) (res : Int × yS) (h : f_X4_passDay N σ x0 = some res) : G_X4_passDay N X sh l rm (0, [(0, .inr (.inl 4, x0))], [], σ) (some (.inl (.inl res.1)), res.2) := by
  unfold f_X4_passDay at h
  refine yG_n (n := 8) (C' := (12, [(2, .inl (.inl 0)), (1, .inl (.inl 0)), (0, .inr (.inl 4, x0))], [], yw σ (σ.2 x0 12) 0 0)) rfl ?_
  exact yG_w [2, 1, 0] rfl (t_X4_passDay_b12 N (yw σ (σ.2 x0 12) 0 0) x0 0 0 res h)
set_option maxRecDepth 100000 in
set_option maxHeartbeats 4000000 in
theorem m_X4_passDay {N : Nat} {X : zXT} (hX : zXok X) (hN : zXn X) (l : Launch) {sh : List yH} : yMet X vwCl yct sh l yX4_passDay wsX4_passDay { frames := 4, cells := 0, slots := 0, locals := 133 } (F_X4_passDay N) :=
  ymeth (tb := tb_X4_passDay N) (pr := pr_X4_passDay) (rt := 1) (own := RX4) hX (by decide +kernel) rfl rfl ⟨Nat.le_of_ble_eq_true rfl, Nat.le_of_ble_eq_true rfl⟩
    (zfl_all (List.forall_mem_cons.mpr ⟨zfl_X4 (fun w h => List.mem_cons_of_mem _ (List.mem_append_left _ (List.mem_append_right _ h))) (List.mem_of_getElem? (i := 3) rfl) (by decide) (by decide), List.forall_mem_cons.mpr ⟨zfl_X4 (fun w h => List.mem_cons_of_mem _ (List.mem_append_left _ (List.mem_append_right _ h))) (List.mem_of_getElem? (i := 1) rfl) (by decide) (by decide), List.forall_mem_cons.mpr ⟨zfl_X5 (fun w h => List.mem_cons_of_mem _ (List.mem_append_right _ h)) (List.mem_of_getElem? (i := 2) rfl) (by decide) (by decide), List.forall_mem_cons.mpr ⟨zfl_X4 (fun w h => List.mem_cons_of_mem _ (List.mem_append_left _ (List.mem_append_right _ h))) (List.mem_of_getElem? (i := 6) rfl) (by decide) (by decide), List.forall_mem_cons.mpr ⟨zfl_X5 (fun w h => List.mem_cons_of_mem _ (List.mem_append_right _ h)) (List.mem_of_getElem? (i := 4) rfl) (by decide) (by decide), List.forall_mem_cons.mpr ⟨zfl_X5 (fun w h => List.mem_cons_of_mem _ (List.mem_append_right _ h)) (List.mem_of_getElem? (i := 5) rfl) (by decide) (by decide), fun _ h => absurd h List.not_mem_nil⟩⟩⟩⟩⟩⟩))
    (zco_all (fun _ h => absurd h List.not_mem_nil)) (zlc_all (fun _ h => absurd h List.not_mem_nil))
    (List.forall_mem_cons.mpr ⟨ycal_V hX (m_X4_whereFalls hX hN l) rfl (fun s args hts => cwV 2 hts gX4_passDay_X4_whereFalls rfl rfl rfl (by decide +kernel) ⟨Nat.le_of_ble_eq_true rfl, Nat.le_of_ble_eq_true rfl⟩), List.forall_mem_cons.mpr ⟨ycal_V hX (m_X4_letFall hX hN l) rfl (fun s args hts => cwV 2 hts gX4_passDay_X4_letFall rfl rfl rfl (by decide +kernel) ⟨Nat.le_of_ble_eq_true rfl, Nat.le_of_ble_eq_true rfl⟩), fun _ h => absurd h List.not_mem_nil⟩⟩)
    (List.forall_mem_cons.mpr ⟨ycal_S hX (m_X4_fallsOf hX hN l) (fun s args hts => va_cwS 1 hts gX4_passDay_X4_fallsOf rfl rfl rfl (by decide +kernel) ⟨Nat.le_of_ble_eq_true rfl, Nat.le_of_ble_eq_true rfl⟩), List.forall_mem_cons.mpr ⟨ycal_S hX (m_X4_stepOf hX hN l) (fun s args hts => va_cwS 2 hts gX4_passDay_X4_stepOf rfl rfl rfl (by decide +kernel) ⟨Nat.le_of_ble_eq_true rfl, Nat.le_of_ble_eq_true rfl⟩), fun _ h => absurd h List.not_mem_nil⟩⟩)
    (zmm_all (fun _ h => absurd h List.not_mem_nil)) (fun _ h => absurd h List.not_mem_nil) (zpr_all hp_X4_passDay) (fun as σ res h => by
      unfold F_X4_passDay at h
      split at h
      · rename_i x0
        cases hr : f_X4_passDay N σ x0 with
        | none => rw [hr] at h; cases h
        | some r =>
          rw [hr] at h
          cases h
          exact ⟨Nat.le_of_ble_eq_true rfl, t_X4_passDay σ x0 r hr⟩
      · cases h)
noncomputable def pr_X4_passDays : List (Nat × Instr × Nat) := [(0, .iconst 0, 1), (1, .istore_n 2, 1), (2, .iconst 0, 1), (3, .istore_n 3, 1), (4, .iload_n 3, 1), (5, .iload_n 1, 1), (6, .if_icmp .ge 16, 3), (9, .iload_n 2, 1), (10, .aload_n 0, 1), (11, .invokevirtual 101, 3), (14, .iadd, 1), (15, .istore_n 2, 1), (16, .iinc 3 1, 3), (19, .goto (-15), 3), (22, .iload_n 2, 1), (23, .ireturn, 1)]
set_option maxRecDepth 100000 in
theorem hp_X4_passDays : pr_X4_passDays.all (fun x => decide (decode cX4_passDays x.1 = .ok x.2)) = true := by decide +kernel
noncomputable def f_X4_passDays_b4 (N : Nat) : Nat → yS → Nat → Int → Int → Int → Option (Int × yS) := yfix (fun _ _ _ _ _ => none) (fun ih σ x0 x1 x2 x3 =>
    bif ycP .ge x3 x1 then
      some (x2, σ)
    else
      match f_X4_passDay N σ x0 with
      | none => none
      | some r1 => ih r1.2 x0 x1 (yad x2 r1.1) (yad x3 1))
theorem q_X4_passDays_b4 (N : Nat) (n : Nat) (σ : yS) (x0 : Nat) (x1 : Int) (x2 : Int) (x3 : Int) : f_X4_passDays_b4 N (n + 1) σ x0 x1 x2 x3 =
    (bif ycP .ge x3 x1 then
      some (x2, σ)
    else
      match f_X4_passDay N σ x0 with
      | none => none
      | some r1 => (f_X4_passDays_b4 N n) r1.2 x0 x1 (yad x2 r1.1) (yad x3 1)) := rfl
noncomputable def f_X4_passDays (N : Nat) (σ : yS) (x0 : Nat) (x1 : Int) : Option (Int × yS) :=
  f_X4_passDays_b4 N N σ x0 x1 0 0
noncomputable def F_X4_passDays (N : Nat) : yF := fun as σ => match as with
  | [.inr (.inl 4, x0), .inl (.inl x1)] => (f_X4_passDays N σ x0 x1).map (fun r => (some (.inl (.inl r.1)), r.2))
  | _ => none
theorem e_X4_passDays {N : Nat} {σ : yS} {x0 : Nat} {x1 : Int} {r : Int × yS} (h : f_X4_passDays N σ x0 x1 = some r) : F_X4_passDays N [.inr (.inl 4, x0), .inl (.inl x1)] σ = some (some (.inl (.inl r.1)), r.2) := by
  show (f_X4_passDays N σ x0 x1).map (fun r => ((some (.inl (.inl r.1)), r.2) : yR)) = _
  rw [h]
  rfl
noncomputable def tb_X4_passDays (N : Nat) : yTb := ([], [], [], [(101, 1, 4, F_X4_passDay N)], [], [], [])
abbrev G_X4_passDays (N : Nat) (X : zXT) (sh : List yH) (l : Launch) (rm : Room) : yC → yR → Prop := yGoes X vwCl yct sh l rm cX4_passDays 4 wsX4_passDays RX4 (tb_X4_passDays N) pr_X4_passDays 1
set_option maxRecDepth 100000 in
set_option maxHeartbeats 4000000 in
theorem t_X4_passDays_b4 {N : Nat} {X : zXT} {sh : List yH} {l : Launch} {rm : Room} : ∀ (n : Nat) (σ : yS) (x0 : Nat) (x1 : Int) (x2 : Int) (x3 : Int) (res : Int × yS), f_X4_passDays_b4 N n σ x0 x1 x2 x3 = some res → G_X4_passDays N X sh l rm (4, [(0, .inr (.inl 4, x0)), (1, .inl (.inl x1)), (2, .inl (.inl x2)), (3, .inl (.inl x3))], [], σ) (some (.inl (.inl res.1)), res.2) := by
  intro n
  induction n with
  | zero => intro σ x0 x1 x2 x3 res h; exact (yno h).elim
  | succ n ih =>
    intro σ x0 x1 x2 x3 res h
    rw [q_X4_passDays_b4] at h
    refine yG_n (n := 2) (C' := (6, [(0, .inr (.inl 4, x0)), (1, .inl (.inl x1)), (2, .inl (.inl x2)), (3, .inl (.inl x3))], [.inl (.inl x1), .inl (.inl x3)], σ)) rfl ?_
    cases hg1 : ycP .ge x3 x1 with
    | true =>
      rw [hg1] at h
      dsimp only [cond] at h
      refine yG_t (C' := (22, [(0, .inr (.inl 4, x0)), (1, .inl (.inl x1)), (2, .inl (.inl x2)), (3, .inl (.inl x3))], [], σ)) rfl hg1 ?_
      refine yG_n (n := 1) (C' := (23, [(0, .inr (.inl 4, x0)), (1, .inl (.inl x1)), (2, .inl (.inl x2)), (3, .inl (.inl x3))], [.inl (.inl x2)], σ)) rfl ?_
      have h := Option.some.inj h
      subst h
      dsimp only
      exact yG_r rfl rfl
    | false =>
      rw [hg1] at h
      dsimp only [cond] at h
      refine yG_f (C' := (9, [(0, .inr (.inl 4, x0)), (1, .inl (.inl x1)), (2, .inl (.inl x2)), (3, .inl (.inl x3))], [], σ)) rfl hg1 ?_
      refine yG_n (n := 2) (C' := (11, [(0, .inr (.inl 4, x0)), (1, .inl (.inl x1)), (2, .inl (.inl x2)), (3, .inl (.inl x3))], [.inr (.inl 4, x0), .inl (.inl x2)], σ)) rfl ?_
      cases hr2 : f_X4_passDay N σ x0 with
      | none => rw [hr2] at h; dsimp only at h; cases h
      | some r1 =>
        rw [hr2] at h
        dsimp only at h
        refine yG_c (C1 := (14, [(0, .inr (.inl 4, x0)), (1, .inl (.inl x1)), (2, .inl (.inl x2)), (3, .inl (.inl x3))], [.inl (.inl r1.1), .inl (.inl x2)], r1.2)) rfl (e_X4_passDay hr2) rfl ?_
        refine yG_n (n := 4) (C' := (4, [(3, .inl (.inl (yad x3 1))), (2, .inl (.inl (yad x2 r1.1))), (0, .inr (.inl 4, x0)), (1, .inl (.inl x1))], [], r1.2)) rfl ?_
        exact yG_w [2, 3, 1, 0] rfl (ih r1.2 x0 x1 (yad x2 r1.1) (yad x3 1) res h)
set_option maxRecDepth 100000 in
set_option maxHeartbeats 4000000 in
theorem t_X4_passDays {N : Nat} {X : zXT} {sh : List yH} {l : Launch} {rm : Room} (σ : yS) (x0 : Nat) (x1 : Int) (res : Int × yS) (h : f_X4_passDays N σ x0 x1 = some res) : G_X4_passDays N X sh l rm (0, [(0, .inr (.inl 4, x0)), (1, .inl (.inl x1))], [], σ) (some (.inl (.inl res.1)), res.2) := by
  unfold f_X4_passDays at h
  refine yG_n (n := 4) (C' := (4, [(3, .inl (.inl 0)), (2, .inl (.inl 0)), (0, .inr (.inl 4, x0)), (1, .inl (.inl x1))], [], σ)) rfl ?_
  exact yG_w [2, 3, 1, 0] rfl (t_X4_passDays_b4 N σ x0 x1 0 0 res h)
set_option maxRecDepth 100000 in
set_option maxHeartbeats 4000000 in
theorem m_X4_passDays {N : Nat} {X : zXT} (hX : zXok X) (hN : zXn X) (l : Launch) {sh : List yH} : yMet X vwCl yct sh l yX4_passDays wsX4_passDays { frames := 5, cells := 0, slots := 0, locals := 158 } (F_X4_passDays N) :=
  ymeth (tb := tb_X4_passDays N) (pr := pr_X4_passDays) (rt := 1) (own := RX4) hX (by decide +kernel) rfl rfl ⟨Nat.le_of_ble_eq_true rfl, Nat.le_of_ble_eq_true rfl⟩
    (zfl_all (fun _ h => absurd h List.not_mem_nil))
    (zco_all (fun _ h => absurd h List.not_mem_nil)) (zlc_all (fun _ h => absurd h List.not_mem_nil))
    (List.forall_mem_cons.mpr ⟨ycal_V hX (m_X4_passDay hX hN l) rfl (fun s args hts => cwV 0 hts gX4_passDays_X4_passDay rfl rfl rfl (by decide +kernel) ⟨Nat.le_of_ble_eq_true rfl, Nat.le_of_ble_eq_true rfl⟩), fun _ h => absurd h List.not_mem_nil⟩)
    (fun _ h => absurd h List.not_mem_nil)
    (zmm_all (fun _ h => absurd h List.not_mem_nil)) (fun _ h => absurd h List.not_mem_nil) (zpr_all hp_X4_passDays) (fun as σ res h => by
      unfold F_X4_passDays at h
      split at h
      · rename_i x0 x1
        cases hr : f_X4_passDays N σ x0 x1 with
        | none => rw [hr] at h; cases h
        | some r =>
          rw [hr] at h
          cases h
          exact ⟨Nat.le_of_ble_eq_true rfl, t_X4_passDays σ x0 x1 r hr⟩
      · cases h)
noncomputable def pr_X7_ahead : List (Nat × Instr × Nat) := [(0, .aload_n 0, 1), (1, .getfield 10, 3), (4, .iload_n 1, 1), (5, .invokevirtual 118, 3), (8, .ifCond .eq 24, 3), (11, .aload_n 0, 1), (12, .getfield 10, 3), (15, .iload_n 2, 1), (16, .invokevirtual 150, 3), (19, .ifCond .eq 13, 3), (22, .iload_n 3, 1), (23, .iconst 0, 1), (24, .bipush 60, 2), (26, .invokestatic 49, 3), (29, .ifCond .ne 5, 3), (32, .iconst (-1), 1), (33, .ireturn, 1), (34, .aload_n 0, 1), (35, .getfield 16, 3), (38, .aload_n 0, 1), (39, .getfield 10, 3), (42, .invokevirtual 73, 3), (45, .aload_n 0, 1), (46, .getfield 16, 3), (49, .iload_n 3, 1), (50, .invokevirtual 200, 3), (53, .pop, 1), (54, .aload_n 0, 1), (55, .getfield 16, 3), (58, .getfield 144, 3), (61, .iload_n 1, 1), (62, .iload_n 2, 1), (63, .invokestatic 147, 3), (66, .iaload, 1), (67, .ireturn, 1)]
set_option maxRecDepth 100000 in
theorem hp_X7_ahead : pr_X7_ahead.all (fun x => decide (decode cX7_ahead x.1 = .ok x.2)) = true := by decide +kernel
noncomputable def f_X7_ahead_b32 (N : Nat) (σ : yS) : Option (Int × yS) :=
  some ((-1), σ)
noncomputable def f_X7_ahead (N : Nat) (σ : yS) (x1 : Int) (x2 : Int) (x3 : Int) : Option (Int × yS) :=
  match f_X4_isHouse N σ 17 x1 with
  | none => none
  | some r1 => bif ycP .eq r1.1 0 then
      f_X7_ahead_b32 N r1.2
    else
      match f_X4_isDeed N r1.2 17 x2 with
      | none => none
      | some r2 => bif ycP .eq r2.1 0 then
          f_X7_ahead_b32 N r2.2
        else
          match f_X7_within N r2.2 x3 0 60 with
          | none => none
          | some r3 => bif ycP .ne r3.1 0 then
              match f_X4_copyFrom N r3.2 38 17 with
              | none => none
              | some r4 => match f_X4_passDays N r4.2 38 x3 with
                | none => none
                | some r5 => match f_X7_doneAt N r5.2 x1 x2 with
                  | none => none
                  | some r6 => bif yin r6.1 35 then
                      some (r6.2.1 45 r6.1.toNat, r6.2)
                    else none
            else
              f_X7_ahead_b32 N r3.2
noncomputable def F_X7_ahead (N : Nat) : yF := fun as σ => match as with
  | [.inr (.inl 7, 0), .inl (.inl x1), .inl (.inl x2), .inl (.inl x3)] => (f_X7_ahead N σ x1 x2 x3).map (fun r => (some (.inl (.inl r.1)), r.2))
  | _ => none
theorem e_X7_ahead {N : Nat} {σ : yS} {x1 : Int} {x2 : Int} {x3 : Int} {r : Int × yS} (h : f_X7_ahead N σ x1 x2 x3 = some r) : F_X7_ahead N [.inr (.inl 7, 0), .inl (.inl x1), .inl (.inl x2), .inl (.inl x3)] σ = some (some (.inl (.inl r.1)), r.2) := by
  show (f_X7_ahead N σ x1 x2 x3).map (fun r => ((some (.inl (.inl r.1)), r.2) : yR)) = _
  rw [h]
  rfl
noncomputable def tb_X7_ahead (N : Nat) : yTb := ([(10, 7, 0, 3), (16, 7, 1, 3), (144, 4, 10, 3)], [], [], [(73, 2, 4, F_X4_copyFrom N), (118, 2, 4, F_X4_isHouse N), (150, 2, 4, F_X4_isDeed N), (200, 2, 4, F_X4_passDays N)], [(49, 3, F_X7_within N), (147, 2, F_X7_doneAt N)], [], [])
abbrev G_X7_ahead (N : Nat) (X : zXT) (sh : List yH) (l : Launch) (rm : Room) : yC → yR → Prop := yGoes X vwCl yct sh l rm cX7_ahead 4 wsX7_ahead RX7 (tb_X7_ahead N) pr_X7_ahead 1
set_option maxRecDepth 100000 in
set_option maxHeartbeats 4000000 in
theorem t_X7_ahead_b32 {N : Nat} {X : zXT} {sh : List yH} {l : Launch} {rm : Room} (σ : yS) (res : Int × yS) (h : f_X7_ahead_b32 N σ = some res) : G_X7_ahead N X sh l rm (32, [], [], σ) (some (.inl (.inl res.1)), res.2) := by
  unfold f_X7_ahead_b32 at h
  refine yG_n (n := 1) (C' := (33, [], [.inl (.inl ((-1)))], σ)) rfl ?_
  have h := Option.some.inj h
  subst h
  dsimp only
  exact yG_r rfl rfl
set_option maxRecDepth 100000 in
set_option maxHeartbeats 4000000 in
theorem t_X7_ahead {N : Nat} {X : zXT} {sh : List yH} {l : Launch} {rm : Room} (σ : yS) (x1 : Int) (x2 : Int) (x3 : Int) (res : Int × yS) (h : f_X7_ahead N σ x1 x2 x3 = some res) : G_X7_ahead N X sh l rm (0, [(0, .inr (.inl 7, 0)), (1, .inl (.inl x1)), (2, .inl (.inl x2)), (3, .inl (.inl x3))], [], σ) (some (.inl (.inl res.1)), res.2) := by
  unfold f_X7_ahead at h
  refine yG_n (n := 3) (C' := (5, [(0, .inr (.inl 7, 0)), (1, .inl (.inl x1)), (2, .inl (.inl x2)), (3, .inl (.inl x3))], [.inl (.inl x1), .inr (.inl 4, 17)], σ)) rfl ?_
  cases hr1 : f_X4_isHouse N σ 17 x1 with
  | none => rw [hr1] at h; dsimp only at h; cases h
  | some r1 =>
    rw [hr1] at h
    dsimp only at h
    refine yG_c (C1 := (8, [(0, .inr (.inl 7, 0)), (1, .inl (.inl x1)), (2, .inl (.inl x2)), (3, .inl (.inl x3))], [.inl (.inl r1.1)], r1.2)) rfl (e_X4_isHouse hr1) rfl ?_
    cases hg2 : ycP .eq r1.1 0 with
    | true =>
      rw [hg2] at h
      dsimp only [cond] at h
      refine yG_t (C' := (32, [(0, .inr (.inl 7, 0)), (1, .inl (.inl x1)), (2, .inl (.inl x2)), (3, .inl (.inl x3))], [], r1.2)) rfl hg2 ?_
      exact yG_w [] rfl (t_X7_ahead_b32 r1.2 res h)
    | false =>
      rw [hg2] at h
      dsimp only [cond] at h
      refine yG_f (C' := (11, [(0, .inr (.inl 7, 0)), (1, .inl (.inl x1)), (2, .inl (.inl x2)), (3, .inl (.inl x3))], [], r1.2)) rfl hg2 ?_
      refine yG_n (n := 3) (C' := (16, [(0, .inr (.inl 7, 0)), (1, .inl (.inl x1)), (2, .inl (.inl x2)), (3, .inl (.inl x3))], [.inl (.inl x2), .inr (.inl 4, 17)], r1.2)) rfl ?_
      cases hr3 : f_X4_isDeed N r1.2 17 x2 with
      | none => rw [hr3] at h; dsimp only at h; cases h
      | some r2 =>
        rw [hr3] at h
        dsimp only at h
        refine yG_c (C1 := (19, [(0, .inr (.inl 7, 0)), (1, .inl (.inl x1)), (2, .inl (.inl x2)), (3, .inl (.inl x3))], [.inl (.inl r2.1)], r2.2)) rfl (e_X4_isDeed hr3) rfl ?_
        cases hg4 : ycP .eq r2.1 0 with
        | true =>
          rw [hg4] at h
          dsimp only [cond] at h
          refine yG_t (C' := (32, [(0, .inr (.inl 7, 0)), (1, .inl (.inl x1)), (2, .inl (.inl x2)), (3, .inl (.inl x3))], [], r2.2)) rfl hg4 ?_
          exact yG_w [] rfl (t_X7_ahead_b32 r2.2 res h)
        | false =>
          rw [hg4] at h
          dsimp only [cond] at h
          refine yG_f (C' := (22, [(0, .inr (.inl 7, 0)), (1, .inl (.inl x1)), (2, .inl (.inl x2)), (3, .inl (.inl x3))], [], r2.2)) rfl hg4 ?_
          refine yG_n (n := 3) (C' := (26, [(0, .inr (.inl 7, 0)), (1, .inl (.inl x1)), (2, .inl (.inl x2)), (3, .inl (.inl x3))], [.inl (.inl 60), .inl (.inl 0), .inl (.inl x3)], r2.2)) rfl ?_
          cases hr5 : f_X7_within N r2.2 x3 0 60 with
          | none => rw [hr5] at h; dsimp only at h; cases h
          | some r3 =>
            rw [hr5] at h
            dsimp only at h
            refine yG_c (C1 := (29, [(0, .inr (.inl 7, 0)), (1, .inl (.inl x1)), (2, .inl (.inl x2)), (3, .inl (.inl x3))], [.inl (.inl r3.1)], r3.2)) rfl (e_X7_within hr5) rfl ?_
            cases hg6 : ycP .ne r3.1 0 with
            | true =>
              rw [hg6] at h
              dsimp only [cond] at h
              refine yG_t (C' := (34, [(0, .inr (.inl 7, 0)), (1, .inl (.inl x1)), (2, .inl (.inl x2)), (3, .inl (.inl x3))], [], r3.2)) rfl hg6 ?_
              refine yG_n (n := 4) (C' := (42, [(0, .inr (.inl 7, 0)), (1, .inl (.inl x1)), (2, .inl (.inl x2)), (3, .inl (.inl x3))], [.inr (.inl 4, 17), .inr (.inl 4, 38)], r3.2)) rfl ?_
              cases hr7 : f_X4_copyFrom N r3.2 38 17 with
              | none => rw [hr7] at h; dsimp only at h; cases h
              | some r4 =>
                rw [hr7] at h
                dsimp only at h
                refine yG_c (C1 := (45, [(0, .inr (.inl 7, 0)), (1, .inl (.inl x1)), (2, .inl (.inl x2)), (3, .inl (.inl x3))], [], r4.2)) rfl (e_X4_copyFrom hr7) rfl ?_
                refine yG_n (n := 3) (C' := (50, [(0, .inr (.inl 7, 0)), (1, .inl (.inl x1)), (2, .inl (.inl x2)), (3, .inl (.inl x3))], [.inl (.inl x3), .inr (.inl 4, 38)], r4.2)) rfl ?_
                cases hr8 : f_X4_passDays N r4.2 38 x3 with
                | none => rw [hr8] at h; dsimp only at h; cases h
                | some r5 =>
                  rw [hr8] at h
                  dsimp only at h
                  refine yG_c (C1 := (53, [(0, .inr (.inl 7, 0)), (1, .inl (.inl x1)), (2, .inl (.inl x2)), (3, .inl (.inl x3))], [.inl (.inl r5.1)], r5.2)) rfl (e_X4_passDays hr8) rfl ?_
                  refine yG_n (n := 6) (C' := (63, [(0, .inr (.inl 7, 0)), (1, .inl (.inl x1)), (2, .inl (.inl x2)), (3, .inl (.inl x3))], [.inl (.inl x2), .inl (.inl x1), .inr (.inr (0, 35), 45)], r5.2)) rfl ?_
                  cases hr9 : f_X7_doneAt N r5.2 x1 x2 with
                  | none => rw [hr9] at h; dsimp only at h; cases h
                  | some r6 =>
                    rw [hr9] at h
                    dsimp only at h
                    refine yG_c (C1 := (66, [(0, .inr (.inl 7, 0)), (1, .inl (.inl x1)), (2, .inl (.inl x2)), (3, .inl (.inl x3))], [.inl (.inl r6.1), .inr (.inr (0, 35), 45)], r6.2)) rfl (e_X7_doneAt hr9) rfl ?_
                    cases hg10 : yin r6.1 35 with
                    | false => rw [hg10] at h; dsimp only [cond] at h; cases h
                    | true =>
                      rw [hg10] at h
                      dsimp only [cond] at h
                      refine yG_t (C' := (67, [(0, .inr (.inl 7, 0)), (1, .inl (.inl x1)), (2, .inl (.inl x2)), (3, .inl (.inl x3))], [.inl (.inl (r6.2.1 45 r6.1.toNat))], r6.2)) rfl hg10 ?_
                      have h := Option.some.inj h
                      subst h
                      dsimp only
                      exact yG_r rfl rfl
            | false =>
              rw [hg6] at h
              dsimp only [cond] at h
              refine yG_f (C' := (32, [(0, .inr (.inl 7, 0)), (1, .inl (.inl x1)), (2, .inl (.inl x2)), (3, .inl (.inl x3))], [], r3.2)) rfl hg6 ?_
              exact yG_w [] rfl (t_X7_ahead_b32 r3.2 res h)
set_option maxRecDepth 100000 in
set_option maxHeartbeats 4000000 in
theorem m_X7_ahead {N : Nat} {X : zXT} (hX : zXok X) (hN : zXn X) (l : Launch) {sh : List yH} : yMet X vwCl yct sh l yX7_ahead wsX7_ahead { frames := 6, cells := 0, slots := 0, locals := 181 } (F_X7_ahead N) :=
  ymeth (tb := tb_X7_ahead N) (pr := pr_X7_ahead) (rt := 1) (own := RX7) hX (by decide +kernel) rfl rfl ⟨Nat.le_of_ble_eq_true rfl, Nat.le_of_ble_eq_true rfl⟩
    (zfl_all (List.forall_mem_cons.mpr ⟨zfl_X7 (fun w h => List.mem_cons_of_mem _ (List.mem_append_left _ (List.mem_append_left _ (List.mem_append_left _ (List.mem_append_right _ h))))) (List.mem_of_getElem? (i := 1) rfl) (by decide) (by decide), List.forall_mem_cons.mpr ⟨zfl_X7 (fun w h => List.mem_cons_of_mem _ (List.mem_append_left _ (List.mem_append_left _ (List.mem_append_left _ (List.mem_append_right _ h))))) (List.mem_of_getElem? (i := 2) rfl) (by decide) (by decide), List.forall_mem_cons.mpr ⟨zfl_X4 (fun w h => List.mem_cons_of_mem _ (List.mem_append_left _ (List.mem_append_left _ (List.mem_append_right _ h)))) (List.mem_of_getElem? (i := 3) rfl) (by decide) (by decide), fun _ h => absurd h List.not_mem_nil⟩⟩⟩))
    (zco_all (fun _ h => absurd h List.not_mem_nil)) (zlc_all (fun _ h => absurd h List.not_mem_nil))
    (List.forall_mem_cons.mpr ⟨ycal_V hX (m_X4_copyFrom hX hN l) rfl (fun s args hts => cwV 1 hts gX7_ahead_X4_copyFrom rfl rfl rfl (by decide +kernel) ⟨Nat.le_of_ble_eq_true rfl, Nat.le_of_ble_eq_true rfl⟩), List.forall_mem_cons.mpr ⟨ycal_V hX (m_X4_isHouse hX hN l) rfl (fun s args hts => cwV 1 hts gX7_ahead_X4_isHouse rfl rfl rfl (by decide +kernel) ⟨Nat.le_of_ble_eq_true rfl, Nat.le_of_ble_eq_true rfl⟩), List.forall_mem_cons.mpr ⟨ycal_V hX (m_X4_isDeed hX hN l) rfl (fun s args hts => cwV 1 hts gX7_ahead_X4_isDeed rfl rfl rfl (by decide +kernel) ⟨Nat.le_of_ble_eq_true rfl, Nat.le_of_ble_eq_true rfl⟩), List.forall_mem_cons.mpr ⟨ycal_V hX (m_X4_passDays hX hN l) rfl (fun s args hts => cwV 1 hts gX7_ahead_X4_passDays rfl rfl rfl (by decide +kernel) ⟨Nat.le_of_ble_eq_true rfl, Nat.le_of_ble_eq_true rfl⟩), fun _ h => absurd h List.not_mem_nil⟩⟩⟩⟩)
    (List.forall_mem_cons.mpr ⟨ycal_S hX (m_X7_within hX hN l) (fun s args hts => va_cwS 3 hts gX7_ahead_X7_within rfl rfl rfl (by decide +kernel) ⟨Nat.le_of_ble_eq_true rfl, Nat.le_of_ble_eq_true rfl⟩), List.forall_mem_cons.mpr ⟨ycal_S hX (m_X7_doneAt hX hN l) (fun s args hts => va_cwS 2 hts gX7_ahead_X7_doneAt rfl rfl rfl (by decide +kernel) ⟨Nat.le_of_ble_eq_true rfl, Nat.le_of_ble_eq_true rfl⟩), fun _ h => absurd h List.not_mem_nil⟩⟩)
    (zmm_all (fun _ h => absurd h List.not_mem_nil)) (fun _ h => absurd h List.not_mem_nil) (zpr_all hp_X7_ahead) (fun as σ res h => by
      unfold F_X7_ahead at h
      split at h
      · rename_i x1 x2 x3
        cases hr : f_X7_ahead N σ x1 x2 x3 with
        | none => rw [hr] at h; cases h
        | some r =>
          rw [hr] at h
          cases h
          exact ⟨Nat.le_of_ble_eq_true rfl, t_X7_ahead σ x1 x2 x3 r hr⟩
      · cases h)
noncomputable def pr_X7_back : List (Nat × Instr × Nat) := [(0, .iload_n 1, 1), (1, .iconst 0, 1), (2, .iconst 1, 1), (3, .invokestatic 49, 3), (6, .ifCond .ne 5, 3), (9, .iconst (-1), 1), (10, .ireturn, 1), (11, .aload_n 0, 1), (12, .getfield 76, 3), (15, .iload_n 1, 1), (16, .invokestatic 131, 3), (19, .ifCond .ne 6, 3), (22, .bipush (-2), 2), (24, .ireturn, 1), (25, .aload_n 0, 1), (26, .getfield 10, 3), (29, .aload_n 0, 1), (30, .getfield 19, 3), (33, .iload_n 1, 1), (34, .aaload, 1), (35, .invokevirtual 73, 3), (38, .aload_n 0, 1), (39, .getfield 10, 3), (42, .getfield 106, 3), (45, .ireturn, 1)]
set_option maxRecDepth 100000 in
theorem hp_X7_back : pr_X7_back.all (fun x => decide (decode cX7_back x.1 = .ok x.2)) = true := by decide +kernel
noncomputable def f_X7_back (N : Nat) (σ : yS) (x1 : Int) : Option (Int × yS) :=
  match f_X7_within N σ x1 0 1 with
  | none => none
  | some r1 => bif ycP .ne r1.1 0 then
      match f_X7_bit N r1.2 (r1.2.1 0 7) x1 with
      | none => none
      | some r2 => bif ycP .ne r2.1 0 then
          bif yin x1 2 then
            match f_X4_copyFrom N r2.2 17 (r2.2.2 1 x1.toNat) with
            | none => none
            | some r3 => some (r3.2.1 17 14, r3.2)
          else none
        else
          some ((-2), r2.2)
    else
      some ((-1), r1.2)
noncomputable def F_X7_back (N : Nat) : yF := fun as σ => match as with
  | [.inr (.inl 7, 0), .inl (.inl x1)] => (f_X7_back N σ x1).map (fun r => (some (.inl (.inl r.1)), r.2))
  | _ => none
theorem e_X7_back {N : Nat} {σ : yS} {x1 : Int} {r : Int × yS} (h : f_X7_back N σ x1 = some r) : F_X7_back N [.inr (.inl 7, 0), .inl (.inl x1)] σ = some (some (.inl (.inl r.1)), r.2) := by
  show (f_X7_back N σ x1).map (fun r => ((some (.inl (.inl r.1)), r.2) : yR)) = _
  rw [h]
  rfl
noncomputable def tb_X7_back (N : Nat) : yTb := ([(10, 7, 0, 3), (19, 7, 2, 3), (76, 7, 7, 0), (106, 4, 14, 0)], [], [], [(73, 2, 4, F_X4_copyFrom N)], [(49, 3, F_X7_within N), (131, 2, F_X7_bit N)], [], [])
abbrev G_X7_back (N : Nat) (X : zXT) (sh : List yH) (l : Launch) (rm : Room) : yC → yR → Prop := yGoes X vwCl yct sh l rm cX7_back 2 wsX7_back RX7 (tb_X7_back N) pr_X7_back 1
set_option maxRecDepth 100000 in
set_option maxHeartbeats 4000000 in
theorem t_X7_back {N : Nat} {X : zXT} {sh : List yH} {l : Launch} {rm : Room} (σ : yS) (x1 : Int) (res : Int × yS) (h : f_X7_back N σ x1 = some res) : G_X7_back N X sh l rm (0, [(0, .inr (.inl 7, 0)), (1, .inl (.inl x1))], [], σ) (some (.inl (.inl res.1)), res.2) := by
  unfold f_X7_back at h
  refine yG_n (n := 3) (C' := (3, [(0, .inr (.inl 7, 0)), (1, .inl (.inl x1))], [.inl (.inl 1), .inl (.inl 0), .inl (.inl x1)], σ)) rfl ?_
  cases hr1 : f_X7_within N σ x1 0 1 with
  | none => rw [hr1] at h; dsimp only at h; cases h
  | some r1 =>
    rw [hr1] at h
    dsimp only at h
    refine yG_c (C1 := (6, [(0, .inr (.inl 7, 0)), (1, .inl (.inl x1))], [.inl (.inl r1.1)], r1.2)) rfl (e_X7_within hr1) rfl ?_
    cases hg2 : ycP .ne r1.1 0 with
    | true =>
      rw [hg2] at h
      dsimp only [cond] at h
      refine yG_t (C' := (11, [(0, .inr (.inl 7, 0)), (1, .inl (.inl x1))], [], r1.2)) rfl hg2 ?_
      refine yG_n (n := 3) (C' := (16, [(0, .inr (.inl 7, 0)), (1, .inl (.inl x1))], [.inl (.inl x1), .inl (.inl (r1.2.1 0 7))], r1.2)) rfl ?_
      cases hr3 : f_X7_bit N r1.2 (r1.2.1 0 7) x1 with
      | none => rw [hr3] at h; dsimp only at h; cases h
      | some r2 =>
        rw [hr3] at h
        dsimp only at h
        refine yG_c (C1 := (19, [(0, .inr (.inl 7, 0)), (1, .inl (.inl x1))], [.inl (.inl r2.1)], r2.2)) rfl (e_X7_bit hr3) rfl ?_
        cases hg4 : ycP .ne r2.1 0 with
        | true =>
          rw [hg4] at h
          dsimp only [cond] at h
          refine yG_t (C' := (25, [(0, .inr (.inl 7, 0)), (1, .inl (.inl x1))], [], r2.2)) rfl hg4 ?_
          refine yG_n (n := 5) (C' := (34, [(0, .inr (.inl 7, 0)), (1, .inl (.inl x1))], [.inl (.inl x1), .inr (.inr (2, 2), 1), .inr (.inl 4, 17)], r2.2)) rfl ?_
          cases hg5 : yin x1 2 with
          | false => rw [hg5] at h; dsimp only [cond] at h; cases h
          | true =>
            rw [hg5] at h
            dsimp only [cond] at h
            refine yG_t (C' := (35, [(0, .inr (.inl 7, 0)), (1, .inl (.inl x1))], [.inr (.inl 4, r2.2.2 1 x1.toNat), .inr (.inl 4, 17)], r2.2)) rfl hg5 ?_
            cases hr6 : f_X4_copyFrom N r2.2 17 (r2.2.2 1 x1.toNat) with
            | none => rw [hr6] at h; dsimp only at h; cases h
            | some r3 =>
              rw [hr6] at h
              dsimp only at h
              refine yG_c (C1 := (38, [(0, .inr (.inl 7, 0)), (1, .inl (.inl x1))], [], r3.2)) rfl (e_X4_copyFrom hr6) rfl ?_
              refine yG_n (n := 3) (C' := (45, [(0, .inr (.inl 7, 0)), (1, .inl (.inl x1))], [.inl (.inl (r3.2.1 17 14))], r3.2)) rfl ?_
              have h := Option.some.inj h
              subst h
              dsimp only
              exact yG_r rfl rfl
        | false =>
          rw [hg4] at h
          dsimp only [cond] at h
          refine yG_f (C' := (22, [(0, .inr (.inl 7, 0)), (1, .inl (.inl x1))], [], r2.2)) rfl hg4 ?_
          refine yG_n (n := 1) (C' := (24, [(0, .inr (.inl 7, 0)), (1, .inl (.inl x1))], [.inl (.inl ((-2)))], r2.2)) rfl ?_
          have h := Option.some.inj h
          subst h
          dsimp only
          exact yG_r rfl rfl
    | false =>
      rw [hg2] at h
      dsimp only [cond] at h
      refine yG_f (C' := (9, [(0, .inr (.inl 7, 0)), (1, .inl (.inl x1))], [], r1.2)) rfl hg2 ?_
      refine yG_n (n := 1) (C' := (10, [(0, .inr (.inl 7, 0)), (1, .inl (.inl x1))], [.inl (.inl ((-1)))], r1.2)) rfl ?_
      have h := Option.some.inj h
      subst h
      dsimp only
      exact yG_r rfl rfl
set_option maxRecDepth 100000 in
set_option maxHeartbeats 4000000 in
theorem m_X7_back {N : Nat} {X : zXT} (hX : zXok X) (hN : zXn X) (l : Launch) {sh : List yH} : yMet X vwCl yct sh l yX7_back wsX7_back { frames := 3, cells := 0, slots := 0, locals := 106 } (F_X7_back N) :=
  ymeth (tb := tb_X7_back N) (pr := pr_X7_back) (rt := 1) (own := RX7) hX (by decide +kernel) rfl rfl ⟨Nat.le_of_ble_eq_true rfl, Nat.le_of_ble_eq_true rfl⟩
    (zfl_all (List.forall_mem_cons.mpr ⟨zfl_X7 (fun w h => List.mem_cons_of_mem _ (List.mem_append_left _ (List.mem_append_left _ (List.mem_append_left _ (List.mem_append_right _ h))))) (List.mem_of_getElem? (i := 2) rfl) (by decide) (by decide), List.forall_mem_cons.mpr ⟨zfl_X7 (fun w h => List.mem_cons_of_mem _ (List.mem_append_left _ (List.mem_append_left _ (List.mem_append_left _ (List.mem_append_right _ h))))) (List.mem_of_getElem? (i := 3) rfl) (by decide) (by decide), List.forall_mem_cons.mpr ⟨zfl_X7 (fun w h => List.mem_cons_of_mem _ (List.mem_append_left _ (List.mem_append_left _ (List.mem_append_left _ (List.mem_append_right _ h))))) (List.mem_of_getElem? (i := 1) rfl) (by decide) (by decide), List.forall_mem_cons.mpr ⟨zfl_X4 (fun w h => List.mem_cons_of_mem _ (List.mem_append_left _ (List.mem_append_left _ (List.mem_append_right _ h)))) (List.mem_of_getElem? (i := 4) rfl) (by decide) (by decide), fun _ h => absurd h List.not_mem_nil⟩⟩⟩⟩))
    (zco_all (fun _ h => absurd h List.not_mem_nil)) (zlc_all (fun _ h => absurd h List.not_mem_nil))
    (List.forall_mem_cons.mpr ⟨ycal_V hX (m_X4_copyFrom hX hN l) rfl (fun s args hts => cwV 1 hts gX7_back_X4_copyFrom rfl rfl rfl (by decide +kernel) ⟨Nat.le_of_ble_eq_true rfl, Nat.le_of_ble_eq_true rfl⟩), fun _ h => absurd h List.not_mem_nil⟩)
    (List.forall_mem_cons.mpr ⟨ycal_S hX (m_X7_within hX hN l) (fun s args hts => va_cwS 3 hts gX7_back_X7_within rfl rfl rfl (by decide +kernel) ⟨Nat.le_of_ble_eq_true rfl, Nat.le_of_ble_eq_true rfl⟩), List.forall_mem_cons.mpr ⟨ycal_S hX (m_X7_bit hX hN l) (fun s args hts => va_cwS 2 hts gX7_back_X7_bit rfl rfl rfl (by decide +kernel) ⟨Nat.le_of_ble_eq_true rfl, Nat.le_of_ble_eq_true rfl⟩), fun _ h => absurd h List.not_mem_nil⟩⟩)
    (zmm_all (fun _ h => absurd h List.not_mem_nil)) (fun _ h => absurd h List.not_mem_nil) (zpr_all hp_X7_back) (fun as σ res h => by
      unfold F_X7_back at h
      split at h
      · rename_i x1
        cases hr : f_X7_back N σ x1 with
        | none => rw [hr] at h; cases h
        | some r =>
          rw [hr] at h
          cases h
          exact ⟨Nat.le_of_ble_eq_true rfl, t_X7_back σ x1 r hr⟩
      · cases h)
noncomputable def pr_X4_changeHouses : List (Nat × Instr × Nat) := [(0, .aload_n 0, 1), (1, .getfield 19, 3), (4, .iload_n 1, 1), (5, .iaload, 1), (6, .istore_n 3, 1), (7, .aload_n 0, 1), (8, .getfield 19, 3), (11, .iload_n 1, 1), (12, .aload_n 0, 1), (13, .getfield 19, 3), (16, .iload_n 2, 1), (17, .iaload, 1), (18, .iastore, 1), (19, .aload_n 0, 1), (20, .getfield 19, 3), (23, .iload_n 2, 1), (24, .iload_n 3, 1), (25, .iastore, 1), (26, .aload_n 0, 1), (27, .getfield 22, 3), (30, .iload_n 1, 1), (31, .iaload, 1), (32, .istore 4, 2), (34, .aload_n 0, 1), (35, .getfield 22, 3), (38, .iload_n 1, 1), (39, .aload_n 0, 1), (40, .getfield 22, 3), (43, .iload_n 2, 1), (44, .iaload, 1), (45, .iastore, 1), (46, .aload_n 0, 1), (47, .getfield 22, 3), (50, .iload_n 2, 1), (51, .iload 4, 2), (53, .iastore, 1), (54, .return_, 1)]
set_option maxRecDepth 100000 in
theorem hp_X4_changeHouses : pr_X4_changeHouses.all (fun x => decide (decode cX4_changeHouses x.1 = .ok x.2)) = true := by decide +kernel
noncomputable def f_X4_changeHouses_b31 (N : Nat) (σ : yS) (x0 : Nat) (x1 : Int) (x2 : Int) (s0 : Int) (s1 : Nat) : Option (Int × yS) :=
  bif yin s0 7 then
    bif yin x2 7 then
      bif yin x1 7 then
        some (0, yw (yw σ (x0 + 3) x1.toNat (σ.1 (x0 + 3) x2.toNat)) (x0 + 3) x2.toNat (σ.1 s1 s0.toNat))
      else none
    else none
  else none
noncomputable def f_X4_changeHouses (N : Nat) (σ : yS) (x0 : Nat) (x1 : Int) (x2 : Int) : Option (Int × yS) :=
  bif yin x1 7 then
    bif yin x2 7 then
      f_X4_changeHouses_b31 N (yw (yw σ (x0 + 2) x1.toNat (σ.1 (x0 + 2) x2.toNat)) (x0 + 2) x2.toNat (σ.1 (x0 + 2) x1.toNat)) x0 x1 x2 x1 (x0 + 3)
    else none
  else none
noncomputable def F_X4_changeHouses (N : Nat) : yF := fun as σ => match as with
  | [.inr (.inl 4, x0), .inl (.inl x1), .inl (.inl x2)] => (f_X4_changeHouses N σ x0 x1 x2).map (fun r => (none, r.2))
  | _ => none
theorem e_X4_changeHouses {N : Nat} {σ : yS} {x0 : Nat} {x1 : Int} {x2 : Int} {r : Int × yS} (h : f_X4_changeHouses N σ x0 x1 x2 = some r) : F_X4_changeHouses N [.inr (.inl 4, x0), .inl (.inl x1), .inl (.inl x2)] σ = some (none, r.2) := by
  show (f_X4_changeHouses N σ x0 x1 x2).map (fun r => ((none, r.2) : yR)) = _
  rw [h]
  rfl
noncomputable def tb_X4_changeHouses (N : Nat) : yTb := ([(19, 4, 4, 3), (22, 4, 5, 3)], [], [], [], [], [], [])
abbrev G_X4_changeHouses (N : Nat) (X : zXT) (sh : List yH) (l : Launch) (rm : Room) : yC → yR → Prop := yGoes X vwCl yct sh l rm cX4_changeHouses 5 wsX4_changeHouses RX4 (tb_X4_changeHouses N) pr_X4_changeHouses 0
set_option maxRecDepth 100000 in
set_option maxHeartbeats 4000000 in
theorem t_X4_changeHouses_b31 {N : Nat} {X : zXT} {sh : List yH} {l : Launch} {rm : Room} (σ : yS) (x0 : Nat) (x1 : Int) (x2 : Int) (s0 : Int) (s1 : Nat) (res : Int × yS) (h : f_X4_changeHouses_b31 N σ x0 x1 x2 s0 s1 = some res) : G_X4_changeHouses N X sh l rm (31, [(0, .inr (.inl 4, x0)), (1, .inl (.inl x1)), (2, .inl (.inl x2))], [.inl (.inl s0), .inr (.inr (0, 7), s1)], σ) (none, res.2) := by
  unfold f_X4_changeHouses_b31 at h
  cases hg1 : yin s0 7 with
  | false => rw [hg1] at h; dsimp only [cond] at h; cases h
  | true =>
    rw [hg1] at h
    dsimp only [cond] at h
    refine yG_t (C' := (32, [(0, .inr (.inl 4, x0)), (1, .inl (.inl x1)), (2, .inl (.inl x2))], [.inl (.inl (σ.1 s1 s0.toNat))], σ)) rfl hg1 ?_
    refine yG_n (n := 7) (C' := (44, [(4, .inl (.inl (σ.1 s1 s0.toNat))), (0, .inr (.inl 4, x0)), (1, .inl (.inl x1)), (2, .inl (.inl x2))], [.inl (.inl x2), .inr (.inr (0, 7), x0 + 3), .inl (.inl x1), .inr (.inr (0, 7), x0 + 3)], σ)) rfl ?_
    cases hg2 : yin x2 7 with
    | false => rw [hg2] at h; dsimp only [cond] at h; cases h
    | true =>
      rw [hg2] at h
      dsimp only [cond] at h
      refine yG_t (C' := (45, [(4, .inl (.inl (σ.1 s1 s0.toNat))), (0, .inr (.inl 4, x0)), (1, .inl (.inl x1)), (2, .inl (.inl x2))], [.inl (.inl (σ.1 (x0 + 3) x2.toNat)), .inl (.inl x1), .inr (.inr (0, 7), x0 + 3)], σ)) rfl hg2 ?_
      cases hg3 : yin x1 7 with
      | false => rw [hg3] at h; dsimp only [cond] at h; cases h
      | true =>
        rw [hg3] at h
        dsimp only [cond] at h
        refine yG_t (C' := (46, [(4, .inl (.inl (σ.1 s1 s0.toNat))), (0, .inr (.inl 4, x0)), (1, .inl (.inl x1)), (2, .inl (.inl x2))], [], yw σ (x0 + 3) x1.toNat (σ.1 (x0 + 3) x2.toNat))) rfl hg3 ?_
        refine yG_n (n := 4) (C' := (53, [(4, .inl (.inl (σ.1 s1 s0.toNat))), (0, .inr (.inl 4, x0)), (1, .inl (.inl x1)), (2, .inl (.inl x2))], [.inl (.inl (σ.1 s1 s0.toNat)), .inl (.inl x2), .inr (.inr (0, 7), x0 + 3)], yw σ (x0 + 3) x1.toNat (σ.1 (x0 + 3) x2.toNat))) rfl ?_
        refine yG_t (C' := (54, [(4, .inl (.inl (σ.1 s1 s0.toNat))), (0, .inr (.inl 4, x0)), (1, .inl (.inl x1)), (2, .inl (.inl x2))], [], yw (yw σ (x0 + 3) x1.toNat (σ.1 (x0 + 3) x2.toNat)) (x0 + 3) x2.toNat (σ.1 s1 s0.toNat))) rfl hg2 ?_
        have h := Option.some.inj h
        subst h
        dsimp only
        exact yG_r rfl rfl
set_option maxRecDepth 100000 in
set_option maxHeartbeats 4000000 in
theorem t_X4_changeHouses {N : Nat} {X : zXT} {sh : List yH} {l : Launch} {rm : Room} (σ : yS) (x0 : Nat) (x1 : Int) (x2 : Int) (res : Int × yS) (h : f_X4_changeHouses N σ x0 x1 x2 = some res) : G_X4_changeHouses N X sh l rm (0, [(0, .inr (.inl 4, x0)), (1, .inl (.inl x1)), (2, .inl (.inl x2))], [], σ) (none, res.2) := by
  unfold f_X4_changeHouses at h
  refine yG_n (n := 3) (C' := (5, [(0, .inr (.inl 4, x0)), (1, .inl (.inl x1)), (2, .inl (.inl x2))], [.inl (.inl x1), .inr (.inr (0, 7), x0 + 2)], σ)) rfl ?_
  cases hg4 : yin x1 7 with
  | false => rw [hg4] at h; dsimp only [cond] at h; cases h
  | true =>
    rw [hg4] at h
    dsimp only [cond] at h
    refine yG_t (C' := (6, [(0, .inr (.inl 4, x0)), (1, .inl (.inl x1)), (2, .inl (.inl x2))], [.inl (.inl (σ.1 (x0 + 2) x1.toNat))], σ)) rfl hg4 ?_
    refine yG_n (n := 7) (C' := (17, [(3, .inl (.inl (σ.1 (x0 + 2) x1.toNat))), (0, .inr (.inl 4, x0)), (1, .inl (.inl x1)), (2, .inl (.inl x2))], [.inl (.inl x2), .inr (.inr (0, 7), x0 + 2), .inl (.inl x1), .inr (.inr (0, 7), x0 + 2)], σ)) rfl ?_
    cases hg5 : yin x2 7 with
    | false => rw [hg5] at h; dsimp only [cond] at h; cases h
    | true =>
      rw [hg5] at h
      dsimp only [cond] at h
      refine yG_t (C' := (18, [(3, .inl (.inl (σ.1 (x0 + 2) x1.toNat))), (0, .inr (.inl 4, x0)), (1, .inl (.inl x1)), (2, .inl (.inl x2))], [.inl (.inl (σ.1 (x0 + 2) x2.toNat)), .inl (.inl x1), .inr (.inr (0, 7), x0 + 2)], σ)) rfl hg5 ?_
      refine yG_t (C' := (19, [(3, .inl (.inl (σ.1 (x0 + 2) x1.toNat))), (0, .inr (.inl 4, x0)), (1, .inl (.inl x1)), (2, .inl (.inl x2))], [], yw σ (x0 + 2) x1.toNat (σ.1 (x0 + 2) x2.toNat))) rfl hg4 ?_
      refine yG_n (n := 4) (C' := (25, [(3, .inl (.inl (σ.1 (x0 + 2) x1.toNat))), (0, .inr (.inl 4, x0)), (1, .inl (.inl x1)), (2, .inl (.inl x2))], [.inl (.inl (σ.1 (x0 + 2) x1.toNat)), .inl (.inl x2), .inr (.inr (0, 7), x0 + 2)], yw σ (x0 + 2) x1.toNat (σ.1 (x0 + 2) x2.toNat))) rfl ?_
      refine yG_t (C' := (26, [(3, .inl (.inl (σ.1 (x0 + 2) x1.toNat))), (0, .inr (.inl 4, x0)), (1, .inl (.inl x1)), (2, .inl (.inl x2))], [], yw (yw σ (x0 + 2) x1.toNat (σ.1 (x0 + 2) x2.toNat)) (x0 + 2) x2.toNat (σ.1 (x0 + 2) x1.toNat))) rfl hg5 ?_
      refine yG_n (n := 3) (C' := (31, [(3, .inl (.inl (σ.1 (x0 + 2) x1.toNat))), (0, .inr (.inl 4, x0)), (1, .inl (.inl x1)), (2, .inl (.inl x2))], [.inl (.inl x1), .inr (.inr (0, 7), x0 + 3)], yw (yw σ (x0 + 2) x1.toNat (σ.1 (x0 + 2) x2.toNat)) (x0 + 2) x2.toNat (σ.1 (x0 + 2) x1.toNat))) rfl ?_
      exact yG_w [1, 2, 3] rfl (t_X4_changeHouses_b31 (yw (yw σ (x0 + 2) x1.toNat (σ.1 (x0 + 2) x2.toNat)) (x0 + 2) x2.toNat (σ.1 (x0 + 2) x1.toNat)) x0 x1 x2 x1 (x0 + 3) res h)
set_option maxRecDepth 100000 in
set_option maxHeartbeats 4000000 in
theorem m_X4_changeHouses {N : Nat} {X : zXT} (hX : zXok X) (hN : zXn X) (l : Launch) {sh : List yH} : yMet X vwCl yct sh l yX4_changeHouses wsX4_changeHouses { frames := 1, cells := 0, slots := 0, locals := 64 } (F_X4_changeHouses N) :=
  ymeth (tb := tb_X4_changeHouses N) (pr := pr_X4_changeHouses) (rt := 0) (own := RX4) hX (by decide +kernel) rfl rfl ⟨Nat.le_of_ble_eq_true rfl, Nat.le_of_ble_eq_true rfl⟩
    (zfl_all (List.forall_mem_cons.mpr ⟨zfl_X4 (fun w h => List.mem_cons_of_mem _ (List.mem_append_right _ h)) (List.mem_of_getElem? (i := 1) rfl) (by decide) (by decide), List.forall_mem_cons.mpr ⟨zfl_X4 (fun w h => List.mem_cons_of_mem _ (List.mem_append_right _ h)) (List.mem_of_getElem? (i := 2) rfl) (by decide) (by decide), fun _ h => absurd h List.not_mem_nil⟩⟩))
    (zco_all (fun _ h => absurd h List.not_mem_nil)) (zlc_all (fun _ h => absurd h List.not_mem_nil))
    (fun _ h => absurd h List.not_mem_nil)
    (fun _ h => absurd h List.not_mem_nil)
    (zmm_all (fun _ h => absurd h List.not_mem_nil)) (fun _ h => absurd h List.not_mem_nil) (zpr_all hp_X4_changeHouses) (fun as σ res h => by
      unfold F_X4_changeHouses at h
      split at h
      · rename_i x0 x1 x2
        cases hr : f_X4_changeHouses N σ x0 x1 x2 with
        | none => rw [hr] at h; cases h
        | some r =>
          rw [hr] at h
          cases h
          exact ⟨Nat.le_of_ble_eq_true rfl, t_X4_changeHouses σ x0 x1 x2 r hr⟩
      · cases h)
noncomputable def pr_X7_best : List (Nat × Instr × Nat) := [(0, .iload_n 1, 1), (1, .iconst 1, 1), (2, .bipush 20, 2), (4, .invokestatic 49, 3), (7, .ifCond .eq 12, 3), (10, .iload_n 2, 1), (11, .iconst 0, 1), (12, .iconst 1, 1), (13, .invokestatic 49, 3), (16, .ifCond .ne 5, 3), (19, .iconst (-1), 1), (20, .ireturn, 1), (21, .aload_n 0, 1), (22, .getfield 16, 3), (25, .aload_n 0, 1), (26, .getfield 10, 3), (29, .invokevirtual 73, 3), (32, .aload_n 0, 1), (33, .getfield 16, 3), (36, .iload_n 1, 1), (37, .invokevirtual 200, 3), (40, .istore_n 3, 1), (41, .bipush (-4), 2), (43, .istore 4, 2), (45, .iconst 0, 1), (46, .istore 5, 2), (48, .iload 5, 2), (50, .aload_n 0, 1), (51, .getfield 10, 3), (54, .getfield 82, 3), (57, .if_icmp .ge 84, 3), (60, .iload 5, 2), (62, .iconst 1, 1), (63, .iadd, 1), (64, .istore 6, 2), (66, .iload 6, 2), (68, .aload_n 0, 1), (69, .getfield 10, 3), (72, .getfield 82, 3), (75, .if_icmp .ge 60, 3), (78, .aload_n 0, 1), (79, .getfield 16, 3), (82, .aload_n 0, 1), (83, .getfield 10, 3), (86, .invokevirtual 73, 3), (89, .aload_n 0, 1), (90, .getfield 16, 3), (93, .iload 5, 2), (95, .iload 6, 2), (97, .invokevirtual 190, 3), (100, .aload_n 0, 1), (101, .getfield 16, 3), (104, .iload_n 1, 1), (105, .invokevirtual 200, 3), (108, .istore 7, 2), (110, .iload 7, 2), (112, .iload_n 3, 1), (113, .if_icmp .le 16, 3), (116, .iload 7, 2), (118, .istore_n 3, 1), (119, .bipush 10, 2), (121, .iload 5, 2), (123, .imul, 1), (124, .iload 6, 2), (126, .iadd, 1), (127, .istore 4, 2), (129, .iinc 6 1, 3), (132, .goto (-66), 3), (135, .iinc 5 1, 3), (138, .goto (-90), 3), (141, .iload_n 2, 1), (142, .ifCond .eq 10, 3), (145, .iload 4, 2), (147, .bipush (-4), 2), (149, .if_icmp .ne 8, 3), (152, .iload 4, 2), (154, .goto 4, 3), (157, .iload_n 3, 1), (158, .ireturn, 1)]
set_option maxRecDepth 100000 in
theorem hp_X7_best : pr_X7_best.all (fun x => decide (decode cX7_best x.1 = .ok x.2)) = true := by decide +kernel
noncomputable def f_X7_best_b19 (N : Nat) (σ : yS) : Option (Int × yS) :=
  some ((-1), σ)
noncomputable def f_X7_best_b158 (N : Nat) (σ : yS) (s0 : Int) : Option (Int × yS) :=
  some (s0, σ)
noncomputable def f_X7_best_b152 (N : Nat) (σ : yS) (x4 : Int) : Option (Int × yS) :=
  f_X7_best_b158 N σ x4
noncomputable def f_X7_best_b129 (N : Nat) (k48 : yS → Int → Int → Int → Int → Int → Option (Int × yS)) (k66 : yS → Int → Int → Int → Int → Int → Int → Option (Int × yS)) (σ : yS) (x1 : Int) (x2 : Int) (x3 : Int) (x4 : Int) (x5 : Int) (x6 : Int) : Option (Int × yS) :=
  k66 σ x1 x2 x3 x4 x5 (yad x6 1)
noncomputable def f_X7_best_b66 (N : Nat) (k48 : yS → Int → Int → Int → Int → Int → Option (Int × yS)) : Nat → yS → Int → Int → Int → Int → Int → Int → Option (Int × yS) := yfix (fun _ _ _ _ _ _ _ => none) (fun ih σ x1 x2 x3 x4 x5 x6 =>
    bif ycP .ge x6 (σ.1 17 0) then
      k48 σ x1 x2 x3 x4 (yad x5 1)
    else
      match f_X4_copyFrom N σ 38 17 with
      | none => none
      | some r5 => match f_X4_changeHouses N r5.2 38 x5 x6 with
        | none => none
        | some r6 => match f_X4_passDays N r6.2 38 x1 with
          | none => none
          | some r7 => bif ycP .le r7.1 x3 then
              f_X7_best_b129 N k48 ih r7.2 x1 x2 x3 x4 x5 x6
            else
              f_X7_best_b129 N k48 ih r7.2 x1 x2 r7.1 (yad (ymu 10 x5) x6) x5 x6)
theorem q_X7_best_b66 (N : Nat) (k48 : yS → Int → Int → Int → Int → Int → Option (Int × yS)) (n : Nat) (σ : yS) (x1 : Int) (x2 : Int) (x3 : Int) (x4 : Int) (x5 : Int) (x6 : Int) : f_X7_best_b66 N k48 (n + 1) σ x1 x2 x3 x4 x5 x6 =
    (bif ycP .ge x6 (σ.1 17 0) then
      k48 σ x1 x2 x3 x4 (yad x5 1)
    else
      match f_X4_copyFrom N σ 38 17 with
      | none => none
      | some r5 => match f_X4_changeHouses N r5.2 38 x5 x6 with
        | none => none
        | some r6 => match f_X4_passDays N r6.2 38 x1 with
          | none => none
          | some r7 => bif ycP .le r7.1 x3 then
              f_X7_best_b129 N k48 (f_X7_best_b66 N k48 n) r7.2 x1 x2 x3 x4 x5 x6
            else
              f_X7_best_b129 N k48 (f_X7_best_b66 N k48 n) r7.2 x1 x2 r7.1 (yad (ymu 10 x5) x6) x5 x6) := rfl
noncomputable def f_X7_best_b48 (N : Nat) : Nat → yS → Int → Int → Int → Int → Int → Option (Int × yS) := yfix (fun _ _ _ _ _ _ => none) (fun ih σ x1 x2 x3 x4 x5 =>
    bif ycP .ge x5 (σ.1 17 0) then
      bif ycP .eq x2 0 then
        f_X7_best_b152 N σ x4
      else
        bif ycP .ne x4 ((-4)) then
          f_X7_best_b158 N σ x3
        else
          f_X7_best_b152 N σ x4
    else
      f_X7_best_b66 N ih N σ x1 x2 x3 x4 x5 (yad x5 1))
theorem q_X7_best_b48 (N : Nat) (n : Nat) (σ : yS) (x1 : Int) (x2 : Int) (x3 : Int) (x4 : Int) (x5 : Int) : f_X7_best_b48 N (n + 1) σ x1 x2 x3 x4 x5 =
    (bif ycP .ge x5 (σ.1 17 0) then
      bif ycP .eq x2 0 then
        f_X7_best_b152 N σ x4
      else
        bif ycP .ne x4 ((-4)) then
          f_X7_best_b158 N σ x3
        else
          f_X7_best_b152 N σ x4
    else
      f_X7_best_b66 N (f_X7_best_b48 N n) N σ x1 x2 x3 x4 x5 (yad x5 1)) := rfl
noncomputable def f_X7_best (N : Nat) (σ : yS) (x1 : Int) (x2 : Int) : Option (Int × yS) :=
  match f_X7_within N σ x1 1 20 with
  | none => none
  | some r1 => bif ycP .eq r1.1 0 then
      f_X7_best_b19 N r1.2
    else
      match f_X7_within N r1.2 x2 0 1 with
      | none => none
      | some r2 => bif ycP .ne r2.1 0 then
          match f_X4_copyFrom N r2.2 38 17 with
          | none => none
          | some r3 => match f_X4_passDays N r3.2 38 x1 with
            | none => none
            | some r4 => f_X7_best_b48 N N r4.2 x1 x2 r4.1 ((-4)) 0
        else
          f_X7_best_b19 N r2.2
noncomputable def F_X7_best (N : Nat) : yF := fun as σ => match as with
  | [.inr (.inl 7, 0), .inl (.inl x1), .inl (.inl x2)] => (f_X7_best N σ x1 x2).map (fun r => (some (.inl (.inl r.1)), r.2))
  | _ => none
theorem e_X7_best {N : Nat} {σ : yS} {x1 : Int} {x2 : Int} {r : Int × yS} (h : f_X7_best N σ x1 x2 = some r) : F_X7_best N [.inr (.inl 7, 0), .inl (.inl x1), .inl (.inl x2)] σ = some (some (.inl (.inl r.1)), r.2) := by
  show (f_X7_best N σ x1 x2).map (fun r => ((some (.inl (.inl r.1)), r.2) : yR)) = _
  rw [h]
  rfl
noncomputable def tb_X7_best (N : Nat) : yTb := ([(10, 7, 0, 3), (16, 7, 1, 3), (82, 4, 0, 0)], [], [], [(73, 2, 4, F_X4_copyFrom N), (190, 3, 4, F_X4_changeHouses N), (200, 2, 4, F_X4_passDays N)], [(49, 3, F_X7_within N)], [], [])
abbrev G_X7_best (N : Nat) (X : zXT) (sh : List yH) (l : Launch) (rm : Room) : yC → yR → Prop := yGoes X vwCl yct sh l rm cX7_best 8 wsX7_best RX7 (tb_X7_best N) pr_X7_best 1
set_option maxRecDepth 100000 in
set_option maxHeartbeats 4000000 in
theorem t_X7_best_b19 {N : Nat} {X : zXT} {sh : List yH} {l : Launch} {rm : Room} (σ : yS) (res : Int × yS) (h : f_X7_best_b19 N σ = some res) : G_X7_best N X sh l rm (19, [], [], σ) (some (.inl (.inl res.1)), res.2) := by
  unfold f_X7_best_b19 at h
  refine yG_n (n := 1) (C' := (20, [], [.inl (.inl ((-1)))], σ)) rfl ?_
  have h := Option.some.inj h
  subst h
  dsimp only
  exact yG_r rfl rfl
set_option maxRecDepth 100000 in
set_option maxHeartbeats 4000000 in
theorem t_X7_best_b158 {N : Nat} {X : zXT} {sh : List yH} {l : Launch} {rm : Room} (σ : yS) (s0 : Int) (res : Int × yS) (h : f_X7_best_b158 N σ s0 = some res) : G_X7_best N X sh l rm (158, [], [.inl (.inl s0)], σ) (some (.inl (.inl res.1)), res.2) := by
  unfold f_X7_best_b158 at h
  have h := Option.some.inj h
  subst h
  dsimp only
  exact yG_r rfl rfl
set_option maxRecDepth 100000 in
set_option maxHeartbeats 4000000 in
theorem t_X7_best_b152 {N : Nat} {X : zXT} {sh : List yH} {l : Launch} {rm : Room} (σ : yS) (x4 : Int) (res : Int × yS) (h : f_X7_best_b152 N σ x4 = some res) : G_X7_best N X sh l rm (152, [(4, .inl (.inl x4))], [], σ) (some (.inl (.inl res.1)), res.2) := by
  unfold f_X7_best_b152 at h
  refine yG_n (n := 2) (C' := (158, [(4, .inl (.inl x4))], [.inl (.inl x4)], σ)) rfl ?_
  exact yG_w [] rfl (t_X7_best_b158 σ x4 res h)
set_option maxRecDepth 100000 in
set_option maxHeartbeats 4000000 in
theorem t_X7_best_b129 {N : Nat} {X : zXT} {sh : List yH} {l : Launch} {rm : Room} (k48 : yS → Int → Int → Int → Int → Int → Option (Int × yS)) (hk48 : ∀ (σ : yS) (x1 : Int) (x2 : Int) (x3 : Int) (x4 : Int) (x5 : Int) (res : Int × yS), k48 σ x1 x2 x3 x4 x5 = some res → G_X7_best N X sh l rm (48, [(0, .inr (.inl 7, 0)), (1, .inl (.inl x1)), (2, .inl (.inl x2)), (3, .inl (.inl x3)), (4, .inl (.inl x4)), (5, .inl (.inl x5))], [], σ) (some (.inl (.inl res.1)), res.2)) (k66 : yS → Int → Int → Int → Int → Int → Int → Option (Int × yS)) (hk66 : ∀ (σ : yS) (x1 : Int) (x2 : Int) (x3 : Int) (x4 : Int) (x5 : Int) (x6 : Int) (res : Int × yS), k66 σ x1 x2 x3 x4 x5 x6 = some res → G_X7_best N X sh l rm (66, [(0, .inr (.inl 7, 0)), (1, .inl (.inl x1)), (2, .inl (.inl x2)), (3, .inl (.inl x3)), (4, .inl (.inl x4)), (5, .inl (.inl x5)), (6, .inl (.inl x6))], [], σ) (some (.inl (.inl res.1)), res.2)) (σ : yS) (x1 : Int) (x2 : Int) (x3 : Int) (x4 : Int) (x5 : Int) (x6 : Int) (res : Int × yS) (h : f_X7_best_b129 N k48 k66 σ x1 x2 x3 x4 x5 x6 = some res) : G_X7_best N X sh l rm (129, [(0, .inr (.inl 7, 0)), (1, .inl (.inl x1)), (2, .inl (.inl x2)), (3, .inl (.inl x3)), (4, .inl (.inl x4)), (5, .inl (.inl x5)), (6, .inl (.inl x6))], [], σ) (some (.inl (.inl res.1)), res.2) := by
  unfold f_X7_best_b129 at h
  refine yG_n (n := 2) (C' := (66, [(6, .inl (.inl (yad x6 1))), (0, .inr (.inl 7, 0)), (1, .inl (.inl x1)), (2, .inl (.inl x2)), (3, .inl (.inl x3)), (4, .inl (.inl x4)), (5, .inl (.inl x5))], [], σ)) rfl ?_
  exact yG_w [1, 2, 3, 4, 5, 6, 0] rfl (hk66 σ x1 x2 x3 x4 x5 (yad x6 1) res h)
set_option maxRecDepth 100000 in
set_option maxHeartbeats 4000000 in
theorem t_X7_best_b66 {N : Nat} {X : zXT} {sh : List yH} {l : Launch} {rm : Room} (k48 : yS → Int → Int → Int → Int → Int → Option (Int × yS)) (hk48 : ∀ (σ : yS) (x1 : Int) (x2 : Int) (x3 : Int) (x4 : Int) (x5 : Int) (res : Int × yS), k48 σ x1 x2 x3 x4 x5 = some res → G_X7_best N X sh l rm (48, [(0, .inr (.inl 7, 0)), (1, .inl (.inl x1)), (2, .inl (.inl x2)), (3, .inl (.inl x3)), (4, .inl (.inl x4)), (5, .inl (.inl x5))], [], σ) (some (.inl (.inl res.1)), res.2)) : ∀ (n : Nat) (σ : yS) (x1 : Int) (x2 : Int) (x3 : Int) (x4 : Int) (x5 : Int) (x6 : Int) (res : Int × yS), f_X7_best_b66 N k48 n σ x1 x2 x3 x4 x5 x6 = some res → G_X7_best N X sh l rm (66, [(0, .inr (.inl 7, 0)), (1, .inl (.inl x1)), (2, .inl (.inl x2)), (3, .inl (.inl x3)), (4, .inl (.inl x4)), (5, .inl (.inl x5)), (6, .inl (.inl x6))], [], σ) (some (.inl (.inl res.1)), res.2) := by
  intro n
  induction n with
  | zero => intro σ x1 x2 x3 x4 x5 x6 res h; exact (yno h).elim
  | succ n ih =>
    intro σ x1 x2 x3 x4 x5 x6 res h
    rw [q_X7_best_b66] at h
    refine yG_n (n := 4) (C' := (75, [(0, .inr (.inl 7, 0)), (1, .inl (.inl x1)), (2, .inl (.inl x2)), (3, .inl (.inl x3)), (4, .inl (.inl x4)), (5, .inl (.inl x5)), (6, .inl (.inl x6))], [.inl (.inl (σ.1 17 0)), .inl (.inl x6)], σ)) rfl ?_
    cases hg1 : ycP .ge x6 (σ.1 17 0) with
    | true =>
      rw [hg1] at h
      dsimp only [cond] at h
      refine yG_t (C' := (135, [(0, .inr (.inl 7, 0)), (1, .inl (.inl x1)), (2, .inl (.inl x2)), (3, .inl (.inl x3)), (4, .inl (.inl x4)), (5, .inl (.inl x5)), (6, .inl (.inl x6))], [], σ)) rfl hg1 ?_
      refine yG_n (n := 2) (C' := (48, [(5, .inl (.inl (yad x5 1))), (0, .inr (.inl 7, 0)), (1, .inl (.inl x1)), (2, .inl (.inl x2)), (3, .inl (.inl x3)), (4, .inl (.inl x4)), (6, .inl (.inl x6))], [], σ)) rfl ?_
      exact yG_w [1, 2, 3, 4, 5, 0] rfl (hk48 σ x1 x2 x3 x4 (yad x5 1) res h)
    | false =>
      rw [hg1] at h
      dsimp only [cond] at h
      refine yG_f (C' := (78, [(0, .inr (.inl 7, 0)), (1, .inl (.inl x1)), (2, .inl (.inl x2)), (3, .inl (.inl x3)), (4, .inl (.inl x4)), (5, .inl (.inl x5)), (6, .inl (.inl x6))], [], σ)) rfl hg1 ?_
      refine yG_n (n := 4) (C' := (86, [(0, .inr (.inl 7, 0)), (1, .inl (.inl x1)), (2, .inl (.inl x2)), (3, .inl (.inl x3)), (4, .inl (.inl x4)), (5, .inl (.inl x5)), (6, .inl (.inl x6))], [.inr (.inl 4, 17), .inr (.inl 4, 38)], σ)) rfl ?_
      cases hr2 : f_X4_copyFrom N σ 38 17 with
      | none => rw [hr2] at h; dsimp only at h; cases h
      | some r5 =>
        rw [hr2] at h
        dsimp only at h
        refine yG_c (C1 := (89, [(0, .inr (.inl 7, 0)), (1, .inl (.inl x1)), (2, .inl (.inl x2)), (3, .inl (.inl x3)), (4, .inl (.inl x4)), (5, .inl (.inl x5)), (6, .inl (.inl x6))], [], r5.2)) rfl (e_X4_copyFrom hr2) rfl ?_
        refine yG_n (n := 4) (C' := (97, [(0, .inr (.inl 7, 0)), (1, .inl (.inl x1)), (2, .inl (.inl x2)), (3, .inl (.inl x3)), (4, .inl (.inl x4)), (5, .inl (.inl x5)), (6, .inl (.inl x6))], [.inl (.inl x6), .inl (.inl x5), .inr (.inl 4, 38)], r5.2)) rfl ?_
        cases hr3 : f_X4_changeHouses N r5.2 38 x5 x6 with
        | none => rw [hr3] at h; dsimp only at h; cases h
        | some r6 =>
          rw [hr3] at h
          dsimp only at h
          refine yG_c (C1 := (100, [(0, .inr (.inl 7, 0)), (1, .inl (.inl x1)), (2, .inl (.inl x2)), (3, .inl (.inl x3)), (4, .inl (.inl x4)), (5, .inl (.inl x5)), (6, .inl (.inl x6))], [], r6.2)) rfl (e_X4_changeHouses hr3) rfl ?_
          refine yG_n (n := 3) (C' := (105, [(0, .inr (.inl 7, 0)), (1, .inl (.inl x1)), (2, .inl (.inl x2)), (3, .inl (.inl x3)), (4, .inl (.inl x4)), (5, .inl (.inl x5)), (6, .inl (.inl x6))], [.inl (.inl x1), .inr (.inl 4, 38)], r6.2)) rfl ?_
          cases hr4 : f_X4_passDays N r6.2 38 x1 with
          | none => rw [hr4] at h; dsimp only at h; cases h
          | some r7 =>
            rw [hr4] at h
            dsimp only at h
            refine yG_c (C1 := (108, [(0, .inr (.inl 7, 0)), (1, .inl (.inl x1)), (2, .inl (.inl x2)), (3, .inl (.inl x3)), (4, .inl (.inl x4)), (5, .inl (.inl x5)), (6, .inl (.inl x6))], [.inl (.inl r7.1)], r7.2)) rfl (e_X4_passDays hr4) rfl ?_
            refine yG_n (n := 3) (C' := (113, [(7, .inl (.inl r7.1)), (0, .inr (.inl 7, 0)), (1, .inl (.inl x1)), (2, .inl (.inl x2)), (3, .inl (.inl x3)), (4, .inl (.inl x4)), (5, .inl (.inl x5)), (6, .inl (.inl x6))], [.inl (.inl x3), .inl (.inl r7.1)], r7.2)) rfl ?_
            cases hg5 : ycP .le r7.1 x3 with
            | true =>
              rw [hg5] at h
              dsimp only [cond] at h
              refine yG_t (C' := (129, [(7, .inl (.inl r7.1)), (0, .inr (.inl 7, 0)), (1, .inl (.inl x1)), (2, .inl (.inl x2)), (3, .inl (.inl x3)), (4, .inl (.inl x4)), (5, .inl (.inl x5)), (6, .inl (.inl x6))], [], r7.2)) rfl hg5 ?_
              exact yG_w [1, 2, 3, 4, 5, 6, 7] rfl (t_X7_best_b129 k48 hk48 (f_X7_best_b66 N k48 n) ih r7.2 x1 x2 x3 x4 x5 x6 res h)
            | false =>
              rw [hg5] at h
              dsimp only [cond] at h
              refine yG_f (C' := (116, [(7, .inl (.inl r7.1)), (0, .inr (.inl 7, 0)), (1, .inl (.inl x1)), (2, .inl (.inl x2)), (3, .inl (.inl x3)), (4, .inl (.inl x4)), (5, .inl (.inl x5)), (6, .inl (.inl x6))], [], r7.2)) rfl hg5 ?_
              refine yG_n (n := 8) (C' := (129, [(4, .inl (.inl (yad (ymu 10 x5) x6))), (3, .inl (.inl r7.1)), (7, .inl (.inl r7.1)), (0, .inr (.inl 7, 0)), (1, .inl (.inl x1)), (2, .inl (.inl x2)), (5, .inl (.inl x5)), (6, .inl (.inl x6))], [], r7.2)) rfl ?_
              exact yG_w [3, 4, 5, 1, 0, 6, 7] rfl (t_X7_best_b129 k48 hk48 (f_X7_best_b66 N k48 n) ih r7.2 x1 x2 r7.1 (yad (ymu 10 x5) x6) x5 x6 res h)
set_option maxRecDepth 100000 in
set_option maxHeartbeats 4000000 in
theorem t_X7_best_b48 {N : Nat} {X : zXT} {sh : List yH} {l : Launch} {rm : Room} : ∀ (n : Nat) (σ : yS) (x1 : Int) (x2 : Int) (x3 : Int) (x4 : Int) (x5 : Int) (res : Int × yS), f_X7_best_b48 N n σ x1 x2 x3 x4 x5 = some res → G_X7_best N X sh l rm (48, [(0, .inr (.inl 7, 0)), (1, .inl (.inl x1)), (2, .inl (.inl x2)), (3, .inl (.inl x3)), (4, .inl (.inl x4)), (5, .inl (.inl x5))], [], σ) (some (.inl (.inl res.1)), res.2) := by
  intro n
  induction n with
  | zero => intro σ x1 x2 x3 x4 x5 res h; exact (yno h).elim
  | succ n ih =>
    intro σ x1 x2 x3 x4 x5 res h
    rw [q_X7_best_b48] at h
    refine yG_n (n := 4) (C' := (57, [(0, .inr (.inl 7, 0)), (1, .inl (.inl x1)), (2, .inl (.inl x2)), (3, .inl (.inl x3)), (4, .inl (.inl x4)), (5, .inl (.inl x5))], [.inl (.inl (σ.1 17 0)), .inl (.inl x5)], σ)) rfl ?_
    cases hg6 : ycP .ge x5 (σ.1 17 0) with
    | true =>
      rw [hg6] at h
      dsimp only [cond] at h
      refine yG_t (C' := (141, [(0, .inr (.inl 7, 0)), (1, .inl (.inl x1)), (2, .inl (.inl x2)), (3, .inl (.inl x3)), (4, .inl (.inl x4)), (5, .inl (.inl x5))], [], σ)) rfl hg6 ?_
      refine yG_n (n := 1) (C' := (142, [(0, .inr (.inl 7, 0)), (1, .inl (.inl x1)), (2, .inl (.inl x2)), (3, .inl (.inl x3)), (4, .inl (.inl x4)), (5, .inl (.inl x5))], [.inl (.inl x2)], σ)) rfl ?_
      cases hg7 : ycP .eq x2 0 with
      | true =>
        rw [hg7] at h
        dsimp only [cond] at h
        refine yG_t (C' := (152, [(0, .inr (.inl 7, 0)), (1, .inl (.inl x1)), (2, .inl (.inl x2)), (3, .inl (.inl x3)), (4, .inl (.inl x4)), (5, .inl (.inl x5))], [], σ)) rfl hg7 ?_
        exact yG_w [4] rfl (t_X7_best_b152 σ x4 res h)
      | false =>
        rw [hg7] at h
        dsimp only [cond] at h
        refine yG_f (C' := (145, [(0, .inr (.inl 7, 0)), (1, .inl (.inl x1)), (2, .inl (.inl x2)), (3, .inl (.inl x3)), (4, .inl (.inl x4)), (5, .inl (.inl x5))], [], σ)) rfl hg7 ?_
        refine yG_n (n := 2) (C' := (149, [(0, .inr (.inl 7, 0)), (1, .inl (.inl x1)), (2, .inl (.inl x2)), (3, .inl (.inl x3)), (4, .inl (.inl x4)), (5, .inl (.inl x5))], [.inl (.inl ((-4))), .inl (.inl x4)], σ)) rfl ?_
        cases hg8 : ycP .ne x4 ((-4)) with
        | true =>
          rw [hg8] at h
          dsimp only [cond] at h
          refine yG_t (C' := (157, [(0, .inr (.inl 7, 0)), (1, .inl (.inl x1)), (2, .inl (.inl x2)), (3, .inl (.inl x3)), (4, .inl (.inl x4)), (5, .inl (.inl x5))], [], σ)) rfl hg8 ?_
          refine yG_n (n := 1) (C' := (158, [(0, .inr (.inl 7, 0)), (1, .inl (.inl x1)), (2, .inl (.inl x2)), (3, .inl (.inl x3)), (4, .inl (.inl x4)), (5, .inl (.inl x5))], [.inl (.inl x3)], σ)) rfl ?_
          exact yG_w [] rfl (t_X7_best_b158 σ x3 res h)
        | false =>
          rw [hg8] at h
          dsimp only [cond] at h
          refine yG_f (C' := (152, [(0, .inr (.inl 7, 0)), (1, .inl (.inl x1)), (2, .inl (.inl x2)), (3, .inl (.inl x3)), (4, .inl (.inl x4)), (5, .inl (.inl x5))], [], σ)) rfl hg8 ?_
          exact yG_w [4] rfl (t_X7_best_b152 σ x4 res h)
    | false =>
      rw [hg6] at h
      dsimp only [cond] at h
      refine yG_f (C' := (60, [(0, .inr (.inl 7, 0)), (1, .inl (.inl x1)), (2, .inl (.inl x2)), (3, .inl (.inl x3)), (4, .inl (.inl x4)), (5, .inl (.inl x5))], [], σ)) rfl hg6 ?_
      refine yG_n (n := 4) (C' := (66, [(6, .inl (.inl (yad x5 1))), (0, .inr (.inl 7, 0)), (1, .inl (.inl x1)), (2, .inl (.inl x2)), (3, .inl (.inl x3)), (4, .inl (.inl x4)), (5, .inl (.inl x5))], [], σ)) rfl ?_
      exact yG_w [1, 2, 3, 4, 5, 6, 0] rfl (t_X7_best_b66 (f_X7_best_b48 N n) ih N σ x1 x2 x3 x4 x5 (yad x5 1) res h)
set_option maxRecDepth 100000 in
set_option maxHeartbeats 4000000 in
theorem t_X7_best {N : Nat} {X : zXT} {sh : List yH} {l : Launch} {rm : Room} (σ : yS) (x1 : Int) (x2 : Int) (res : Int × yS) (h : f_X7_best N σ x1 x2 = some res) : G_X7_best N X sh l rm (0, [(0, .inr (.inl 7, 0)), (1, .inl (.inl x1)), (2, .inl (.inl x2))], [], σ) (some (.inl (.inl res.1)), res.2) := by
  unfold f_X7_best at h
  refine yG_n (n := 3) (C' := (4, [(0, .inr (.inl 7, 0)), (1, .inl (.inl x1)), (2, .inl (.inl x2))], [.inl (.inl 20), .inl (.inl 1), .inl (.inl x1)], σ)) rfl ?_
  cases hr9 : f_X7_within N σ x1 1 20 with
  | none => rw [hr9] at h; dsimp only at h; cases h
  | some r1 =>
    rw [hr9] at h
    dsimp only at h
    refine yG_c (C1 := (7, [(0, .inr (.inl 7, 0)), (1, .inl (.inl x1)), (2, .inl (.inl x2))], [.inl (.inl r1.1)], r1.2)) rfl (e_X7_within hr9) rfl ?_
    cases hg10 : ycP .eq r1.1 0 with
    | true =>
      rw [hg10] at h
      dsimp only [cond] at h
      refine yG_t (C' := (19, [(0, .inr (.inl 7, 0)), (1, .inl (.inl x1)), (2, .inl (.inl x2))], [], r1.2)) rfl hg10 ?_
      exact yG_w [] rfl (t_X7_best_b19 r1.2 res h)
    | false =>
      rw [hg10] at h
      dsimp only [cond] at h
      refine yG_f (C' := (10, [(0, .inr (.inl 7, 0)), (1, .inl (.inl x1)), (2, .inl (.inl x2))], [], r1.2)) rfl hg10 ?_
      refine yG_n (n := 3) (C' := (13, [(0, .inr (.inl 7, 0)), (1, .inl (.inl x1)), (2, .inl (.inl x2))], [.inl (.inl 1), .inl (.inl 0), .inl (.inl x2)], r1.2)) rfl ?_
      cases hr11 : f_X7_within N r1.2 x2 0 1 with
      | none => rw [hr11] at h; dsimp only at h; cases h
      | some r2 =>
        rw [hr11] at h
        dsimp only at h
        refine yG_c (C1 := (16, [(0, .inr (.inl 7, 0)), (1, .inl (.inl x1)), (2, .inl (.inl x2))], [.inl (.inl r2.1)], r2.2)) rfl (e_X7_within hr11) rfl ?_
        cases hg12 : ycP .ne r2.1 0 with
        | true =>
          rw [hg12] at h
          dsimp only [cond] at h
          refine yG_t (C' := (21, [(0, .inr (.inl 7, 0)), (1, .inl (.inl x1)), (2, .inl (.inl x2))], [], r2.2)) rfl hg12 ?_
          refine yG_n (n := 4) (C' := (29, [(0, .inr (.inl 7, 0)), (1, .inl (.inl x1)), (2, .inl (.inl x2))], [.inr (.inl 4, 17), .inr (.inl 4, 38)], r2.2)) rfl ?_
          cases hr13 : f_X4_copyFrom N r2.2 38 17 with
          | none => rw [hr13] at h; dsimp only at h; cases h
          | some r3 =>
            rw [hr13] at h
            dsimp only at h
            refine yG_c (C1 := (32, [(0, .inr (.inl 7, 0)), (1, .inl (.inl x1)), (2, .inl (.inl x2))], [], r3.2)) rfl (e_X4_copyFrom hr13) rfl ?_
            refine yG_n (n := 3) (C' := (37, [(0, .inr (.inl 7, 0)), (1, .inl (.inl x1)), (2, .inl (.inl x2))], [.inl (.inl x1), .inr (.inl 4, 38)], r3.2)) rfl ?_
            cases hr14 : f_X4_passDays N r3.2 38 x1 with
            | none => rw [hr14] at h; dsimp only at h; cases h
            | some r4 =>
              rw [hr14] at h
              dsimp only at h
              refine yG_c (C1 := (40, [(0, .inr (.inl 7, 0)), (1, .inl (.inl x1)), (2, .inl (.inl x2))], [.inl (.inl r4.1)], r4.2)) rfl (e_X4_passDays hr14) rfl ?_
              refine yG_n (n := 5) (C' := (48, [(5, .inl (.inl 0)), (4, .inl (.inl ((-4)))), (3, .inl (.inl r4.1)), (0, .inr (.inl 7, 0)), (1, .inl (.inl x1)), (2, .inl (.inl x2))], [], r4.2)) rfl ?_
              exact yG_w [3, 4, 5, 2, 1, 0] rfl (t_X7_best_b48 N r4.2 x1 x2 r4.1 ((-4)) 0 res h)
        | false =>
          rw [hg12] at h
          dsimp only [cond] at h
          refine yG_f (C' := (19, [(0, .inr (.inl 7, 0)), (1, .inl (.inl x1)), (2, .inl (.inl x2))], [], r2.2)) rfl hg12 ?_
          exact yG_w [] rfl (t_X7_best_b19 r2.2 res h)
set_option maxRecDepth 100000 in
set_option maxHeartbeats 4000000 in
theorem m_X7_best {N : Nat} {X : zXT} (hX : zXok X) (hN : zXn X) (l : Launch) {sh : List yH} : yMet X vwCl yct sh l yX7_best wsX7_best { frames := 6, cells := 0, slots := 0, locals := 181 } (F_X7_best N) :=
  ymeth (tb := tb_X7_best N) (pr := pr_X7_best) (rt := 1) (own := RX7) hX (by decide +kernel) rfl rfl ⟨Nat.le_of_ble_eq_true rfl, Nat.le_of_ble_eq_true rfl⟩
    (zfl_all (List.forall_mem_cons.mpr ⟨zfl_X7 (fun w h => List.mem_cons_of_mem _ (List.mem_append_left _ (List.mem_append_left _ (List.mem_append_left _ (List.mem_append_right _ h))))) (List.mem_of_getElem? (i := 2) rfl) (by decide) (by decide), List.forall_mem_cons.mpr ⟨zfl_X7 (fun w h => List.mem_cons_of_mem _ (List.mem_append_left _ (List.mem_append_left _ (List.mem_append_left _ (List.mem_append_right _ h))))) (List.mem_of_getElem? (i := 1) rfl) (by decide) (by decide), List.forall_mem_cons.mpr ⟨zfl_X4 (fun w h => List.mem_cons_of_mem _ (List.mem_append_left _ (List.mem_append_left _ (List.mem_append_right _ h)))) (List.mem_of_getElem? (i := 3) rfl) (by decide) (by decide), fun _ h => absurd h List.not_mem_nil⟩⟩⟩))
    (zco_all (fun _ h => absurd h List.not_mem_nil)) (zlc_all (fun _ h => absurd h List.not_mem_nil))
    (List.forall_mem_cons.mpr ⟨ycal_V hX (m_X4_copyFrom hX hN l) rfl (fun s args hts => cwV 1 hts gX7_best_X4_copyFrom rfl rfl rfl (by decide +kernel) ⟨Nat.le_of_ble_eq_true rfl, Nat.le_of_ble_eq_true rfl⟩), List.forall_mem_cons.mpr ⟨ycal_V hX (m_X4_changeHouses hX hN l) rfl (fun s args hts => cwV 2 hts gX7_best_X4_changeHouses rfl rfl rfl (by decide +kernel) ⟨Nat.le_of_ble_eq_true rfl, Nat.le_of_ble_eq_true rfl⟩), List.forall_mem_cons.mpr ⟨ycal_V hX (m_X4_passDays hX hN l) rfl (fun s args hts => cwV 1 hts gX7_best_X4_passDays rfl rfl rfl (by decide +kernel) ⟨Nat.le_of_ble_eq_true rfl, Nat.le_of_ble_eq_true rfl⟩), fun _ h => absurd h List.not_mem_nil⟩⟩⟩)
    (List.forall_mem_cons.mpr ⟨ycal_S hX (m_X7_within hX hN l) (fun s args hts => va_cwS 3 hts gX7_best_X7_within rfl rfl rfl (by decide +kernel) ⟨Nat.le_of_ble_eq_true rfl, Nat.le_of_ble_eq_true rfl⟩), fun _ h => absurd h List.not_mem_nil⟩)
    (zmm_all (fun _ h => absurd h List.not_mem_nil)) (fun _ h => absurd h List.not_mem_nil) (zpr_all hp_X7_best) (fun as σ res h => by
      unfold F_X7_best at h
      split at h
      · rename_i x1 x2
        cases hr : f_X7_best N σ x1 x2 with
        | none => rw [hr] at h; cases h
        | some r =>
          rw [hr] at h
          cases h
          exact ⟨Nat.le_of_ble_eq_true rfl, t_X7_best σ x1 x2 r hr⟩
      · cases h)
end
