section
noncomputable def pr_X8_in : List (Nat × Instr × Nat) := [(0, .lload_n 0, 1), (1, .lload_n 2, 1), (2, .lcmp, 1), (3, .ifCond .lt 14, 3), (6, .lload_n 0, 1), (7, .lload 4, 2), (9, .lcmp, 1), (10, .ifCond .gt 7, 3), (13, .iconst 1, 1), (14, .goto 4, 3), (17, .iconst 0, 1), (18, .ireturn, 1)]
set_option maxRecDepth 100000 in
theorem hp_X8_in : pr_X8_in.all (fun x => decide (decode cX8_in x.1 = .ok x.2)) = true := by decide +kernel
noncomputable def f_X8_in_b18 (N : Nat) (σ : yS) (s0 : Int) : Option (Int × yS) :=
  bif yb1 s0 then some (s0, σ) else none
noncomputable def f_X8_in_b17 (N : Nat) (σ : yS) : Option (Int × yS) :=
  f_X8_in_b18 N σ 0
noncomputable def f_X8_in (N : Nat) (σ : yS) (x0 : Int) (x2 : Int) (x4 : Int) : Option (Int × yS) :=
  bif ycP .lt x0 x2 then
    f_X8_in_b17 N σ
  else
    bif ycP .gt x0 x4 then
      f_X8_in_b17 N σ
    else
      f_X8_in_b18 N σ 1
noncomputable def F_X8_in (N : Nat) : yF := fun as σ => match as with
  | [.inl (.inr x0), .inl (.inr x2), .inl (.inr x4)] => (f_X8_in N σ x0 x2 x4).map (fun r => (some (.inl (.inl r.1)), r.2))
  | _ => none
theorem e_X8_in {N : Nat} {σ : yS} {x0 : Int} {x2 : Int} {x4 : Int} {r : Int × yS} (h : f_X8_in N σ x0 x2 x4 = some r) : F_X8_in N [.inl (.inr x0), .inl (.inr x2), .inl (.inr x4)] σ = some (some (.inl (.inl r.1)), r.2) := by
  show (f_X8_in N σ x0 x2 x4).map (fun r => ((some (.inl (.inl r.1)), r.2) : yR)) = _
  rw [h]
  rfl
noncomputable def tb_X8_in (N : Nat) : yTb := ([], [], [], [], [], [], [])
abbrev G_X8_in (N : Nat) (X : zXT) (sh : List yH) (l : Launch) (rm : Room) : yC → yR → Prop := yGoes X vwCl yct sh l rm cX8_in 6 wsX8_in RX8 (tb_X8_in N) pr_X8_in 2
set_option maxRecDepth 100000 in
set_option maxHeartbeats 4000000 in
theorem t_X8_in_b18 {N : Nat} {X : zXT} {sh : List yH} {l : Launch} {rm : Room} (σ : yS) (s0 : Int) (res : Int × yS) (h : f_X8_in_b18 N σ s0 = some res) : G_X8_in N X sh l rm (18, [], [.inl (.inl s0)], σ) (some (.inl (.inl res.1)), res.2) := by
  unfold f_X8_in_b18 at h
  cases hg1 : yb1 s0 with
  | false => rw [hg1] at h; dsimp only [cond] at h; cases h
  | true =>
    rw [hg1] at h
    dsimp only [cond] at h
    have h := Option.some.inj h
    subst h
    dsimp only
    exact yG_r rfl hg1
set_option maxRecDepth 100000 in
set_option maxHeartbeats 4000000 in
theorem t_X8_in_b17 {N : Nat} {X : zXT} {sh : List yH} {l : Launch} {rm : Room} (σ : yS) (res : Int × yS) (h : f_X8_in_b17 N σ = some res) : G_X8_in N X sh l rm (17, [], [], σ) (some (.inl (.inl res.1)), res.2) := by
  unfold f_X8_in_b17 at h
  refine yG_n (n := 1) (C' := (18, [], [.inl (.inl 0)], σ)) rfl ?_
  exact t_X8_in_b18 σ 0 res h
set_option maxRecDepth 100000 in
set_option maxHeartbeats 4000000 in
theorem t_X8_in {N : Nat} {X : zXT} {sh : List yH} {l : Launch} {rm : Room} (σ : yS) (x0 : Int) (x2 : Int) (x4 : Int) (res : Int × yS) (h : f_X8_in N σ x0 x2 x4 = some res) : G_X8_in N X sh l rm (0, [(0, .inl (.inr x0)), (2, .inl (.inr x2)), (4, .inl (.inr x4))], [], σ) (some (.inl (.inl res.1)), res.2) := by
  unfold f_X8_in at h
  refine yG_n (n := 2) (C' := (2, [(0, .inl (.inr x0)), (2, .inl (.inr x2)), (4, .inl (.inr x4))], [.inl (.inr x2), .inl (.inr x0)], σ)) rfl ?_
  cases hg2 : ycP .lt x0 x2 with
  | true =>
    rw [hg2] at h
    dsimp only [cond] at h
    refine yG_t (C' := (17, [(0, .inl (.inr x0)), (2, .inl (.inr x2)), (4, .inl (.inr x4))], [], σ)) rfl hg2 ?_
    exact yG_w [] rfl (t_X8_in_b17 σ res h)
  | false =>
    rw [hg2] at h
    dsimp only [cond] at h
    refine yG_f (C' := (6, [(0, .inl (.inr x0)), (2, .inl (.inr x2)), (4, .inl (.inr x4))], [], σ)) rfl hg2 ?_
    refine yG_n (n := 2) (C' := (9, [(0, .inl (.inr x0)), (2, .inl (.inr x2)), (4, .inl (.inr x4))], [.inl (.inr x4), .inl (.inr x0)], σ)) rfl ?_
    cases hg3 : ycP .gt x0 x4 with
    | true =>
      rw [hg3] at h
      dsimp only [cond] at h
      refine yG_t (C' := (17, [(0, .inl (.inr x0)), (2, .inl (.inr x2)), (4, .inl (.inr x4))], [], σ)) rfl hg3 ?_
      exact yG_w [] rfl (t_X8_in_b17 σ res h)
    | false =>
      rw [hg3] at h
      dsimp only [cond] at h
      refine yG_f (C' := (13, [(0, .inl (.inr x0)), (2, .inl (.inr x2)), (4, .inl (.inr x4))], [], σ)) rfl hg3 ?_
      refine yG_n (n := 2) (C' := (18, [(0, .inl (.inr x0)), (2, .inl (.inr x2)), (4, .inl (.inr x4))], [.inl (.inl 1)], σ)) rfl ?_
      exact yG_w [] rfl (t_X8_in_b18 σ 1 res h)
set_option maxRecDepth 100000 in
set_option maxHeartbeats 4000000 in
theorem m_X8_in {N : Nat} {X : zXT} (hX : zXok X) (hN : zXn X) (l : Launch) {sh : List yH} : yMet X vwCl yct sh l yX8_in wsX8_in { frames := 1, cells := 0, slots := 0, locals := 64 } (F_X8_in N) :=
  ymeth (tb := tb_X8_in N) (pr := pr_X8_in) (rt := 2) (own := RX8) hX (by decide +kernel) rfl rfl ⟨Nat.le_of_ble_eq_true rfl, Nat.le_of_ble_eq_true rfl⟩
    (zfl_all (fun _ h => absurd h List.not_mem_nil))
    (zco_all (fun _ h => absurd h List.not_mem_nil)) (zlc_all (fun _ h => absurd h List.not_mem_nil))
    (fun _ h => absurd h List.not_mem_nil)
    (fun _ h => absurd h List.not_mem_nil)
    (zmm_all (fun _ h => absurd h List.not_mem_nil)) (fun _ h => absurd h List.not_mem_nil) (zpr_all hp_X8_in) (fun as σ res h => by
      unfold F_X8_in at h
      split at h
      · rename_i x0 x2 x4
        cases hr : f_X8_in N σ x0 x2 x4 with
        | none => rw [hr] at h; cases h
        | some r =>
          rw [hr] at h
          cases h
          exact ⟨Nat.le_of_ble_eq_true rfl, t_X8_in σ x0 x2 x4 r hr⟩
      · cases h)
noncomputable def pr_X8_isHouse : List (Nat × Instr × Nat) := [(0, .iload_n 1, 1), (1, .i2l, 1), (2, .lconst 0, 1), (3, .aload_n 0, 1), (4, .getfield 79, 3), (7, .iconst 1, 1), (8, .isub, 1), (9, .i2l, 1), (10, .invokestatic 90, 3), (13, .ireturn, 1)]
set_option maxRecDepth 100000 in
theorem hp_X8_isHouse : pr_X8_isHouse.all (fun x => decide (decode cX8_isHouse x.1 = .ok x.2)) = true := by decide +kernel
noncomputable def f_X8_isHouse (N : Nat) (σ : yS) (x1 : Int) : Option (Int × yS) :=
  match f_X8_in N σ x1 0 (ysu (σ.1 0 3) 1) with
  | none => none
  | some r1 => bif yb1 r1.1 then some (r1.1, r1.2) else none
noncomputable def F_X8_isHouse (N : Nat) : yF := fun as σ => match as with
  | [.inr (.inl 8, 0), .inl (.inl x1)] => (f_X8_isHouse N σ x1).map (fun r => (some (.inl (.inl r.1)), r.2))
  | _ => none
theorem e_X8_isHouse {N : Nat} {σ : yS} {x1 : Int} {r : Int × yS} (h : f_X8_isHouse N σ x1 = some r) : F_X8_isHouse N [.inr (.inl 8, 0), .inl (.inl x1)] σ = some (some (.inl (.inl r.1)), r.2) := by
  show (f_X8_isHouse N σ x1).map (fun r => ((some (.inl (.inl r.1)), r.2) : yR)) = _
  rw [h]
  rfl
noncomputable def tb_X8_isHouse (N : Nat) : yTb := ([(79, 8, 3, 0)], [], [], [], [(90, 3, F_X8_in N)], [], [])
abbrev G_X8_isHouse (N : Nat) (X : zXT) (sh : List yH) (l : Launch) (rm : Room) : yC → yR → Prop := yGoes X vwCl yct sh l rm cX8_isHouse 2 wsX8_isHouse RX8 (tb_X8_isHouse N) pr_X8_isHouse 2
set_option maxRecDepth 100000 in
set_option maxHeartbeats 4000000 in
theorem t_X8_isHouse {N : Nat} {X : zXT} {sh : List yH} {l : Launch} {rm : Room} (σ : yS) (x1 : Int) (res : Int × yS) (h : f_X8_isHouse N σ x1 = some res) : G_X8_isHouse N X sh l rm (0, [(0, .inr (.inl 8, 0)), (1, .inl (.inl x1))], [], σ) (some (.inl (.inl res.1)), res.2) := by
  unfold f_X8_isHouse at h
  refine yG_n (n := 8) (C' := (10, [(0, .inr (.inl 8, 0)), (1, .inl (.inl x1))], [.inl (.inr (ysu (σ.1 0 3) 1)), .inl (.inr 0), .inl (.inr x1)], σ)) rfl ?_
  cases hr1 : f_X8_in N σ x1 0 (ysu (σ.1 0 3) 1) with
  | none => rw [hr1] at h; dsimp only at h; cases h
  | some r1 =>
    rw [hr1] at h
    dsimp only at h
    refine yG_c (C1 := (13, [(0, .inr (.inl 8, 0)), (1, .inl (.inl x1))], [.inl (.inl r1.1)], r1.2)) rfl (e_X8_in hr1) rfl ?_
    cases hg2 : yb1 r1.1 with
    | false => rw [hg2] at h; dsimp only [cond] at h; cases h
    | true =>
      rw [hg2] at h
      dsimp only [cond] at h
      have h := Option.some.inj h
      subst h
      dsimp only
      exact yG_r rfl hg2
set_option maxRecDepth 100000 in
set_option maxHeartbeats 4000000 in
theorem m_X8_isHouse {N : Nat} {X : zXT} (hX : zXok X) (hN : zXn X) (l : Launch) {sh : List yH} : yMet X vwCl yct sh l yX8_isHouse wsX8_isHouse { frames := 2, cells := 0, slots := 0, locals := 89 } (F_X8_isHouse N) :=
  ymeth (tb := tb_X8_isHouse N) (pr := pr_X8_isHouse) (rt := 2) (own := RX8) hX (by decide +kernel) rfl rfl ⟨Nat.le_of_ble_eq_true rfl, Nat.le_of_ble_eq_true rfl⟩
    (zfl_all (List.forall_mem_cons.mpr ⟨zfl_X8 (fun w h => List.mem_cons_of_mem _ (List.mem_append_right _ h)) (List.mem_of_getElem? (i := 1) rfl) (by decide) (by decide), fun _ h => absurd h List.not_mem_nil⟩))
    (zco_all (fun _ h => absurd h List.not_mem_nil)) (zlc_all (fun _ h => absurd h List.not_mem_nil))
    (fun _ h => absurd h List.not_mem_nil)
    (List.forall_mem_cons.mpr ⟨ycal_S hX (m_X8_in hX hN l) (fun s args hts => va_cwS 3 hts gX8_isHouse_X8_in rfl rfl rfl (by decide +kernel) ⟨Nat.le_of_ble_eq_true rfl, Nat.le_of_ble_eq_true rfl⟩), fun _ h => absurd h List.not_mem_nil⟩)
    (zmm_all (fun _ h => absurd h List.not_mem_nil)) (fun _ h => absurd h List.not_mem_nil) (zpr_all hp_X8_isHouse) (fun as σ res h => by
      unfold F_X8_isHouse at h
      split at h
      · rename_i x1
        cases hr : f_X8_isHouse N σ x1 with
        | none => rw [hr] at h; cases h
        | some r =>
          rw [hr] at h
          cases h
          exact ⟨Nat.le_of_ble_eq_true rfl, t_X8_isHouse σ x1 r hr⟩
      · cases h)
noncomputable def pr_X8_isDeed : List (Nat × Instr × Nat) := [(0, .iload_n 1, 1), (1, .i2l, 1), (2, .lconst 0, 1), (3, .aload_n 0, 1), (4, .getfield 85, 3), (7, .iconst 1, 1), (8, .isub, 1), (9, .i2l, 1), (10, .invokestatic 90, 3), (13, .ireturn, 1)]
set_option maxRecDepth 100000 in
theorem hp_X8_isDeed : pr_X8_isDeed.all (fun x => decide (decode cX8_isDeed x.1 = .ok x.2)) = true := by decide +kernel
noncomputable def f_X8_isDeed (N : Nat) (σ : yS) (x1 : Int) : Option (Int × yS) :=
  match f_X8_in N σ x1 0 (ysu (σ.1 0 5) 1) with
  | none => none
  | some r1 => bif yb1 r1.1 then some (r1.1, r1.2) else none
noncomputable def F_X8_isDeed (N : Nat) : yF := fun as σ => match as with
  | [.inr (.inl 8, 0), .inl (.inl x1)] => (f_X8_isDeed N σ x1).map (fun r => (some (.inl (.inl r.1)), r.2))
  | _ => none
theorem e_X8_isDeed {N : Nat} {σ : yS} {x1 : Int} {r : Int × yS} (h : f_X8_isDeed N σ x1 = some r) : F_X8_isDeed N [.inr (.inl 8, 0), .inl (.inl x1)] σ = some (some (.inl (.inl r.1)), r.2) := by
  show (f_X8_isDeed N σ x1).map (fun r => ((some (.inl (.inl r.1)), r.2) : yR)) = _
  rw [h]
  rfl
noncomputable def tb_X8_isDeed (N : Nat) : yTb := ([(85, 8, 5, 0)], [], [], [], [(90, 3, F_X8_in N)], [], [])
abbrev G_X8_isDeed (N : Nat) (X : zXT) (sh : List yH) (l : Launch) (rm : Room) : yC → yR → Prop := yGoes X vwCl yct sh l rm cX8_isDeed 2 wsX8_isDeed RX8 (tb_X8_isDeed N) pr_X8_isDeed 2
set_option maxRecDepth 100000 in
set_option maxHeartbeats 4000000 in
theorem t_X8_isDeed {N : Nat} {X : zXT} {sh : List yH} {l : Launch} {rm : Room} (σ : yS) (x1 : Int) (res : Int × yS) (h : f_X8_isDeed N σ x1 = some res) : G_X8_isDeed N X sh l rm (0, [(0, .inr (.inl 8, 0)), (1, .inl (.inl x1))], [], σ) (some (.inl (.inl res.1)), res.2) := by
  unfold f_X8_isDeed at h
  refine yG_n (n := 8) (C' := (10, [(0, .inr (.inl 8, 0)), (1, .inl (.inl x1))], [.inl (.inr (ysu (σ.1 0 5) 1)), .inl (.inr 0), .inl (.inr x1)], σ)) rfl ?_
  cases hr1 : f_X8_in N σ x1 0 (ysu (σ.1 0 5) 1) with
  | none => rw [hr1] at h; dsimp only at h; cases h
  | some r1 =>
    rw [hr1] at h
    dsimp only at h
    refine yG_c (C1 := (13, [(0, .inr (.inl 8, 0)), (1, .inl (.inl x1))], [.inl (.inl r1.1)], r1.2)) rfl (e_X8_in hr1) rfl ?_
    cases hg2 : yb1 r1.1 with
    | false => rw [hg2] at h; dsimp only [cond] at h; cases h
    | true =>
      rw [hg2] at h
      dsimp only [cond] at h
      have h := Option.some.inj h
      subst h
      dsimp only
      exact yG_r rfl hg2
set_option maxRecDepth 100000 in
set_option maxHeartbeats 4000000 in
theorem m_X8_isDeed {N : Nat} {X : zXT} (hX : zXok X) (hN : zXn X) (l : Launch) {sh : List yH} : yMet X vwCl yct sh l yX8_isDeed wsX8_isDeed { frames := 2, cells := 0, slots := 0, locals := 89 } (F_X8_isDeed N) :=
  ymeth (tb := tb_X8_isDeed N) (pr := pr_X8_isDeed) (rt := 2) (own := RX8) hX (by decide +kernel) rfl rfl ⟨Nat.le_of_ble_eq_true rfl, Nat.le_of_ble_eq_true rfl⟩
    (zfl_all (List.forall_mem_cons.mpr ⟨zfl_X8 (fun w h => List.mem_cons_of_mem _ (List.mem_append_right _ h)) (List.mem_of_getElem? (i := 1) rfl) (by decide) (by decide), fun _ h => absurd h List.not_mem_nil⟩))
    (zco_all (fun _ h => absurd h List.not_mem_nil)) (zlc_all (fun _ h => absurd h List.not_mem_nil))
    (fun _ h => absurd h List.not_mem_nil)
    (List.forall_mem_cons.mpr ⟨ycal_S hX (m_X8_in hX hN l) (fun s args hts => va_cwS 3 hts gX8_isDeed_X8_in rfl rfl rfl (by decide +kernel) ⟨Nat.le_of_ble_eq_true rfl, Nat.le_of_ble_eq_true rfl⟩), fun _ h => absurd h List.not_mem_nil⟩)
    (zmm_all (fun _ h => absurd h List.not_mem_nil)) (fun _ h => absurd h List.not_mem_nil) (zpr_all hp_X8_isDeed) (fun as σ res h => by
      unfold F_X8_isDeed at h
      split at h
      · rename_i x1
        cases hr : f_X8_isDeed N σ x1 with
        | none => rw [hr] at h; cases h
        | some r =>
          rw [hr] at h
          cases h
          exact ⟨Nat.le_of_ble_eq_true rfl, t_X8_isDeed σ x1 r hr⟩
      · cases h)
noncomputable def pr_X8_starts : List (Nat × Instr × Nat) := [(0, .iconst 0, 1), (1, .istore_n 1, 1), (2, .iload_n 1, 1), (3, .sipush 131, 3), (6, .if_icmp .ge 21, 3), (9, .aload_n 0, 1), (10, .getfield 13, 3), (13, .iload_n 1, 1), (14, .aload_n 0, 1), (15, .getfield 7, 3), (18, .iload_n 1, 1), (19, .iaload, 1), (20, .iastore, 1), (21, .iinc 1 1, 3), (24, .goto (-22), 3), (27, .return_, 1)]
set_option maxRecDepth 100000 in
theorem hp_X8_starts : pr_X8_starts.all (fun x => decide (decode cX8_starts x.1 = .ok x.2)) = true := by decide +kernel
noncomputable def f_X8_starts_b2 (N : Nat) : Nat → yS → Int → Option (Int × yS) := yfix (fun _ _ => none) (fun ih σ x1 =>
    bif ycP .ge x1 131 then
      some (0, σ)
    else
      bif yin x1 393 then
        bif yin x1 131 then
          ih (yw σ 2 x1.toNat (σ.1 1 x1.toNat)) (yad x1 1)
        else none
      else none)
theorem q_X8_starts_b2 (N : Nat) (n : Nat) (σ : yS) (x1 : Int) : f_X8_starts_b2 N (n + 1) σ x1 =
    (bif ycP .ge x1 131 then
      some (0, σ)
    else
      bif yin x1 393 then
        bif yin x1 131 then
          (f_X8_starts_b2 N n) (yw σ 2 x1.toNat (σ.1 1 x1.toNat)) (yad x1 1)
        else none
      else none) := rfl
noncomputable def f_X8_starts (N : Nat) (σ : yS) : Option (Int × yS) :=
  f_X8_starts_b2 N N σ 0
noncomputable def F_X8_starts (N : Nat) : yF := fun as σ => match as with
  | [.inr (.inl 8, 0)] => (f_X8_starts N σ).map (fun r => (none, r.2))
  | _ => none
theorem e_X8_starts {N : Nat} {σ : yS} {r : Int × yS} (h : f_X8_starts N σ = some r) : F_X8_starts N [.inr (.inl 8, 0)] σ = some (none, r.2) := by
  show (f_X8_starts N σ).map (fun r => ((none, r.2) : yR)) = _
  rw [h]
  rfl
noncomputable def tb_X8_starts (N : Nat) : yTb := ([(7, 8, 0, 3), (13, 8, 1, 3)], [], [], [], [], [], [])
abbrev G_X8_starts (N : Nat) (X : zXT) (sh : List yH) (l : Launch) (rm : Room) : yC → yR → Prop := yGoes X vwCl yct sh l rm cX8_starts 2 wsX8_starts RX8 (tb_X8_starts N) pr_X8_starts 0
set_option maxRecDepth 100000 in
set_option maxHeartbeats 4000000 in
theorem t_X8_starts_b2 {N : Nat} {X : zXT} {sh : List yH} {l : Launch} {rm : Room} : ∀ (n : Nat) (σ : yS) (x1 : Int) (res : Int × yS), f_X8_starts_b2 N n σ x1 = some res → G_X8_starts N X sh l rm (2, [(0, .inr (.inl 8, 0)), (1, .inl (.inl x1))], [], σ) (none, res.2) := by
  intro n
  induction n with
  | zero => intro σ x1 res h; exact (yno h).elim
  | succ n ih =>
    intro σ x1 res h
    rw [q_X8_starts_b2] at h
    refine yG_n (n := 2) (C' := (6, [(0, .inr (.inl 8, 0)), (1, .inl (.inl x1))], [.inl (.inl 131), .inl (.inl x1)], σ)) rfl ?_
    cases hg1 : ycP .ge x1 131 with
    | true =>
      rw [hg1] at h
      dsimp only [cond] at h
      refine yG_t (C' := (27, [(0, .inr (.inl 8, 0)), (1, .inl (.inl x1))], [], σ)) rfl hg1 ?_
      have h := Option.some.inj h
      subst h
      dsimp only
      exact yG_r rfl rfl
    | false =>
      rw [hg1] at h
      dsimp only [cond] at h
      refine yG_f (C' := (9, [(0, .inr (.inl 8, 0)), (1, .inl (.inl x1))], [], σ)) rfl hg1 ?_
      refine yG_n (n := 6) (C' := (19, [(0, .inr (.inl 8, 0)), (1, .inl (.inl x1))], [.inl (.inl x1), .inr (.inr (0, 393), 1), .inl (.inl x1), .inr (.inr (0, 131), 2)], σ)) rfl ?_
      cases hg2 : yin x1 393 with
      | false => rw [hg2] at h; dsimp only [cond] at h; cases h
      | true =>
        rw [hg2] at h
        dsimp only [cond] at h
        refine yG_t (C' := (20, [(0, .inr (.inl 8, 0)), (1, .inl (.inl x1))], [.inl (.inl (σ.1 1 x1.toNat)), .inl (.inl x1), .inr (.inr (0, 131), 2)], σ)) rfl hg2 ?_
        cases hg3 : yin x1 131 with
        | false => rw [hg3] at h; dsimp only [cond] at h; cases h
        | true =>
          rw [hg3] at h
          dsimp only [cond] at h
          refine yG_t (C' := (21, [(0, .inr (.inl 8, 0)), (1, .inl (.inl x1))], [], yw σ 2 x1.toNat (σ.1 1 x1.toNat))) rfl hg3 ?_
          refine yG_n (n := 2) (C' := (2, [(1, .inl (.inl (yad x1 1))), (0, .inr (.inl 8, 0))], [], yw σ 2 x1.toNat (σ.1 1 x1.toNat))) rfl ?_
          exact yG_w [1, 0] rfl (ih (yw σ 2 x1.toNat (σ.1 1 x1.toNat)) (yad x1 1) res h)
set_option maxRecDepth 100000 in
set_option maxHeartbeats 4000000 in
theorem t_X8_starts {N : Nat} {X : zXT} {sh : List yH} {l : Launch} {rm : Room} (σ : yS) (res : Int × yS) (h : f_X8_starts N σ = some res) : G_X8_starts N X sh l rm (0, [(0, .inr (.inl 8, 0))], [], σ) (none, res.2) := by
  unfold f_X8_starts at h
  refine yG_n (n := 2) (C' := (2, [(1, .inl (.inl 0)), (0, .inr (.inl 8, 0))], [], σ)) rfl ?_
  exact yG_w [1, 0] rfl (t_X8_starts_b2 N σ 0 res h)
set_option maxRecDepth 100000 in
set_option maxHeartbeats 4000000 in
theorem m_X8_starts {N : Nat} {X : zXT} (hX : zXok X) (hN : zXn X) (l : Launch) {sh : List yH} : yMet X vwCl yct sh l yX8_starts wsX8_starts { frames := 1, cells := 0, slots := 0, locals := 64 } (F_X8_starts N) :=
  ymeth (tb := tb_X8_starts N) (pr := pr_X8_starts) (rt := 0) (own := RX8) hX (by decide +kernel) rfl rfl ⟨Nat.le_of_ble_eq_true rfl, Nat.le_of_ble_eq_true rfl⟩
    (zfl_all (List.forall_mem_cons.mpr ⟨zfl_X8 (fun w h => List.mem_cons_of_mem _ (List.mem_append_right _ h)) (List.mem_of_getElem? (i := 2) rfl) (by decide) (by decide), List.forall_mem_cons.mpr ⟨zfl_X8 (fun w h => List.mem_cons_of_mem _ (List.mem_append_right _ h)) (List.mem_of_getElem? (i := 1) rfl) (by decide) (by decide), fun _ h => absurd h List.not_mem_nil⟩⟩))
    (zco_all (fun _ h => absurd h List.not_mem_nil)) (zlc_all (fun _ h => absurd h List.not_mem_nil))
    (fun _ h => absurd h List.not_mem_nil)
    (fun _ h => absurd h List.not_mem_nil)
    (zmm_all (fun _ h => absurd h List.not_mem_nil)) (fun _ h => absurd h List.not_mem_nil) (zpr_all hp_X8_starts) (fun as σ res h => by
      unfold F_X8_starts at h
      split at h
      · cases hr : f_X8_starts N σ with
        | none => rw [hr] at h; cases h
        | some r =>
          rw [hr] at h
          cases h
          exact ⟨Nat.le_of_ble_eq_true rfl, t_X8_starts σ r hr⟩
      · cases h)
noncomputable def pr_X8_fallsOf : List (Nat × Instr × Nat) := [(0, .iload_n 0, 1), (1, .iconst 3, 1), (2, .if_icmp .ne 7, 3), (5, .iconst 2, 1), (6, .goto 4, 3), (9, .iconst 1, 1), (10, .ireturn, 1)]
set_option maxRecDepth 100000 in
theorem hp_X8_fallsOf : pr_X8_fallsOf.all (fun x => decide (decode cX8_fallsOf x.1 = .ok x.2)) = true := by decide +kernel
noncomputable def f_X8_fallsOf_b10 (N : Nat) (σ : yS) (s0 : Int) : Option (Int × yS) :=
  some (s0, σ)
noncomputable def f_X8_fallsOf (N : Nat) (σ : yS) (x0 : Int) : Option (Int × yS) :=
  bif ycP .ne x0 3 then
    f_X8_fallsOf_b10 N σ 1
  else
    f_X8_fallsOf_b10 N σ 2
noncomputable def F_X8_fallsOf (N : Nat) : yF := fun as σ => match as with
  | [.inl (.inl x0)] => (f_X8_fallsOf N σ x0).map (fun r => (some (.inl (.inl r.1)), r.2))
  | _ => none
theorem e_X8_fallsOf {N : Nat} {σ : yS} {x0 : Int} {r : Int × yS} (h : f_X8_fallsOf N σ x0 = some r) : F_X8_fallsOf N [.inl (.inl x0)] σ = some (some (.inl (.inl r.1)), r.2) := by
  show (f_X8_fallsOf N σ x0).map (fun r => ((some (.inl (.inl r.1)), r.2) : yR)) = _
  rw [h]
  rfl
noncomputable def tb_X8_fallsOf (N : Nat) : yTb := ([], [], [], [], [], [], [])
abbrev G_X8_fallsOf (N : Nat) (X : zXT) (sh : List yH) (l : Launch) (rm : Room) : yC → yR → Prop := yGoes X vwCl yct sh l rm cX8_fallsOf 1 wsX8_fallsOf RX8 (tb_X8_fallsOf N) pr_X8_fallsOf 1
set_option maxRecDepth 100000 in
set_option maxHeartbeats 4000000 in
theorem t_X8_fallsOf_b10 {N : Nat} {X : zXT} {sh : List yH} {l : Launch} {rm : Room} (σ : yS) (s0 : Int) (res : Int × yS) (h : f_X8_fallsOf_b10 N σ s0 = some res) : G_X8_fallsOf N X sh l rm (10, [], [.inl (.inl s0)], σ) (some (.inl (.inl res.1)), res.2) := by
  unfold f_X8_fallsOf_b10 at h
  have h := Option.some.inj h
  subst h
  dsimp only
  exact yG_r rfl rfl
set_option maxRecDepth 100000 in
set_option maxHeartbeats 4000000 in
theorem t_X8_fallsOf {N : Nat} {X : zXT} {sh : List yH} {l : Launch} {rm : Room} (σ : yS) (x0 : Int) (res : Int × yS) (h : f_X8_fallsOf N σ x0 = some res) : G_X8_fallsOf N X sh l rm (0, [(0, .inl (.inl x0))], [], σ) (some (.inl (.inl res.1)), res.2) := by
  unfold f_X8_fallsOf at h
  refine yG_n (n := 2) (C' := (2, [(0, .inl (.inl x0))], [.inl (.inl 3), .inl (.inl x0)], σ)) rfl ?_
  cases hg1 : ycP .ne x0 3 with
  | true =>
    rw [hg1] at h
    dsimp only [cond] at h
    refine yG_t (C' := (9, [(0, .inl (.inl x0))], [], σ)) rfl hg1 ?_
    refine yG_n (n := 1) (C' := (10, [(0, .inl (.inl x0))], [.inl (.inl 1)], σ)) rfl ?_
    exact yG_w [] rfl (t_X8_fallsOf_b10 σ 1 res h)
  | false =>
    rw [hg1] at h
    dsimp only [cond] at h
    refine yG_f (C' := (5, [(0, .inl (.inl x0))], [], σ)) rfl hg1 ?_
    refine yG_n (n := 2) (C' := (10, [(0, .inl (.inl x0))], [.inl (.inl 2)], σ)) rfl ?_
    exact yG_w [] rfl (t_X8_fallsOf_b10 σ 2 res h)
set_option maxRecDepth 100000 in
set_option maxHeartbeats 4000000 in
theorem m_X8_fallsOf {N : Nat} {X : zXT} (hX : zXok X) (hN : zXn X) (l : Launch) {sh : List yH} : yMet X vwCl yct sh l yX8_fallsOf wsX8_fallsOf { frames := 1, cells := 0, slots := 0, locals := 64 } (F_X8_fallsOf N) :=
  ymeth (tb := tb_X8_fallsOf N) (pr := pr_X8_fallsOf) (rt := 1) (own := RX8) hX (by decide +kernel) rfl rfl ⟨Nat.le_of_ble_eq_true rfl, Nat.le_of_ble_eq_true rfl⟩
    (zfl_all (fun _ h => absurd h List.not_mem_nil))
    (zco_all (fun _ h => absurd h List.not_mem_nil)) (zlc_all (fun _ h => absurd h List.not_mem_nil))
    (fun _ h => absurd h List.not_mem_nil)
    (fun _ h => absurd h List.not_mem_nil)
    (zmm_all (fun _ h => absurd h List.not_mem_nil)) (fun _ h => absurd h List.not_mem_nil) (zpr_all hp_X8_fallsOf) (fun as σ res h => by
      unfold F_X8_fallsOf at h
      split at h
      · rename_i x0
        cases hr : f_X8_fallsOf N σ x0 with
        | none => rw [hr] at h; cases h
        | some r =>
          rw [hr] at h
          cases h
          exact ⟨Nat.le_of_ble_eq_true rfl, t_X8_fallsOf σ x0 r hr⟩
      · cases h)
noncomputable def pr_X8_byOf : List (Nat × Instr × Nat) := [(0, .iload_n 0, 1), (1, .iconst 3, 1), (2, .if_icmp .ne 13, 3), (5, .iload_n 1, 1), (6, .ifCond .ne 7, 3), (9, .iconst (-1), 1), (10, .goto 4, 3), (13, .iconst 1, 1), (14, .ireturn, 1), (15, .iload_n 0, 1), (16, .iconst 1, 1), (17, .if_icmp .ne 7, 3), (20, .iconst (-1), 1), (21, .goto 13, 3), (24, .iload_n 0, 1), (25, .iconst 2, 1), (26, .if_icmp .ne 7, 3), (29, .iconst 2, 1), (30, .goto 4, 3), (33, .iconst 1, 1), (34, .ireturn, 1)]
set_option maxRecDepth 100000 in
theorem hp_X8_byOf : pr_X8_byOf.all (fun x => decide (decode cX8_byOf x.1 = .ok x.2)) = true := by decide +kernel
noncomputable def f_X8_byOf_b34 (N : Nat) (σ : yS) (s0 : Int) : Option (Int × yS) :=
  some (s0, σ)
noncomputable def f_X8_byOf_b14 (N : Nat) (σ : yS) (s0 : Int) : Option (Int × yS) :=
  some (s0, σ)
noncomputable def f_X8_byOf (N : Nat) (σ : yS) (x0 : Int) (x1 : Int) : Option (Int × yS) :=
  bif ycP .ne x0 3 then
    bif ycP .ne x0 1 then
      bif ycP .ne x0 2 then
        f_X8_byOf_b34 N σ 1
      else
        f_X8_byOf_b34 N σ 2
    else
      f_X8_byOf_b34 N σ ((-1))
  else
    bif ycP .ne x1 0 then
      f_X8_byOf_b14 N σ 1
    else
      f_X8_byOf_b14 N σ ((-1))
noncomputable def F_X8_byOf (N : Nat) : yF := fun as σ => match as with
  | [.inl (.inl x0), .inl (.inl x1)] => (f_X8_byOf N σ x0 x1).map (fun r => (some (.inl (.inl r.1)), r.2))
  | _ => none
theorem e_X8_byOf {N : Nat} {σ : yS} {x0 : Int} {x1 : Int} {r : Int × yS} (h : f_X8_byOf N σ x0 x1 = some r) : F_X8_byOf N [.inl (.inl x0), .inl (.inl x1)] σ = some (some (.inl (.inl r.1)), r.2) := by
  show (f_X8_byOf N σ x0 x1).map (fun r => ((some (.inl (.inl r.1)), r.2) : yR)) = _
  rw [h]
  rfl
noncomputable def tb_X8_byOf (N : Nat) : yTb := ([], [], [], [], [], [], [])
abbrev G_X8_byOf (N : Nat) (X : zXT) (sh : List yH) (l : Launch) (rm : Room) : yC → yR → Prop := yGoes X vwCl yct sh l rm cX8_byOf 2 wsX8_byOf RX8 (tb_X8_byOf N) pr_X8_byOf 1
set_option maxRecDepth 100000 in
set_option maxHeartbeats 4000000 in
theorem t_X8_byOf_b34 {N : Nat} {X : zXT} {sh : List yH} {l : Launch} {rm : Room} (σ : yS) (s0 : Int) (res : Int × yS) (h : f_X8_byOf_b34 N σ s0 = some res) : G_X8_byOf N X sh l rm (34, [], [.inl (.inl s0)], σ) (some (.inl (.inl res.1)), res.2) := by
  unfold f_X8_byOf_b34 at h
  have h := Option.some.inj h
  subst h
  dsimp only
  exact yG_r rfl rfl
set_option maxRecDepth 100000 in
set_option maxHeartbeats 4000000 in
theorem t_X8_byOf_b14 {N : Nat} {X : zXT} {sh : List yH} {l : Launch} {rm : Room} (σ : yS) (s0 : Int) (res : Int × yS) (h : f_X8_byOf_b14 N σ s0 = some res) : G_X8_byOf N X sh l rm (14, [], [.inl (.inl s0)], σ) (some (.inl (.inl res.1)), res.2) := by
  unfold f_X8_byOf_b14 at h
  have h := Option.some.inj h
  subst h
  dsimp only
  exact yG_r rfl rfl
set_option maxRecDepth 100000 in
set_option maxHeartbeats 4000000 in
theorem t_X8_byOf {N : Nat} {X : zXT} {sh : List yH} {l : Launch} {rm : Room} (σ : yS) (x0 : Int) (x1 : Int) (res : Int × yS) (h : f_X8_byOf N σ x0 x1 = some res) : G_X8_byOf N X sh l rm (0, [(0, .inl (.inl x0)), (1, .inl (.inl x1))], [], σ) (some (.inl (.inl res.1)), res.2) := by
  unfold f_X8_byOf at h
  refine yG_n (n := 2) (C' := (2, [(0, .inl (.inl x0)), (1, .inl (.inl x1))], [.inl (.inl 3), .inl (.inl x0)], σ)) rfl ?_
  cases hg1 : ycP .ne x0 3 with
  | true =>
    rw [hg1] at h
    dsimp only [cond] at h
    refine yG_t (C' := (15, [(0, .inl (.inl x0)), (1, .inl (.inl x1))], [], σ)) rfl hg1 ?_
    refine yG_n (n := 2) (C' := (17, [(0, .inl (.inl x0)), (1, .inl (.inl x1))], [.inl (.inl 1), .inl (.inl x0)], σ)) rfl ?_
    cases hg2 : ycP .ne x0 1 with
    | true =>
      rw [hg2] at h
      dsimp only [cond] at h
      refine yG_t (C' := (24, [(0, .inl (.inl x0)), (1, .inl (.inl x1))], [], σ)) rfl hg2 ?_
      refine yG_n (n := 2) (C' := (26, [(0, .inl (.inl x0)), (1, .inl (.inl x1))], [.inl (.inl 2), .inl (.inl x0)], σ)) rfl ?_
      cases hg3 : ycP .ne x0 2 with
      | true =>
        rw [hg3] at h
        dsimp only [cond] at h
        refine yG_t (C' := (33, [(0, .inl (.inl x0)), (1, .inl (.inl x1))], [], σ)) rfl hg3 ?_
        refine yG_n (n := 1) (C' := (34, [(0, .inl (.inl x0)), (1, .inl (.inl x1))], [.inl (.inl 1)], σ)) rfl ?_
        exact yG_w [] rfl (t_X8_byOf_b34 σ 1 res h)
      | false =>
        rw [hg3] at h
        dsimp only [cond] at h
        refine yG_f (C' := (29, [(0, .inl (.inl x0)), (1, .inl (.inl x1))], [], σ)) rfl hg3 ?_
        refine yG_n (n := 2) (C' := (34, [(0, .inl (.inl x0)), (1, .inl (.inl x1))], [.inl (.inl 2)], σ)) rfl ?_
        exact yG_w [] rfl (t_X8_byOf_b34 σ 2 res h)
    | false =>
      rw [hg2] at h
      dsimp only [cond] at h
      refine yG_f (C' := (20, [(0, .inl (.inl x0)), (1, .inl (.inl x1))], [], σ)) rfl hg2 ?_
      refine yG_n (n := 2) (C' := (34, [(0, .inl (.inl x0)), (1, .inl (.inl x1))], [.inl (.inl ((-1)))], σ)) rfl ?_
      exact yG_w [] rfl (t_X8_byOf_b34 σ ((-1)) res h)
  | false =>
    rw [hg1] at h
    dsimp only [cond] at h
    refine yG_f (C' := (5, [(0, .inl (.inl x0)), (1, .inl (.inl x1))], [], σ)) rfl hg1 ?_
    refine yG_n (n := 1) (C' := (6, [(0, .inl (.inl x0)), (1, .inl (.inl x1))], [.inl (.inl x1)], σ)) rfl ?_
    cases hg4 : ycP .ne x1 0 with
    | true =>
      rw [hg4] at h
      dsimp only [cond] at h
      refine yG_t (C' := (13, [(0, .inl (.inl x0)), (1, .inl (.inl x1))], [], σ)) rfl hg4 ?_
      refine yG_n (n := 1) (C' := (14, [(0, .inl (.inl x0)), (1, .inl (.inl x1))], [.inl (.inl 1)], σ)) rfl ?_
      exact yG_w [] rfl (t_X8_byOf_b14 σ 1 res h)
    | false =>
      rw [hg4] at h
      dsimp only [cond] at h
      refine yG_f (C' := (9, [(0, .inl (.inl x0)), (1, .inl (.inl x1))], [], σ)) rfl hg4 ?_
      refine yG_n (n := 2) (C' := (14, [(0, .inl (.inl x0)), (1, .inl (.inl x1))], [.inl (.inl ((-1)))], σ)) rfl ?_
      exact yG_w [] rfl (t_X8_byOf_b14 σ ((-1)) res h)
set_option maxRecDepth 100000 in
set_option maxHeartbeats 4000000 in
theorem m_X8_byOf {N : Nat} {X : zXT} (hX : zXok X) (hN : zXn X) (l : Launch) {sh : List yH} : yMet X vwCl yct sh l yX8_byOf wsX8_byOf { frames := 1, cells := 0, slots := 0, locals := 64 } (F_X8_byOf N) :=
  ymeth (tb := tb_X8_byOf N) (pr := pr_X8_byOf) (rt := 1) (own := RX8) hX (by decide +kernel) rfl rfl ⟨Nat.le_of_ble_eq_true rfl, Nat.le_of_ble_eq_true rfl⟩
    (zfl_all (fun _ h => absurd h List.not_mem_nil))
    (zco_all (fun _ h => absurd h List.not_mem_nil)) (zlc_all (fun _ h => absurd h List.not_mem_nil))
    (fun _ h => absurd h List.not_mem_nil)
    (fun _ h => absurd h List.not_mem_nil)
    (zmm_all (fun _ h => absurd h List.not_mem_nil)) (fun _ h => absurd h List.not_mem_nil) (zpr_all hp_X8_byOf) (fun as σ res h => by
      unfold F_X8_byOf at h
      split at h
      · rename_i x0 x1
        cases hr : f_X8_byOf N σ x0 x1 with
        | none => rw [hr] at h; cases h
        | some r =>
          rw [hr] at h
          cases h
          exact ⟨Nat.le_of_ble_eq_true rfl, t_X8_byOf σ x0 x1 r hr⟩
      · cases h)
noncomputable def pr_X8_off : List (Nat × Instr × Nat) := [(0, .iload_n 1, 1), (1, .iload_n 2, 1), (2, .iadd, 1), (3, .istore_n 3, 1), (4, .aload_n 0, 1), (5, .getfield 82, 3), (8, .ifCond .eq 15, 3), (11, .iload_n 3, 1), (12, .aload_n 0, 1), (13, .getfield 79, 3), (16, .iadd, 1), (17, .aload_n 0, 1), (18, .getfield 79, 3), (21, .irem, 1), (22, .ireturn, 1), (23, .iload_n 3, 1), (24, .i2l, 1), (25, .lconst 0, 1), (26, .aload_n 0, 1), (27, .getfield 79, 3), (30, .iconst 1, 1), (31, .isub, 1), (32, .i2l, 1), (33, .invokestatic 90, 3), (36, .ifCond .eq 7, 3), (39, .iload_n 3, 1), (40, .goto 5, 3), (43, .bipush (-4), 2), (45, .ireturn, 1)]
set_option maxRecDepth 100000 in
theorem hp_X8_off : pr_X8_off.all (fun x => decide (decode cX8_off x.1 = .ok x.2)) = true := by decide +kernel
noncomputable def f_X8_off_b45 (N : Nat) (σ : yS) (s0 : Int) : Option (Int × yS) :=
  some (s0, σ)
noncomputable def f_X8_off (N : Nat) (σ : yS) (x1 : Int) (x2 : Int) : Option (Int × yS) :=
  bif ycP .eq (σ.1 0 4) 0 then
    match f_X8_in N σ (yad x1 x2) 0 (ysu (σ.1 0 3) 1) with
    | none => none
    | some r1 => bif ycP .eq r1.1 0 then
        f_X8_off_b45 N r1.2 ((-4))
      else
        f_X8_off_b45 N r1.2 (yad x1 x2)
  else
    bif ynz (σ.1 0 3) then
      some (yrm (yad (yad x1 x2) (σ.1 0 3)) (σ.1 0 3), σ)
    else none
noncomputable def F_X8_off (N : Nat) : yF := fun as σ => match as with
  | [.inr (.inl 8, 0), .inl (.inl x1), .inl (.inl x2)] => (f_X8_off N σ x1 x2).map (fun r => (some (.inl (.inl r.1)), r.2))
  | _ => none
theorem e_X8_off {N : Nat} {σ : yS} {x1 : Int} {x2 : Int} {r : Int × yS} (h : f_X8_off N σ x1 x2 = some r) : F_X8_off N [.inr (.inl 8, 0), .inl (.inl x1), .inl (.inl x2)] σ = some (some (.inl (.inl r.1)), r.2) := by
  show (f_X8_off N σ x1 x2).map (fun r => ((some (.inl (.inl r.1)), r.2) : yR)) = _
  rw [h]
  rfl
noncomputable def tb_X8_off (N : Nat) : yTb := ([(79, 8, 3, 0), (82, 8, 4, 1)], [], [], [], [(90, 3, F_X8_in N)], [], [])
abbrev G_X8_off (N : Nat) (X : zXT) (sh : List yH) (l : Launch) (rm : Room) : yC → yR → Prop := yGoes X vwCl yct sh l rm cX8_off 4 wsX8_off RX8 (tb_X8_off N) pr_X8_off 1
set_option maxRecDepth 100000 in
set_option maxHeartbeats 4000000 in
theorem t_X8_off_b45 {N : Nat} {X : zXT} {sh : List yH} {l : Launch} {rm : Room} (σ : yS) (s0 : Int) (res : Int × yS) (h : f_X8_off_b45 N σ s0 = some res) : G_X8_off N X sh l rm (45, [], [.inl (.inl s0)], σ) (some (.inl (.inl res.1)), res.2) := by
  unfold f_X8_off_b45 at h
  have h := Option.some.inj h
  subst h
  dsimp only
  exact yG_r rfl rfl
set_option maxRecDepth 100000 in
set_option maxHeartbeats 4000000 in
theorem t_X8_off {N : Nat} {X : zXT} {sh : List yH} {l : Launch} {rm : Room} (σ : yS) (x1 : Int) (x2 : Int) (res : Int × yS) (h : f_X8_off N σ x1 x2 = some res) : G_X8_off N X sh l rm (0, [(0, .inr (.inl 8, 0)), (1, .inl (.inl x1)), (2, .inl (.inl x2))], [], σ) (some (.inl (.inl res.1)), res.2) := by
  unfold f_X8_off at h
  refine yG_n (n := 6) (C' := (8, [(3, .inl (.inl (yad x1 x2))), (0, .inr (.inl 8, 0)), (1, .inl (.inl x1)), (2, .inl (.inl x2))], [.inl (.inl (σ.1 0 4))], σ)) rfl ?_
  cases hg1 : ycP .eq (σ.1 0 4) 0 with
  | true =>
    rw [hg1] at h
    dsimp only [cond] at h
    refine yG_t (C' := (23, [(3, .inl (.inl (yad x1 x2))), (0, .inr (.inl 8, 0)), (1, .inl (.inl x1)), (2, .inl (.inl x2))], [], σ)) rfl hg1 ?_
    refine yG_n (n := 8) (C' := (33, [(3, .inl (.inl (yad x1 x2))), (0, .inr (.inl 8, 0)), (1, .inl (.inl x1)), (2, .inl (.inl x2))], [.inl (.inr (ysu (σ.1 0 3) 1)), .inl (.inr 0), .inl (.inr (yad x1 x2))], σ)) rfl ?_
    cases hr2 : f_X8_in N σ (yad x1 x2) 0 (ysu (σ.1 0 3) 1) with
    | none => rw [hr2] at h; dsimp only at h; cases h
    | some r1 =>
      rw [hr2] at h
      dsimp only at h
      refine yG_c (C1 := (36, [(3, .inl (.inl (yad x1 x2))), (0, .inr (.inl 8, 0)), (1, .inl (.inl x1)), (2, .inl (.inl x2))], [.inl (.inl r1.1)], r1.2)) rfl (e_X8_in hr2) rfl ?_
      cases hg3 : ycP .eq r1.1 0 with
      | true =>
        rw [hg3] at h
        dsimp only [cond] at h
        refine yG_t (C' := (43, [(3, .inl (.inl (yad x1 x2))), (0, .inr (.inl 8, 0)), (1, .inl (.inl x1)), (2, .inl (.inl x2))], [], r1.2)) rfl hg3 ?_
        refine yG_n (n := 1) (C' := (45, [(3, .inl (.inl (yad x1 x2))), (0, .inr (.inl 8, 0)), (1, .inl (.inl x1)), (2, .inl (.inl x2))], [.inl (.inl ((-4)))], r1.2)) rfl ?_
        exact yG_w [] rfl (t_X8_off_b45 r1.2 ((-4)) res h)
      | false =>
        rw [hg3] at h
        dsimp only [cond] at h
        refine yG_f (C' := (39, [(3, .inl (.inl (yad x1 x2))), (0, .inr (.inl 8, 0)), (1, .inl (.inl x1)), (2, .inl (.inl x2))], [], r1.2)) rfl hg3 ?_
        refine yG_n (n := 2) (C' := (45, [(3, .inl (.inl (yad x1 x2))), (0, .inr (.inl 8, 0)), (1, .inl (.inl x1)), (2, .inl (.inl x2))], [.inl (.inl (yad x1 x2))], r1.2)) rfl ?_
        exact yG_w [] rfl (t_X8_off_b45 r1.2 (yad x1 x2) res h)
  | false =>
    rw [hg1] at h
    dsimp only [cond] at h
    refine yG_f (C' := (11, [(3, .inl (.inl (yad x1 x2))), (0, .inr (.inl 8, 0)), (1, .inl (.inl x1)), (2, .inl (.inl x2))], [], σ)) rfl hg1 ?_
    refine yG_n (n := 6) (C' := (21, [(3, .inl (.inl (yad x1 x2))), (0, .inr (.inl 8, 0)), (1, .inl (.inl x1)), (2, .inl (.inl x2))], [.inl (.inl (σ.1 0 3)), .inl (.inl (yad (yad x1 x2) (σ.1 0 3)))], σ)) rfl ?_
    cases hg4 : ynz (σ.1 0 3) with
    | false => rw [hg4] at h; dsimp only [cond] at h; cases h
    | true =>
      rw [hg4] at h
      dsimp only [cond] at h
      refine yG_t (C' := (22, [(3, .inl (.inl (yad x1 x2))), (0, .inr (.inl 8, 0)), (1, .inl (.inl x1)), (2, .inl (.inl x2))], [.inl (.inl (yrm (yad (yad x1 x2) (σ.1 0 3)) (σ.1 0 3)))], σ)) rfl hg4 ?_
      have h := Option.some.inj h
      subst h
      dsimp only
      exact yG_r rfl rfl
set_option maxRecDepth 100000 in
set_option maxHeartbeats 4000000 in
theorem m_X8_off {N : Nat} {X : zXT} (hX : zXok X) (hN : zXn X) (l : Launch) {sh : List yH} : yMet X vwCl yct sh l yX8_off wsX8_off { frames := 2, cells := 0, slots := 0, locals := 89 } (F_X8_off N) :=
  ymeth (tb := tb_X8_off N) (pr := pr_X8_off) (rt := 1) (own := RX8) hX (by decide +kernel) rfl rfl ⟨Nat.le_of_ble_eq_true rfl, Nat.le_of_ble_eq_true rfl⟩
    (zfl_all (List.forall_mem_cons.mpr ⟨zfl_X8 (fun w h => List.mem_cons_of_mem _ (List.mem_append_right _ h)) (List.mem_of_getElem? (i := 2) rfl) (by decide) (by decide), List.forall_mem_cons.mpr ⟨zfl_X8 (fun w h => List.mem_cons_of_mem _ (List.mem_append_right _ h)) (List.mem_of_getElem? (i := 1) rfl) (by decide) (by decide), fun _ h => absurd h List.not_mem_nil⟩⟩))
    (zco_all (fun _ h => absurd h List.not_mem_nil)) (zlc_all (fun _ h => absurd h List.not_mem_nil))
    (fun _ h => absurd h List.not_mem_nil)
    (List.forall_mem_cons.mpr ⟨ycal_S hX (m_X8_in hX hN l) (fun s args hts => va_cwS 3 hts gX8_off_X8_in rfl rfl rfl (by decide +kernel) ⟨Nat.le_of_ble_eq_true rfl, Nat.le_of_ble_eq_true rfl⟩), fun _ h => absurd h List.not_mem_nil⟩)
    (zmm_all (fun _ h => absurd h List.not_mem_nil)) (fun _ h => absurd h List.not_mem_nil) (zpr_all hp_X8_off) (fun as σ res h => by
      unfold F_X8_off at h
      split at h
      · rename_i x1 x2
        cases hr : f_X8_off N σ x1 x2 with
        | none => rw [hr] at h; cases h
        | some r =>
          rw [hr] at h
          cases h
          exact ⟨Nat.le_of_ble_eq_true rfl, t_X8_off σ x1 x2 r hr⟩
      · cases h)
noncomputable def pr_X8_comes : List (Nat × Instr × Nat) := [(0, .aload_n 0, 1), (1, .getfield 236, 3), (4, .bipush 10, 2), (6, .if_icmp .ne 16, 3), (9, .aload_n 0, 1), (10, .getfield 13, 3), (13, .sipush 128, 3), (16, .dup2, 1), (17, .iaload, 1), (18, .iconst 1, 1), (19, .iadd, 1), (20, .iastore, 1), (21, .return_, 1), (22, .aload_n 0, 1), (23, .getfield 35, 3), (26, .iconst 4, 1), (27, .aload_n 0, 1), (28, .getfield 236, 3), (31, .imul, 1), (32, .iload_n 1, 1), (33, .iastore, 1), (34, .aload_n 0, 1), (35, .getfield 35, 3), (38, .iconst 4, 1), (39, .aload_n 0, 1), (40, .getfield 236, 3), (43, .imul, 1), (44, .iconst 1, 1), (45, .iadd, 1), (46, .iload_n 2, 1), (47, .iastore, 1), (48, .aload_n 0, 1), (49, .getfield 35, 3), (52, .iconst 4, 1), (53, .aload_n 0, 1), (54, .getfield 236, 3), (57, .imul, 1), (58, .iconst 2, 1), (59, .iadd, 1), (60, .iload_n 3, 1), (61, .iastore, 1), (62, .aload_n 0, 1), (63, .getfield 35, 3), (66, .iconst 4, 1), (67, .aload_n 0, 1), (68, .getfield 236, 3), (71, .imul, 1), (72, .iconst 3, 1), (73, .iadd, 1), (74, .iload 4, 2), (76, .iastore, 1), (77, .aload_n 0, 1), (78, .dup, 1), (79, .getfield 236, 3), (82, .iconst 1, 1), (83, .iadd, 1), (84, .putfield 236, 3), (87, .return_, 1)]
set_option maxRecDepth 100000 in
theorem hp_X8_comes : pr_X8_comes.all (fun x => decide (decode cX8_comes x.1 = .ok x.2)) = true := by decide +kernel
noncomputable def f_X8_comes_b79 (N : Nat) (σ : yS) : Option (Int × yS) :=
  some (0, yw σ 0 25 (yad (σ.1 0 25) 1))
noncomputable def f_X8_comes_b68 (N : Nat) (σ : yS) (x4 : Int) (s1 : Int) : Option (Int × yS) :=
  bif yin (yad (ymu s1 (σ.1 0 25)) 3) 40 then
    f_X8_comes_b79 N (yw σ 9 (yad (ymu s1 (σ.1 0 25)) 3).toNat x4)
  else none
noncomputable def f_X8_comes_b54 (N : Nat) (σ : yS) (x3 : Int) (x4 : Int) (s1 : Int) : Option (Int × yS) :=
  bif yin (yad (ymu s1 (σ.1 0 25)) 2) 40 then
    f_X8_comes_b68 N (yw σ 9 (yad (ymu s1 (σ.1 0 25)) 2).toNat x3) x4 4
  else none
noncomputable def f_X8_comes_b40 (N : Nat) (σ : yS) (x2 : Int) (x3 : Int) (x4 : Int) (s1 : Int) : Option (Int × yS) :=
  bif yin (yad (ymu s1 (σ.1 0 25)) 1) 40 then
    f_X8_comes_b54 N (yw σ 9 (yad (ymu s1 (σ.1 0 25)) 1).toNat x2) x3 x4 4
  else none
noncomputable def f_X8_comes (N : Nat) (σ : yS) (x1 : Int) (x2 : Int) (x3 : Int) (x4 : Int) : Option (Int × yS) :=
  bif ycP .ne (σ.1 0 25) 10 then
    bif yin (ymu 4 (σ.1 0 25)) 40 then
      f_X8_comes_b40 N (yw σ 9 (ymu 4 (σ.1 0 25)).toNat x1) x2 x3 x4 4
    else none
  else
    some (0, yw σ 2 128 (yad (σ.1 2 128) 1))
noncomputable def F_X8_comes (N : Nat) : yF := fun as σ => match as with
  | [.inr (.inl 8, 0), .inl (.inl x1), .inl (.inl x2), .inl (.inl x3), .inl (.inl x4)] => (f_X8_comes N σ x1 x2 x3 x4).map (fun r => (none, r.2))
  | _ => none
theorem e_X8_comes {N : Nat} {σ : yS} {x1 : Int} {x2 : Int} {x3 : Int} {x4 : Int} {r : Int × yS} (h : f_X8_comes N σ x1 x2 x3 x4 = some r) : F_X8_comes N [.inr (.inl 8, 0), .inl (.inl x1), .inl (.inl x2), .inl (.inl x3), .inl (.inl x4)] σ = some (none, r.2) := by
  show (f_X8_comes N σ x1 x2 x3 x4).map (fun r => ((none, r.2) : yR)) = _
  rw [h]
  rfl
noncomputable def tb_X8_comes (N : Nat) : yTb := ([(13, 8, 1, 3), (35, 8, 24, 3), (236, 8, 25, 0)], [], [], [], [], [], [])
abbrev G_X8_comes (N : Nat) (X : zXT) (sh : List yH) (l : Launch) (rm : Room) : yC → yR → Prop := yGoes X vwCl yct sh l rm cX8_comes 5 wsX8_comes RX8 (tb_X8_comes N) pr_X8_comes 0
set_option maxRecDepth 100000 in
set_option maxHeartbeats 4000000 in
theorem t_X8_comes_b79 {N : Nat} {X : zXT} {sh : List yH} {l : Launch} {rm : Room} (σ : yS) (res : Int × yS) (h : f_X8_comes_b79 N σ = some res) : G_X8_comes N X sh l rm (79, [], [.inr (.inl 8, 0), .inr (.inl 8, 0)], σ) (none, res.2) := by
  unfold f_X8_comes_b79 at h
  refine yG_n (n := 4) (C' := (87, [], [], yw σ 0 25 (yad (σ.1 0 25) 1))) rfl ?_
  have h := Option.some.inj h
  subst h
  dsimp only
  exact yG_r rfl rfl
set_option maxRecDepth 100000 in
set_option maxHeartbeats 4000000 in
theorem t_X8_comes_b68 {N : Nat} {X : zXT} {sh : List yH} {l : Launch} {rm : Room} (σ : yS) (x4 : Int) (s1 : Int) (res : Int × yS) (h : f_X8_comes_b68 N σ x4 s1 = some res) : G_X8_comes N X sh l rm (68, [(0, .inr (.inl 8, 0)), (4, .inl (.inl x4))], [.inr (.inl 8, 0), .inl (.inl s1), .inr (.inr (0, 40), 9)], σ) (none, res.2) := by
  unfold f_X8_comes_b68 at h
  refine yG_n (n := 5) (C' := (76, [(0, .inr (.inl 8, 0)), (4, .inl (.inl x4))], [.inl (.inl x4), .inl (.inl (yad (ymu s1 (σ.1 0 25)) 3)), .inr (.inr (0, 40), 9)], σ)) rfl ?_
  cases hg1 : yin (yad (ymu s1 (σ.1 0 25)) 3) 40 with
  | false => rw [hg1] at h; dsimp only [cond] at h; cases h
  | true =>
    rw [hg1] at h
    dsimp only [cond] at h
    refine yG_t (C' := (77, [(0, .inr (.inl 8, 0)), (4, .inl (.inl x4))], [], yw σ 9 (yad (ymu s1 (σ.1 0 25)) 3).toNat x4)) rfl hg1 ?_
    refine yG_n (n := 2) (C' := (79, [(0, .inr (.inl 8, 0)), (4, .inl (.inl x4))], [.inr (.inl 8, 0), .inr (.inl 8, 0)], yw σ 9 (yad (ymu s1 (σ.1 0 25)) 3).toNat x4)) rfl ?_
    exact yG_w [] rfl (t_X8_comes_b79 (yw σ 9 (yad (ymu s1 (σ.1 0 25)) 3).toNat x4) res h)
set_option maxRecDepth 100000 in
set_option maxHeartbeats 4000000 in
theorem t_X8_comes_b54 {N : Nat} {X : zXT} {sh : List yH} {l : Launch} {rm : Room} (σ : yS) (x3 : Int) (x4 : Int) (s1 : Int) (res : Int × yS) (h : f_X8_comes_b54 N σ x3 x4 s1 = some res) : G_X8_comes N X sh l rm (54, [(0, .inr (.inl 8, 0)), (3, .inl (.inl x3)), (4, .inl (.inl x4))], [.inr (.inl 8, 0), .inl (.inl s1), .inr (.inr (0, 40), 9)], σ) (none, res.2) := by
  unfold f_X8_comes_b54 at h
  refine yG_n (n := 5) (C' := (61, [(0, .inr (.inl 8, 0)), (3, .inl (.inl x3)), (4, .inl (.inl x4))], [.inl (.inl x3), .inl (.inl (yad (ymu s1 (σ.1 0 25)) 2)), .inr (.inr (0, 40), 9)], σ)) rfl ?_
  cases hg2 : yin (yad (ymu s1 (σ.1 0 25)) 2) 40 with
  | false => rw [hg2] at h; dsimp only [cond] at h; cases h
  | true =>
    rw [hg2] at h
    dsimp only [cond] at h
    refine yG_t (C' := (62, [(0, .inr (.inl 8, 0)), (3, .inl (.inl x3)), (4, .inl (.inl x4))], [], yw σ 9 (yad (ymu s1 (σ.1 0 25)) 2).toNat x3)) rfl hg2 ?_
    refine yG_n (n := 4) (C' := (68, [(0, .inr (.inl 8, 0)), (3, .inl (.inl x3)), (4, .inl (.inl x4))], [.inr (.inl 8, 0), .inl (.inl 4), .inr (.inr (0, 40), 9)], yw σ 9 (yad (ymu s1 (σ.1 0 25)) 2).toNat x3)) rfl ?_
    exact yG_w [0, 2] rfl (t_X8_comes_b68 (yw σ 9 (yad (ymu s1 (σ.1 0 25)) 2).toNat x3) x4 4 res h)
set_option maxRecDepth 100000 in
set_option maxHeartbeats 4000000 in
theorem t_X8_comes_b40 {N : Nat} {X : zXT} {sh : List yH} {l : Launch} {rm : Room} (σ : yS) (x2 : Int) (x3 : Int) (x4 : Int) (s1 : Int) (res : Int × yS) (h : f_X8_comes_b40 N σ x2 x3 x4 s1 = some res) : G_X8_comes N X sh l rm (40, [(0, .inr (.inl 8, 0)), (2, .inl (.inl x2)), (3, .inl (.inl x3)), (4, .inl (.inl x4))], [.inr (.inl 8, 0), .inl (.inl s1), .inr (.inr (0, 40), 9)], σ) (none, res.2) := by
  unfold f_X8_comes_b40 at h
  refine yG_n (n := 5) (C' := (47, [(0, .inr (.inl 8, 0)), (2, .inl (.inl x2)), (3, .inl (.inl x3)), (4, .inl (.inl x4))], [.inl (.inl x2), .inl (.inl (yad (ymu s1 (σ.1 0 25)) 1)), .inr (.inr (0, 40), 9)], σ)) rfl ?_
  cases hg3 : yin (yad (ymu s1 (σ.1 0 25)) 1) 40 with
  | false => rw [hg3] at h; dsimp only [cond] at h; cases h
  | true =>
    rw [hg3] at h
    dsimp only [cond] at h
    refine yG_t (C' := (48, [(0, .inr (.inl 8, 0)), (2, .inl (.inl x2)), (3, .inl (.inl x3)), (4, .inl (.inl x4))], [], yw σ 9 (yad (ymu s1 (σ.1 0 25)) 1).toNat x2)) rfl hg3 ?_
    refine yG_n (n := 4) (C' := (54, [(0, .inr (.inl 8, 0)), (2, .inl (.inl x2)), (3, .inl (.inl x3)), (4, .inl (.inl x4))], [.inr (.inl 8, 0), .inl (.inl 4), .inr (.inr (0, 40), 9)], yw σ 9 (yad (ymu s1 (σ.1 0 25)) 1).toNat x2)) rfl ?_
    exact yG_w [0, 2, 3] rfl (t_X8_comes_b54 (yw σ 9 (yad (ymu s1 (σ.1 0 25)) 1).toNat x2) x3 x4 4 res h)
set_option maxRecDepth 100000 in
set_option maxHeartbeats 4000000 in
theorem t_X8_comes {N : Nat} {X : zXT} {sh : List yH} {l : Launch} {rm : Room} (σ : yS) (x1 : Int) (x2 : Int) (x3 : Int) (x4 : Int) (res : Int × yS) (h : f_X8_comes N σ x1 x2 x3 x4 = some res) : G_X8_comes N X sh l rm (0, [(0, .inr (.inl 8, 0)), (1, .inl (.inl x1)), (2, .inl (.inl x2)), (3, .inl (.inl x3)), (4, .inl (.inl x4))], [], σ) (none, res.2) := by
  unfold f_X8_comes at h
  refine yG_n (n := 3) (C' := (6, [(0, .inr (.inl 8, 0)), (1, .inl (.inl x1)), (2, .inl (.inl x2)), (3, .inl (.inl x3)), (4, .inl (.inl x4))], [.inl (.inl 10), .inl (.inl (σ.1 0 25))], σ)) rfl ?_
  cases hg4 : ycP .ne (σ.1 0 25) 10 with
  | true =>
    rw [hg4] at h
    dsimp only [cond] at h
    refine yG_t (C' := (22, [(0, .inr (.inl 8, 0)), (1, .inl (.inl x1)), (2, .inl (.inl x2)), (3, .inl (.inl x3)), (4, .inl (.inl x4))], [], σ)) rfl hg4 ?_
    refine yG_n (n := 7) (C' := (33, [(0, .inr (.inl 8, 0)), (1, .inl (.inl x1)), (2, .inl (.inl x2)), (3, .inl (.inl x3)), (4, .inl (.inl x4))], [.inl (.inl x1), .inl (.inl (ymu 4 (σ.1 0 25))), .inr (.inr (0, 40), 9)], σ)) rfl ?_
    cases hg5 : yin (ymu 4 (σ.1 0 25)) 40 with
    | false => rw [hg5] at h; dsimp only [cond] at h; cases h
    | true =>
      rw [hg5] at h
      dsimp only [cond] at h
      refine yG_t (C' := (34, [(0, .inr (.inl 8, 0)), (1, .inl (.inl x1)), (2, .inl (.inl x2)), (3, .inl (.inl x3)), (4, .inl (.inl x4))], [], yw σ 9 (ymu 4 (σ.1 0 25)).toNat x1)) rfl hg5 ?_
      refine yG_n (n := 4) (C' := (40, [(0, .inr (.inl 8, 0)), (1, .inl (.inl x1)), (2, .inl (.inl x2)), (3, .inl (.inl x3)), (4, .inl (.inl x4))], [.inr (.inl 8, 0), .inl (.inl 4), .inr (.inr (0, 40), 9)], yw σ 9 (ymu 4 (σ.1 0 25)).toNat x1)) rfl ?_
      exact yG_w [0, 2, 3, 4] rfl (t_X8_comes_b40 (yw σ 9 (ymu 4 (σ.1 0 25)).toNat x1) x2 x3 x4 4 res h)
  | false =>
    rw [hg4] at h
    dsimp only [cond] at h
    refine yG_f (C' := (9, [(0, .inr (.inl 8, 0)), (1, .inl (.inl x1)), (2, .inl (.inl x2)), (3, .inl (.inl x3)), (4, .inl (.inl x4))], [], σ)) rfl hg4 ?_
    refine yG_n (n := 8) (C' := (21, [(0, .inr (.inl 8, 0)), (1, .inl (.inl x1)), (2, .inl (.inl x2)), (3, .inl (.inl x3)), (4, .inl (.inl x4))], [], yw σ 2 128 (yad (σ.1 2 128) 1))) rfl ?_
    have h := Option.some.inj h
    subst h
    dsimp only
    exact yG_r rfl rfl
set_option maxRecDepth 100000 in
set_option maxHeartbeats 4000000 in
theorem m_X8_comes {N : Nat} {X : zXT} (hX : zXok X) (hN : zXn X) (l : Launch) {sh : List yH} : yMet X vwCl yct sh l yX8_comes wsX8_comes { frames := 1, cells := 0, slots := 0, locals := 64 } (F_X8_comes N) :=
  ymeth (tb := tb_X8_comes N) (pr := pr_X8_comes) (rt := 0) (own := RX8) hX (by decide +kernel) rfl rfl ⟨Nat.le_of_ble_eq_true rfl, Nat.le_of_ble_eq_true rfl⟩
    (zfl_all (List.forall_mem_cons.mpr ⟨zfl_X8 (fun w h => List.mem_cons_of_mem _ (List.mem_append_right _ h)) (List.mem_of_getElem? (i := 2) rfl) (by decide) (by decide), List.forall_mem_cons.mpr ⟨zfl_X8 (fun w h => List.mem_cons_of_mem _ (List.mem_append_right _ h)) (List.mem_of_getElem? (i := 3) rfl) (by decide) (by decide), List.forall_mem_cons.mpr ⟨zfl_X8 (fun w h => List.mem_cons_of_mem _ (List.mem_append_right _ h)) (List.mem_of_getElem? (i := 1) rfl) (by decide) (by decide), fun _ h => absurd h List.not_mem_nil⟩⟩⟩))
    (zco_all (fun _ h => absurd h List.not_mem_nil)) (zlc_all (fun _ h => absurd h List.not_mem_nil))
    (fun _ h => absurd h List.not_mem_nil)
    (fun _ h => absurd h List.not_mem_nil)
    (zmm_all (fun _ h => absurd h List.not_mem_nil)) (fun _ h => absurd h List.not_mem_nil) (zpr_all hp_X8_comes) (fun as σ res h => by
      unfold F_X8_comes at h
      split at h
      · rename_i x1 x2 x3 x4
        cases hr : f_X8_comes N σ x1 x2 x3 x4 with
        | none => rw [hr] at h; cases h
        | some r =>
          rw [hr] at h
          cases h
          exact ⟨Nat.le_of_ble_eq_true rfl, t_X8_comes σ x1 x2 x3 x4 r hr⟩
      · cases h)
noncomputable def pr_X8_flag : List (Nat × Instr × Nat) := [(0, .iload_n 0, 1), (1, .ifCond .eq 7, 3), (4, .iconst 1, 1), (5, .goto 4, 3), (8, .iconst 0, 1), (9, .ireturn, 1)]
set_option maxRecDepth 100000 in
theorem hp_X8_flag : pr_X8_flag.all (fun x => decide (decode cX8_flag x.1 = .ok x.2)) = true := by decide +kernel
noncomputable def f_X8_flag_b9 (N : Nat) (σ : yS) (s0 : Int) : Option (Int × yS) :=
  some (s0, σ)
noncomputable def f_X8_flag (N : Nat) (σ : yS) (x0 : Int) : Option (Int × yS) :=
  bif ycP .eq x0 0 then
    f_X8_flag_b9 N σ 0
  else
    f_X8_flag_b9 N σ 1
noncomputable def F_X8_flag (N : Nat) : yF := fun as σ => match as with
  | [.inl (.inl x0)] => (f_X8_flag N σ x0).map (fun r => (some (.inl (.inl r.1)), r.2))
  | _ => none
theorem e_X8_flag {N : Nat} {σ : yS} {x0 : Int} {r : Int × yS} (h : f_X8_flag N σ x0 = some r) : F_X8_flag N [.inl (.inl x0)] σ = some (some (.inl (.inl r.1)), r.2) := by
  show (f_X8_flag N σ x0).map (fun r => ((some (.inl (.inl r.1)), r.2) : yR)) = _
  rw [h]
  rfl
noncomputable def tb_X8_flag (N : Nat) : yTb := ([], [], [], [], [], [], [])
abbrev G_X8_flag (N : Nat) (X : zXT) (sh : List yH) (l : Launch) (rm : Room) : yC → yR → Prop := yGoes X vwCl yct sh l rm cX8_flag 1 wsX8_flag RX8 (tb_X8_flag N) pr_X8_flag 1
set_option maxRecDepth 100000 in
set_option maxHeartbeats 4000000 in
theorem t_X8_flag_b9 {N : Nat} {X : zXT} {sh : List yH} {l : Launch} {rm : Room} (σ : yS) (s0 : Int) (res : Int × yS) (h : f_X8_flag_b9 N σ s0 = some res) : G_X8_flag N X sh l rm (9, [], [.inl (.inl s0)], σ) (some (.inl (.inl res.1)), res.2) := by
  unfold f_X8_flag_b9 at h
  have h := Option.some.inj h
  subst h
  dsimp only
  exact yG_r rfl rfl
set_option maxRecDepth 100000 in
set_option maxHeartbeats 4000000 in
theorem t_X8_flag {N : Nat} {X : zXT} {sh : List yH} {l : Launch} {rm : Room} (σ : yS) (x0 : Int) (res : Int × yS) (h : f_X8_flag N σ x0 = some res) : G_X8_flag N X sh l rm (0, [(0, .inl (.inl x0))], [], σ) (some (.inl (.inl res.1)), res.2) := by
  unfold f_X8_flag at h
  refine yG_n (n := 1) (C' := (1, [(0, .inl (.inl x0))], [.inl (.inl x0)], σ)) rfl ?_
  cases hg1 : ycP .eq x0 0 with
  | true =>
    rw [hg1] at h
    dsimp only [cond] at h
    refine yG_t (C' := (8, [(0, .inl (.inl x0))], [], σ)) rfl hg1 ?_
    refine yG_n (n := 1) (C' := (9, [(0, .inl (.inl x0))], [.inl (.inl 0)], σ)) rfl ?_
    exact yG_w [] rfl (t_X8_flag_b9 σ 0 res h)
  | false =>
    rw [hg1] at h
    dsimp only [cond] at h
    refine yG_f (C' := (4, [(0, .inl (.inl x0))], [], σ)) rfl hg1 ?_
    refine yG_n (n := 2) (C' := (9, [(0, .inl (.inl x0))], [.inl (.inl 1)], σ)) rfl ?_
    exact yG_w [] rfl (t_X8_flag_b9 σ 1 res h)
set_option maxRecDepth 100000 in
set_option maxHeartbeats 4000000 in
theorem m_X8_flag {N : Nat} {X : zXT} (hX : zXok X) (hN : zXn X) (l : Launch) {sh : List yH} : yMet X vwCl yct sh l yX8_flag wsX8_flag { frames := 1, cells := 0, slots := 0, locals := 64 } (F_X8_flag N) :=
  ymeth (tb := tb_X8_flag N) (pr := pr_X8_flag) (rt := 1) (own := RX8) hX (by decide +kernel) rfl rfl ⟨Nat.le_of_ble_eq_true rfl, Nat.le_of_ble_eq_true rfl⟩
    (zfl_all (fun _ h => absurd h List.not_mem_nil))
    (zco_all (fun _ h => absurd h List.not_mem_nil)) (zlc_all (fun _ h => absurd h List.not_mem_nil))
    (fun _ h => absurd h List.not_mem_nil)
    (fun _ h => absurd h List.not_mem_nil)
    (zmm_all (fun _ h => absurd h List.not_mem_nil)) (fun _ h => absurd h List.not_mem_nil) (zpr_all hp_X8_flag) (fun as σ res h => by
      unfold F_X8_flag at h
      split at h
      · rename_i x0
        cases hr : f_X8_flag N σ x0 with
        | none => rw [hr] at h; cases h
        | some r =>
          rw [hr] at h
          cases h
          exact ⟨Nat.le_of_ble_eq_true rfl, t_X8_flag σ x0 r hr⟩
      · cases h)
noncomputable def pr_X8_does : List (Nat × Instr × Nat) := [(0, .bipush 42, 2), (2, .iconst 5, 1), (3, .iload_n 1, 1), (4, .imul, 1), (5, .iadd, 1), (6, .iload_n 3, 1), (7, .iadd, 1), (8, .istore 4, 2), (10, .iload_n 2, 1), (11, .iconst 4, 1), (12, .if_icmp .ne 34, 3), (15, .aload_n 0, 1), (16, .getfield 13, 3), (19, .iload 4, 2), (21, .dup2, 1), (22, .iaload, 1), (23, .aload_n 0, 1), (24, .getfield 13, 3), (27, .iload 4, 2), (29, .iaload, 1), (30, .ifCond .le 7, 3), (33, .iconst 1, 1), (34, .goto 4, 3), (37, .iconst 0, 1), (38, .invokestatic 197, 3), (41, .isub, 1), (42, .iastore, 1), (43, .goto 109, 3), (46, .aload_n 0, 1), (47, .getfield 13, 3), (50, .bipush 7, 2), (52, .iload_n 1, 1), (53, .iadd, 1), (54, .iaload, 1), (55, .iload_n 3, 1), (56, .ishr, 1), (57, .iconst 1, 1), (58, .iand, 1), (59, .iconst 1, 1), (60, .if_icmp .ne 80, 3), (63, .aload_n 0, 1), (64, .getfield 13, 3), (67, .iconst 0, 1), (68, .iload_n 1, 1), (69, .iadd, 1), (70, .iaload, 1), (71, .aload_n 0, 1), (72, .getfield 20, 3), (75, .iload_n 3, 1), (76, .iaload, 1), (77, .if_icmp .lt 63, 3), (80, .aload_n 0, 1), (81, .getfield 13, 3), (84, .iload 4, 2), (86, .dup2, 1), (87, .iaload, 1), (88, .aload_n 0, 1), (89, .getfield 13, 3), (92, .iload 4, 2), (94, .iaload, 1), (95, .bipush 99, 2), (97, .if_icmp .ge 7, 3), (100, .iconst 1, 1), (101, .goto 4, 3), (104, .iconst 0, 1), (105, .invokestatic 197, 3), (108, .iadd, 1), (109, .iastore, 1), (110, .aload_n 0, 1), (111, .getfield 13, 3), (114, .iconst 0, 1), (115, .iload_n 1, 1), (116, .iadd, 1), (117, .dup2, 1), (118, .iaload, 1), (119, .aload_n 0, 1), (120, .getfield 20, 3), (123, .iload_n 3, 1), (124, .iaload, 1), (125, .isub, 1), (126, .iastore, 1), (127, .aload_n 0, 1), (128, .dup, 1), (129, .getfield 239, 3), (132, .iconst 1, 1), (133, .iadd, 1), (134, .putfield 239, 3), (137, .goto 15, 3), (140, .aload_n 0, 1), (141, .getfield 13, 3), (144, .sipush 130, 3), (147, .dup2, 1), (148, .iaload, 1), (149, .iconst 1, 1), (150, .iadd, 1), (151, .iastore, 1), (152, .return_, 1)]
set_option maxRecDepth 100000 in
theorem hp_X8_does : pr_X8_does.all (fun x => decide (decode cX8_does x.1 = .ok x.2)) = true := by decide +kernel
noncomputable def f_X8_does_b152 (N : Nat) (σ : yS) : Option (Int × yS) :=
  some (0, σ)
noncomputable def f_X8_does_b140 (N : Nat) (σ : yS) : Option (Int × yS) :=
  f_X8_does_b152 N (yw σ 2 130 (yad (σ.1 2 130) 1))
noncomputable def f_X8_does_b129 (N : Nat) (σ : yS) : Option (Int × yS) :=
  f_X8_does_b152 N (yw σ 0 26 (yad (σ.1 0 26) 1))
noncomputable def f_X8_does_b118 (N : Nat) (σ : yS) (x3 : Int) (s0 : Int) (s2 : Int) : Option (Int × yS) :=
  bif yin s0 131 then
    bif yin x3 5 then
      bif yin s2 131 then
        f_X8_does_b129 N (yw σ 2 s2.toNat (ysu (σ.1 2 s0.toNat) (σ.1 4 x3.toNat)))
      else none
    else none
  else none
noncomputable def f_X8_does_b105 (N : Nat) (σ : yS) (x1 : Int) (x3 : Int) (s0 : Int) (s1 : Int) (s2 : Int) : Option (Int × yS) :=
  match f_X8_flag N σ s0 with
  | none => none
  | some r1 => bif yin s2 131 then
      f_X8_does_b118 N (yw r1.2 2 s2.toNat (yad s1 r1.1)) x3 (yad 0 x1) (yad 0 x1)
    else none
noncomputable def f_X8_does_b38 (N : Nat) (σ : yS) (s0 : Int) (s1 : Int) (s2 : Int) : Option (Int × yS) :=
  match f_X8_flag N σ s0 with
  | none => none
  | some r2 => bif yin s2 131 then
      f_X8_does_b152 N (yw r2.2 2 s2.toNat (ysu s1 r2.1))
    else none
noncomputable def f_X8_does (N : Nat) (σ : yS) (x1 : Int) (x2 : Int) (x3 : Int) : Option (Int × yS) :=
  bif ycP .ne x2 4 then
    bif yin (yad 7 x1) 131 then
      bif ycP .ne (yan (ysr (σ.1 2 (yad 7 x1).toNat) x3) 1) 1 then
        f_X8_does_b140 N σ
      else
        bif yin (yad 0 x1) 131 then
          bif yin x3 5 then
            bif ycP .lt (σ.1 2 (yad 0 x1).toNat) (σ.1 4 x3.toNat) then
              f_X8_does_b140 N σ
            else
              bif yin (yad (yad 42 (ymu 5 x1)) x3) 131 then
                bif ycP .ge (σ.1 2 (yad (yad 42 (ymu 5 x1)) x3).toNat) 99 then
                  f_X8_does_b105 N σ x1 x3 0 (σ.1 2 (yad (yad 42 (ymu 5 x1)) x3).toNat) (yad (yad 42 (ymu 5 x1)) x3)
                else
                  f_X8_does_b105 N σ x1 x3 1 (σ.1 2 (yad (yad 42 (ymu 5 x1)) x3).toNat) (yad (yad 42 (ymu 5 x1)) x3)
              else none
          else none
        else none
    else none
  else
    bif yin (yad (yad 42 (ymu 5 x1)) x3) 131 then
      bif ycP .le (σ.1 2 (yad (yad 42 (ymu 5 x1)) x3).toNat) 0 then
        f_X8_does_b38 N σ 0 (σ.1 2 (yad (yad 42 (ymu 5 x1)) x3).toNat) (yad (yad 42 (ymu 5 x1)) x3)
      else
        f_X8_does_b38 N σ 1 (σ.1 2 (yad (yad 42 (ymu 5 x1)) x3).toNat) (yad (yad 42 (ymu 5 x1)) x3)
    else none
noncomputable def F_X8_does (N : Nat) : yF := fun as σ => match as with
  | [.inr (.inl 8, 0), .inl (.inl x1), .inl (.inl x2), .inl (.inl x3)] => (f_X8_does N σ x1 x2 x3).map (fun r => (none, r.2))
  | _ => none
theorem e_X8_does {N : Nat} {σ : yS} {x1 : Int} {x2 : Int} {x3 : Int} {r : Int × yS} (h : f_X8_does N σ x1 x2 x3 = some r) : F_X8_does N [.inr (.inl 8, 0), .inl (.inl x1), .inl (.inl x2), .inl (.inl x3)] σ = some (none, r.2) := by
  show (f_X8_does N σ x1 x2 x3).map (fun r => ((none, r.2) : yR)) = _
  rw [h]
  rfl
noncomputable def tb_X8_does (N : Nat) : yTb := ([(13, 8, 1, 3), (20, 8, 6, 3), (239, 8, 26, 0)], [], [], [], [(197, 1, F_X8_flag N)], [], [])
abbrev G_X8_does (N : Nat) (X : zXT) (sh : List yH) (l : Launch) (rm : Room) : yC → yR → Prop := yGoes X vwCl yct sh l rm cX8_does 5 wsX8_does RX8 (tb_X8_does N) pr_X8_does 0
set_option maxRecDepth 100000 in
set_option maxHeartbeats 4000000 in
theorem t_X8_does_b152 {N : Nat} {X : zXT} {sh : List yH} {l : Launch} {rm : Room} (σ : yS) (res : Int × yS) (h : f_X8_does_b152 N σ = some res) : G_X8_does N X sh l rm (152, [], [], σ) (none, res.2) := by
  unfold f_X8_does_b152 at h
  have h := Option.some.inj h
  subst h
  dsimp only
  exact yG_r rfl rfl
set_option maxRecDepth 100000 in
set_option maxHeartbeats 4000000 in
theorem t_X8_does_b140 {N : Nat} {X : zXT} {sh : List yH} {l : Launch} {rm : Room} (σ : yS) (res : Int × yS) (h : f_X8_does_b140 N σ = some res) : G_X8_does N X sh l rm (140, [(0, .inr (.inl 8, 0))], [], σ) (none, res.2) := by
  unfold f_X8_does_b140 at h
  refine yG_n (n := 8) (C' := (152, [(0, .inr (.inl 8, 0))], [], yw σ 2 130 (yad (σ.1 2 130) 1))) rfl ?_
  exact yG_w [] rfl (t_X8_does_b152 (yw σ 2 130 (yad (σ.1 2 130) 1)) res h)
set_option maxRecDepth 100000 in
set_option maxHeartbeats 4000000 in
theorem t_X8_does_b129 {N : Nat} {X : zXT} {sh : List yH} {l : Launch} {rm : Room} (σ : yS) (res : Int × yS) (h : f_X8_does_b129 N σ = some res) : G_X8_does N X sh l rm (129, [], [.inr (.inl 8, 0), .inr (.inl 8, 0)], σ) (none, res.2) := by
  unfold f_X8_does_b129 at h
  refine yG_n (n := 5) (C' := (152, [], [], yw σ 0 26 (yad (σ.1 0 26) 1))) rfl ?_
  exact t_X8_does_b152 (yw σ 0 26 (yad (σ.1 0 26) 1)) res h
set_option maxRecDepth 100000 in
set_option maxHeartbeats 4000000 in
theorem t_X8_does_b118 {N : Nat} {X : zXT} {sh : List yH} {l : Launch} {rm : Room} (σ : yS) (x3 : Int) (s0 : Int) (s2 : Int) (res : Int × yS) (h : f_X8_does_b118 N σ x3 s0 s2 = some res) : G_X8_does N X sh l rm (118, [(0, .inr (.inl 8, 0)), (3, .inl (.inl x3))], [.inl (.inl s0), .inr (.inr (0, 131), 2), .inl (.inl s2), .inr (.inr (0, 131), 2)], σ) (none, res.2) := by
  unfold f_X8_does_b118 at h
  cases hg1 : yin s0 131 with
  | false => rw [hg1] at h; dsimp only [cond] at h; cases h
  | true =>
    rw [hg1] at h
    dsimp only [cond] at h
    refine yG_t (C' := (119, [(0, .inr (.inl 8, 0)), (3, .inl (.inl x3))], [.inl (.inl (σ.1 2 s0.toNat)), .inl (.inl s2), .inr (.inr (0, 131), 2)], σ)) rfl hg1 ?_
    refine yG_n (n := 3) (C' := (124, [(0, .inr (.inl 8, 0)), (3, .inl (.inl x3))], [.inl (.inl x3), .inr (.inr (0, 5), 4), .inl (.inl (σ.1 2 s0.toNat)), .inl (.inl s2), .inr (.inr (0, 131), 2)], σ)) rfl ?_
    cases hg2 : yin x3 5 with
    | false => rw [hg2] at h; dsimp only [cond] at h; cases h
    | true =>
      rw [hg2] at h
      dsimp only [cond] at h
      refine yG_t (C' := (125, [(0, .inr (.inl 8, 0)), (3, .inl (.inl x3))], [.inl (.inl (σ.1 4 x3.toNat)), .inl (.inl (σ.1 2 s0.toNat)), .inl (.inl s2), .inr (.inr (0, 131), 2)], σ)) rfl hg2 ?_
      refine yG_n (n := 1) (C' := (126, [(0, .inr (.inl 8, 0)), (3, .inl (.inl x3))], [.inl (.inl (ysu (σ.1 2 s0.toNat) (σ.1 4 x3.toNat))), .inl (.inl s2), .inr (.inr (0, 131), 2)], σ)) rfl ?_
      cases hg3 : yin s2 131 with
      | false => rw [hg3] at h; dsimp only [cond] at h; cases h
      | true =>
        rw [hg3] at h
        dsimp only [cond] at h
        refine yG_t (C' := (127, [(0, .inr (.inl 8, 0)), (3, .inl (.inl x3))], [], yw σ 2 s2.toNat (ysu (σ.1 2 s0.toNat) (σ.1 4 x3.toNat)))) rfl hg3 ?_
        refine yG_n (n := 2) (C' := (129, [(0, .inr (.inl 8, 0)), (3, .inl (.inl x3))], [.inr (.inl 8, 0), .inr (.inl 8, 0)], yw σ 2 s2.toNat (ysu (σ.1 2 s0.toNat) (σ.1 4 x3.toNat)))) rfl ?_
        exact yG_w [] rfl (t_X8_does_b129 (yw σ 2 s2.toNat (ysu (σ.1 2 s0.toNat) (σ.1 4 x3.toNat))) res h)
set_option maxRecDepth 100000 in
set_option maxHeartbeats 4000000 in
theorem t_X8_does_b105 {N : Nat} {X : zXT} {sh : List yH} {l : Launch} {rm : Room} (σ : yS) (x1 : Int) (x3 : Int) (s0 : Int) (s1 : Int) (s2 : Int) (res : Int × yS) (h : f_X8_does_b105 N σ x1 x3 s0 s1 s2 = some res) : G_X8_does N X sh l rm (105, [(0, .inr (.inl 8, 0)), (1, .inl (.inl x1)), (3, .inl (.inl x3))], [.inl (.inl s0), .inl (.inl s1), .inl (.inl s2), .inr (.inr (0, 131), 2)], σ) (none, res.2) := by
  unfold f_X8_does_b105 at h
  cases hr4 : f_X8_flag N σ s0 with
  | none => rw [hr4] at h; dsimp only at h; cases h
  | some r1 =>
    rw [hr4] at h
    dsimp only at h
    refine yG_c (C1 := (108, [(0, .inr (.inl 8, 0)), (1, .inl (.inl x1)), (3, .inl (.inl x3))], [.inl (.inl r1.1), .inl (.inl s1), .inl (.inl s2), .inr (.inr (0, 131), 2)], r1.2)) rfl (e_X8_flag hr4) rfl ?_
    refine yG_n (n := 1) (C' := (109, [(0, .inr (.inl 8, 0)), (1, .inl (.inl x1)), (3, .inl (.inl x3))], [.inl (.inl (yad s1 r1.1)), .inl (.inl s2), .inr (.inr (0, 131), 2)], r1.2)) rfl ?_
    cases hg5 : yin s2 131 with
    | false => rw [hg5] at h; dsimp only [cond] at h; cases h
    | true =>
      rw [hg5] at h
      dsimp only [cond] at h
      refine yG_t (C' := (110, [(0, .inr (.inl 8, 0)), (1, .inl (.inl x1)), (3, .inl (.inl x3))], [], yw r1.2 2 s2.toNat (yad s1 r1.1))) rfl hg5 ?_
      refine yG_n (n := 6) (C' := (118, [(0, .inr (.inl 8, 0)), (1, .inl (.inl x1)), (3, .inl (.inl x3))], [.inl (.inl (yad 0 x1)), .inr (.inr (0, 131), 2), .inl (.inl (yad 0 x1)), .inr (.inr (0, 131), 2)], yw r1.2 2 s2.toNat (yad s1 r1.1))) rfl ?_
      exact yG_w [0, 2] rfl (t_X8_does_b118 (yw r1.2 2 s2.toNat (yad s1 r1.1)) x3 (yad 0 x1) (yad 0 x1) res h)
set_option maxRecDepth 100000 in
set_option maxHeartbeats 4000000 in
theorem t_X8_does_b38 {N : Nat} {X : zXT} {sh : List yH} {l : Launch} {rm : Room} (σ : yS) (s0 : Int) (s1 : Int) (s2 : Int) (res : Int × yS) (h : f_X8_does_b38 N σ s0 s1 s2 = some res) : G_X8_does N X sh l rm (38, [], [.inl (.inl s0), .inl (.inl s1), .inl (.inl s2), .inr (.inr (0, 131), 2)], σ) (none, res.2) := by
  unfold f_X8_does_b38 at h
  cases hr6 : f_X8_flag N σ s0 with
  | none => rw [hr6] at h; dsimp only at h; cases h
  | some r2 =>
    rw [hr6] at h
    dsimp only at h
    refine yG_c (C1 := (41, [], [.inl (.inl r2.1), .inl (.inl s1), .inl (.inl s2), .inr (.inr (0, 131), 2)], r2.2)) rfl (e_X8_flag hr6) rfl ?_
    refine yG_n (n := 1) (C' := (42, [], [.inl (.inl (ysu s1 r2.1)), .inl (.inl s2), .inr (.inr (0, 131), 2)], r2.2)) rfl ?_
    cases hg7 : yin s2 131 with
    | false => rw [hg7] at h; dsimp only [cond] at h; cases h
    | true =>
      rw [hg7] at h
      dsimp only [cond] at h
      refine yG_t (C' := (43, [], [], yw r2.2 2 s2.toNat (ysu s1 r2.1))) rfl hg7 ?_
      refine yG_n (n := 1) (C' := (152, [], [], yw r2.2 2 s2.toNat (ysu s1 r2.1))) rfl ?_
      exact t_X8_does_b152 (yw r2.2 2 s2.toNat (ysu s1 r2.1)) res h
set_option maxRecDepth 100000 in
set_option maxHeartbeats 4000000 in
theorem t_X8_does {N : Nat} {X : zXT} {sh : List yH} {l : Launch} {rm : Room} (σ : yS) (x1 : Int) (x2 : Int) (x3 : Int) (res : Int × yS) (h : f_X8_does N σ x1 x2 x3 = some res) : G_X8_does N X sh l rm (0, [(0, .inr (.inl 8, 0)), (1, .inl (.inl x1)), (2, .inl (.inl x2)), (3, .inl (.inl x3))], [], σ) (none, res.2) := by
  unfold f_X8_does at h
  refine yG_n (n := 10) (C' := (12, [(4, .inl (.inl (yad (yad 42 (ymu 5 x1)) x3))), (0, .inr (.inl 8, 0)), (1, .inl (.inl x1)), (2, .inl (.inl x2)), (3, .inl (.inl x3))], [.inl (.inl 4), .inl (.inl x2)], σ)) rfl ?_
  cases hg8 : ycP .ne x2 4 with
  | true =>
    rw [hg8] at h
    dsimp only [cond] at h
    refine yG_t (C' := (46, [(4, .inl (.inl (yad (yad 42 (ymu 5 x1)) x3))), (0, .inr (.inl 8, 0)), (1, .inl (.inl x1)), (2, .inl (.inl x2)), (3, .inl (.inl x3))], [], σ)) rfl hg8 ?_
    refine yG_n (n := 5) (C' := (54, [(4, .inl (.inl (yad (yad 42 (ymu 5 x1)) x3))), (0, .inr (.inl 8, 0)), (1, .inl (.inl x1)), (2, .inl (.inl x2)), (3, .inl (.inl x3))], [.inl (.inl (yad 7 x1)), .inr (.inr (0, 131), 2)], σ)) rfl ?_
    cases hg9 : yin (yad 7 x1) 131 with
    | false => rw [hg9] at h; dsimp only [cond] at h; cases h
    | true =>
      rw [hg9] at h
      dsimp only [cond] at h
      refine yG_t (C' := (55, [(4, .inl (.inl (yad (yad 42 (ymu 5 x1)) x3))), (0, .inr (.inl 8, 0)), (1, .inl (.inl x1)), (2, .inl (.inl x2)), (3, .inl (.inl x3))], [.inl (.inl (σ.1 2 (yad 7 x1).toNat))], σ)) rfl hg9 ?_
      refine yG_n (n := 5) (C' := (60, [(4, .inl (.inl (yad (yad 42 (ymu 5 x1)) x3))), (0, .inr (.inl 8, 0)), (1, .inl (.inl x1)), (2, .inl (.inl x2)), (3, .inl (.inl x3))], [.inl (.inl 1), .inl (.inl (yan (ysr (σ.1 2 (yad 7 x1).toNat) x3) 1))], σ)) rfl ?_
      cases hg10 : ycP .ne (yan (ysr (σ.1 2 (yad 7 x1).toNat) x3) 1) 1 with
      | true =>
        rw [hg10] at h
        dsimp only [cond] at h
        refine yG_t (C' := (140, [(4, .inl (.inl (yad (yad 42 (ymu 5 x1)) x3))), (0, .inr (.inl 8, 0)), (1, .inl (.inl x1)), (2, .inl (.inl x2)), (3, .inl (.inl x3))], [], σ)) rfl hg10 ?_
        exact yG_w [1] rfl (t_X8_does_b140 σ res h)
      | false =>
        rw [hg10] at h
        dsimp only [cond] at h
        refine yG_f (C' := (63, [(4, .inl (.inl (yad (yad 42 (ymu 5 x1)) x3))), (0, .inr (.inl 8, 0)), (1, .inl (.inl x1)), (2, .inl (.inl x2)), (3, .inl (.inl x3))], [], σ)) rfl hg10 ?_
        refine yG_n (n := 5) (C' := (70, [(4, .inl (.inl (yad (yad 42 (ymu 5 x1)) x3))), (0, .inr (.inl 8, 0)), (1, .inl (.inl x1)), (2, .inl (.inl x2)), (3, .inl (.inl x3))], [.inl (.inl (yad 0 x1)), .inr (.inr (0, 131), 2)], σ)) rfl ?_
        cases hg11 : yin (yad 0 x1) 131 with
        | false => rw [hg11] at h; dsimp only [cond] at h; cases h
        | true =>
          rw [hg11] at h
          dsimp only [cond] at h
          refine yG_t (C' := (71, [(4, .inl (.inl (yad (yad 42 (ymu 5 x1)) x3))), (0, .inr (.inl 8, 0)), (1, .inl (.inl x1)), (2, .inl (.inl x2)), (3, .inl (.inl x3))], [.inl (.inl (σ.1 2 (yad 0 x1).toNat))], σ)) rfl hg11 ?_
          refine yG_n (n := 3) (C' := (76, [(4, .inl (.inl (yad (yad 42 (ymu 5 x1)) x3))), (0, .inr (.inl 8, 0)), (1, .inl (.inl x1)), (2, .inl (.inl x2)), (3, .inl (.inl x3))], [.inl (.inl x3), .inr (.inr (0, 5), 4), .inl (.inl (σ.1 2 (yad 0 x1).toNat))], σ)) rfl ?_
          cases hg12 : yin x3 5 with
          | false => rw [hg12] at h; dsimp only [cond] at h; cases h
          | true =>
            rw [hg12] at h
            dsimp only [cond] at h
            refine yG_t (C' := (77, [(4, .inl (.inl (yad (yad 42 (ymu 5 x1)) x3))), (0, .inr (.inl 8, 0)), (1, .inl (.inl x1)), (2, .inl (.inl x2)), (3, .inl (.inl x3))], [.inl (.inl (σ.1 4 x3.toNat)), .inl (.inl (σ.1 2 (yad 0 x1).toNat))], σ)) rfl hg12 ?_
            cases hg13 : ycP .lt (σ.1 2 (yad 0 x1).toNat) (σ.1 4 x3.toNat) with
            | true =>
              rw [hg13] at h
              dsimp only [cond] at h
              refine yG_t (C' := (140, [(4, .inl (.inl (yad (yad 42 (ymu 5 x1)) x3))), (0, .inr (.inl 8, 0)), (1, .inl (.inl x1)), (2, .inl (.inl x2)), (3, .inl (.inl x3))], [], σ)) rfl hg13 ?_
              exact yG_w [1] rfl (t_X8_does_b140 σ res h)
            | false =>
              rw [hg13] at h
              dsimp only [cond] at h
              refine yG_f (C' := (80, [(4, .inl (.inl (yad (yad 42 (ymu 5 x1)) x3))), (0, .inr (.inl 8, 0)), (1, .inl (.inl x1)), (2, .inl (.inl x2)), (3, .inl (.inl x3))], [], σ)) rfl hg13 ?_
              refine yG_n (n := 4) (C' := (87, [(4, .inl (.inl (yad (yad 42 (ymu 5 x1)) x3))), (0, .inr (.inl 8, 0)), (1, .inl (.inl x1)), (2, .inl (.inl x2)), (3, .inl (.inl x3))], [.inl (.inl (yad (yad 42 (ymu 5 x1)) x3)), .inr (.inr (0, 131), 2), .inl (.inl (yad (yad 42 (ymu 5 x1)) x3)), .inr (.inr (0, 131), 2)], σ)) rfl ?_
              cases hg14 : yin (yad (yad 42 (ymu 5 x1)) x3) 131 with
              | false => rw [hg14] at h; dsimp only [cond] at h; cases h
              | true =>
                rw [hg14] at h
                dsimp only [cond] at h
                refine yG_t (C' := (88, [(4, .inl (.inl (yad (yad 42 (ymu 5 x1)) x3))), (0, .inr (.inl 8, 0)), (1, .inl (.inl x1)), (2, .inl (.inl x2)), (3, .inl (.inl x3))], [.inl (.inl (σ.1 2 (yad (yad 42 (ymu 5 x1)) x3).toNat)), .inl (.inl (yad (yad 42 (ymu 5 x1)) x3)), .inr (.inr (0, 131), 2)], σ)) rfl hg14 ?_
                refine yG_n (n := 3) (C' := (94, [(4, .inl (.inl (yad (yad 42 (ymu 5 x1)) x3))), (0, .inr (.inl 8, 0)), (1, .inl (.inl x1)), (2, .inl (.inl x2)), (3, .inl (.inl x3))], [.inl (.inl (yad (yad 42 (ymu 5 x1)) x3)), .inr (.inr (0, 131), 2), .inl (.inl (σ.1 2 (yad (yad 42 (ymu 5 x1)) x3).toNat)), .inl (.inl (yad (yad 42 (ymu 5 x1)) x3)), .inr (.inr (0, 131), 2)], σ)) rfl ?_
                refine yG_t (C' := (95, [(4, .inl (.inl (yad (yad 42 (ymu 5 x1)) x3))), (0, .inr (.inl 8, 0)), (1, .inl (.inl x1)), (2, .inl (.inl x2)), (3, .inl (.inl x3))], [.inl (.inl (σ.1 2 (yad (yad 42 (ymu 5 x1)) x3).toNat)), .inl (.inl (σ.1 2 (yad (yad 42 (ymu 5 x1)) x3).toNat)), .inl (.inl (yad (yad 42 (ymu 5 x1)) x3)), .inr (.inr (0, 131), 2)], σ)) rfl hg14 ?_
                refine yG_n (n := 1) (C' := (97, [(4, .inl (.inl (yad (yad 42 (ymu 5 x1)) x3))), (0, .inr (.inl 8, 0)), (1, .inl (.inl x1)), (2, .inl (.inl x2)), (3, .inl (.inl x3))], [.inl (.inl 99), .inl (.inl (σ.1 2 (yad (yad 42 (ymu 5 x1)) x3).toNat)), .inl (.inl (σ.1 2 (yad (yad 42 (ymu 5 x1)) x3).toNat)), .inl (.inl (yad (yad 42 (ymu 5 x1)) x3)), .inr (.inr (0, 131), 2)], σ)) rfl ?_
                cases hg15 : ycP .ge (σ.1 2 (yad (yad 42 (ymu 5 x1)) x3).toNat) 99 with
                | true =>
                  rw [hg15] at h
                  dsimp only [cond] at h
                  refine yG_t (C' := (104, [(4, .inl (.inl (yad (yad 42 (ymu 5 x1)) x3))), (0, .inr (.inl 8, 0)), (1, .inl (.inl x1)), (2, .inl (.inl x2)), (3, .inl (.inl x3))], [.inl (.inl (σ.1 2 (yad (yad 42 (ymu 5 x1)) x3).toNat)), .inl (.inl (yad (yad 42 (ymu 5 x1)) x3)), .inr (.inr (0, 131), 2)], σ)) rfl hg15 ?_
                  refine yG_n (n := 1) (C' := (105, [(4, .inl (.inl (yad (yad 42 (ymu 5 x1)) x3))), (0, .inr (.inl 8, 0)), (1, .inl (.inl x1)), (2, .inl (.inl x2)), (3, .inl (.inl x3))], [.inl (.inl 0), .inl (.inl (σ.1 2 (yad (yad 42 (ymu 5 x1)) x3).toNat)), .inl (.inl (yad (yad 42 (ymu 5 x1)) x3)), .inr (.inr (0, 131), 2)], σ)) rfl ?_
                  exact yG_w [1, 2, 4] rfl (t_X8_does_b105 σ x1 x3 0 (σ.1 2 (yad (yad 42 (ymu 5 x1)) x3).toNat) (yad (yad 42 (ymu 5 x1)) x3) res h)
                | false =>
                  rw [hg15] at h
                  dsimp only [cond] at h
                  refine yG_f (C' := (100, [(4, .inl (.inl (yad (yad 42 (ymu 5 x1)) x3))), (0, .inr (.inl 8, 0)), (1, .inl (.inl x1)), (2, .inl (.inl x2)), (3, .inl (.inl x3))], [.inl (.inl (σ.1 2 (yad (yad 42 (ymu 5 x1)) x3).toNat)), .inl (.inl (yad (yad 42 (ymu 5 x1)) x3)), .inr (.inr (0, 131), 2)], σ)) rfl hg15 ?_
                  refine yG_n (n := 2) (C' := (105, [(4, .inl (.inl (yad (yad 42 (ymu 5 x1)) x3))), (0, .inr (.inl 8, 0)), (1, .inl (.inl x1)), (2, .inl (.inl x2)), (3, .inl (.inl x3))], [.inl (.inl 1), .inl (.inl (σ.1 2 (yad (yad 42 (ymu 5 x1)) x3).toNat)), .inl (.inl (yad (yad 42 (ymu 5 x1)) x3)), .inr (.inr (0, 131), 2)], σ)) rfl ?_
                  exact yG_w [1, 2, 4] rfl (t_X8_does_b105 σ x1 x3 1 (σ.1 2 (yad (yad 42 (ymu 5 x1)) x3).toNat) (yad (yad 42 (ymu 5 x1)) x3) res h)
  | false =>
    rw [hg8] at h
    dsimp only [cond] at h
    refine yG_f (C' := (15, [(4, .inl (.inl (yad (yad 42 (ymu 5 x1)) x3))), (0, .inr (.inl 8, 0)), (1, .inl (.inl x1)), (2, .inl (.inl x2)), (3, .inl (.inl x3))], [], σ)) rfl hg8 ?_
    refine yG_n (n := 4) (C' := (22, [(4, .inl (.inl (yad (yad 42 (ymu 5 x1)) x3))), (0, .inr (.inl 8, 0)), (1, .inl (.inl x1)), (2, .inl (.inl x2)), (3, .inl (.inl x3))], [.inl (.inl (yad (yad 42 (ymu 5 x1)) x3)), .inr (.inr (0, 131), 2), .inl (.inl (yad (yad 42 (ymu 5 x1)) x3)), .inr (.inr (0, 131), 2)], σ)) rfl ?_
    cases hg16 : yin (yad (yad 42 (ymu 5 x1)) x3) 131 with
    | false => rw [hg16] at h; dsimp only [cond] at h; cases h
    | true =>
      rw [hg16] at h
      dsimp only [cond] at h
      refine yG_t (C' := (23, [(4, .inl (.inl (yad (yad 42 (ymu 5 x1)) x3))), (0, .inr (.inl 8, 0)), (1, .inl (.inl x1)), (2, .inl (.inl x2)), (3, .inl (.inl x3))], [.inl (.inl (σ.1 2 (yad (yad 42 (ymu 5 x1)) x3).toNat)), .inl (.inl (yad (yad 42 (ymu 5 x1)) x3)), .inr (.inr (0, 131), 2)], σ)) rfl hg16 ?_
      refine yG_n (n := 3) (C' := (29, [(4, .inl (.inl (yad (yad 42 (ymu 5 x1)) x3))), (0, .inr (.inl 8, 0)), (1, .inl (.inl x1)), (2, .inl (.inl x2)), (3, .inl (.inl x3))], [.inl (.inl (yad (yad 42 (ymu 5 x1)) x3)), .inr (.inr (0, 131), 2), .inl (.inl (σ.1 2 (yad (yad 42 (ymu 5 x1)) x3).toNat)), .inl (.inl (yad (yad 42 (ymu 5 x1)) x3)), .inr (.inr (0, 131), 2)], σ)) rfl ?_
      refine yG_t (C' := (30, [(4, .inl (.inl (yad (yad 42 (ymu 5 x1)) x3))), (0, .inr (.inl 8, 0)), (1, .inl (.inl x1)), (2, .inl (.inl x2)), (3, .inl (.inl x3))], [.inl (.inl (σ.1 2 (yad (yad 42 (ymu 5 x1)) x3).toNat)), .inl (.inl (σ.1 2 (yad (yad 42 (ymu 5 x1)) x3).toNat)), .inl (.inl (yad (yad 42 (ymu 5 x1)) x3)), .inr (.inr (0, 131), 2)], σ)) rfl hg16 ?_
      cases hg17 : ycP .le (σ.1 2 (yad (yad 42 (ymu 5 x1)) x3).toNat) 0 with
      | true =>
        rw [hg17] at h
        dsimp only [cond] at h
        refine yG_t (C' := (37, [(4, .inl (.inl (yad (yad 42 (ymu 5 x1)) x3))), (0, .inr (.inl 8, 0)), (1, .inl (.inl x1)), (2, .inl (.inl x2)), (3, .inl (.inl x3))], [.inl (.inl (σ.1 2 (yad (yad 42 (ymu 5 x1)) x3).toNat)), .inl (.inl (yad (yad 42 (ymu 5 x1)) x3)), .inr (.inr (0, 131), 2)], σ)) rfl hg17 ?_
        refine yG_n (n := 1) (C' := (38, [(4, .inl (.inl (yad (yad 42 (ymu 5 x1)) x3))), (0, .inr (.inl 8, 0)), (1, .inl (.inl x1)), (2, .inl (.inl x2)), (3, .inl (.inl x3))], [.inl (.inl 0), .inl (.inl (σ.1 2 (yad (yad 42 (ymu 5 x1)) x3).toNat)), .inl (.inl (yad (yad 42 (ymu 5 x1)) x3)), .inr (.inr (0, 131), 2)], σ)) rfl ?_
        exact yG_w [] rfl (t_X8_does_b38 σ 0 (σ.1 2 (yad (yad 42 (ymu 5 x1)) x3).toNat) (yad (yad 42 (ymu 5 x1)) x3) res h)
      | false =>
        rw [hg17] at h
        dsimp only [cond] at h
        refine yG_f (C' := (33, [(4, .inl (.inl (yad (yad 42 (ymu 5 x1)) x3))), (0, .inr (.inl 8, 0)), (1, .inl (.inl x1)), (2, .inl (.inl x2)), (3, .inl (.inl x3))], [.inl (.inl (σ.1 2 (yad (yad 42 (ymu 5 x1)) x3).toNat)), .inl (.inl (yad (yad 42 (ymu 5 x1)) x3)), .inr (.inr (0, 131), 2)], σ)) rfl hg17 ?_
        refine yG_n (n := 2) (C' := (38, [(4, .inl (.inl (yad (yad 42 (ymu 5 x1)) x3))), (0, .inr (.inl 8, 0)), (1, .inl (.inl x1)), (2, .inl (.inl x2)), (3, .inl (.inl x3))], [.inl (.inl 1), .inl (.inl (σ.1 2 (yad (yad 42 (ymu 5 x1)) x3).toNat)), .inl (.inl (yad (yad 42 (ymu 5 x1)) x3)), .inr (.inr (0, 131), 2)], σ)) rfl ?_
        exact yG_w [] rfl (t_X8_does_b38 σ 1 (σ.1 2 (yad (yad 42 (ymu 5 x1)) x3).toNat) (yad (yad 42 (ymu 5 x1)) x3) res h)
set_option maxRecDepth 100000 in
set_option maxHeartbeats 4000000 in
theorem m_X8_does {N : Nat} {X : zXT} (hX : zXok X) (hN : zXn X) (l : Launch) {sh : List yH} : yMet X vwCl yct sh l yX8_does wsX8_does { frames := 2, cells := 0, slots := 0, locals := 84 } (F_X8_does N) :=
  ymeth (tb := tb_X8_does N) (pr := pr_X8_does) (rt := 0) (own := RX8) hX (by decide +kernel) rfl rfl ⟨Nat.le_of_ble_eq_true rfl, Nat.le_of_ble_eq_true rfl⟩
    (zfl_all (List.forall_mem_cons.mpr ⟨zfl_X8 (fun w h => List.mem_cons_of_mem _ (List.mem_append_right _ h)) (List.mem_of_getElem? (i := 1) rfl) (by decide) (by decide), List.forall_mem_cons.mpr ⟨zfl_X8 (fun w h => List.mem_cons_of_mem _ (List.mem_append_right _ h)) (List.mem_of_getElem? (i := 2) rfl) (by decide) (by decide), List.forall_mem_cons.mpr ⟨zfl_X8 (fun w h => List.mem_cons_of_mem _ (List.mem_append_right _ h)) (List.mem_of_getElem? (i := 3) rfl) (by decide) (by decide), fun _ h => absurd h List.not_mem_nil⟩⟩⟩))
    (zco_all (fun _ h => absurd h List.not_mem_nil)) (zlc_all (fun _ h => absurd h List.not_mem_nil))
    (fun _ h => absurd h List.not_mem_nil)
    (List.forall_mem_cons.mpr ⟨ycal_S hX (m_X8_flag hX hN l) (fun s args hts => va_cwS 1 hts gX8_does_X8_flag rfl rfl rfl (by decide +kernel) ⟨Nat.le_of_ble_eq_true rfl, Nat.le_of_ble_eq_true rfl⟩), fun _ h => absurd h List.not_mem_nil⟩)
    (zmm_all (fun _ h => absurd h List.not_mem_nil)) (fun _ h => absurd h List.not_mem_nil) (zpr_all hp_X8_does) (fun as σ res h => by
      unfold F_X8_does at h
      split at h
      · rename_i x1 x2 x3
        cases hr : f_X8_does N σ x1 x2 x3 with
        | none => rw [hr] at h; cases h
        | some r =>
          rw [hr] at h
          cases h
          exact ⟨Nat.le_of_ble_eq_true rfl, t_X8_does σ x1 x2 x3 r hr⟩
      · cases h)
noncomputable def pr_X8_falls : List (Nat × Instr × Nat) := [(0, .iload_n 1, 1), (1, .bipush (-4), 2), (3, .if_icmp .ne 18, 3), (6, .aload_n 0, 1), (7, .getfield 13, 3), (10, .sipush 128, 3), (13, .dup2, 1), (14, .iaload, 1), (15, .iconst 1, 1), (16, .iadd, 1), (17, .iastore, 1), (18, .goto 68, 3), (21, .aload_n 0, 1), (22, .getfield 13, 3), (25, .bipush 14, 2), (27, .iload_n 1, 1), (28, .iadd, 1), (29, .iaload, 1), (30, .iconst 1, 1), (31, .if_icmp .ne 18, 3), (34, .aload_n 0, 1), (35, .getfield 13, 3), (38, .sipush 129, 3), (41, .dup2, 1), (42, .iaload, 1), (43, .iconst 1, 1), (44, .iadd, 1), (45, .iastore, 1), (46, .goto 40, 3), (49, .iload_n 3, 1), (50, .ifCond .le 28, 3), (53, .aload_n 0, 1), (54, .iload_n 1, 1), (55, .iload_n 2, 1), (56, .iload_n 3, 1), (57, .bipush 9, 2), (59, .if_icmp .ne 8, 3), (62, .bipush 9, 2), (64, .goto 6, 3), (67, .iload_n 3, 1), (68, .iconst 1, 1), (69, .isub, 1), (70, .iload 4, 2), (72, .invokevirtual 242, 3), (75, .goto 11, 3), (78, .aload_n 0, 1), (79, .iload_n 1, 1), (80, .iload_n 2, 1), (81, .iload 4, 2), (83, .invokevirtual 246, 3), (86, .return_, 1)]
set_option maxRecDepth 100000 in
theorem hp_X8_falls : pr_X8_falls.all (fun x => decide (decode cX8_falls x.1 = .ok x.2)) = true := by decide +kernel
noncomputable def f_X8_falls_b86 (N : Nat) (σ : yS) : Option (Int × yS) :=
  some (0, σ)
noncomputable def f_X8_falls_b70 (N : Nat) (σ : yS) (x4 : Int) (s0 : Int) (s1 : Int) (s2 : Int) : Option (Int × yS) :=
  match f_X8_comes N σ s2 s1 s0 x4 with
  | none => none
  | some r2 => f_X8_falls_b86 N r2.2
noncomputable def f_X8_falls (N : Nat) (σ : yS) (x1 : Int) (x2 : Int) (x3 : Int) (x4 : Int) : Option (Int × yS) :=
  bif ycP .ne x1 ((-4)) then
    bif yin (yad 14 x1) 131 then
      bif ycP .ne (σ.1 2 (yad 14 x1).toNat) 1 then
        bif ycP .le x3 0 then
          match f_X8_does N σ x1 x2 x4 with
          | none => none
          | some r1 => f_X8_falls_b86 N r1.2
        else
          bif ycP .ne x3 9 then
            f_X8_falls_b70 N σ x4 (ysu x3 1) x2 x1
          else
            f_X8_falls_b70 N σ x4 9 x2 x1
      else
        f_X8_falls_b86 N (yw σ 2 129 (yad (σ.1 2 129) 1))
    else none
  else
    f_X8_falls_b86 N (yw σ 2 128 (yad (σ.1 2 128) 1))
noncomputable def F_X8_falls (N : Nat) : yF := fun as σ => match as with
  | [.inr (.inl 8, 0), .inl (.inl x1), .inl (.inl x2), .inl (.inl x3), .inl (.inl x4)] => (f_X8_falls N σ x1 x2 x3 x4).map (fun r => (none, r.2))
  | _ => none
theorem e_X8_falls {N : Nat} {σ : yS} {x1 : Int} {x2 : Int} {x3 : Int} {x4 : Int} {r : Int × yS} (h : f_X8_falls N σ x1 x2 x3 x4 = some r) : F_X8_falls N [.inr (.inl 8, 0), .inl (.inl x1), .inl (.inl x2), .inl (.inl x3), .inl (.inl x4)] σ = some (none, r.2) := by
  show (f_X8_falls N σ x1 x2 x3 x4).map (fun r => ((none, r.2) : yR)) = _
  rw [h]
  rfl
noncomputable def tb_X8_falls (N : Nat) : yTb := ([(13, 8, 1, 3)], [], [], [(242, 5, 8, F_X8_comes N), (246, 4, 8, F_X8_does N)], [], [], [])
abbrev G_X8_falls (N : Nat) (X : zXT) (sh : List yH) (l : Launch) (rm : Room) : yC → yR → Prop := yGoes X vwCl yct sh l rm cX8_falls 5 wsX8_falls RX8 (tb_X8_falls N) pr_X8_falls 0
set_option maxRecDepth 100000 in
set_option maxHeartbeats 4000000 in
theorem t_X8_falls_b86 {N : Nat} {X : zXT} {sh : List yH} {l : Launch} {rm : Room} (σ : yS) (res : Int × yS) (h : f_X8_falls_b86 N σ = some res) : G_X8_falls N X sh l rm (86, [], [], σ) (none, res.2) := by
  unfold f_X8_falls_b86 at h
  have h := Option.some.inj h
  subst h
  dsimp only
  exact yG_r rfl rfl
set_option maxRecDepth 100000 in
set_option maxHeartbeats 4000000 in
theorem t_X8_falls_b70 {N : Nat} {X : zXT} {sh : List yH} {l : Launch} {rm : Room} (σ : yS) (x4 : Int) (s0 : Int) (s1 : Int) (s2 : Int) (res : Int × yS) (h : f_X8_falls_b70 N σ x4 s0 s1 s2 = some res) : G_X8_falls N X sh l rm (70, [(4, .inl (.inl x4))], [.inl (.inl s0), .inl (.inl s1), .inl (.inl s2), .inr (.inl 8, 0)], σ) (none, res.2) := by
  unfold f_X8_falls_b70 at h
  refine yG_n (n := 1) (C' := (72, [(4, .inl (.inl x4))], [.inl (.inl x4), .inl (.inl s0), .inl (.inl s1), .inl (.inl s2), .inr (.inl 8, 0)], σ)) rfl ?_
  cases hr1 : f_X8_comes N σ s2 s1 s0 x4 with
  | none => rw [hr1] at h; dsimp only at h; cases h
  | some r2 =>
    rw [hr1] at h
    dsimp only at h
    refine yG_c (C1 := (75, [(4, .inl (.inl x4))], [], r2.2)) rfl (e_X8_comes hr1) rfl ?_
    refine yG_n (n := 1) (C' := (86, [(4, .inl (.inl x4))], [], r2.2)) rfl ?_
    exact yG_w [] rfl (t_X8_falls_b86 r2.2 res h)
set_option maxRecDepth 100000 in
set_option maxHeartbeats 4000000 in
theorem t_X8_falls {N : Nat} {X : zXT} {sh : List yH} {l : Launch} {rm : Room} (σ : yS) (x1 : Int) (x2 : Int) (x3 : Int) (x4 : Int) (res : Int × yS) (h : f_X8_falls N σ x1 x2 x3 x4 = some res) : G_X8_falls N X sh l rm (0, [(0, .inr (.inl 8, 0)), (1, .inl (.inl x1)), (2, .inl (.inl x2)), (3, .inl (.inl x3)), (4, .inl (.inl x4))], [], σ) (none, res.2) := by
  unfold f_X8_falls at h
  refine yG_n (n := 2) (C' := (3, [(0, .inr (.inl 8, 0)), (1, .inl (.inl x1)), (2, .inl (.inl x2)), (3, .inl (.inl x3)), (4, .inl (.inl x4))], [.inl (.inl ((-4))), .inl (.inl x1)], σ)) rfl ?_
  cases hg2 : ycP .ne x1 ((-4)) with
  | true =>
    rw [hg2] at h
    dsimp only [cond] at h
    refine yG_t (C' := (21, [(0, .inr (.inl 8, 0)), (1, .inl (.inl x1)), (2, .inl (.inl x2)), (3, .inl (.inl x3)), (4, .inl (.inl x4))], [], σ)) rfl hg2 ?_
    refine yG_n (n := 5) (C' := (29, [(0, .inr (.inl 8, 0)), (1, .inl (.inl x1)), (2, .inl (.inl x2)), (3, .inl (.inl x3)), (4, .inl (.inl x4))], [.inl (.inl (yad 14 x1)), .inr (.inr (0, 131), 2)], σ)) rfl ?_
    cases hg3 : yin (yad 14 x1) 131 with
    | false => rw [hg3] at h; dsimp only [cond] at h; cases h
    | true =>
      rw [hg3] at h
      dsimp only [cond] at h
      refine yG_t (C' := (30, [(0, .inr (.inl 8, 0)), (1, .inl (.inl x1)), (2, .inl (.inl x2)), (3, .inl (.inl x3)), (4, .inl (.inl x4))], [.inl (.inl (σ.1 2 (yad 14 x1).toNat))], σ)) rfl hg3 ?_
      refine yG_n (n := 1) (C' := (31, [(0, .inr (.inl 8, 0)), (1, .inl (.inl x1)), (2, .inl (.inl x2)), (3, .inl (.inl x3)), (4, .inl (.inl x4))], [.inl (.inl 1), .inl (.inl (σ.1 2 (yad 14 x1).toNat))], σ)) rfl ?_
      cases hg4 : ycP .ne (σ.1 2 (yad 14 x1).toNat) 1 with
      | true =>
        rw [hg4] at h
        dsimp only [cond] at h
        refine yG_t (C' := (49, [(0, .inr (.inl 8, 0)), (1, .inl (.inl x1)), (2, .inl (.inl x2)), (3, .inl (.inl x3)), (4, .inl (.inl x4))], [], σ)) rfl hg4 ?_
        refine yG_n (n := 1) (C' := (50, [(0, .inr (.inl 8, 0)), (1, .inl (.inl x1)), (2, .inl (.inl x2)), (3, .inl (.inl x3)), (4, .inl (.inl x4))], [.inl (.inl x3)], σ)) rfl ?_
        cases hg5 : ycP .le x3 0 with
        | true =>
          rw [hg5] at h
          dsimp only [cond] at h
          refine yG_t (C' := (78, [(0, .inr (.inl 8, 0)), (1, .inl (.inl x1)), (2, .inl (.inl x2)), (3, .inl (.inl x3)), (4, .inl (.inl x4))], [], σ)) rfl hg5 ?_
          refine yG_n (n := 4) (C' := (83, [(0, .inr (.inl 8, 0)), (1, .inl (.inl x1)), (2, .inl (.inl x2)), (3, .inl (.inl x3)), (4, .inl (.inl x4))], [.inl (.inl x4), .inl (.inl x2), .inl (.inl x1), .inr (.inl 8, 0)], σ)) rfl ?_
          cases hr6 : f_X8_does N σ x1 x2 x4 with
          | none => rw [hr6] at h; dsimp only at h; cases h
          | some r1 =>
            rw [hr6] at h
            dsimp only at h
            refine yG_c (C1 := (86, [(0, .inr (.inl 8, 0)), (1, .inl (.inl x1)), (2, .inl (.inl x2)), (3, .inl (.inl x3)), (4, .inl (.inl x4))], [], r1.2)) rfl (e_X8_does hr6) rfl ?_
            exact yG_w [] rfl (t_X8_falls_b86 r1.2 res h)
        | false =>
          rw [hg5] at h
          dsimp only [cond] at h
          refine yG_f (C' := (53, [(0, .inr (.inl 8, 0)), (1, .inl (.inl x1)), (2, .inl (.inl x2)), (3, .inl (.inl x3)), (4, .inl (.inl x4))], [], σ)) rfl hg5 ?_
          refine yG_n (n := 5) (C' := (59, [(0, .inr (.inl 8, 0)), (1, .inl (.inl x1)), (2, .inl (.inl x2)), (3, .inl (.inl x3)), (4, .inl (.inl x4))], [.inl (.inl 9), .inl (.inl x3), .inl (.inl x2), .inl (.inl x1), .inr (.inl 8, 0)], σ)) rfl ?_
          cases hg7 : ycP .ne x3 9 with
          | true =>
            rw [hg7] at h
            dsimp only [cond] at h
            refine yG_t (C' := (67, [(0, .inr (.inl 8, 0)), (1, .inl (.inl x1)), (2, .inl (.inl x2)), (3, .inl (.inl x3)), (4, .inl (.inl x4))], [.inl (.inl x2), .inl (.inl x1), .inr (.inl 8, 0)], σ)) rfl hg7 ?_
            refine yG_n (n := 3) (C' := (70, [(0, .inr (.inl 8, 0)), (1, .inl (.inl x1)), (2, .inl (.inl x2)), (3, .inl (.inl x3)), (4, .inl (.inl x4))], [.inl (.inl (ysu x3 1)), .inl (.inl x2), .inl (.inl x1), .inr (.inl 8, 0)], σ)) rfl ?_
            exact yG_w [4] rfl (t_X8_falls_b70 σ x4 (ysu x3 1) x2 x1 res h)
          | false =>
            rw [hg7] at h
            dsimp only [cond] at h
            refine yG_f (C' := (62, [(0, .inr (.inl 8, 0)), (1, .inl (.inl x1)), (2, .inl (.inl x2)), (3, .inl (.inl x3)), (4, .inl (.inl x4))], [.inl (.inl x2), .inl (.inl x1), .inr (.inl 8, 0)], σ)) rfl hg7 ?_
            refine yG_n (n := 2) (C' := (70, [(0, .inr (.inl 8, 0)), (1, .inl (.inl x1)), (2, .inl (.inl x2)), (3, .inl (.inl x3)), (4, .inl (.inl x4))], [.inl (.inl 9), .inl (.inl x2), .inl (.inl x1), .inr (.inl 8, 0)], σ)) rfl ?_
            exact yG_w [4] rfl (t_X8_falls_b70 σ x4 9 x2 x1 res h)
      | false =>
        rw [hg4] at h
        dsimp only [cond] at h
        refine yG_f (C' := (34, [(0, .inr (.inl 8, 0)), (1, .inl (.inl x1)), (2, .inl (.inl x2)), (3, .inl (.inl x3)), (4, .inl (.inl x4))], [], σ)) rfl hg4 ?_
        refine yG_n (n := 9) (C' := (86, [(0, .inr (.inl 8, 0)), (1, .inl (.inl x1)), (2, .inl (.inl x2)), (3, .inl (.inl x3)), (4, .inl (.inl x4))], [], yw σ 2 129 (yad (σ.1 2 129) 1))) rfl ?_
        exact yG_w [] rfl (t_X8_falls_b86 (yw σ 2 129 (yad (σ.1 2 129) 1)) res h)
  | false =>
    rw [hg2] at h
    dsimp only [cond] at h
    refine yG_f (C' := (6, [(0, .inr (.inl 8, 0)), (1, .inl (.inl x1)), (2, .inl (.inl x2)), (3, .inl (.inl x3)), (4, .inl (.inl x4))], [], σ)) rfl hg2 ?_
    refine yG_n (n := 9) (C' := (86, [(0, .inr (.inl 8, 0)), (1, .inl (.inl x1)), (2, .inl (.inl x2)), (3, .inl (.inl x3)), (4, .inl (.inl x4))], [], yw σ 2 128 (yad (σ.1 2 128) 1))) rfl ?_
    exact yG_w [] rfl (t_X8_falls_b86 (yw σ 2 128 (yad (σ.1 2 128) 1)) res h)
set_option maxRecDepth 100000 in
set_option maxHeartbeats 4000000 in
theorem m_X8_falls {N : Nat} {X : zXT} (hX : zXok X) (hN : zXn X) (l : Launch) {sh : List yH} : yMet X vwCl yct sh l yX8_falls wsX8_falls { frames := 3, cells := 0, slots := 0, locals := 108 } (F_X8_falls N) :=
  ymeth (tb := tb_X8_falls N) (pr := pr_X8_falls) (rt := 0) (own := RX8) hX (by decide +kernel) rfl rfl ⟨Nat.le_of_ble_eq_true rfl, Nat.le_of_ble_eq_true rfl⟩
    (zfl_all (List.forall_mem_cons.mpr ⟨zfl_X8 (fun w h => List.mem_cons_of_mem _ (List.mem_append_right _ h)) (List.mem_of_getElem? (i := 1) rfl) (by decide) (by decide), fun _ h => absurd h List.not_mem_nil⟩))
    (zco_all (fun _ h => absurd h List.not_mem_nil)) (zlc_all (fun _ h => absurd h List.not_mem_nil))
    (List.forall_mem_cons.mpr ⟨ycal_V hX (m_X8_comes hX hN l) rfl (fun s args hts => cwV 4 hts gX8_falls_X8_comes rfl rfl rfl (by decide +kernel) ⟨Nat.le_of_ble_eq_true rfl, Nat.le_of_ble_eq_true rfl⟩), List.forall_mem_cons.mpr ⟨ycal_V hX (m_X8_does hX hN l) rfl (fun s args hts => cwV 3 hts gX8_falls_X8_does rfl rfl rfl (by decide +kernel) ⟨Nat.le_of_ble_eq_true rfl, Nat.le_of_ble_eq_true rfl⟩), fun _ h => absurd h List.not_mem_nil⟩⟩)
    (fun _ h => absurd h List.not_mem_nil)
    (zmm_all (fun _ h => absurd h List.not_mem_nil)) (fun _ h => absurd h List.not_mem_nil) (zpr_all hp_X8_falls) (fun as σ res h => by
      unfold F_X8_falls at h
      split at h
      · rename_i x1 x2 x3 x4
        cases hr : f_X8_falls N σ x1 x2 x3 x4 with
        | none => rw [hr] at h; cases h
        | some r =>
          rw [hr] at h
          cases h
          exact ⟨Nat.le_of_ble_eq_true rfl, t_X8_falls σ x1 x2 x3 x4 r hr⟩
      · cases h)
noncomputable def pr_X8_days : List (Nat × Instr × Nat) := [(0, .aload_n 0, 1), (1, .iconst 0, 1), (2, .putfield 236, 3), (5, .iconst 0, 1), (6, .istore_n 1, 1), (7, .iload_n 1, 1), (8, .aload_n 0, 1), (9, .getfield 13, 3), (12, .bipush 77, 2), (14, .iaload, 1), (15, .if_icmp .ge 89, 3), (18, .bipush 78, 2), (20, .iconst 4, 1), (21, .iload_n 1, 1), (22, .imul, 1), (23, .iadd, 1), (24, .istore_n 2, 1), (25, .iconst 0, 1), (26, .istore_n 3, 1), (27, .iload_n 3, 1), (28, .aload_n 0, 1), (29, .getfield 13, 3), (32, .iload_n 2, 1), (33, .iconst 1, 1), (34, .iadd, 1), (35, .iaload, 1), (36, .invokestatic 249, 3), (39, .if_icmp .ge 59, 3), (42, .aload_n 0, 1), (43, .aload_n 0, 1), (44, .aload_n 0, 1), (45, .getfield 13, 3), (48, .iload_n 2, 1), (49, .iaload, 1), (50, .aload_n 0, 1), (51, .getfield 13, 3), (54, .iload_n 2, 1), (55, .iconst 1, 1), (56, .iadd, 1), (57, .iaload, 1), (58, .iload_n 3, 1), (59, .invokestatic 252, 3), (62, .invokevirtual 255, 3), (65, .aload_n 0, 1), (66, .getfield 13, 3), (69, .iload_n 2, 1), (70, .iconst 1, 1), (71, .iadd, 1), (72, .iaload, 1), (73, .aload_n 0, 1), (74, .getfield 13, 3), (77, .iload_n 2, 1), (78, .iconst 2, 1), (79, .iadd, 1), (80, .iaload, 1), (81, .aload_n 0, 1), (82, .getfield 13, 3), (85, .iload_n 2, 1), (86, .iconst 3, 1), (87, .iadd, 1), (88, .iaload, 1), (89, .invokevirtual 258, 3), (92, .iinc 3 1, 3), (95, .goto (-68), 3), (98, .iinc 1 1, 3), (101, .goto (-94), 3), (104, .aload_n 0, 1), (105, .getfield 13, 3), (108, .bipush 77, 2), (110, .aload_n 0, 1), (111, .getfield 236, 3), (114, .iastore, 1), (115, .iconst 0, 1), (116, .istore_n 1, 1), (117, .iload_n 1, 1), (118, .iconst 4, 1), (119, .aload_n 0, 1), (120, .getfield 236, 3), (123, .imul, 1), (124, .if_icmp .ge 24, 3), (127, .aload_n 0, 1), (128, .getfield 13, 3), (131, .bipush 78, 2), (133, .iload_n 1, 1), (134, .iadd, 1), (135, .aload_n 0, 1), (136, .getfield 35, 3), (139, .iload_n 1, 1), (140, .iaload, 1), (141, .iastore, 1), (142, .iinc 1 1, 3), (145, .goto (-28), 3), (148, .aload_n 0, 1), (149, .getfield 13, 3), (152, .bipush 127, 2), (154, .dup2, 1), (155, .iaload, 1), (156, .iconst 1, 1), (157, .iadd, 1), (158, .iastore, 1), (159, .return_, 1)]
set_option maxRecDepth 100000 in
theorem hp_X8_days : pr_X8_days.all (fun x => decide (decode cX8_days x.1 = .ok x.2)) = true := by decide +kernel
noncomputable def f_X8_days_b117 (N : Nat) : Nat → yS → Int → Option (Int × yS) := yfix (fun _ _ => none) (fun ih σ x1 =>
    bif ycP .ge x1 (ymu 4 (σ.1 0 25)) then
      some (0, yw σ 2 127 (yad (σ.1 2 127) 1))
    else
      bif yin x1 40 then
        bif yin (yad 78 x1) 131 then
          ih (yw σ 2 (yad 78 x1).toNat (σ.1 9 x1.toNat)) (yad x1 1)
        else none
      else none)
theorem q_X8_days_b117 (N : Nat) (n : Nat) (σ : yS) (x1 : Int) : f_X8_days_b117 N (n + 1) σ x1 =
    (bif ycP .ge x1 (ymu 4 (σ.1 0 25)) then
      some (0, yw σ 2 127 (yad (σ.1 2 127) 1))
    else
      bif yin x1 40 then
        bif yin (yad 78 x1) 131 then
          (f_X8_days_b117 N n) (yw σ 2 (yad 78 x1).toNat (σ.1 9 x1.toNat)) (yad x1 1)
        else none
      else none) := rfl
noncomputable def f_X8_days_b27 (N : Nat) (k7 : yS → Int → Option (Int × yS)) : Nat → yS → Int → Int → Int → Option (Int × yS) := yfix (fun _ _ _ _ => none) (fun ih σ x1 x2 x3 =>
    bif yin (yad x2 1) 131 then
      match f_X8_fallsOf N σ (σ.1 2 (yad x2 1).toNat) with
      | none => none
      | some r1 => bif ycP .ge x3 r1.1 then
          k7 r1.2 (yad x1 1)
        else
          bif yin x2 131 then
            match f_X8_byOf N r1.2 (r1.2.1 2 (yad x2 1).toNat) x3 with
            | none => none
            | some r2 => match f_X8_off N r2.2 (r1.2.1 2 x2.toNat) r2.1 with
              | none => none
              | some r3 => bif yin (yad x2 2) 131 then
                  bif yin (yad x2 3) 131 then
                    match f_X8_falls N r3.2 r3.1 (r3.2.1 2 (yad x2 1).toNat) (r3.2.1 2 (yad x2 2).toNat) (r3.2.1 2 (yad x2 3).toNat) with
                    | none => none
                    | some r4 => ih r4.2 x1 x2 (yad x3 1)
                  else none
                else none
          else none
    else none)
theorem q_X8_days_b27 (N : Nat) (k7 : yS → Int → Option (Int × yS)) (n : Nat) (σ : yS) (x1 : Int) (x2 : Int) (x3 : Int) : f_X8_days_b27 N k7 (n + 1) σ x1 x2 x3 =
    (bif yin (yad x2 1) 131 then
      match f_X8_fallsOf N σ (σ.1 2 (yad x2 1).toNat) with
      | none => none
      | some r1 => bif ycP .ge x3 r1.1 then
          k7 r1.2 (yad x1 1)
        else
          bif yin x2 131 then
            match f_X8_byOf N r1.2 (r1.2.1 2 (yad x2 1).toNat) x3 with
            | none => none
            | some r2 => match f_X8_off N r2.2 (r1.2.1 2 x2.toNat) r2.1 with
              | none => none
              | some r3 => bif yin (yad x2 2) 131 then
                  bif yin (yad x2 3) 131 then
                    match f_X8_falls N r3.2 r3.1 (r3.2.1 2 (yad x2 1).toNat) (r3.2.1 2 (yad x2 2).toNat) (r3.2.1 2 (yad x2 3).toNat) with
                    | none => none
                    | some r4 => (f_X8_days_b27 N k7 n) r4.2 x1 x2 (yad x3 1)
                  else none
                else none
          else none
    else none) := rfl
noncomputable def f_X8_days_b7 (N : Nat) : Nat → yS → Int → Option (Int × yS) := yfix (fun _ _ => none) (fun ih σ x1 =>
    bif ycP .ge x1 (σ.1 2 77) then
      f_X8_days_b117 N N (yw σ 2 77 (σ.1 0 25)) 0
    else
      f_X8_days_b27 N ih N σ x1 (yad 78 (ymu 4 x1)) 0)
theorem q_X8_days_b7 (N : Nat) (n : Nat) (σ : yS) (x1 : Int) : f_X8_days_b7 N (n + 1) σ x1 =
    (bif ycP .ge x1 (σ.1 2 77) then
      f_X8_days_b117 N N (yw σ 2 77 (σ.1 0 25)) 0
    else
      f_X8_days_b27 N (f_X8_days_b7 N n) N σ x1 (yad 78 (ymu 4 x1)) 0) := rfl
noncomputable def f_X8_days (N : Nat) (σ : yS) : Option (Int × yS) :=
  f_X8_days_b7 N N (yw σ 0 25 0) 0
noncomputable def F_X8_days (N : Nat) : yF := fun as σ => match as with
  | [.inr (.inl 8, 0)] => (f_X8_days N σ).map (fun r => (none, r.2))
  | _ => none
theorem e_X8_days {N : Nat} {σ : yS} {r : Int × yS} (h : f_X8_days N σ = some r) : F_X8_days N [.inr (.inl 8, 0)] σ = some (none, r.2) := by
  show (f_X8_days N σ).map (fun r => ((none, r.2) : yR)) = _
  rw [h]
  rfl
noncomputable def tb_X8_days (N : Nat) : yTb := ([(13, 8, 1, 3), (35, 8, 24, 3), (236, 8, 25, 0)], [], [], [(255, 3, 8, F_X8_off N), (258, 5, 8, F_X8_falls N)], [(249, 1, F_X8_fallsOf N), (252, 2, F_X8_byOf N)], [], [])
abbrev G_X8_days (N : Nat) (X : zXT) (sh : List yH) (l : Launch) (rm : Room) : yC → yR → Prop := yGoes X vwCl yct sh l rm cX8_days 4 wsX8_days RX8 (tb_X8_days N) pr_X8_days 0
set_option maxRecDepth 100000 in
set_option maxHeartbeats 4000000 in
theorem t_X8_days_b117 {N : Nat} {X : zXT} {sh : List yH} {l : Launch} {rm : Room} : ∀ (n : Nat) (σ : yS) (x1 : Int) (res : Int × yS), f_X8_days_b117 N n σ x1 = some res → G_X8_days N X sh l rm (117, [(0, .inr (.inl 8, 0)), (1, .inl (.inl x1))], [], σ) (none, res.2) := by
  intro n
  induction n with
  | zero => intro σ x1 res h; exact (yno h).elim
  | succ n ih =>
    intro σ x1 res h
    rw [q_X8_days_b117] at h
    refine yG_n (n := 5) (C' := (124, [(0, .inr (.inl 8, 0)), (1, .inl (.inl x1))], [.inl (.inl (ymu 4 (σ.1 0 25))), .inl (.inl x1)], σ)) rfl ?_
    cases hg1 : ycP .ge x1 (ymu 4 (σ.1 0 25)) with
    | true =>
      rw [hg1] at h
      dsimp only [cond] at h
      refine yG_t (C' := (148, [(0, .inr (.inl 8, 0)), (1, .inl (.inl x1))], [], σ)) rfl hg1 ?_
      refine yG_n (n := 8) (C' := (159, [(0, .inr (.inl 8, 0)), (1, .inl (.inl x1))], [], yw σ 2 127 (yad (σ.1 2 127) 1))) rfl ?_
      have h := Option.some.inj h
      subst h
      dsimp only
      exact yG_r rfl rfl
    | false =>
      rw [hg1] at h
      dsimp only [cond] at h
      refine yG_f (C' := (127, [(0, .inr (.inl 8, 0)), (1, .inl (.inl x1))], [], σ)) rfl hg1 ?_
      refine yG_n (n := 8) (C' := (140, [(0, .inr (.inl 8, 0)), (1, .inl (.inl x1))], [.inl (.inl x1), .inr (.inr (0, 40), 9), .inl (.inl (yad 78 x1)), .inr (.inr (0, 131), 2)], σ)) rfl ?_
      cases hg2 : yin x1 40 with
      | false => rw [hg2] at h; dsimp only [cond] at h; cases h
      | true =>
        rw [hg2] at h
        dsimp only [cond] at h
        refine yG_t (C' := (141, [(0, .inr (.inl 8, 0)), (1, .inl (.inl x1))], [.inl (.inl (σ.1 9 x1.toNat)), .inl (.inl (yad 78 x1)), .inr (.inr (0, 131), 2)], σ)) rfl hg2 ?_
        cases hg3 : yin (yad 78 x1) 131 with
        | false => rw [hg3] at h; dsimp only [cond] at h; cases h
        | true =>
          rw [hg3] at h
          dsimp only [cond] at h
          refine yG_t (C' := (142, [(0, .inr (.inl 8, 0)), (1, .inl (.inl x1))], [], yw σ 2 (yad 78 x1).toNat (σ.1 9 x1.toNat))) rfl hg3 ?_
          refine yG_n (n := 2) (C' := (117, [(1, .inl (.inl (yad x1 1))), (0, .inr (.inl 8, 0))], [], yw σ 2 (yad 78 x1).toNat (σ.1 9 x1.toNat))) rfl ?_
          exact yG_w [1, 0] rfl (ih (yw σ 2 (yad 78 x1).toNat (σ.1 9 x1.toNat)) (yad x1 1) res h)
set_option maxRecDepth 100000 in
set_option maxHeartbeats 4000000 in
theorem t_X8_days_b27 {N : Nat} {X : zXT} {sh : List yH} {l : Launch} {rm : Room} (k7 : yS → Int → Option (Int × yS)) (hk7 : ∀ (σ : yS) (x1 : Int) (res : Int × yS), k7 σ x1 = some res → G_X8_days N X sh l rm (7, [(0, .inr (.inl 8, 0)), (1, .inl (.inl x1))], [], σ) (none, res.2)) : ∀ (n : Nat) (σ : yS) (x1 : Int) (x2 : Int) (x3 : Int) (res : Int × yS), f_X8_days_b27 N k7 n σ x1 x2 x3 = some res → G_X8_days N X sh l rm (27, [(0, .inr (.inl 8, 0)), (1, .inl (.inl x1)), (2, .inl (.inl x2)), (3, .inl (.inl x3))], [], σ) (none, res.2) := by
  intro n
  induction n with
  | zero => intro σ x1 x2 x3 res h; exact (yno h).elim
  | succ n ih =>
    intro σ x1 x2 x3 res h
    rw [q_X8_days_b27] at h
    refine yG_n (n := 6) (C' := (35, [(0, .inr (.inl 8, 0)), (1, .inl (.inl x1)), (2, .inl (.inl x2)), (3, .inl (.inl x3))], [.inl (.inl (yad x2 1)), .inr (.inr (0, 131), 2), .inl (.inl x3)], σ)) rfl ?_
    cases hg4 : yin (yad x2 1) 131 with
    | false => rw [hg4] at h; dsimp only [cond] at h; cases h
    | true =>
      rw [hg4] at h
      dsimp only [cond] at h
      refine yG_t (C' := (36, [(0, .inr (.inl 8, 0)), (1, .inl (.inl x1)), (2, .inl (.inl x2)), (3, .inl (.inl x3))], [.inl (.inl (σ.1 2 (yad x2 1).toNat)), .inl (.inl x3)], σ)) rfl hg4 ?_
      cases hr5 : f_X8_fallsOf N σ (σ.1 2 (yad x2 1).toNat) with
      | none => rw [hr5] at h; dsimp only at h; cases h
      | some r1 =>
        rw [hr5] at h
        dsimp only at h
        refine yG_c (C1 := (39, [(0, .inr (.inl 8, 0)), (1, .inl (.inl x1)), (2, .inl (.inl x2)), (3, .inl (.inl x3))], [.inl (.inl r1.1), .inl (.inl x3)], r1.2)) rfl (e_X8_fallsOf hr5) rfl ?_
        cases hg6 : ycP .ge x3 r1.1 with
        | true =>
          rw [hg6] at h
          dsimp only [cond] at h
          refine yG_t (C' := (98, [(0, .inr (.inl 8, 0)), (1, .inl (.inl x1)), (2, .inl (.inl x2)), (3, .inl (.inl x3))], [], r1.2)) rfl hg6 ?_
          refine yG_n (n := 2) (C' := (7, [(1, .inl (.inl (yad x1 1))), (0, .inr (.inl 8, 0)), (2, .inl (.inl x2)), (3, .inl (.inl x3))], [], r1.2)) rfl ?_
          exact yG_w [1, 0] rfl (hk7 r1.2 (yad x1 1) res h)
        | false =>
          rw [hg6] at h
          dsimp only [cond] at h
          refine yG_f (C' := (42, [(0, .inr (.inl 8, 0)), (1, .inl (.inl x1)), (2, .inl (.inl x2)), (3, .inl (.inl x3))], [], r1.2)) rfl hg6 ?_
          refine yG_n (n := 5) (C' := (49, [(0, .inr (.inl 8, 0)), (1, .inl (.inl x1)), (2, .inl (.inl x2)), (3, .inl (.inl x3))], [.inl (.inl x2), .inr (.inr (0, 131), 2), .inr (.inl 8, 0), .inr (.inl 8, 0)], r1.2)) rfl ?_
          cases hg7 : yin x2 131 with
          | false => rw [hg7] at h; dsimp only [cond] at h; cases h
          | true =>
            rw [hg7] at h
            dsimp only [cond] at h
            refine yG_t (C' := (50, [(0, .inr (.inl 8, 0)), (1, .inl (.inl x1)), (2, .inl (.inl x2)), (3, .inl (.inl x3))], [.inl (.inl (r1.2.1 2 x2.toNat)), .inr (.inl 8, 0), .inr (.inl 8, 0)], r1.2)) rfl hg7 ?_
            refine yG_n (n := 5) (C' := (57, [(0, .inr (.inl 8, 0)), (1, .inl (.inl x1)), (2, .inl (.inl x2)), (3, .inl (.inl x3))], [.inl (.inl (yad x2 1)), .inr (.inr (0, 131), 2), .inl (.inl (r1.2.1 2 x2.toNat)), .inr (.inl 8, 0), .inr (.inl 8, 0)], r1.2)) rfl ?_
            refine yG_t (C' := (58, [(0, .inr (.inl 8, 0)), (1, .inl (.inl x1)), (2, .inl (.inl x2)), (3, .inl (.inl x3))], [.inl (.inl (r1.2.1 2 (yad x2 1).toNat)), .inl (.inl (r1.2.1 2 x2.toNat)), .inr (.inl 8, 0), .inr (.inl 8, 0)], r1.2)) rfl hg4 ?_
            refine yG_n (n := 1) (C' := (59, [(0, .inr (.inl 8, 0)), (1, .inl (.inl x1)), (2, .inl (.inl x2)), (3, .inl (.inl x3))], [.inl (.inl x3), .inl (.inl (r1.2.1 2 (yad x2 1).toNat)), .inl (.inl (r1.2.1 2 x2.toNat)), .inr (.inl 8, 0), .inr (.inl 8, 0)], r1.2)) rfl ?_
            cases hr8 : f_X8_byOf N r1.2 (r1.2.1 2 (yad x2 1).toNat) x3 with
            | none => rw [hr8] at h; dsimp only at h; cases h
            | some r2 =>
              rw [hr8] at h
              dsimp only at h
              refine yG_c (C1 := (62, [(0, .inr (.inl 8, 0)), (1, .inl (.inl x1)), (2, .inl (.inl x2)), (3, .inl (.inl x3))], [.inl (.inl r2.1), .inl (.inl (r1.2.1 2 x2.toNat)), .inr (.inl 8, 0), .inr (.inl 8, 0)], r2.2)) rfl (e_X8_byOf hr8) rfl ?_
              cases hr9 : f_X8_off N r2.2 (r1.2.1 2 x2.toNat) r2.1 with
              | none => rw [hr9] at h; dsimp only at h; cases h
              | some r3 =>
                rw [hr9] at h
                dsimp only at h
                refine yG_c (C1 := (65, [(0, .inr (.inl 8, 0)), (1, .inl (.inl x1)), (2, .inl (.inl x2)), (3, .inl (.inl x3))], [.inl (.inl r3.1), .inr (.inl 8, 0)], r3.2)) rfl (e_X8_off hr9) rfl ?_
                refine yG_n (n := 5) (C' := (72, [(0, .inr (.inl 8, 0)), (1, .inl (.inl x1)), (2, .inl (.inl x2)), (3, .inl (.inl x3))], [.inl (.inl (yad x2 1)), .inr (.inr (0, 131), 2), .inl (.inl r3.1), .inr (.inl 8, 0)], r3.2)) rfl ?_
                refine yG_t (C' := (73, [(0, .inr (.inl 8, 0)), (1, .inl (.inl x1)), (2, .inl (.inl x2)), (3, .inl (.inl x3))], [.inl (.inl (r3.2.1 2 (yad x2 1).toNat)), .inl (.inl r3.1), .inr (.inl 8, 0)], r3.2)) rfl hg4 ?_
                refine yG_n (n := 5) (C' := (80, [(0, .inr (.inl 8, 0)), (1, .inl (.inl x1)), (2, .inl (.inl x2)), (3, .inl (.inl x3))], [.inl (.inl (yad x2 2)), .inr (.inr (0, 131), 2), .inl (.inl (r3.2.1 2 (yad x2 1).toNat)), .inl (.inl r3.1), .inr (.inl 8, 0)], r3.2)) rfl ?_
                cases hg10 : yin (yad x2 2) 131 with
                | false => rw [hg10] at h; dsimp only [cond] at h; cases h
                | true =>
                  rw [hg10] at h
                  dsimp only [cond] at h
                  refine yG_t (C' := (81, [(0, .inr (.inl 8, 0)), (1, .inl (.inl x1)), (2, .inl (.inl x2)), (3, .inl (.inl x3))], [.inl (.inl (r3.2.1 2 (yad x2 2).toNat)), .inl (.inl (r3.2.1 2 (yad x2 1).toNat)), .inl (.inl r3.1), .inr (.inl 8, 0)], r3.2)) rfl hg10 ?_
                  refine yG_n (n := 5) (C' := (88, [(0, .inr (.inl 8, 0)), (1, .inl (.inl x1)), (2, .inl (.inl x2)), (3, .inl (.inl x3))], [.inl (.inl (yad x2 3)), .inr (.inr (0, 131), 2), .inl (.inl (r3.2.1 2 (yad x2 2).toNat)), .inl (.inl (r3.2.1 2 (yad x2 1).toNat)), .inl (.inl r3.1), .inr (.inl 8, 0)], r3.2)) rfl ?_
                  cases hg11 : yin (yad x2 3) 131 with
                  | false => rw [hg11] at h; dsimp only [cond] at h; cases h
                  | true =>
                    rw [hg11] at h
                    dsimp only [cond] at h
                    refine yG_t (C' := (89, [(0, .inr (.inl 8, 0)), (1, .inl (.inl x1)), (2, .inl (.inl x2)), (3, .inl (.inl x3))], [.inl (.inl (r3.2.1 2 (yad x2 3).toNat)), .inl (.inl (r3.2.1 2 (yad x2 2).toNat)), .inl (.inl (r3.2.1 2 (yad x2 1).toNat)), .inl (.inl r3.1), .inr (.inl 8, 0)], r3.2)) rfl hg11 ?_
                    cases hr12 : f_X8_falls N r3.2 r3.1 (r3.2.1 2 (yad x2 1).toNat) (r3.2.1 2 (yad x2 2).toNat) (r3.2.1 2 (yad x2 3).toNat) with
                    | none => rw [hr12] at h; dsimp only at h; cases h
                    | some r4 =>
                      rw [hr12] at h
                      dsimp only at h
                      refine yG_c (C1 := (92, [(0, .inr (.inl 8, 0)), (1, .inl (.inl x1)), (2, .inl (.inl x2)), (3, .inl (.inl x3))], [], r4.2)) rfl (e_X8_falls hr12) rfl ?_
                      refine yG_n (n := 2) (C' := (27, [(3, .inl (.inl (yad x3 1))), (0, .inr (.inl 8, 0)), (1, .inl (.inl x1)), (2, .inl (.inl x2))], [], r4.2)) rfl ?_
                      exact yG_w [1, 2, 3, 0] rfl (ih r4.2 x1 x2 (yad x3 1) res h)
set_option maxRecDepth 100000 in
set_option maxHeartbeats 4000000 in
theorem t_X8_days_b7 {N : Nat} {X : zXT} {sh : List yH} {l : Launch} {rm : Room} : ∀ (n : Nat) (σ : yS) (x1 : Int) (res : Int × yS), f_X8_days_b7 N n σ x1 = some res → G_X8_days N X sh l rm (7, [(0, .inr (.inl 8, 0)), (1, .inl (.inl x1))], [], σ) (none, res.2) := by
  intro n
  induction n with
  | zero => intro σ x1 res h; exact (yno h).elim
  | succ n ih =>
    intro σ x1 res h
    rw [q_X8_days_b7] at h
    refine yG_n (n := 5) (C' := (15, [(0, .inr (.inl 8, 0)), (1, .inl (.inl x1))], [.inl (.inl (σ.1 2 77)), .inl (.inl x1)], σ)) rfl ?_
    cases hg13 : ycP .ge x1 (σ.1 2 77) with
    | true =>
      rw [hg13] at h
      dsimp only [cond] at h
      refine yG_t (C' := (104, [(0, .inr (.inl 8, 0)), (1, .inl (.inl x1))], [], σ)) rfl hg13 ?_
      refine yG_n (n := 8) (C' := (117, [(1, .inl (.inl 0)), (0, .inr (.inl 8, 0))], [], yw σ 2 77 (σ.1 0 25))) rfl ?_
      exact yG_w [1, 0] rfl (t_X8_days_b117 N (yw σ 2 77 (σ.1 0 25)) 0 res h)
    | false =>
      rw [hg13] at h
      dsimp only [cond] at h
      refine yG_f (C' := (18, [(0, .inr (.inl 8, 0)), (1, .inl (.inl x1))], [], σ)) rfl hg13 ?_
      refine yG_n (n := 8) (C' := (27, [(3, .inl (.inl 0)), (2, .inl (.inl (yad 78 (ymu 4 x1)))), (0, .inr (.inl 8, 0)), (1, .inl (.inl x1))], [], σ)) rfl ?_
      exact yG_w [2, 3, 1, 0] rfl (t_X8_days_b27 (f_X8_days_b7 N n) ih N σ x1 (yad 78 (ymu 4 x1)) 0 res h)
set_option maxRecDepth 100000 in
set_option maxHeartbeats 4000000 in
theorem t_X8_days {N : Nat} {X : zXT} {sh : List yH} {l : Launch} {rm : Room} (σ : yS) (res : Int × yS) (h : f_X8_days N σ = some res) : G_X8_days N X sh l rm (0, [(0, .inr (.inl 8, 0))], [], σ) (none, res.2) := by
  unfold f_X8_days at h
  refine yG_n (n := 5) (C' := (7, [(1, .inl (.inl 0)), (0, .inr (.inl 8, 0))], [], yw σ 0 25 0)) rfl ?_
  exact yG_w [1, 0] rfl (t_X8_days_b7 N (yw σ 0 25 0) 0 res h)
set_option maxRecDepth 100000 in
set_option maxHeartbeats 4000000 in
theorem m_X8_days {N : Nat} {X : zXT} (hX : zXok X) (hN : zXn X) (l : Launch) {sh : List yH} : yMet X vwCl yct sh l yX8_days wsX8_days { frames := 4, cells := 0, slots := 0, locals := 132 } (F_X8_days N) :=
  ymeth (tb := tb_X8_days N) (pr := pr_X8_days) (rt := 0) (own := RX8) hX (by decide +kernel) rfl rfl ⟨Nat.le_of_ble_eq_true rfl, Nat.le_of_ble_eq_true rfl⟩
    (zfl_all (List.forall_mem_cons.mpr ⟨zfl_X8 (fun w h => List.mem_cons_of_mem _ (List.mem_append_right _ h)) (List.mem_of_getElem? (i := 2) rfl) (by decide) (by decide), List.forall_mem_cons.mpr ⟨zfl_X8 (fun w h => List.mem_cons_of_mem _ (List.mem_append_right _ h)) (List.mem_of_getElem? (i := 3) rfl) (by decide) (by decide), List.forall_mem_cons.mpr ⟨zfl_X8 (fun w h => List.mem_cons_of_mem _ (List.mem_append_right _ h)) (List.mem_of_getElem? (i := 1) rfl) (by decide) (by decide), fun _ h => absurd h List.not_mem_nil⟩⟩⟩))
    (zco_all (fun _ h => absurd h List.not_mem_nil)) (zlc_all (fun _ h => absurd h List.not_mem_nil))
    (List.forall_mem_cons.mpr ⟨ycal_V hX (m_X8_off hX hN l) rfl (fun s args hts => cwV 2 hts gX8_days_X8_off rfl rfl rfl (by decide +kernel) ⟨Nat.le_of_ble_eq_true rfl, Nat.le_of_ble_eq_true rfl⟩), List.forall_mem_cons.mpr ⟨ycal_V hX (m_X8_falls hX hN l) rfl (fun s args hts => cwV 4 hts gX8_days_X8_falls rfl rfl rfl (by decide +kernel) ⟨Nat.le_of_ble_eq_true rfl, Nat.le_of_ble_eq_true rfl⟩), fun _ h => absurd h List.not_mem_nil⟩⟩)
    (List.forall_mem_cons.mpr ⟨ycal_S hX (m_X8_fallsOf hX hN l) (fun s args hts => va_cwS 1 hts gX8_days_X8_fallsOf rfl rfl rfl (by decide +kernel) ⟨Nat.le_of_ble_eq_true rfl, Nat.le_of_ble_eq_true rfl⟩), List.forall_mem_cons.mpr ⟨ycal_S hX (m_X8_byOf hX hN l) (fun s args hts => va_cwS 2 hts gX8_days_X8_byOf rfl rfl rfl (by decide +kernel) ⟨Nat.le_of_ble_eq_true rfl, Nat.le_of_ble_eq_true rfl⟩), fun _ h => absurd h List.not_mem_nil⟩⟩)
    (zmm_all (fun _ h => absurd h List.not_mem_nil)) (fun _ h => absurd h List.not_mem_nil) (zpr_all hp_X8_days) (fun as σ res h => by
      unfold F_X8_days at h
      split at h
      · cases hr : f_X8_days N σ with
        | none => rw [hr] at h; cases h
        | some r =>
          rw [hr] at h
          cases h
          exact ⟨Nat.le_of_ble_eq_true rfl, t_X8_days σ r hr⟩
      · cases h)
end
section
noncomputable def pr_X8_daysAll : List (Nat × Instr × Nat) := [(0, .aload_n 0, 1), (1, .iconst 0, 1), (2, .putfield 239, 3), (5, .iconst 0, 1), (6, .istore_n 2, 1), (7, .iload_n 2, 1), (8, .iload_n 1, 1), (9, .if_icmp .ge 13, 3), (12, .aload_n 0, 1), (13, .invokevirtual 261, 3), (16, .iinc 2 1, 3), (19, .goto (-12), 3), (22, .return_, 1)]
set_option maxRecDepth 100000 in
theorem hp_X8_daysAll : pr_X8_daysAll.all (fun x => decide (decode cX8_daysAll x.1 = .ok x.2)) = true := by decide +kernel
noncomputable def f_X8_daysAll_b7 (N : Nat) : Nat → yS → Int → Int → Option (Int × yS) := yfix (fun _ _ _ => none) (fun ih σ x1 x2 =>
    bif ycP .ge x2 x1 then
      some (0, σ)
    else
      match f_X8_days N σ with
      | none => none
      | some r1 => ih r1.2 x1 (yad x2 1))
theorem q_X8_daysAll_b7 (N : Nat) (n : Nat) (σ : yS) (x1 : Int) (x2 : Int) : f_X8_daysAll_b7 N (n + 1) σ x1 x2 =
    (bif ycP .ge x2 x1 then
      some (0, σ)
    else
      match f_X8_days N σ with
      | none => none
      | some r1 => (f_X8_daysAll_b7 N n) r1.2 x1 (yad x2 1)) := rfl
noncomputable def f_X8_daysAll (N : Nat) (σ : yS) (x1 : Int) : Option (Int × yS) :=
  f_X8_daysAll_b7 N N (yw σ 0 26 0) x1 0
noncomputable def F_X8_daysAll (N : Nat) : yF := fun as σ => match as with
  | [.inr (.inl 8, 0), .inl (.inl x1)] => (f_X8_daysAll N σ x1).map (fun r => (none, r.2))
  | _ => none
theorem e_X8_daysAll {N : Nat} {σ : yS} {x1 : Int} {r : Int × yS} (h : f_X8_daysAll N σ x1 = some r) : F_X8_daysAll N [.inr (.inl 8, 0), .inl (.inl x1)] σ = some (none, r.2) := by
  show (f_X8_daysAll N σ x1).map (fun r => ((none, r.2) : yR)) = _
  rw [h]
  rfl
noncomputable def tb_X8_daysAll (N : Nat) : yTb := ([(239, 8, 26, 0)], [], [], [(261, 1, 8, F_X8_days N)], [], [], [])
abbrev G_X8_daysAll (N : Nat) (X : zXT) (sh : List yH) (l : Launch) (rm : Room) : yC → yR → Prop := yGoes X vwCl yct sh l rm cX8_daysAll 3 wsX8_daysAll RX8 (tb_X8_daysAll N) pr_X8_daysAll 0
set_option maxRecDepth 100000 in
set_option maxHeartbeats 4000000 in
theorem t_X8_daysAll_b7 {N : Nat} {X : zXT} {sh : List yH} {l : Launch} {rm : Room} : ∀ (n : Nat) (σ : yS) (x1 : Int) (x2 : Int) (res : Int × yS), f_X8_daysAll_b7 N n σ x1 x2 = some res → G_X8_daysAll N X sh l rm (7, [(0, .inr (.inl 8, 0)), (1, .inl (.inl x1)), (2, .inl (.inl x2))], [], σ) (none, res.2) := by
  intro n
  induction n with
  | zero => intro σ x1 x2 res h; exact (yno h).elim
  | succ n ih =>
    intro σ x1 x2 res h
    rw [q_X8_daysAll_b7] at h
    refine yG_n (n := 2) (C' := (9, [(0, .inr (.inl 8, 0)), (1, .inl (.inl x1)), (2, .inl (.inl x2))], [.inl (.inl x1), .inl (.inl x2)], σ)) rfl ?_
    cases hg1 : ycP .ge x2 x1 with
    | true =>
      rw [hg1] at h
      dsimp only [cond] at h
      refine yG_t (C' := (22, [(0, .inr (.inl 8, 0)), (1, .inl (.inl x1)), (2, .inl (.inl x2))], [], σ)) rfl hg1 ?_
      have h := Option.some.inj h
      subst h
      dsimp only
      exact yG_r rfl rfl
    | false =>
      rw [hg1] at h
      dsimp only [cond] at h
      refine yG_f (C' := (12, [(0, .inr (.inl 8, 0)), (1, .inl (.inl x1)), (2, .inl (.inl x2))], [], σ)) rfl hg1 ?_
      refine yG_n (n := 1) (C' := (13, [(0, .inr (.inl 8, 0)), (1, .inl (.inl x1)), (2, .inl (.inl x2))], [.inr (.inl 8, 0)], σ)) rfl ?_
      cases hr2 : f_X8_days N σ with
      | none => rw [hr2] at h; dsimp only at h; cases h
      | some r1 =>
        rw [hr2] at h
        dsimp only at h
        refine yG_c (C1 := (16, [(0, .inr (.inl 8, 0)), (1, .inl (.inl x1)), (2, .inl (.inl x2))], [], r1.2)) rfl (e_X8_days hr2) rfl ?_
        refine yG_n (n := 2) (C' := (7, [(2, .inl (.inl (yad x2 1))), (0, .inr (.inl 8, 0)), (1, .inl (.inl x1))], [], r1.2)) rfl ?_
        exact yG_w [1, 2, 0] rfl (ih r1.2 x1 (yad x2 1) res h)
set_option maxRecDepth 100000 in
set_option maxHeartbeats 4000000 in
theorem t_X8_daysAll {N : Nat} {X : zXT} {sh : List yH} {l : Launch} {rm : Room} (σ : yS) (x1 : Int) (res : Int × yS) (h : f_X8_daysAll N σ x1 = some res) : G_X8_daysAll N X sh l rm (0, [(0, .inr (.inl 8, 0)), (1, .inl (.inl x1))], [], σ) (none, res.2) := by
  unfold f_X8_daysAll at h
  refine yG_n (n := 5) (C' := (7, [(2, .inl (.inl 0)), (0, .inr (.inl 8, 0)), (1, .inl (.inl x1))], [], yw σ 0 26 0)) rfl ?_
  exact yG_w [1, 2, 0] rfl (t_X8_daysAll_b7 N (yw σ 0 26 0) x1 0 res h)
set_option maxRecDepth 100000 in
set_option maxHeartbeats 4000000 in
theorem m_X8_daysAll {N : Nat} {X : zXT} (hX : zXok X) (hN : zXn X) (l : Launch) {sh : List yH} : yMet X vwCl yct sh l yX8_daysAll wsX8_daysAll { frames := 5, cells := 0, slots := 0, locals := 155 } (F_X8_daysAll N) :=
  ymeth (tb := tb_X8_daysAll N) (pr := pr_X8_daysAll) (rt := 0) (own := RX8) hX (by decide +kernel) rfl rfl ⟨Nat.le_of_ble_eq_true rfl, Nat.le_of_ble_eq_true rfl⟩
    (zfl_all (List.forall_mem_cons.mpr ⟨zfl_X8 (fun w h => List.mem_cons_of_mem _ (List.mem_append_right _ h)) (List.mem_of_getElem? (i := 1) rfl) (by decide) (by decide), fun _ h => absurd h List.not_mem_nil⟩))
    (zco_all (fun _ h => absurd h List.not_mem_nil)) (zlc_all (fun _ h => absurd h List.not_mem_nil))
    (List.forall_mem_cons.mpr ⟨ycal_V hX (m_X8_days hX hN l) rfl (fun s args hts => cwV 0 hts gX8_daysAll_X8_days rfl rfl rfl (by decide +kernel) ⟨Nat.le_of_ble_eq_true rfl, Nat.le_of_ble_eq_true rfl⟩), fun _ h => absurd h List.not_mem_nil⟩)
    (fun _ h => absurd h List.not_mem_nil)
    (zmm_all (fun _ h => absurd h List.not_mem_nil)) (fun _ h => absurd h List.not_mem_nil) (zpr_all hp_X8_daysAll) (fun as σ res h => by
      unfold F_X8_daysAll at h
      split at h
      · rename_i x1
        cases hr : f_X8_daysAll N σ x1 with
        | none => rw [hr] at h; cases h
        | some r =>
          rw [hr] at h
          cases h
          exact ⟨Nat.le_of_ble_eq_true rfl, t_X8_daysAll σ x1 r hr⟩
      · cases h)
noncomputable def pr_X8_ahead : List (Nat × Instr × Nat) := [(0, .aload_n 0, 1), (1, .iload_n 1, 1), (2, .invokevirtual 205, 3), (5, .ifCond .eq 23, 3), (8, .aload_n 0, 1), (9, .iload_n 2, 1), (10, .invokevirtual 209, 3), (13, .ifCond .eq 15, 3), (16, .iload_n 3, 1), (17, .i2l, 1), (18, .lconst 0, 1), (19, .ldc2_w 264, 3), (22, .invokestatic 90, 3), (25, .ifCond .ne 5, 3), (28, .iconst (-1), 1), (29, .ireturn, 1), (30, .aload_n 0, 1), (31, .invokevirtual 266, 3), (34, .aload_n 0, 1), (35, .iload_n 3, 1), (36, .invokevirtual 269, 3), (39, .aload_n 0, 1), (40, .getfield 13, 3), (43, .bipush 42, 2), (45, .iconst 5, 1), (46, .iload_n 1, 1), (47, .imul, 1), (48, .iadd, 1), (49, .iload_n 2, 1), (50, .iadd, 1), (51, .iaload, 1), (52, .ireturn, 1)]
set_option maxRecDepth 100000 in
theorem hp_X8_ahead : pr_X8_ahead.all (fun x => decide (decode cX8_ahead x.1 = .ok x.2)) = true := by decide +kernel
noncomputable def f_X8_ahead_b28 (N : Nat) (σ : yS) : Option (Int × yS) :=
  some ((-1), σ)
noncomputable def f_X8_ahead (N : Nat) (σ : yS) (x1 : Int) (x2 : Int) (x3 : Int) : Option (Int × yS) :=
  match f_X8_isHouse N σ x1 with
  | none => none
  | some r1 => bif ycP .eq r1.1 0 then
      f_X8_ahead_b28 N r1.2
    else
      match f_X8_isDeed N r1.2 x2 with
      | none => none
      | some r2 => bif ycP .eq r2.1 0 then
          f_X8_ahead_b28 N r2.2
        else
          match f_X8_in N r2.2 x3 0 60 with
          | none => none
          | some r3 => bif ycP .ne r3.1 0 then
              match f_X8_starts N r3.2 with
              | none => none
              | some r4 => match f_X8_daysAll N r4.2 x3 with
                | none => none
                | some r5 => bif yin (yad (yad 42 (ymu 5 x1)) x2) 131 then
                    some (r5.2.1 2 (yad (yad 42 (ymu 5 x1)) x2).toNat, r5.2)
                  else none
            else
              f_X8_ahead_b28 N r3.2
noncomputable def F_X8_ahead (N : Nat) : yF := fun as σ => match as with
  | [.inr (.inl 8, 0), .inl (.inl x1), .inl (.inl x2), .inl (.inl x3)] => (f_X8_ahead N σ x1 x2 x3).map (fun r => (some (.inl (.inl r.1)), r.2))
  | _ => none
theorem e_X8_ahead {N : Nat} {σ : yS} {x1 : Int} {x2 : Int} {x3 : Int} {r : Int × yS} (h : f_X8_ahead N σ x1 x2 x3 = some r) : F_X8_ahead N [.inr (.inl 8, 0), .inl (.inl x1), .inl (.inl x2), .inl (.inl x3)] σ = some (some (.inl (.inl r.1)), r.2) := by
  show (f_X8_ahead N σ x1 x2 x3).map (fun r => ((some (.inl (.inl r.1)), r.2) : yR)) = _
  rw [h]
  rfl
noncomputable def tb_X8_ahead (N : Nat) : yTb := ([(13, 8, 1, 3)], [], [(264, 60)], [(205, 2, 8, F_X8_isHouse N), (209, 2, 8, F_X8_isDeed N), (266, 1, 8, F_X8_starts N), (269, 2, 8, F_X8_daysAll N)], [(90, 3, F_X8_in N)], [], [])
abbrev G_X8_ahead (N : Nat) (X : zXT) (sh : List yH) (l : Launch) (rm : Room) : yC → yR → Prop := yGoes X vwCl yct sh l rm cX8_ahead 4 wsX8_ahead RX8 (tb_X8_ahead N) pr_X8_ahead 1
set_option maxRecDepth 100000 in
set_option maxHeartbeats 4000000 in
theorem t_X8_ahead_b28 {N : Nat} {X : zXT} {sh : List yH} {l : Launch} {rm : Room} (σ : yS) (res : Int × yS) (h : f_X8_ahead_b28 N σ = some res) : G_X8_ahead N X sh l rm (28, [], [], σ) (some (.inl (.inl res.1)), res.2) := by
  unfold f_X8_ahead_b28 at h
  refine yG_n (n := 1) (C' := (29, [], [.inl (.inl ((-1)))], σ)) rfl ?_
  have h := Option.some.inj h
  subst h
  dsimp only
  exact yG_r rfl rfl
set_option maxRecDepth 100000 in
set_option maxHeartbeats 4000000 in
theorem t_X8_ahead {N : Nat} {X : zXT} {sh : List yH} {l : Launch} {rm : Room} (σ : yS) (x1 : Int) (x2 : Int) (x3 : Int) (res : Int × yS) (h : f_X8_ahead N σ x1 x2 x3 = some res) : G_X8_ahead N X sh l rm (0, [(0, .inr (.inl 8, 0)), (1, .inl (.inl x1)), (2, .inl (.inl x2)), (3, .inl (.inl x3))], [], σ) (some (.inl (.inl res.1)), res.2) := by
  unfold f_X8_ahead at h
  refine yG_n (n := 2) (C' := (2, [(0, .inr (.inl 8, 0)), (1, .inl (.inl x1)), (2, .inl (.inl x2)), (3, .inl (.inl x3))], [.inl (.inl x1), .inr (.inl 8, 0)], σ)) rfl ?_
  cases hr1 : f_X8_isHouse N σ x1 with
  | none => rw [hr1] at h; dsimp only at h; cases h
  | some r1 =>
    rw [hr1] at h
    dsimp only at h
    refine yG_c (C1 := (5, [(0, .inr (.inl 8, 0)), (1, .inl (.inl x1)), (2, .inl (.inl x2)), (3, .inl (.inl x3))], [.inl (.inl r1.1)], r1.2)) rfl (e_X8_isHouse hr1) rfl ?_
    cases hg2 : ycP .eq r1.1 0 with
    | true =>
      rw [hg2] at h
      dsimp only [cond] at h
      refine yG_t (C' := (28, [(0, .inr (.inl 8, 0)), (1, .inl (.inl x1)), (2, .inl (.inl x2)), (3, .inl (.inl x3))], [], r1.2)) rfl hg2 ?_
      exact yG_w [] rfl (t_X8_ahead_b28 r1.2 res h)
    | false =>
      rw [hg2] at h
      dsimp only [cond] at h
      refine yG_f (C' := (8, [(0, .inr (.inl 8, 0)), (1, .inl (.inl x1)), (2, .inl (.inl x2)), (3, .inl (.inl x3))], [], r1.2)) rfl hg2 ?_
      refine yG_n (n := 2) (C' := (10, [(0, .inr (.inl 8, 0)), (1, .inl (.inl x1)), (2, .inl (.inl x2)), (3, .inl (.inl x3))], [.inl (.inl x2), .inr (.inl 8, 0)], r1.2)) rfl ?_
      cases hr3 : f_X8_isDeed N r1.2 x2 with
      | none => rw [hr3] at h; dsimp only at h; cases h
      | some r2 =>
        rw [hr3] at h
        dsimp only at h
        refine yG_c (C1 := (13, [(0, .inr (.inl 8, 0)), (1, .inl (.inl x1)), (2, .inl (.inl x2)), (3, .inl (.inl x3))], [.inl (.inl r2.1)], r2.2)) rfl (e_X8_isDeed hr3) rfl ?_
        cases hg4 : ycP .eq r2.1 0 with
        | true =>
          rw [hg4] at h
          dsimp only [cond] at h
          refine yG_t (C' := (28, [(0, .inr (.inl 8, 0)), (1, .inl (.inl x1)), (2, .inl (.inl x2)), (3, .inl (.inl x3))], [], r2.2)) rfl hg4 ?_
          exact yG_w [] rfl (t_X8_ahead_b28 r2.2 res h)
        | false =>
          rw [hg4] at h
          dsimp only [cond] at h
          refine yG_f (C' := (16, [(0, .inr (.inl 8, 0)), (1, .inl (.inl x1)), (2, .inl (.inl x2)), (3, .inl (.inl x3))], [], r2.2)) rfl hg4 ?_
          refine yG_n (n := 4) (C' := (22, [(0, .inr (.inl 8, 0)), (1, .inl (.inl x1)), (2, .inl (.inl x2)), (3, .inl (.inl x3))], [.inl (.inr 60), .inl (.inr 0), .inl (.inr x3)], r2.2)) rfl ?_
          cases hr5 : f_X8_in N r2.2 x3 0 60 with
          | none => rw [hr5] at h; dsimp only at h; cases h
          | some r3 =>
            rw [hr5] at h
            dsimp only at h
            refine yG_c (C1 := (25, [(0, .inr (.inl 8, 0)), (1, .inl (.inl x1)), (2, .inl (.inl x2)), (3, .inl (.inl x3))], [.inl (.inl r3.1)], r3.2)) rfl (e_X8_in hr5) rfl ?_
            cases hg6 : ycP .ne r3.1 0 with
            | true =>
              rw [hg6] at h
              dsimp only [cond] at h
              refine yG_t (C' := (30, [(0, .inr (.inl 8, 0)), (1, .inl (.inl x1)), (2, .inl (.inl x2)), (3, .inl (.inl x3))], [], r3.2)) rfl hg6 ?_
              refine yG_n (n := 1) (C' := (31, [(0, .inr (.inl 8, 0)), (1, .inl (.inl x1)), (2, .inl (.inl x2)), (3, .inl (.inl x3))], [.inr (.inl 8, 0)], r3.2)) rfl ?_
              cases hr7 : f_X8_starts N r3.2 with
              | none => rw [hr7] at h; dsimp only at h; cases h
              | some r4 =>
                rw [hr7] at h
                dsimp only at h
                refine yG_c (C1 := (34, [(0, .inr (.inl 8, 0)), (1, .inl (.inl x1)), (2, .inl (.inl x2)), (3, .inl (.inl x3))], [], r4.2)) rfl (e_X8_starts hr7) rfl ?_
                refine yG_n (n := 2) (C' := (36, [(0, .inr (.inl 8, 0)), (1, .inl (.inl x1)), (2, .inl (.inl x2)), (3, .inl (.inl x3))], [.inl (.inl x3), .inr (.inl 8, 0)], r4.2)) rfl ?_
                cases hr8 : f_X8_daysAll N r4.2 x3 with
                | none => rw [hr8] at h; dsimp only at h; cases h
                | some r5 =>
                  rw [hr8] at h
                  dsimp only at h
                  refine yG_c (C1 := (39, [(0, .inr (.inl 8, 0)), (1, .inl (.inl x1)), (2, .inl (.inl x2)), (3, .inl (.inl x3))], [], r5.2)) rfl (e_X8_daysAll hr8) rfl ?_
                  refine yG_n (n := 9) (C' := (51, [(0, .inr (.inl 8, 0)), (1, .inl (.inl x1)), (2, .inl (.inl x2)), (3, .inl (.inl x3))], [.inl (.inl (yad (yad 42 (ymu 5 x1)) x2)), .inr (.inr (0, 131), 2)], r5.2)) rfl ?_
                  cases hg9 : yin (yad (yad 42 (ymu 5 x1)) x2) 131 with
                  | false => rw [hg9] at h; dsimp only [cond] at h; cases h
                  | true =>
                    rw [hg9] at h
                    dsimp only [cond] at h
                    refine yG_t (C' := (52, [(0, .inr (.inl 8, 0)), (1, .inl (.inl x1)), (2, .inl (.inl x2)), (3, .inl (.inl x3))], [.inl (.inl (r5.2.1 2 (yad (yad 42 (ymu 5 x1)) x2).toNat))], r5.2)) rfl hg9 ?_
                    have h := Option.some.inj h
                    subst h
                    dsimp only
                    exact yG_r rfl rfl
            | false =>
              rw [hg6] at h
              dsimp only [cond] at h
              refine yG_f (C' := (28, [(0, .inr (.inl 8, 0)), (1, .inl (.inl x1)), (2, .inl (.inl x2)), (3, .inl (.inl x3))], [], r3.2)) rfl hg6 ?_
              exact yG_w [] rfl (t_X8_ahead_b28 r3.2 res h)
set_option maxRecDepth 100000 in
set_option maxHeartbeats 4000000 in
theorem m_X8_ahead {N : Nat} {X : zXT} (hX : zXok X) (hN : zXn X) (l : Launch) {sh : List yH} : yMet X vwCl yct sh l yX8_ahead wsX8_ahead { frames := 6, cells := 0, slots := 0, locals := 177 } (F_X8_ahead N) :=
  ymeth (tb := tb_X8_ahead N) (pr := pr_X8_ahead) (rt := 1) (own := RX8) hX (by decide +kernel) rfl rfl ⟨Nat.le_of_ble_eq_true rfl, Nat.le_of_ble_eq_true rfl⟩
    (zfl_all (List.forall_mem_cons.mpr ⟨zfl_X8 (fun w h => List.mem_cons_of_mem _ (List.mem_append_right _ h)) (List.mem_of_getElem? (i := 2) rfl) (by decide) (by decide), fun _ h => absurd h List.not_mem_nil⟩))
    (zco_all (fun _ h => absurd h List.not_mem_nil)) (zlc_all (List.forall_mem_cons.mpr ⟨(List.mem_of_getElem? (i := 1) rfl), fun _ h => absurd h List.not_mem_nil⟩))
    (List.forall_mem_cons.mpr ⟨ycal_V hX (m_X8_isHouse hX hN l) rfl (fun s args hts => cwV 1 hts gX8_ahead_X8_isHouse rfl rfl rfl (by decide +kernel) ⟨Nat.le_of_ble_eq_true rfl, Nat.le_of_ble_eq_true rfl⟩), List.forall_mem_cons.mpr ⟨ycal_V hX (m_X8_isDeed hX hN l) rfl (fun s args hts => cwV 1 hts gX8_ahead_X8_isDeed rfl rfl rfl (by decide +kernel) ⟨Nat.le_of_ble_eq_true rfl, Nat.le_of_ble_eq_true rfl⟩), List.forall_mem_cons.mpr ⟨ycal_V hX (m_X8_starts hX hN l) rfl (fun s args hts => cwV 0 hts gX8_ahead_X8_starts rfl rfl rfl (by decide +kernel) ⟨Nat.le_of_ble_eq_true rfl, Nat.le_of_ble_eq_true rfl⟩), List.forall_mem_cons.mpr ⟨ycal_V hX (m_X8_daysAll hX hN l) rfl (fun s args hts => cwV 1 hts gX8_ahead_X8_daysAll rfl rfl rfl (by decide +kernel) ⟨Nat.le_of_ble_eq_true rfl, Nat.le_of_ble_eq_true rfl⟩), fun _ h => absurd h List.not_mem_nil⟩⟩⟩⟩)
    (List.forall_mem_cons.mpr ⟨ycal_S hX (m_X8_in hX hN l) (fun s args hts => va_cwS 3 hts gX8_ahead_X8_in rfl rfl rfl (by decide +kernel) ⟨Nat.le_of_ble_eq_true rfl, Nat.le_of_ble_eq_true rfl⟩), fun _ h => absurd h List.not_mem_nil⟩)
    (zmm_all (fun _ h => absurd h List.not_mem_nil)) (fun _ h => absurd h List.not_mem_nil) (zpr_all hp_X8_ahead) (fun as σ res h => by
      unfold F_X8_ahead at h
      split at h
      · rename_i x1 x2 x3
        cases hr : f_X8_ahead N σ x1 x2 x3 with
        | none => rw [hr] at h; cases h
        | some r =>
          rw [hr] at h
          cases h
          exact ⟨Nat.le_of_ble_eq_true rfl, t_X8_ahead σ x1 x2 x3 r hr⟩
      · cases h)
noncomputable def pr_X8_copies : List (Nat × Instr × Nat) := [(0, .iconst 0, 1), (1, .istore_n 3, 1), (2, .iload_n 3, 1), (3, .sipush 131, 3), (6, .if_icmp .ge 25, 3), (9, .aload_n 0, 1), (10, .getfield 7, 3), (13, .iload_n 1, 1), (14, .iload_n 3, 1), (15, .iadd, 1), (16, .aload_n 0, 1), (17, .getfield 7, 3), (20, .iload_n 2, 1), (21, .iload_n 3, 1), (22, .iadd, 1), (23, .iaload, 1), (24, .iastore, 1), (25, .iinc 3 1, 3), (28, .goto (-26), 3), (31, .return_, 1)]
set_option maxRecDepth 100000 in
theorem hp_X8_copies : pr_X8_copies.all (fun x => decide (decode cX8_copies x.1 = .ok x.2)) = true := by decide +kernel
noncomputable def f_X8_copies_b2 (N : Nat) : Nat → yS → Int → Int → Int → Option (Int × yS) := yfix (fun _ _ _ _ => none) (fun ih σ x1 x2 x3 =>
    bif ycP .ge x3 131 then
      some (0, σ)
    else
      bif yin (yad x2 x3) 393 then
        bif yin (yad x1 x3) 393 then
          ih (yw σ 1 (yad x1 x3).toNat (σ.1 1 (yad x2 x3).toNat)) x1 x2 (yad x3 1)
        else none
      else none)
theorem q_X8_copies_b2 (N : Nat) (n : Nat) (σ : yS) (x1 : Int) (x2 : Int) (x3 : Int) : f_X8_copies_b2 N (n + 1) σ x1 x2 x3 =
    (bif ycP .ge x3 131 then
      some (0, σ)
    else
      bif yin (yad x2 x3) 393 then
        bif yin (yad x1 x3) 393 then
          (f_X8_copies_b2 N n) (yw σ 1 (yad x1 x3).toNat (σ.1 1 (yad x2 x3).toNat)) x1 x2 (yad x3 1)
        else none
      else none) := rfl
noncomputable def f_X8_copies (N : Nat) (σ : yS) (x1 : Int) (x2 : Int) : Option (Int × yS) :=
  f_X8_copies_b2 N N σ x1 x2 0
noncomputable def F_X8_copies (N : Nat) : yF := fun as σ => match as with
  | [.inr (.inl 8, 0), .inl (.inl x1), .inl (.inl x2)] => (f_X8_copies N σ x1 x2).map (fun r => (none, r.2))
  | _ => none
theorem e_X8_copies {N : Nat} {σ : yS} {x1 : Int} {x2 : Int} {r : Int × yS} (h : f_X8_copies N σ x1 x2 = some r) : F_X8_copies N [.inr (.inl 8, 0), .inl (.inl x1), .inl (.inl x2)] σ = some (none, r.2) := by
  show (f_X8_copies N σ x1 x2).map (fun r => ((none, r.2) : yR)) = _
  rw [h]
  rfl
noncomputable def tb_X8_copies (N : Nat) : yTb := ([(7, 8, 0, 3)], [], [], [], [], [], [])
abbrev G_X8_copies (N : Nat) (X : zXT) (sh : List yH) (l : Launch) (rm : Room) : yC → yR → Prop := yGoes X vwCl yct sh l rm cX8_copies 4 wsX8_copies RX8 (tb_X8_copies N) pr_X8_copies 0
set_option maxRecDepth 100000 in
set_option maxHeartbeats 4000000 in
theorem t_X8_copies_b2 {N : Nat} {X : zXT} {sh : List yH} {l : Launch} {rm : Room} : ∀ (n : Nat) (σ : yS) (x1 : Int) (x2 : Int) (x3 : Int) (res : Int × yS), f_X8_copies_b2 N n σ x1 x2 x3 = some res → G_X8_copies N X sh l rm (2, [(0, .inr (.inl 8, 0)), (1, .inl (.inl x1)), (2, .inl (.inl x2)), (3, .inl (.inl x3))], [], σ) (none, res.2) := by
  intro n
  induction n with
  | zero => intro σ x1 x2 x3 res h; exact (yno h).elim
  | succ n ih =>
    intro σ x1 x2 x3 res h
    rw [q_X8_copies_b2] at h
    refine yG_n (n := 2) (C' := (6, [(0, .inr (.inl 8, 0)), (1, .inl (.inl x1)), (2, .inl (.inl x2)), (3, .inl (.inl x3))], [.inl (.inl 131), .inl (.inl x3)], σ)) rfl ?_
    cases hg1 : ycP .ge x3 131 with
    | true =>
      rw [hg1] at h
      dsimp only [cond] at h
      refine yG_t (C' := (31, [(0, .inr (.inl 8, 0)), (1, .inl (.inl x1)), (2, .inl (.inl x2)), (3, .inl (.inl x3))], [], σ)) rfl hg1 ?_
      have h := Option.some.inj h
      subst h
      dsimp only
      exact yG_r rfl rfl
    | false =>
      rw [hg1] at h
      dsimp only [cond] at h
      refine yG_f (C' := (9, [(0, .inr (.inl 8, 0)), (1, .inl (.inl x1)), (2, .inl (.inl x2)), (3, .inl (.inl x3))], [], σ)) rfl hg1 ?_
      refine yG_n (n := 10) (C' := (23, [(0, .inr (.inl 8, 0)), (1, .inl (.inl x1)), (2, .inl (.inl x2)), (3, .inl (.inl x3))], [.inl (.inl (yad x2 x3)), .inr (.inr (0, 393), 1), .inl (.inl (yad x1 x3)), .inr (.inr (0, 393), 1)], σ)) rfl ?_
      cases hg2 : yin (yad x2 x3) 393 with
      | false => rw [hg2] at h; dsimp only [cond] at h; cases h
      | true =>
        rw [hg2] at h
        dsimp only [cond] at h
        refine yG_t (C' := (24, [(0, .inr (.inl 8, 0)), (1, .inl (.inl x1)), (2, .inl (.inl x2)), (3, .inl (.inl x3))], [.inl (.inl (σ.1 1 (yad x2 x3).toNat)), .inl (.inl (yad x1 x3)), .inr (.inr (0, 393), 1)], σ)) rfl hg2 ?_
        cases hg3 : yin (yad x1 x3) 393 with
        | false => rw [hg3] at h; dsimp only [cond] at h; cases h
        | true =>
          rw [hg3] at h
          dsimp only [cond] at h
          refine yG_t (C' := (25, [(0, .inr (.inl 8, 0)), (1, .inl (.inl x1)), (2, .inl (.inl x2)), (3, .inl (.inl x3))], [], yw σ 1 (yad x1 x3).toNat (σ.1 1 (yad x2 x3).toNat))) rfl hg3 ?_
          refine yG_n (n := 2) (C' := (2, [(3, .inl (.inl (yad x3 1))), (0, .inr (.inl 8, 0)), (1, .inl (.inl x1)), (2, .inl (.inl x2))], [], yw σ 1 (yad x1 x3).toNat (σ.1 1 (yad x2 x3).toNat))) rfl ?_
          exact yG_w [1, 2, 3, 0] rfl (ih (yw σ 1 (yad x1 x3).toNat (σ.1 1 (yad x2 x3).toNat)) x1 x2 (yad x3 1) res h)
set_option maxRecDepth 100000 in
set_option maxHeartbeats 4000000 in
theorem t_X8_copies {N : Nat} {X : zXT} {sh : List yH} {l : Launch} {rm : Room} (σ : yS) (x1 : Int) (x2 : Int) (res : Int × yS) (h : f_X8_copies N σ x1 x2 = some res) : G_X8_copies N X sh l rm (0, [(0, .inr (.inl 8, 0)), (1, .inl (.inl x1)), (2, .inl (.inl x2))], [], σ) (none, res.2) := by
  unfold f_X8_copies at h
  refine yG_n (n := 2) (C' := (2, [(3, .inl (.inl 0)), (0, .inr (.inl 8, 0)), (1, .inl (.inl x1)), (2, .inl (.inl x2))], [], σ)) rfl ?_
  exact yG_w [1, 2, 3, 0] rfl (t_X8_copies_b2 N σ x1 x2 0 res h)
set_option maxRecDepth 100000 in
set_option maxHeartbeats 4000000 in
theorem m_X8_copies {N : Nat} {X : zXT} (hX : zXok X) (hN : zXn X) (l : Launch) {sh : List yH} : yMet X vwCl yct sh l yX8_copies wsX8_copies { frames := 1, cells := 0, slots := 0, locals := 64 } (F_X8_copies N) :=
  ymeth (tb := tb_X8_copies N) (pr := pr_X8_copies) (rt := 0) (own := RX8) hX (by decide +kernel) rfl rfl ⟨Nat.le_of_ble_eq_true rfl, Nat.le_of_ble_eq_true rfl⟩
    (zfl_all (List.forall_mem_cons.mpr ⟨zfl_X8 (fun w h => List.mem_cons_of_mem _ (List.mem_append_right _ h)) (List.mem_of_getElem? (i := 1) rfl) (by decide) (by decide), fun _ h => absurd h List.not_mem_nil⟩))
    (zco_all (fun _ h => absurd h List.not_mem_nil)) (zlc_all (fun _ h => absurd h List.not_mem_nil))
    (fun _ h => absurd h List.not_mem_nil)
    (fun _ h => absurd h List.not_mem_nil)
    (zmm_all (fun _ h => absurd h List.not_mem_nil)) (fun _ h => absurd h List.not_mem_nil) (zpr_all hp_X8_copies) (fun as σ res h => by
      unfold F_X8_copies at h
      split at h
      · rename_i x1 x2
        cases hr : f_X8_copies N σ x1 x2 with
        | none => rw [hr] at h; cases h
        | some r =>
          rw [hr] at h
          cases h
          exact ⟨Nat.le_of_ble_eq_true rfl, t_X8_copies σ x1 x2 r hr⟩
      · cases h)
noncomputable def pr_X8_back : List (Nat × Instr × Nat) := [(0, .iload_n 1, 1), (1, .i2l, 1), (2, .lconst 0, 1), (3, .lconst 1, 1), (4, .invokestatic 90, 3), (7, .ifCond .ne 5, 3), (10, .iconst (-1), 1), (11, .ireturn, 1), (12, .aload_n 0, 1), (13, .getfield 16, 3), (16, .iload_n 1, 1), (17, .baload, 1), (18, .ifCond .ne 6, 3), (21, .bipush (-2), 2), (23, .ireturn, 1), (24, .aload_n 0, 1), (25, .iconst 0, 1), (26, .sipush 131, 3), (29, .iload_n 1, 1), (30, .iconst 1, 1), (31, .iadd, 1), (32, .imul, 1), (33, .invokevirtual 318, 3), (36, .aload_n 0, 1), (37, .getfield 7, 3), (40, .bipush 127, 2), (42, .iaload, 1), (43, .ireturn, 1)]
set_option maxRecDepth 100000 in
theorem hp_X8_back : pr_X8_back.all (fun x => decide (decode cX8_back x.1 = .ok x.2)) = true := by decide +kernel
noncomputable def f_X8_back (N : Nat) (σ : yS) (x1 : Int) : Option (Int × yS) :=
  match f_X8_in N σ x1 0 1 with
  | none => none
  | some r1 => bif ycP .ne r1.1 0 then
      bif yin x1 2 then
        bif ycP .ne (r1.2.1 3 x1.toNat) 0 then
          match f_X8_copies N r1.2 0 (ymu 131 (yad x1 1)) with
          | none => none
          | some r2 => some (r2.2.1 1 127, r2.2)
        else
          some ((-2), r1.2)
      else none
    else
      some ((-1), r1.2)
noncomputable def F_X8_back (N : Nat) : yF := fun as σ => match as with
  | [.inr (.inl 8, 0), .inl (.inl x1)] => (f_X8_back N σ x1).map (fun r => (some (.inl (.inl r.1)), r.2))
  | _ => none
theorem e_X8_back {N : Nat} {σ : yS} {x1 : Int} {r : Int × yS} (h : f_X8_back N σ x1 = some r) : F_X8_back N [.inr (.inl 8, 0), .inl (.inl x1)] σ = some (some (.inl (.inl r.1)), r.2) := by
  show (f_X8_back N σ x1).map (fun r => ((some (.inl (.inl r.1)), r.2) : yR)) = _
  rw [h]
  rfl
noncomputable def tb_X8_back (N : Nat) : yTb := ([(7, 8, 0, 3), (16, 8, 2, 3)], [], [], [(318, 3, 8, F_X8_copies N)], [(90, 3, F_X8_in N)], [], [])
abbrev G_X8_back (N : Nat) (X : zXT) (sh : List yH) (l : Launch) (rm : Room) : yC → yR → Prop := yGoes X vwCl yct sh l rm cX8_back 2 wsX8_back RX8 (tb_X8_back N) pr_X8_back 1
set_option maxRecDepth 100000 in
set_option maxHeartbeats 4000000 in
theorem t_X8_back {N : Nat} {X : zXT} {sh : List yH} {l : Launch} {rm : Room} (σ : yS) (x1 : Int) (res : Int × yS) (h : f_X8_back N σ x1 = some res) : G_X8_back N X sh l rm (0, [(0, .inr (.inl 8, 0)), (1, .inl (.inl x1))], [], σ) (some (.inl (.inl res.1)), res.2) := by
  unfold f_X8_back at h
  refine yG_n (n := 4) (C' := (4, [(0, .inr (.inl 8, 0)), (1, .inl (.inl x1))], [.inl (.inr 1), .inl (.inr 0), .inl (.inr x1)], σ)) rfl ?_
  cases hr1 : f_X8_in N σ x1 0 1 with
  | none => rw [hr1] at h; dsimp only at h; cases h
  | some r1 =>
    rw [hr1] at h
    dsimp only at h
    refine yG_c (C1 := (7, [(0, .inr (.inl 8, 0)), (1, .inl (.inl x1))], [.inl (.inl r1.1)], r1.2)) rfl (e_X8_in hr1) rfl ?_
    cases hg2 : ycP .ne r1.1 0 with
    | true =>
      rw [hg2] at h
      dsimp only [cond] at h
      refine yG_t (C' := (12, [(0, .inr (.inl 8, 0)), (1, .inl (.inl x1))], [], r1.2)) rfl hg2 ?_
      refine yG_n (n := 3) (C' := (17, [(0, .inr (.inl 8, 0)), (1, .inl (.inl x1))], [.inl (.inl x1), .inr (.inr (1, 2), 3)], r1.2)) rfl ?_
      cases hg3 : yin x1 2 with
      | false => rw [hg3] at h; dsimp only [cond] at h; cases h
      | true =>
        rw [hg3] at h
        dsimp only [cond] at h
        refine yG_t (C' := (18, [(0, .inr (.inl 8, 0)), (1, .inl (.inl x1))], [.inl (.inl (r1.2.1 3 x1.toNat))], r1.2)) rfl hg3 ?_
        cases hg4 : ycP .ne (r1.2.1 3 x1.toNat) 0 with
        | true =>
          rw [hg4] at h
          dsimp only [cond] at h
          refine yG_t (C' := (24, [(0, .inr (.inl 8, 0)), (1, .inl (.inl x1))], [], r1.2)) rfl hg4 ?_
          refine yG_n (n := 7) (C' := (33, [(0, .inr (.inl 8, 0)), (1, .inl (.inl x1))], [.inl (.inl (ymu 131 (yad x1 1))), .inl (.inl 0), .inr (.inl 8, 0)], r1.2)) rfl ?_
          cases hr5 : f_X8_copies N r1.2 0 (ymu 131 (yad x1 1)) with
          | none => rw [hr5] at h; dsimp only at h; cases h
          | some r2 =>
            rw [hr5] at h
            dsimp only at h
            refine yG_c (C1 := (36, [(0, .inr (.inl 8, 0)), (1, .inl (.inl x1))], [], r2.2)) rfl (e_X8_copies hr5) rfl ?_
            refine yG_n (n := 4) (C' := (43, [(0, .inr (.inl 8, 0)), (1, .inl (.inl x1))], [.inl (.inl (r2.2.1 1 127))], r2.2)) rfl ?_
            have h := Option.some.inj h
            subst h
            dsimp only
            exact yG_r rfl rfl
        | false =>
          rw [hg4] at h
          dsimp only [cond] at h
          refine yG_f (C' := (21, [(0, .inr (.inl 8, 0)), (1, .inl (.inl x1))], [], r1.2)) rfl hg4 ?_
          refine yG_n (n := 1) (C' := (23, [(0, .inr (.inl 8, 0)), (1, .inl (.inl x1))], [.inl (.inl ((-2)))], r1.2)) rfl ?_
          have h := Option.some.inj h
          subst h
          dsimp only
          exact yG_r rfl rfl
    | false =>
      rw [hg2] at h
      dsimp only [cond] at h
      refine yG_f (C' := (10, [(0, .inr (.inl 8, 0)), (1, .inl (.inl x1))], [], r1.2)) rfl hg2 ?_
      refine yG_n (n := 1) (C' := (11, [(0, .inr (.inl 8, 0)), (1, .inl (.inl x1))], [.inl (.inl ((-1)))], r1.2)) rfl ?_
      have h := Option.some.inj h
      subst h
      dsimp only
      exact yG_r rfl rfl
set_option maxRecDepth 100000 in
set_option maxHeartbeats 4000000 in
theorem m_X8_back {N : Nat} {X : zXT} (hX : zXok X) (hN : zXn X) (l : Launch) {sh : List yH} : yMet X vwCl yct sh l yX8_back wsX8_back { frames := 2, cells := 0, slots := 0, locals := 89 } (F_X8_back N) :=
  ymeth (tb := tb_X8_back N) (pr := pr_X8_back) (rt := 1) (own := RX8) hX (by decide +kernel) rfl rfl ⟨Nat.le_of_ble_eq_true rfl, Nat.le_of_ble_eq_true rfl⟩
    (zfl_all (List.forall_mem_cons.mpr ⟨zfl_X8 (fun w h => List.mem_cons_of_mem _ (List.mem_append_right _ h)) (List.mem_of_getElem? (i := 2) rfl) (by decide) (by decide), List.forall_mem_cons.mpr ⟨zfl_X8 (fun w h => List.mem_cons_of_mem _ (List.mem_append_right _ h)) (List.mem_of_getElem? (i := 1) rfl) (by decide) (by decide), fun _ h => absurd h List.not_mem_nil⟩⟩))
    (zco_all (fun _ h => absurd h List.not_mem_nil)) (zlc_all (fun _ h => absurd h List.not_mem_nil))
    (List.forall_mem_cons.mpr ⟨ycal_V hX (m_X8_copies hX hN l) rfl (fun s args hts => cwV 2 hts gX8_back_X8_copies rfl rfl rfl (by decide +kernel) ⟨Nat.le_of_ble_eq_true rfl, Nat.le_of_ble_eq_true rfl⟩), fun _ h => absurd h List.not_mem_nil⟩)
    (List.forall_mem_cons.mpr ⟨ycal_S hX (m_X8_in hX hN l) (fun s args hts => va_cwS 3 hts gX8_back_X8_in rfl rfl rfl (by decide +kernel) ⟨Nat.le_of_ble_eq_true rfl, Nat.le_of_ble_eq_true rfl⟩), fun _ h => absurd h List.not_mem_nil⟩)
    (zmm_all (fun _ h => absurd h List.not_mem_nil)) (fun _ h => absurd h List.not_mem_nil) (zpr_all hp_X8_back) (fun as σ res h => by
      unfold F_X8_back at h
      split at h
      · rename_i x1
        cases hr : f_X8_back N σ x1 with
        | none => rw [hr] at h; cases h
        | some r =>
          rw [hr] at h
          cases h
          exact ⟨Nat.le_of_ble_eq_true rfl, t_X8_back σ x1 r hr⟩
      · cases h)
noncomputable def pr_X8_becomes : List (Nat × Instr × Nat) := [(0, .aload_n 0, 1), (1, .getfield 7, 3), (4, .iload_n 1, 1), (5, .iaload, 1), (6, .istore_n 3, 1), (7, .aload_n 0, 1), (8, .getfield 7, 3), (11, .iload_n 1, 1), (12, .iload_n 2, 1), (13, .iastore, 1), (14, .iload_n 3, 1), (15, .ireturn, 1)]
set_option maxRecDepth 100000 in
theorem hp_X8_becomes : pr_X8_becomes.all (fun x => decide (decode cX8_becomes x.1 = .ok x.2)) = true := by decide +kernel
noncomputable def f_X8_becomes (N : Nat) (σ : yS) (x1 : Int) (x2 : Int) : Option (Int × yS) :=
  bif yin x1 393 then
    some (σ.1 1 x1.toNat, yw σ 1 x1.toNat x2)
  else none
noncomputable def F_X8_becomes (N : Nat) : yF := fun as σ => match as with
  | [.inr (.inl 8, 0), .inl (.inl x1), .inl (.inl x2)] => (f_X8_becomes N σ x1 x2).map (fun r => (some (.inl (.inl r.1)), r.2))
  | _ => none
theorem e_X8_becomes {N : Nat} {σ : yS} {x1 : Int} {x2 : Int} {r : Int × yS} (h : f_X8_becomes N σ x1 x2 = some r) : F_X8_becomes N [.inr (.inl 8, 0), .inl (.inl x1), .inl (.inl x2)] σ = some (some (.inl (.inl r.1)), r.2) := by
  show (f_X8_becomes N σ x1 x2).map (fun r => ((some (.inl (.inl r.1)), r.2) : yR)) = _
  rw [h]
  rfl
noncomputable def tb_X8_becomes (N : Nat) : yTb := ([(7, 8, 0, 3)], [], [], [], [], [], [])
abbrev G_X8_becomes (N : Nat) (X : zXT) (sh : List yH) (l : Launch) (rm : Room) : yC → yR → Prop := yGoes X vwCl yct sh l rm cX8_becomes 4 wsX8_becomes RX8 (tb_X8_becomes N) pr_X8_becomes 1
set_option maxRecDepth 100000 in
set_option maxHeartbeats 4000000 in
theorem t_X8_becomes {N : Nat} {X : zXT} {sh : List yH} {l : Launch} {rm : Room} (σ : yS) (x1 : Int) (x2 : Int) (res : Int × yS) (h : f_X8_becomes N σ x1 x2 = some res) : G_X8_becomes N X sh l rm (0, [(0, .inr (.inl 8, 0)), (1, .inl (.inl x1)), (2, .inl (.inl x2))], [], σ) (some (.inl (.inl res.1)), res.2) := by
  unfold f_X8_becomes at h
  refine yG_n (n := 3) (C' := (5, [(0, .inr (.inl 8, 0)), (1, .inl (.inl x1)), (2, .inl (.inl x2))], [.inl (.inl x1), .inr (.inr (0, 393), 1)], σ)) rfl ?_
  cases hg1 : yin x1 393 with
  | false => rw [hg1] at h; dsimp only [cond] at h; cases h
  | true =>
    rw [hg1] at h
    dsimp only [cond] at h
    refine yG_t (C' := (6, [(0, .inr (.inl 8, 0)), (1, .inl (.inl x1)), (2, .inl (.inl x2))], [.inl (.inl (σ.1 1 x1.toNat))], σ)) rfl hg1 ?_
    refine yG_n (n := 5) (C' := (13, [(3, .inl (.inl (σ.1 1 x1.toNat))), (0, .inr (.inl 8, 0)), (1, .inl (.inl x1)), (2, .inl (.inl x2))], [.inl (.inl x2), .inl (.inl x1), .inr (.inr (0, 393), 1)], σ)) rfl ?_
    refine yG_t (C' := (14, [(3, .inl (.inl (σ.1 1 x1.toNat))), (0, .inr (.inl 8, 0)), (1, .inl (.inl x1)), (2, .inl (.inl x2))], [], yw σ 1 x1.toNat x2)) rfl hg1 ?_
    refine yG_n (n := 1) (C' := (15, [(3, .inl (.inl (σ.1 1 x1.toNat))), (0, .inr (.inl 8, 0)), (1, .inl (.inl x1)), (2, .inl (.inl x2))], [.inl (.inl (σ.1 1 x1.toNat))], yw σ 1 x1.toNat x2)) rfl ?_
    have h := Option.some.inj h
    subst h
    dsimp only
    exact yG_r rfl rfl
set_option maxRecDepth 100000 in
set_option maxHeartbeats 4000000 in
theorem m_X8_becomes {N : Nat} {X : zXT} (hX : zXok X) (hN : zXn X) (l : Launch) {sh : List yH} : yMet X vwCl yct sh l yX8_becomes wsX8_becomes { frames := 1, cells := 0, slots := 0, locals := 64 } (F_X8_becomes N) :=
  ymeth (tb := tb_X8_becomes N) (pr := pr_X8_becomes) (rt := 1) (own := RX8) hX (by decide +kernel) rfl rfl ⟨Nat.le_of_ble_eq_true rfl, Nat.le_of_ble_eq_true rfl⟩
    (zfl_all (List.forall_mem_cons.mpr ⟨zfl_X8 (fun w h => List.mem_cons_of_mem _ (List.mem_append_right _ h)) (List.mem_of_getElem? (i := 1) rfl) (by decide) (by decide), fun _ h => absurd h List.not_mem_nil⟩))
    (zco_all (fun _ h => absurd h List.not_mem_nil)) (zlc_all (fun _ h => absurd h List.not_mem_nil))
    (fun _ h => absurd h List.not_mem_nil)
    (fun _ h => absurd h List.not_mem_nil)
    (zmm_all (fun _ h => absurd h List.not_mem_nil)) (fun _ h => absurd h List.not_mem_nil) (zpr_all hp_X8_becomes) (fun as σ res h => by
      unfold F_X8_becomes at h
      split at h
      · rename_i x1 x2
        cases hr : f_X8_becomes N σ x1 x2 with
        | none => rw [hr] at h; cases h
        | some r =>
          rw [hr] at h
          cases h
          exact ⟨Nat.le_of_ble_eq_true rfl, t_X8_becomes σ x1 x2 r hr⟩
      · cases h)
noncomputable def pr_X8_swaps : List (Nat × Instr × Nat) := [(0, .aload_n 0, 1), (1, .getfield 7, 3), (4, .iload_n 1, 1), (5, .iload_n 2, 1), (6, .iadd, 1), (7, .iaload, 1), (8, .istore 4, 2), (10, .aload_n 0, 1), (11, .getfield 7, 3), (14, .iload_n 1, 1), (15, .iload_n 2, 1), (16, .iadd, 1), (17, .aload_n 0, 1), (18, .getfield 7, 3), (21, .iload_n 1, 1), (22, .iload_n 3, 1), (23, .iadd, 1), (24, .iaload, 1), (25, .iastore, 1), (26, .aload_n 0, 1), (27, .getfield 7, 3), (30, .iload_n 1, 1), (31, .iload_n 3, 1), (32, .iadd, 1), (33, .iload 4, 2), (35, .iastore, 1), (36, .return_, 1)]
set_option maxRecDepth 100000 in
theorem hp_X8_swaps : pr_X8_swaps.all (fun x => decide (decode cX8_swaps x.1 = .ok x.2)) = true := by decide +kernel
noncomputable def f_X8_swaps (N : Nat) (σ : yS) (x1 : Int) (x2 : Int) (x3 : Int) : Option (Int × yS) :=
  bif yin (yad x1 x2) 393 then
    bif yin (yad x1 x3) 393 then
      some (0, yw (yw σ 1 (yad x1 x2).toNat (σ.1 1 (yad x1 x3).toNat)) 1 (yad x1 x3).toNat (σ.1 1 (yad x1 x2).toNat))
    else none
  else none
noncomputable def F_X8_swaps (N : Nat) : yF := fun as σ => match as with
  | [.inr (.inl 8, 0), .inl (.inl x1), .inl (.inl x2), .inl (.inl x3)] => (f_X8_swaps N σ x1 x2 x3).map (fun r => (none, r.2))
  | _ => none
theorem e_X8_swaps {N : Nat} {σ : yS} {x1 : Int} {x2 : Int} {x3 : Int} {r : Int × yS} (h : f_X8_swaps N σ x1 x2 x3 = some r) : F_X8_swaps N [.inr (.inl 8, 0), .inl (.inl x1), .inl (.inl x2), .inl (.inl x3)] σ = some (none, r.2) := by
  show (f_X8_swaps N σ x1 x2 x3).map (fun r => ((none, r.2) : yR)) = _
  rw [h]
  rfl
noncomputable def tb_X8_swaps (N : Nat) : yTb := ([(7, 8, 0, 3)], [], [], [], [], [], [])
abbrev G_X8_swaps (N : Nat) (X : zXT) (sh : List yH) (l : Launch) (rm : Room) : yC → yR → Prop := yGoes X vwCl yct sh l rm cX8_swaps 5 wsX8_swaps RX8 (tb_X8_swaps N) pr_X8_swaps 0
set_option maxRecDepth 100000 in
set_option maxHeartbeats 4000000 in
theorem t_X8_swaps {N : Nat} {X : zXT} {sh : List yH} {l : Launch} {rm : Room} (σ : yS) (x1 : Int) (x2 : Int) (x3 : Int) (res : Int × yS) (h : f_X8_swaps N σ x1 x2 x3 = some res) : G_X8_swaps N X sh l rm (0, [(0, .inr (.inl 8, 0)), (1, .inl (.inl x1)), (2, .inl (.inl x2)), (3, .inl (.inl x3))], [], σ) (none, res.2) := by
  unfold f_X8_swaps at h
  refine yG_n (n := 5) (C' := (7, [(0, .inr (.inl 8, 0)), (1, .inl (.inl x1)), (2, .inl (.inl x2)), (3, .inl (.inl x3))], [.inl (.inl (yad x1 x2)), .inr (.inr (0, 393), 1)], σ)) rfl ?_
  cases hg1 : yin (yad x1 x2) 393 with
  | false => rw [hg1] at h; dsimp only [cond] at h; cases h
  | true =>
    rw [hg1] at h
    dsimp only [cond] at h
    refine yG_t (C' := (8, [(0, .inr (.inl 8, 0)), (1, .inl (.inl x1)), (2, .inl (.inl x2)), (3, .inl (.inl x3))], [.inl (.inl (σ.1 1 (yad x1 x2).toNat))], σ)) rfl hg1 ?_
    refine yG_n (n := 11) (C' := (24, [(4, .inl (.inl (σ.1 1 (yad x1 x2).toNat))), (0, .inr (.inl 8, 0)), (1, .inl (.inl x1)), (2, .inl (.inl x2)), (3, .inl (.inl x3))], [.inl (.inl (yad x1 x3)), .inr (.inr (0, 393), 1), .inl (.inl (yad x1 x2)), .inr (.inr (0, 393), 1)], σ)) rfl ?_
    cases hg2 : yin (yad x1 x3) 393 with
    | false => rw [hg2] at h; dsimp only [cond] at h; cases h
    | true =>
      rw [hg2] at h
      dsimp only [cond] at h
      refine yG_t (C' := (25, [(4, .inl (.inl (σ.1 1 (yad x1 x2).toNat))), (0, .inr (.inl 8, 0)), (1, .inl (.inl x1)), (2, .inl (.inl x2)), (3, .inl (.inl x3))], [.inl (.inl (σ.1 1 (yad x1 x3).toNat)), .inl (.inl (yad x1 x2)), .inr (.inr (0, 393), 1)], σ)) rfl hg2 ?_
      refine yG_t (C' := (26, [(4, .inl (.inl (σ.1 1 (yad x1 x2).toNat))), (0, .inr (.inl 8, 0)), (1, .inl (.inl x1)), (2, .inl (.inl x2)), (3, .inl (.inl x3))], [], yw σ 1 (yad x1 x2).toNat (σ.1 1 (yad x1 x3).toNat))) rfl hg1 ?_
      refine yG_n (n := 6) (C' := (35, [(4, .inl (.inl (σ.1 1 (yad x1 x2).toNat))), (0, .inr (.inl 8, 0)), (1, .inl (.inl x1)), (2, .inl (.inl x2)), (3, .inl (.inl x3))], [.inl (.inl (σ.1 1 (yad x1 x2).toNat)), .inl (.inl (yad x1 x3)), .inr (.inr (0, 393), 1)], yw σ 1 (yad x1 x2).toNat (σ.1 1 (yad x1 x3).toNat))) rfl ?_
      refine yG_t (C' := (36, [(4, .inl (.inl (σ.1 1 (yad x1 x2).toNat))), (0, .inr (.inl 8, 0)), (1, .inl (.inl x1)), (2, .inl (.inl x2)), (3, .inl (.inl x3))], [], yw (yw σ 1 (yad x1 x2).toNat (σ.1 1 (yad x1 x3).toNat)) 1 (yad x1 x3).toNat (σ.1 1 (yad x1 x2).toNat))) rfl hg2 ?_
      have h := Option.some.inj h
      subst h
      dsimp only
      exact yG_r rfl rfl
set_option maxRecDepth 100000 in
set_option maxHeartbeats 4000000 in
theorem m_X8_swaps {N : Nat} {X : zXT} (hX : zXok X) (hN : zXn X) (l : Launch) {sh : List yH} : yMet X vwCl yct sh l yX8_swaps wsX8_swaps { frames := 1, cells := 0, slots := 0, locals := 64 } (F_X8_swaps N) :=
  ymeth (tb := tb_X8_swaps N) (pr := pr_X8_swaps) (rt := 0) (own := RX8) hX (by decide +kernel) rfl rfl ⟨Nat.le_of_ble_eq_true rfl, Nat.le_of_ble_eq_true rfl⟩
    (zfl_all (List.forall_mem_cons.mpr ⟨zfl_X8 (fun w h => List.mem_cons_of_mem _ (List.mem_append_right _ h)) (List.mem_of_getElem? (i := 1) rfl) (by decide) (by decide), fun _ h => absurd h List.not_mem_nil⟩))
    (zco_all (fun _ h => absurd h List.not_mem_nil)) (zlc_all (fun _ h => absurd h List.not_mem_nil))
    (fun _ h => absurd h List.not_mem_nil)
    (fun _ h => absurd h List.not_mem_nil)
    (zmm_all (fun _ h => absurd h List.not_mem_nil)) (fun _ h => absurd h List.not_mem_nil) (zpr_all hp_X8_swaps) (fun as σ res h => by
      unfold F_X8_swaps at h
      split at h
      · rename_i x1 x2 x3
        cases hr : f_X8_swaps N σ x1 x2 x3 with
        | none => rw [hr] at h; cases h
        | some r =>
          rw [hr] at h
          cases h
          exact ⟨Nat.le_of_ble_eq_true rfl, t_X8_swaps σ x1 x2 x3 r hr⟩
      · cases h)
noncomputable def pr_X8_moves : List (Nat × Instr × Nat) := [(0, .aload_n 0, 1), (1, .bipush 7, 2), (3, .iload_n 1, 1), (4, .iload_n 2, 1), (5, .invokevirtual 225, 3), (8, .aload_n 0, 1), (9, .iconst 0, 1), (10, .iload_n 1, 1), (11, .iload_n 2, 1), (12, .invokevirtual 225, 3), (15, .return_, 1)]
set_option maxRecDepth 100000 in
theorem hp_X8_moves : pr_X8_moves.all (fun x => decide (decode cX8_moves x.1 = .ok x.2)) = true := by decide +kernel
noncomputable def f_X8_moves (N : Nat) (σ : yS) (x1 : Int) (x2 : Int) : Option (Int × yS) :=
  match f_X8_swaps N σ 7 x1 x2 with
  | none => none
  | some r1 => match f_X8_swaps N r1.2 0 x1 x2 with
    | none => none
    | some r2 => some (0, r2.2)
noncomputable def F_X8_moves (N : Nat) : yF := fun as σ => match as with
  | [.inr (.inl 8, 0), .inl (.inl x1), .inl (.inl x2)] => (f_X8_moves N σ x1 x2).map (fun r => (none, r.2))
  | _ => none
theorem e_X8_moves {N : Nat} {σ : yS} {x1 : Int} {x2 : Int} {r : Int × yS} (h : f_X8_moves N σ x1 x2 = some r) : F_X8_moves N [.inr (.inl 8, 0), .inl (.inl x1), .inl (.inl x2)] σ = some (none, r.2) := by
  show (f_X8_moves N σ x1 x2).map (fun r => ((none, r.2) : yR)) = _
  rw [h]
  rfl
noncomputable def tb_X8_moves (N : Nat) : yTb := ([], [], [], [(225, 4, 8, F_X8_swaps N)], [], [], [])
abbrev G_X8_moves (N : Nat) (X : zXT) (sh : List yH) (l : Launch) (rm : Room) : yC → yR → Prop := yGoes X vwCl yct sh l rm cX8_moves 3 wsX8_moves RX8 (tb_X8_moves N) pr_X8_moves 0
set_option maxRecDepth 100000 in
set_option maxHeartbeats 4000000 in
theorem t_X8_moves {N : Nat} {X : zXT} {sh : List yH} {l : Launch} {rm : Room} (σ : yS) (x1 : Int) (x2 : Int) (res : Int × yS) (h : f_X8_moves N σ x1 x2 = some res) : G_X8_moves N X sh l rm (0, [(0, .inr (.inl 8, 0)), (1, .inl (.inl x1)), (2, .inl (.inl x2))], [], σ) (none, res.2) := by
  unfold f_X8_moves at h
  refine yG_n (n := 4) (C' := (5, [(0, .inr (.inl 8, 0)), (1, .inl (.inl x1)), (2, .inl (.inl x2))], [.inl (.inl x2), .inl (.inl x1), .inl (.inl 7), .inr (.inl 8, 0)], σ)) rfl ?_
  cases hr1 : f_X8_swaps N σ 7 x1 x2 with
  | none => rw [hr1] at h; dsimp only at h; cases h
  | some r1 =>
    rw [hr1] at h
    dsimp only at h
    refine yG_c (C1 := (8, [(0, .inr (.inl 8, 0)), (1, .inl (.inl x1)), (2, .inl (.inl x2))], [], r1.2)) rfl (e_X8_swaps hr1) rfl ?_
    refine yG_n (n := 4) (C' := (12, [(0, .inr (.inl 8, 0)), (1, .inl (.inl x1)), (2, .inl (.inl x2))], [.inl (.inl x2), .inl (.inl x1), .inl (.inl 0), .inr (.inl 8, 0)], r1.2)) rfl ?_
    cases hr2 : f_X8_swaps N r1.2 0 x1 x2 with
    | none => rw [hr2] at h; dsimp only at h; cases h
    | some r2 =>
      rw [hr2] at h
      dsimp only at h
      refine yG_c (C1 := (15, [(0, .inr (.inl 8, 0)), (1, .inl (.inl x1)), (2, .inl (.inl x2))], [], r2.2)) rfl (e_X8_swaps hr2) rfl ?_
      have h := Option.some.inj h
      subst h
      dsimp only
      exact yG_r rfl rfl
set_option maxRecDepth 100000 in
set_option maxHeartbeats 4000000 in
theorem m_X8_moves {N : Nat} {X : zXT} (hX : zXok X) (hN : zXn X) (l : Launch) {sh : List yH} : yMet X vwCl yct sh l yX8_moves wsX8_moves { frames := 2, cells := 0, slots := 0, locals := 88 } (F_X8_moves N) :=
  ymeth (tb := tb_X8_moves N) (pr := pr_X8_moves) (rt := 0) (own := RX8) hX (by decide +kernel) rfl rfl ⟨Nat.le_of_ble_eq_true rfl, Nat.le_of_ble_eq_true rfl⟩
    (zfl_all (fun _ h => absurd h List.not_mem_nil))
    (zco_all (fun _ h => absurd h List.not_mem_nil)) (zlc_all (fun _ h => absurd h List.not_mem_nil))
    (List.forall_mem_cons.mpr ⟨ycal_V hX (m_X8_swaps hX hN l) rfl (fun s args hts => cwV 3 hts gX8_moves_X8_swaps rfl rfl rfl (by decide +kernel) ⟨Nat.le_of_ble_eq_true rfl, Nat.le_of_ble_eq_true rfl⟩), fun _ h => absurd h List.not_mem_nil⟩)
    (fun _ h => absurd h List.not_mem_nil)
    (zmm_all (fun _ h => absurd h List.not_mem_nil)) (fun _ h => absurd h List.not_mem_nil) (zpr_all hp_X8_moves) (fun as σ res h => by
      unfold F_X8_moves at h
      split at h
      · rename_i x1 x2
        cases hr : f_X8_moves N σ x1 x2 with
        | none => rw [hr] at h; cases h
        | some r =>
          rw [hr] at h
          cases h
          exact ⟨Nat.le_of_ble_eq_true rfl, t_X8_moves σ x1 x2 r hr⟩
      · cases h)
noncomputable def pr_X8_best : List (Nat × Instr × Nat) := [(0, .iload_n 1, 1), (1, .i2l, 1), (2, .lconst 1, 1), (3, .ldc2_w 302, 3), (6, .invokestatic 90, 3), (9, .ifCond .eq 13, 3), (12, .iload_n 2, 1), (13, .i2l, 1), (14, .lconst 0, 1), (15, .lconst 1, 1), (16, .invokestatic 90, 3), (19, .ifCond .ne 5, 3), (22, .iconst (-1), 1), (23, .ireturn, 1), (24, .aload_n 0, 1), (25, .invokevirtual 266, 3), (28, .aload_n 0, 1), (29, .iload_n 1, 1), (30, .invokevirtual 269, 3), (33, .aload_n 0, 1), (34, .getfield 239, 3), (37, .istore_n 3, 1), (38, .bipush (-4), 2), (40, .istore 4, 2), (42, .iconst 0, 1), (43, .istore 5, 2), (45, .iload 5, 2), (47, .aload_n 0, 1), (48, .getfield 79, 3), (51, .if_icmp .ge 95, 3), (54, .iload 5, 2), (56, .iconst 1, 1), (57, .iadd, 1), (58, .istore 6, 2), (60, .iload 6, 2), (62, .aload_n 0, 1), (63, .getfield 79, 3), (66, .if_icmp .ge 74, 3), (69, .aload_n 0, 1), (70, .iload 5, 2), (72, .iload 6, 2), (74, .invokevirtual 229, 3), (77, .aload_n 0, 1), (78, .invokevirtual 266, 3), (81, .aload_n 0, 1), (82, .iload_n 1, 1), (83, .invokevirtual 269, 3), (86, .aload_n 0, 1), (87, .iload 5, 2), (89, .iload 6, 2), (91, .invokevirtual 229, 3), (94, .aload_n 0, 1), (95, .getfield 239, 3), (98, .iload_n 3, 1), (99, .if_icmp .le 14, 3), (102, .bipush 10, 2), (104, .iload 5, 2), (106, .imul, 1), (107, .iload 6, 2), (109, .iadd, 1), (110, .goto 5, 3), (113, .iload 4, 2), (115, .istore 4, 2), (117, .aload_n 0, 1), (118, .getfield 239, 3), (121, .iload_n 3, 1), (122, .if_icmp .le 10, 3), (125, .aload_n 0, 1), (126, .getfield 239, 3), (129, .goto 4, 3), (132, .iload_n 3, 1), (133, .istore_n 3, 1), (134, .iinc 6 1, 3), (137, .goto (-77), 3), (140, .iinc 5 1, 3), (143, .goto (-98), 3), (146, .iload 4, 2), (148, .bipush (-4), 2), (150, .if_icmp .ne 8, 3), (153, .bipush (-4), 2), (155, .goto 13, 3), (158, .iload_n 2, 1), (159, .ifCond .ne 8, 3), (162, .iload 4, 2), (164, .goto 4, 3), (167, .iload_n 3, 1), (168, .ireturn, 1)]
set_option maxRecDepth 100000 in
theorem hp_X8_best : pr_X8_best.all (fun x => decide (decode cX8_best x.1 = .ok x.2)) = true := by decide +kernel
noncomputable def f_X8_best_b22 (N : Nat) (σ : yS) : Option (Int × yS) :=
  some ((-1), σ)
noncomputable def f_X8_best_b168 (N : Nat) (σ : yS) (s0 : Int) : Option (Int × yS) :=
  some (s0, σ)
noncomputable def f_X8_best_b133 (N : Nat) (k45 : yS → Int → Int → Int → Int → Int → Option (Int × yS)) (k60 : yS → Int → Int → Int → Int → Int → Int → Option (Int × yS)) (σ : yS) (x1 : Int) (x2 : Int) (x4 : Int) (x5 : Int) (x6 : Int) (s0 : Int) : Option (Int × yS) :=
  k60 σ x1 x2 s0 x4 x5 (yad x6 1)
noncomputable def f_X8_best_b115 (N : Nat) (k45 : yS → Int → Int → Int → Int → Int → Option (Int × yS)) (k60 : yS → Int → Int → Int → Int → Int → Int → Option (Int × yS)) (σ : yS) (x1 : Int) (x2 : Int) (x3 : Int) (x5 : Int) (x6 : Int) (s0 : Int) : Option (Int × yS) :=
  bif ycP .le (σ.1 0 26) x3 then
    f_X8_best_b133 N k45 k60 σ x1 x2 s0 x5 x6 x3
  else
    f_X8_best_b133 N k45 k60 σ x1 x2 s0 x5 x6 (σ.1 0 26)
noncomputable def f_X8_best_b60 (N : Nat) (k45 : yS → Int → Int → Int → Int → Int → Option (Int × yS)) : Nat → yS → Int → Int → Int → Int → Int → Int → Option (Int × yS) := yfix (fun _ _ _ _ _ _ _ => none) (fun ih σ x1 x2 x3 x4 x5 x6 =>
    bif ycP .ge x6 (σ.1 0 3) then
      k45 σ x1 x2 x3 x4 (yad x5 1)
    else
      match f_X8_moves N σ x5 x6 with
      | none => none
      | some r5 => match f_X8_starts N r5.2 with
        | none => none
        | some r6 => match f_X8_daysAll N r6.2 x1 with
          | none => none
          | some r7 => match f_X8_moves N r7.2 x5 x6 with
            | none => none
            | some r8 => bif ycP .le (r8.2.1 0 26) x3 then
                f_X8_best_b115 N k45 ih r8.2 x1 x2 x3 x5 x6 x4
              else
                f_X8_best_b115 N k45 ih r8.2 x1 x2 x3 x5 x6 (yad (ymu 10 x5) x6))
theorem q_X8_best_b60 (N : Nat) (k45 : yS → Int → Int → Int → Int → Int → Option (Int × yS)) (n : Nat) (σ : yS) (x1 : Int) (x2 : Int) (x3 : Int) (x4 : Int) (x5 : Int) (x6 : Int) : f_X8_best_b60 N k45 (n + 1) σ x1 x2 x3 x4 x5 x6 =
    (bif ycP .ge x6 (σ.1 0 3) then
      k45 σ x1 x2 x3 x4 (yad x5 1)
    else
      match f_X8_moves N σ x5 x6 with
      | none => none
      | some r5 => match f_X8_starts N r5.2 with
        | none => none
        | some r6 => match f_X8_daysAll N r6.2 x1 with
          | none => none
          | some r7 => match f_X8_moves N r7.2 x5 x6 with
            | none => none
            | some r8 => bif ycP .le (r8.2.1 0 26) x3 then
                f_X8_best_b115 N k45 (f_X8_best_b60 N k45 n) r8.2 x1 x2 x3 x5 x6 x4
              else
                f_X8_best_b115 N k45 (f_X8_best_b60 N k45 n) r8.2 x1 x2 x3 x5 x6 (yad (ymu 10 x5) x6)) := rfl
noncomputable def f_X8_best_b45 (N : Nat) : Nat → yS → Int → Int → Int → Int → Int → Option (Int × yS) := yfix (fun _ _ _ _ _ _ => none) (fun ih σ x1 x2 x3 x4 x5 =>
    bif ycP .ge x5 (σ.1 0 3) then
      bif ycP .ne x4 ((-4)) then
        bif ycP .ne x2 0 then
          f_X8_best_b168 N σ x3
        else
          f_X8_best_b168 N σ x4
      else
        f_X8_best_b168 N σ ((-4))
    else
      f_X8_best_b60 N ih N σ x1 x2 x3 x4 x5 (yad x5 1))
theorem q_X8_best_b45 (N : Nat) (n : Nat) (σ : yS) (x1 : Int) (x2 : Int) (x3 : Int) (x4 : Int) (x5 : Int) : f_X8_best_b45 N (n + 1) σ x1 x2 x3 x4 x5 =
    (bif ycP .ge x5 (σ.1 0 3) then
      bif ycP .ne x4 ((-4)) then
        bif ycP .ne x2 0 then
          f_X8_best_b168 N σ x3
        else
          f_X8_best_b168 N σ x4
      else
        f_X8_best_b168 N σ ((-4))
    else
      f_X8_best_b60 N (f_X8_best_b45 N n) N σ x1 x2 x3 x4 x5 (yad x5 1)) := rfl
noncomputable def f_X8_best (N : Nat) (σ : yS) (x1 : Int) (x2 : Int) : Option (Int × yS) :=
  match f_X8_in N σ x1 1 20 with
  | none => none
  | some r1 => bif ycP .eq r1.1 0 then
      f_X8_best_b22 N r1.2
    else
      match f_X8_in N r1.2 x2 0 1 with
      | none => none
      | some r2 => bif ycP .ne r2.1 0 then
          match f_X8_starts N r2.2 with
          | none => none
          | some r3 => match f_X8_daysAll N r3.2 x1 with
            | none => none
            | some r4 => f_X8_best_b45 N N r4.2 x1 x2 (r4.2.1 0 26) ((-4)) 0
        else
          f_X8_best_b22 N r2.2
noncomputable def F_X8_best (N : Nat) : yF := fun as σ => match as with
  | [.inr (.inl 8, 0), .inl (.inl x1), .inl (.inl x2)] => (f_X8_best N σ x1 x2).map (fun r => (some (.inl (.inl r.1)), r.2))
  | _ => none
theorem e_X8_best {N : Nat} {σ : yS} {x1 : Int} {x2 : Int} {r : Int × yS} (h : f_X8_best N σ x1 x2 = some r) : F_X8_best N [.inr (.inl 8, 0), .inl (.inl x1), .inl (.inl x2)] σ = some (some (.inl (.inl r.1)), r.2) := by
  show (f_X8_best N σ x1 x2).map (fun r => ((some (.inl (.inl r.1)), r.2) : yR)) = _
  rw [h]
  rfl
noncomputable def tb_X8_best (N : Nat) : yTb := ([(79, 8, 3, 0), (239, 8, 26, 0)], [], [(302, 20)], [(229, 3, 8, F_X8_moves N), (266, 1, 8, F_X8_starts N), (269, 2, 8, F_X8_daysAll N)], [(90, 3, F_X8_in N)], [], [])
abbrev G_X8_best (N : Nat) (X : zXT) (sh : List yH) (l : Launch) (rm : Room) : yC → yR → Prop := yGoes X vwCl yct sh l rm cX8_best 7 wsX8_best RX8 (tb_X8_best N) pr_X8_best 1
set_option maxRecDepth 100000 in
set_option maxHeartbeats 4000000 in
theorem t_X8_best_b22 {N : Nat} {X : zXT} {sh : List yH} {l : Launch} {rm : Room} (σ : yS) (res : Int × yS) (h : f_X8_best_b22 N σ = some res) : G_X8_best N X sh l rm (22, [], [], σ) (some (.inl (.inl res.1)), res.2) := by
  unfold f_X8_best_b22 at h
  refine yG_n (n := 1) (C' := (23, [], [.inl (.inl ((-1)))], σ)) rfl ?_
  have h := Option.some.inj h
  subst h
  dsimp only
  exact yG_r rfl rfl
set_option maxRecDepth 100000 in
set_option maxHeartbeats 4000000 in
theorem t_X8_best_b168 {N : Nat} {X : zXT} {sh : List yH} {l : Launch} {rm : Room} (σ : yS) (s0 : Int) (res : Int × yS) (h : f_X8_best_b168 N σ s0 = some res) : G_X8_best N X sh l rm (168, [], [.inl (.inl s0)], σ) (some (.inl (.inl res.1)), res.2) := by
  unfold f_X8_best_b168 at h
  have h := Option.some.inj h
  subst h
  dsimp only
  exact yG_r rfl rfl
set_option maxRecDepth 100000 in
set_option maxHeartbeats 4000000 in
theorem t_X8_best_b133 {N : Nat} {X : zXT} {sh : List yH} {l : Launch} {rm : Room} (k45 : yS → Int → Int → Int → Int → Int → Option (Int × yS)) (hk45 : ∀ (σ : yS) (x1 : Int) (x2 : Int) (x3 : Int) (x4 : Int) (x5 : Int) (res : Int × yS), k45 σ x1 x2 x3 x4 x5 = some res → G_X8_best N X sh l rm (45, [(0, .inr (.inl 8, 0)), (1, .inl (.inl x1)), (2, .inl (.inl x2)), (3, .inl (.inl x3)), (4, .inl (.inl x4)), (5, .inl (.inl x5))], [], σ) (some (.inl (.inl res.1)), res.2)) (k60 : yS → Int → Int → Int → Int → Int → Int → Option (Int × yS)) (hk60 : ∀ (σ : yS) (x1 : Int) (x2 : Int) (x3 : Int) (x4 : Int) (x5 : Int) (x6 : Int) (res : Int × yS), k60 σ x1 x2 x3 x4 x5 x6 = some res → G_X8_best N X sh l rm (60, [(0, .inr (.inl 8, 0)), (1, .inl (.inl x1)), (2, .inl (.inl x2)), (3, .inl (.inl x3)), (4, .inl (.inl x4)), (5, .inl (.inl x5)), (6, .inl (.inl x6))], [], σ) (some (.inl (.inl res.1)), res.2)) (σ : yS) (x1 : Int) (x2 : Int) (x4 : Int) (x5 : Int) (x6 : Int) (s0 : Int) (res : Int × yS) (h : f_X8_best_b133 N k45 k60 σ x1 x2 x4 x5 x6 s0 = some res) : G_X8_best N X sh l rm (133, [(0, .inr (.inl 8, 0)), (1, .inl (.inl x1)), (2, .inl (.inl x2)), (4, .inl (.inl x4)), (5, .inl (.inl x5)), (6, .inl (.inl x6))], [.inl (.inl s0)], σ) (some (.inl (.inl res.1)), res.2) := by
  unfold f_X8_best_b133 at h
  refine yG_n (n := 3) (C' := (60, [(6, .inl (.inl (yad x6 1))), (3, .inl (.inl s0)), (0, .inr (.inl 8, 0)), (1, .inl (.inl x1)), (2, .inl (.inl x2)), (4, .inl (.inl x4)), (5, .inl (.inl x5))], [], σ)) rfl ?_
  exact yG_w [2, 3, 4, 1, 5, 6, 0] rfl (hk60 σ x1 x2 s0 x4 x5 (yad x6 1) res h)
set_option maxRecDepth 100000 in
set_option maxHeartbeats 4000000 in
theorem t_X8_best_b115 {N : Nat} {X : zXT} {sh : List yH} {l : Launch} {rm : Room} (k45 : yS → Int → Int → Int → Int → Int → Option (Int × yS)) (hk45 : ∀ (σ : yS) (x1 : Int) (x2 : Int) (x3 : Int) (x4 : Int) (x5 : Int) (res : Int × yS), k45 σ x1 x2 x3 x4 x5 = some res → G_X8_best N X sh l rm (45, [(0, .inr (.inl 8, 0)), (1, .inl (.inl x1)), (2, .inl (.inl x2)), (3, .inl (.inl x3)), (4, .inl (.inl x4)), (5, .inl (.inl x5))], [], σ) (some (.inl (.inl res.1)), res.2)) (k60 : yS → Int → Int → Int → Int → Int → Int → Option (Int × yS)) (hk60 : ∀ (σ : yS) (x1 : Int) (x2 : Int) (x3 : Int) (x4 : Int) (x5 : Int) (x6 : Int) (res : Int × yS), k60 σ x1 x2 x3 x4 x5 x6 = some res → G_X8_best N X sh l rm (60, [(0, .inr (.inl 8, 0)), (1, .inl (.inl x1)), (2, .inl (.inl x2)), (3, .inl (.inl x3)), (4, .inl (.inl x4)), (5, .inl (.inl x5)), (6, .inl (.inl x6))], [], σ) (some (.inl (.inl res.1)), res.2)) (σ : yS) (x1 : Int) (x2 : Int) (x3 : Int) (x5 : Int) (x6 : Int) (s0 : Int) (res : Int × yS) (h : f_X8_best_b115 N k45 k60 σ x1 x2 x3 x5 x6 s0 = some res) : G_X8_best N X sh l rm (115, [(0, .inr (.inl 8, 0)), (1, .inl (.inl x1)), (2, .inl (.inl x2)), (3, .inl (.inl x3)), (5, .inl (.inl x5)), (6, .inl (.inl x6))], [.inl (.inl s0)], σ) (some (.inl (.inl res.1)), res.2) := by
  unfold f_X8_best_b115 at h
  refine yG_n (n := 4) (C' := (122, [(4, .inl (.inl s0)), (0, .inr (.inl 8, 0)), (1, .inl (.inl x1)), (2, .inl (.inl x2)), (3, .inl (.inl x3)), (5, .inl (.inl x5)), (6, .inl (.inl x6))], [.inl (.inl x3), .inl (.inl (σ.1 0 26))], σ)) rfl ?_
  cases hg1 : ycP .le (σ.1 0 26) x3 with
  | true =>
    rw [hg1] at h
    dsimp only [cond] at h
    refine yG_t (C' := (132, [(4, .inl (.inl s0)), (0, .inr (.inl 8, 0)), (1, .inl (.inl x1)), (2, .inl (.inl x2)), (3, .inl (.inl x3)), (5, .inl (.inl x5)), (6, .inl (.inl x6))], [], σ)) rfl hg1 ?_
    refine yG_n (n := 1) (C' := (133, [(4, .inl (.inl s0)), (0, .inr (.inl 8, 0)), (1, .inl (.inl x1)), (2, .inl (.inl x2)), (3, .inl (.inl x3)), (5, .inl (.inl x5)), (6, .inl (.inl x6))], [.inl (.inl x3)], σ)) rfl ?_
    exact yG_w [1, 2, 3, 0, 5, 6] rfl (t_X8_best_b133 k45 hk45 k60 hk60 σ x1 x2 s0 x5 x6 x3 res h)
  | false =>
    rw [hg1] at h
    dsimp only [cond] at h
    refine yG_f (C' := (125, [(4, .inl (.inl s0)), (0, .inr (.inl 8, 0)), (1, .inl (.inl x1)), (2, .inl (.inl x2)), (3, .inl (.inl x3)), (5, .inl (.inl x5)), (6, .inl (.inl x6))], [], σ)) rfl hg1 ?_
    refine yG_n (n := 3) (C' := (133, [(4, .inl (.inl s0)), (0, .inr (.inl 8, 0)), (1, .inl (.inl x1)), (2, .inl (.inl x2)), (3, .inl (.inl x3)), (5, .inl (.inl x5)), (6, .inl (.inl x6))], [.inl (.inl (σ.1 0 26))], σ)) rfl ?_
    exact yG_w [1, 2, 3, 0, 5, 6] rfl (t_X8_best_b133 k45 hk45 k60 hk60 σ x1 x2 s0 x5 x6 (σ.1 0 26) res h)
set_option maxRecDepth 100000 in
set_option maxHeartbeats 4000000 in
theorem t_X8_best_b60 {N : Nat} {X : zXT} {sh : List yH} {l : Launch} {rm : Room} (k45 : yS → Int → Int → Int → Int → Int → Option (Int × yS)) (hk45 : ∀ (σ : yS) (x1 : Int) (x2 : Int) (x3 : Int) (x4 : Int) (x5 : Int) (res : Int × yS), k45 σ x1 x2 x3 x4 x5 = some res → G_X8_best N X sh l rm (45, [(0, .inr (.inl 8, 0)), (1, .inl (.inl x1)), (2, .inl (.inl x2)), (3, .inl (.inl x3)), (4, .inl (.inl x4)), (5, .inl (.inl x5))], [], σ) (some (.inl (.inl res.1)), res.2)) : ∀ (n : Nat) (σ : yS) (x1 : Int) (x2 : Int) (x3 : Int) (x4 : Int) (x5 : Int) (x6 : Int) (res : Int × yS), f_X8_best_b60 N k45 n σ x1 x2 x3 x4 x5 x6 = some res → G_X8_best N X sh l rm (60, [(0, .inr (.inl 8, 0)), (1, .inl (.inl x1)), (2, .inl (.inl x2)), (3, .inl (.inl x3)), (4, .inl (.inl x4)), (5, .inl (.inl x5)), (6, .inl (.inl x6))], [], σ) (some (.inl (.inl res.1)), res.2) := by
  intro n
  induction n with
  | zero => intro σ x1 x2 x3 x4 x5 x6 res h; exact (yno h).elim
  | succ n ih =>
    intro σ x1 x2 x3 x4 x5 x6 res h
    rw [q_X8_best_b60] at h
    refine yG_n (n := 3) (C' := (66, [(0, .inr (.inl 8, 0)), (1, .inl (.inl x1)), (2, .inl (.inl x2)), (3, .inl (.inl x3)), (4, .inl (.inl x4)), (5, .inl (.inl x5)), (6, .inl (.inl x6))], [.inl (.inl (σ.1 0 3)), .inl (.inl x6)], σ)) rfl ?_
    cases hg2 : ycP .ge x6 (σ.1 0 3) with
    | true =>
      rw [hg2] at h
      dsimp only [cond] at h
      refine yG_t (C' := (140, [(0, .inr (.inl 8, 0)), (1, .inl (.inl x1)), (2, .inl (.inl x2)), (3, .inl (.inl x3)), (4, .inl (.inl x4)), (5, .inl (.inl x5)), (6, .inl (.inl x6))], [], σ)) rfl hg2 ?_
      refine yG_n (n := 2) (C' := (45, [(5, .inl (.inl (yad x5 1))), (0, .inr (.inl 8, 0)), (1, .inl (.inl x1)), (2, .inl (.inl x2)), (3, .inl (.inl x3)), (4, .inl (.inl x4)), (6, .inl (.inl x6))], [], σ)) rfl ?_
      exact yG_w [1, 2, 3, 4, 5, 0] rfl (hk45 σ x1 x2 x3 x4 (yad x5 1) res h)
    | false =>
      rw [hg2] at h
      dsimp only [cond] at h
      refine yG_f (C' := (69, [(0, .inr (.inl 8, 0)), (1, .inl (.inl x1)), (2, .inl (.inl x2)), (3, .inl (.inl x3)), (4, .inl (.inl x4)), (5, .inl (.inl x5)), (6, .inl (.inl x6))], [], σ)) rfl hg2 ?_
      refine yG_n (n := 3) (C' := (74, [(0, .inr (.inl 8, 0)), (1, .inl (.inl x1)), (2, .inl (.inl x2)), (3, .inl (.inl x3)), (4, .inl (.inl x4)), (5, .inl (.inl x5)), (6, .inl (.inl x6))], [.inl (.inl x6), .inl (.inl x5), .inr (.inl 8, 0)], σ)) rfl ?_
      cases hr3 : f_X8_moves N σ x5 x6 with
      | none => rw [hr3] at h; dsimp only at h; cases h
      | some r5 =>
        rw [hr3] at h
        dsimp only at h
        refine yG_c (C1 := (77, [(0, .inr (.inl 8, 0)), (1, .inl (.inl x1)), (2, .inl (.inl x2)), (3, .inl (.inl x3)), (4, .inl (.inl x4)), (5, .inl (.inl x5)), (6, .inl (.inl x6))], [], r5.2)) rfl (e_X8_moves hr3) rfl ?_
        refine yG_n (n := 1) (C' := (78, [(0, .inr (.inl 8, 0)), (1, .inl (.inl x1)), (2, .inl (.inl x2)), (3, .inl (.inl x3)), (4, .inl (.inl x4)), (5, .inl (.inl x5)), (6, .inl (.inl x6))], [.inr (.inl 8, 0)], r5.2)) rfl ?_
        cases hr4 : f_X8_starts N r5.2 with
        | none => rw [hr4] at h; dsimp only at h; cases h
        | some r6 =>
          rw [hr4] at h
          dsimp only at h
          refine yG_c (C1 := (81, [(0, .inr (.inl 8, 0)), (1, .inl (.inl x1)), (2, .inl (.inl x2)), (3, .inl (.inl x3)), (4, .inl (.inl x4)), (5, .inl (.inl x5)), (6, .inl (.inl x6))], [], r6.2)) rfl (e_X8_starts hr4) rfl ?_
          refine yG_n (n := 2) (C' := (83, [(0, .inr (.inl 8, 0)), (1, .inl (.inl x1)), (2, .inl (.inl x2)), (3, .inl (.inl x3)), (4, .inl (.inl x4)), (5, .inl (.inl x5)), (6, .inl (.inl x6))], [.inl (.inl x1), .inr (.inl 8, 0)], r6.2)) rfl ?_
          cases hr5 : f_X8_daysAll N r6.2 x1 with
          | none => rw [hr5] at h; dsimp only at h; cases h
          | some r7 =>
            rw [hr5] at h
            dsimp only at h
            refine yG_c (C1 := (86, [(0, .inr (.inl 8, 0)), (1, .inl (.inl x1)), (2, .inl (.inl x2)), (3, .inl (.inl x3)), (4, .inl (.inl x4)), (5, .inl (.inl x5)), (6, .inl (.inl x6))], [], r7.2)) rfl (e_X8_daysAll hr5) rfl ?_
            refine yG_n (n := 3) (C' := (91, [(0, .inr (.inl 8, 0)), (1, .inl (.inl x1)), (2, .inl (.inl x2)), (3, .inl (.inl x3)), (4, .inl (.inl x4)), (5, .inl (.inl x5)), (6, .inl (.inl x6))], [.inl (.inl x6), .inl (.inl x5), .inr (.inl 8, 0)], r7.2)) rfl ?_
            cases hr6 : f_X8_moves N r7.2 x5 x6 with
            | none => rw [hr6] at h; dsimp only at h; cases h
            | some r8 =>
              rw [hr6] at h
              dsimp only at h
              refine yG_c (C1 := (94, [(0, .inr (.inl 8, 0)), (1, .inl (.inl x1)), (2, .inl (.inl x2)), (3, .inl (.inl x3)), (4, .inl (.inl x4)), (5, .inl (.inl x5)), (6, .inl (.inl x6))], [], r8.2)) rfl (e_X8_moves hr6) rfl ?_
              refine yG_n (n := 3) (C' := (99, [(0, .inr (.inl 8, 0)), (1, .inl (.inl x1)), (2, .inl (.inl x2)), (3, .inl (.inl x3)), (4, .inl (.inl x4)), (5, .inl (.inl x5)), (6, .inl (.inl x6))], [.inl (.inl x3), .inl (.inl (r8.2.1 0 26))], r8.2)) rfl ?_
              cases hg7 : ycP .le (r8.2.1 0 26) x3 with
              | true =>
                rw [hg7] at h
                dsimp only [cond] at h
                refine yG_t (C' := (113, [(0, .inr (.inl 8, 0)), (1, .inl (.inl x1)), (2, .inl (.inl x2)), (3, .inl (.inl x3)), (4, .inl (.inl x4)), (5, .inl (.inl x5)), (6, .inl (.inl x6))], [], r8.2)) rfl hg7 ?_
                refine yG_n (n := 1) (C' := (115, [(0, .inr (.inl 8, 0)), (1, .inl (.inl x1)), (2, .inl (.inl x2)), (3, .inl (.inl x3)), (4, .inl (.inl x4)), (5, .inl (.inl x5)), (6, .inl (.inl x6))], [.inl (.inl x4)], r8.2)) rfl ?_
                exact yG_w [0, 1, 2, 3, 5, 6] rfl (t_X8_best_b115 k45 hk45 (f_X8_best_b60 N k45 n) ih r8.2 x1 x2 x3 x5 x6 x4 res h)
              | false =>
                rw [hg7] at h
                dsimp only [cond] at h
                refine yG_f (C' := (102, [(0, .inr (.inl 8, 0)), (1, .inl (.inl x1)), (2, .inl (.inl x2)), (3, .inl (.inl x3)), (4, .inl (.inl x4)), (5, .inl (.inl x5)), (6, .inl (.inl x6))], [], r8.2)) rfl hg7 ?_
                refine yG_n (n := 6) (C' := (115, [(0, .inr (.inl 8, 0)), (1, .inl (.inl x1)), (2, .inl (.inl x2)), (3, .inl (.inl x3)), (4, .inl (.inl x4)), (5, .inl (.inl x5)), (6, .inl (.inl x6))], [.inl (.inl (yad (ymu 10 x5) x6))], r8.2)) rfl ?_
                exact yG_w [0, 1, 2, 3, 5, 6] rfl (t_X8_best_b115 k45 hk45 (f_X8_best_b60 N k45 n) ih r8.2 x1 x2 x3 x5 x6 (yad (ymu 10 x5) x6) res h)
set_option maxRecDepth 100000 in
set_option maxHeartbeats 4000000 in
theorem t_X8_best_b45 {N : Nat} {X : zXT} {sh : List yH} {l : Launch} {rm : Room} : ∀ (n : Nat) (σ : yS) (x1 : Int) (x2 : Int) (x3 : Int) (x4 : Int) (x5 : Int) (res : Int × yS), f_X8_best_b45 N n σ x1 x2 x3 x4 x5 = some res → G_X8_best N X sh l rm (45, [(0, .inr (.inl 8, 0)), (1, .inl (.inl x1)), (2, .inl (.inl x2)), (3, .inl (.inl x3)), (4, .inl (.inl x4)), (5, .inl (.inl x5))], [], σ) (some (.inl (.inl res.1)), res.2) := by
  intro n
  induction n with
  | zero => intro σ x1 x2 x3 x4 x5 res h; exact (yno h).elim
  | succ n ih =>
    intro σ x1 x2 x3 x4 x5 res h
    rw [q_X8_best_b45] at h
    refine yG_n (n := 3) (C' := (51, [(0, .inr (.inl 8, 0)), (1, .inl (.inl x1)), (2, .inl (.inl x2)), (3, .inl (.inl x3)), (4, .inl (.inl x4)), (5, .inl (.inl x5))], [.inl (.inl (σ.1 0 3)), .inl (.inl x5)], σ)) rfl ?_
    cases hg8 : ycP .ge x5 (σ.1 0 3) with
    | true =>
      rw [hg8] at h
      dsimp only [cond] at h
      refine yG_t (C' := (146, [(0, .inr (.inl 8, 0)), (1, .inl (.inl x1)), (2, .inl (.inl x2)), (3, .inl (.inl x3)), (4, .inl (.inl x4)), (5, .inl (.inl x5))], [], σ)) rfl hg8 ?_
      refine yG_n (n := 2) (C' := (150, [(0, .inr (.inl 8, 0)), (1, .inl (.inl x1)), (2, .inl (.inl x2)), (3, .inl (.inl x3)), (4, .inl (.inl x4)), (5, .inl (.inl x5))], [.inl (.inl ((-4))), .inl (.inl x4)], σ)) rfl ?_
      cases hg9 : ycP .ne x4 ((-4)) with
      | true =>
        rw [hg9] at h
        dsimp only [cond] at h
        refine yG_t (C' := (158, [(0, .inr (.inl 8, 0)), (1, .inl (.inl x1)), (2, .inl (.inl x2)), (3, .inl (.inl x3)), (4, .inl (.inl x4)), (5, .inl (.inl x5))], [], σ)) rfl hg9 ?_
        refine yG_n (n := 1) (C' := (159, [(0, .inr (.inl 8, 0)), (1, .inl (.inl x1)), (2, .inl (.inl x2)), (3, .inl (.inl x3)), (4, .inl (.inl x4)), (5, .inl (.inl x5))], [.inl (.inl x2)], σ)) rfl ?_
        cases hg10 : ycP .ne x2 0 with
        | true =>
          rw [hg10] at h
          dsimp only [cond] at h
          refine yG_t (C' := (167, [(0, .inr (.inl 8, 0)), (1, .inl (.inl x1)), (2, .inl (.inl x2)), (3, .inl (.inl x3)), (4, .inl (.inl x4)), (5, .inl (.inl x5))], [], σ)) rfl hg10 ?_
          refine yG_n (n := 1) (C' := (168, [(0, .inr (.inl 8, 0)), (1, .inl (.inl x1)), (2, .inl (.inl x2)), (3, .inl (.inl x3)), (4, .inl (.inl x4)), (5, .inl (.inl x5))], [.inl (.inl x3)], σ)) rfl ?_
          exact yG_w [] rfl (t_X8_best_b168 σ x3 res h)
        | false =>
          rw [hg10] at h
          dsimp only [cond] at h
          refine yG_f (C' := (162, [(0, .inr (.inl 8, 0)), (1, .inl (.inl x1)), (2, .inl (.inl x2)), (3, .inl (.inl x3)), (4, .inl (.inl x4)), (5, .inl (.inl x5))], [], σ)) rfl hg10 ?_
          refine yG_n (n := 2) (C' := (168, [(0, .inr (.inl 8, 0)), (1, .inl (.inl x1)), (2, .inl (.inl x2)), (3, .inl (.inl x3)), (4, .inl (.inl x4)), (5, .inl (.inl x5))], [.inl (.inl x4)], σ)) rfl ?_
          exact yG_w [] rfl (t_X8_best_b168 σ x4 res h)
      | false =>
        rw [hg9] at h
        dsimp only [cond] at h
        refine yG_f (C' := (153, [(0, .inr (.inl 8, 0)), (1, .inl (.inl x1)), (2, .inl (.inl x2)), (3, .inl (.inl x3)), (4, .inl (.inl x4)), (5, .inl (.inl x5))], [], σ)) rfl hg9 ?_
        refine yG_n (n := 2) (C' := (168, [(0, .inr (.inl 8, 0)), (1, .inl (.inl x1)), (2, .inl (.inl x2)), (3, .inl (.inl x3)), (4, .inl (.inl x4)), (5, .inl (.inl x5))], [.inl (.inl ((-4)))], σ)) rfl ?_
        exact yG_w [] rfl (t_X8_best_b168 σ ((-4)) res h)
    | false =>
      rw [hg8] at h
      dsimp only [cond] at h
      refine yG_f (C' := (54, [(0, .inr (.inl 8, 0)), (1, .inl (.inl x1)), (2, .inl (.inl x2)), (3, .inl (.inl x3)), (4, .inl (.inl x4)), (5, .inl (.inl x5))], [], σ)) rfl hg8 ?_
      refine yG_n (n := 4) (C' := (60, [(6, .inl (.inl (yad x5 1))), (0, .inr (.inl 8, 0)), (1, .inl (.inl x1)), (2, .inl (.inl x2)), (3, .inl (.inl x3)), (4, .inl (.inl x4)), (5, .inl (.inl x5))], [], σ)) rfl ?_
      exact yG_w [1, 2, 3, 4, 5, 6, 0] rfl (t_X8_best_b60 (f_X8_best_b45 N n) ih N σ x1 x2 x3 x4 x5 (yad x5 1) res h)
set_option maxRecDepth 100000 in
set_option maxHeartbeats 4000000 in
theorem t_X8_best {N : Nat} {X : zXT} {sh : List yH} {l : Launch} {rm : Room} (σ : yS) (x1 : Int) (x2 : Int) (res : Int × yS) (h : f_X8_best N σ x1 x2 = some res) : G_X8_best N X sh l rm (0, [(0, .inr (.inl 8, 0)), (1, .inl (.inl x1)), (2, .inl (.inl x2))], [], σ) (some (.inl (.inl res.1)), res.2) := by
  unfold f_X8_best at h
  refine yG_n (n := 4) (C' := (6, [(0, .inr (.inl 8, 0)), (1, .inl (.inl x1)), (2, .inl (.inl x2))], [.inl (.inr 20), .inl (.inr 1), .inl (.inr x1)], σ)) rfl ?_
  cases hr11 : f_X8_in N σ x1 1 20 with
  | none => rw [hr11] at h; dsimp only at h; cases h
  | some r1 =>
    rw [hr11] at h
    dsimp only at h
    refine yG_c (C1 := (9, [(0, .inr (.inl 8, 0)), (1, .inl (.inl x1)), (2, .inl (.inl x2))], [.inl (.inl r1.1)], r1.2)) rfl (e_X8_in hr11) rfl ?_
    cases hg12 : ycP .eq r1.1 0 with
    | true =>
      rw [hg12] at h
      dsimp only [cond] at h
      refine yG_t (C' := (22, [(0, .inr (.inl 8, 0)), (1, .inl (.inl x1)), (2, .inl (.inl x2))], [], r1.2)) rfl hg12 ?_
      exact yG_w [] rfl (t_X8_best_b22 r1.2 res h)
    | false =>
      rw [hg12] at h
      dsimp only [cond] at h
      refine yG_f (C' := (12, [(0, .inr (.inl 8, 0)), (1, .inl (.inl x1)), (2, .inl (.inl x2))], [], r1.2)) rfl hg12 ?_
      refine yG_n (n := 4) (C' := (16, [(0, .inr (.inl 8, 0)), (1, .inl (.inl x1)), (2, .inl (.inl x2))], [.inl (.inr 1), .inl (.inr 0), .inl (.inr x2)], r1.2)) rfl ?_
      cases hr13 : f_X8_in N r1.2 x2 0 1 with
      | none => rw [hr13] at h; dsimp only at h; cases h
      | some r2 =>
        rw [hr13] at h
        dsimp only at h
        refine yG_c (C1 := (19, [(0, .inr (.inl 8, 0)), (1, .inl (.inl x1)), (2, .inl (.inl x2))], [.inl (.inl r2.1)], r2.2)) rfl (e_X8_in hr13) rfl ?_
        cases hg14 : ycP .ne r2.1 0 with
        | true =>
          rw [hg14] at h
          dsimp only [cond] at h
          refine yG_t (C' := (24, [(0, .inr (.inl 8, 0)), (1, .inl (.inl x1)), (2, .inl (.inl x2))], [], r2.2)) rfl hg14 ?_
          refine yG_n (n := 1) (C' := (25, [(0, .inr (.inl 8, 0)), (1, .inl (.inl x1)), (2, .inl (.inl x2))], [.inr (.inl 8, 0)], r2.2)) rfl ?_
          cases hr15 : f_X8_starts N r2.2 with
          | none => rw [hr15] at h; dsimp only at h; cases h
          | some r3 =>
            rw [hr15] at h
            dsimp only at h
            refine yG_c (C1 := (28, [(0, .inr (.inl 8, 0)), (1, .inl (.inl x1)), (2, .inl (.inl x2))], [], r3.2)) rfl (e_X8_starts hr15) rfl ?_
            refine yG_n (n := 2) (C' := (30, [(0, .inr (.inl 8, 0)), (1, .inl (.inl x1)), (2, .inl (.inl x2))], [.inl (.inl x1), .inr (.inl 8, 0)], r3.2)) rfl ?_
            cases hr16 : f_X8_daysAll N r3.2 x1 with
            | none => rw [hr16] at h; dsimp only at h; cases h
            | some r4 =>
              rw [hr16] at h
              dsimp only at h
              refine yG_c (C1 := (33, [(0, .inr (.inl 8, 0)), (1, .inl (.inl x1)), (2, .inl (.inl x2))], [], r4.2)) rfl (e_X8_daysAll hr16) rfl ?_
              refine yG_n (n := 7) (C' := (45, [(5, .inl (.inl 0)), (4, .inl (.inl ((-4)))), (3, .inl (.inl (r4.2.1 0 26))), (0, .inr (.inl 8, 0)), (1, .inl (.inl x1)), (2, .inl (.inl x2))], [], r4.2)) rfl ?_
              exact yG_w [3, 4, 5, 2, 1, 0] rfl (t_X8_best_b45 N r4.2 x1 x2 (r4.2.1 0 26) ((-4)) 0 res h)
        | false =>
          rw [hg14] at h
          dsimp only [cond] at h
          refine yG_f (C' := (22, [(0, .inr (.inl 8, 0)), (1, .inl (.inl x1)), (2, .inl (.inl x2))], [], r2.2)) rfl hg14 ?_
          exact yG_w [] rfl (t_X8_best_b22 r2.2 res h)
set_option maxRecDepth 100000 in
set_option maxHeartbeats 4000000 in
theorem m_X8_best {N : Nat} {X : zXT} (hX : zXok X) (hN : zXn X) (l : Launch) {sh : List yH} : yMet X vwCl yct sh l yX8_best wsX8_best { frames := 6, cells := 0, slots := 0, locals := 177 } (F_X8_best N) :=
  ymeth (tb := tb_X8_best N) (pr := pr_X8_best) (rt := 1) (own := RX8) hX (by decide +kernel) rfl rfl ⟨Nat.le_of_ble_eq_true rfl, Nat.le_of_ble_eq_true rfl⟩
    (zfl_all (List.forall_mem_cons.mpr ⟨zfl_X8 (fun w h => List.mem_cons_of_mem _ (List.mem_append_right _ h)) (List.mem_of_getElem? (i := 3) rfl) (by decide) (by decide), List.forall_mem_cons.mpr ⟨zfl_X8 (fun w h => List.mem_cons_of_mem _ (List.mem_append_right _ h)) (List.mem_of_getElem? (i := 2) rfl) (by decide) (by decide), fun _ h => absurd h List.not_mem_nil⟩⟩))
    (zco_all (fun _ h => absurd h List.not_mem_nil)) (zlc_all (List.forall_mem_cons.mpr ⟨(List.mem_of_getElem? (i := 1) rfl), fun _ h => absurd h List.not_mem_nil⟩))
    (List.forall_mem_cons.mpr ⟨ycal_V hX (m_X8_moves hX hN l) rfl (fun s args hts => cwV 2 hts gX8_best_X8_moves rfl rfl rfl (by decide +kernel) ⟨Nat.le_of_ble_eq_true rfl, Nat.le_of_ble_eq_true rfl⟩), List.forall_mem_cons.mpr ⟨ycal_V hX (m_X8_starts hX hN l) rfl (fun s args hts => cwV 0 hts gX8_best_X8_starts rfl rfl rfl (by decide +kernel) ⟨Nat.le_of_ble_eq_true rfl, Nat.le_of_ble_eq_true rfl⟩), List.forall_mem_cons.mpr ⟨ycal_V hX (m_X8_daysAll hX hN l) rfl (fun s args hts => cwV 1 hts gX8_best_X8_daysAll rfl rfl rfl (by decide +kernel) ⟨Nat.le_of_ble_eq_true rfl, Nat.le_of_ble_eq_true rfl⟩), fun _ h => absurd h List.not_mem_nil⟩⟩⟩)
    (List.forall_mem_cons.mpr ⟨ycal_S hX (m_X8_in hX hN l) (fun s args hts => va_cwS 3 hts gX8_best_X8_in rfl rfl rfl (by decide +kernel) ⟨Nat.le_of_ble_eq_true rfl, Nat.le_of_ble_eq_true rfl⟩), fun _ h => absurd h List.not_mem_nil⟩)
    (zmm_all (fun _ h => absurd h List.not_mem_nil)) (fun _ h => absurd h List.not_mem_nil) (zpr_all hp_X8_best) (fun as σ res h => by
      unfold F_X8_best at h
      split at h
      · rename_i x1 x2
        cases hr : f_X8_best N σ x1 x2 with
        | none => rw [hr] at h; cases h
        | some r =>
          rw [hr] at h
          cases h
          exact ⟨Nat.le_of_ble_eq_true rfl, t_X8_best σ x1 x2 r hr⟩
      · cases h)
noncomputable def pr_X8_bitsOf : List (Nat × Instr × Nat) := [(0, .iconst 0, 1), (1, .istore_n 1, 1), (2, .iconst 0, 1), (3, .istore_n 2, 1), (4, .iload_n 2, 1), (5, .bipush 7, 2), (7, .if_icmp .ge 17, 3), (10, .iload_n 1, 1), (11, .iload_n 0, 1), (12, .iload_n 2, 1), (13, .ishr, 1), (14, .iconst 1, 1), (15, .iand, 1), (16, .iadd, 1), (17, .istore_n 1, 1), (18, .iinc 2 1, 3), (21, .goto (-17), 3), (24, .iload_n 1, 1), (25, .ireturn, 1)]
set_option maxRecDepth 100000 in
theorem hp_X8_bitsOf : pr_X8_bitsOf.all (fun x => decide (decode cX8_bitsOf x.1 = .ok x.2)) = true := by decide +kernel
noncomputable def f_X8_bitsOf_b4 (N : Nat) : Nat → yS → Int → Int → Int → Option (Int × yS) := yfix (fun _ _ _ _ => none) (fun ih σ x0 x1 x2 =>
    bif ycP .ge x2 7 then
      some (x1, σ)
    else
      ih σ x0 (yad x1 (yan (ysr x0 x2) 1)) (yad x2 1))
theorem q_X8_bitsOf_b4 (N : Nat) (n : Nat) (σ : yS) (x0 : Int) (x1 : Int) (x2 : Int) : f_X8_bitsOf_b4 N (n + 1) σ x0 x1 x2 =
    (bif ycP .ge x2 7 then
      some (x1, σ)
    else
      (f_X8_bitsOf_b4 N n) σ x0 (yad x1 (yan (ysr x0 x2) 1)) (yad x2 1)) := rfl
noncomputable def f_X8_bitsOf (N : Nat) (σ : yS) (x0 : Int) : Option (Int × yS) :=
  f_X8_bitsOf_b4 N N σ x0 0 0
noncomputable def F_X8_bitsOf (N : Nat) : yF := fun as σ => match as with
  | [.inl (.inl x0)] => (f_X8_bitsOf N σ x0).map (fun r => (some (.inl (.inl r.1)), r.2))
  | _ => none
theorem e_X8_bitsOf {N : Nat} {σ : yS} {x0 : Int} {r : Int × yS} (h : f_X8_bitsOf N σ x0 = some r) : F_X8_bitsOf N [.inl (.inl x0)] σ = some (some (.inl (.inl r.1)), r.2) := by
  show (f_X8_bitsOf N σ x0).map (fun r => ((some (.inl (.inl r.1)), r.2) : yR)) = _
  rw [h]
  rfl
noncomputable def tb_X8_bitsOf (N : Nat) : yTb := ([], [], [], [], [], [], [])
abbrev G_X8_bitsOf (N : Nat) (X : zXT) (sh : List yH) (l : Launch) (rm : Room) : yC → yR → Prop := yGoes X vwCl yct sh l rm cX8_bitsOf 3 wsX8_bitsOf RX8 (tb_X8_bitsOf N) pr_X8_bitsOf 1
set_option maxRecDepth 100000 in
set_option maxHeartbeats 4000000 in
theorem t_X8_bitsOf_b4 {N : Nat} {X : zXT} {sh : List yH} {l : Launch} {rm : Room} : ∀ (n : Nat) (σ : yS) (x0 : Int) (x1 : Int) (x2 : Int) (res : Int × yS), f_X8_bitsOf_b4 N n σ x0 x1 x2 = some res → G_X8_bitsOf N X sh l rm (4, [(0, .inl (.inl x0)), (1, .inl (.inl x1)), (2, .inl (.inl x2))], [], σ) (some (.inl (.inl res.1)), res.2) := by
  intro n
  induction n with
  | zero => intro σ x0 x1 x2 res h; exact (yno h).elim
  | succ n ih =>
    intro σ x0 x1 x2 res h
    rw [q_X8_bitsOf_b4] at h
    refine yG_n (n := 2) (C' := (7, [(0, .inl (.inl x0)), (1, .inl (.inl x1)), (2, .inl (.inl x2))], [.inl (.inl 7), .inl (.inl x2)], σ)) rfl ?_
    cases hg1 : ycP .ge x2 7 with
    | true =>
      rw [hg1] at h
      dsimp only [cond] at h
      refine yG_t (C' := (24, [(0, .inl (.inl x0)), (1, .inl (.inl x1)), (2, .inl (.inl x2))], [], σ)) rfl hg1 ?_
      refine yG_n (n := 1) (C' := (25, [(0, .inl (.inl x0)), (1, .inl (.inl x1)), (2, .inl (.inl x2))], [.inl (.inl x1)], σ)) rfl ?_
      have h := Option.some.inj h
      subst h
      dsimp only
      exact yG_r rfl rfl
    | false =>
      rw [hg1] at h
      dsimp only [cond] at h
      refine yG_f (C' := (10, [(0, .inl (.inl x0)), (1, .inl (.inl x1)), (2, .inl (.inl x2))], [], σ)) rfl hg1 ?_
      refine yG_n (n := 10) (C' := (4, [(2, .inl (.inl (yad x2 1))), (1, .inl (.inl (yad x1 (yan (ysr x0 x2) 1)))), (0, .inl (.inl x0))], [], σ)) rfl ?_
      exact yG_w [2, 1, 0] rfl (ih σ x0 (yad x1 (yan (ysr x0 x2) 1)) (yad x2 1) res h)
set_option maxRecDepth 100000 in
set_option maxHeartbeats 4000000 in
theorem t_X8_bitsOf {N : Nat} {X : zXT} {sh : List yH} {l : Launch} {rm : Room} (σ : yS) (x0 : Int) (res : Int × yS) (h : f_X8_bitsOf N σ x0 = some res) : G_X8_bitsOf N X sh l rm (0, [(0, .inl (.inl x0))], [], σ) (some (.inl (.inl res.1)), res.2) := by
  unfold f_X8_bitsOf at h
  refine yG_n (n := 4) (C' := (4, [(2, .inl (.inl 0)), (1, .inl (.inl 0)), (0, .inl (.inl x0))], [], σ)) rfl ?_
  exact yG_w [2, 1, 0] rfl (t_X8_bitsOf_b4 N σ x0 0 0 res h)
set_option maxRecDepth 100000 in
set_option maxHeartbeats 4000000 in
theorem m_X8_bitsOf {N : Nat} {X : zXT} (hX : zXok X) (hN : zXn X) (l : Launch) {sh : List yH} : yMet X vwCl yct sh l yX8_bitsOf wsX8_bitsOf { frames := 1, cells := 0, slots := 0, locals := 64 } (F_X8_bitsOf N) :=
  ymeth (tb := tb_X8_bitsOf N) (pr := pr_X8_bitsOf) (rt := 1) (own := RX8) hX (by decide +kernel) rfl rfl ⟨Nat.le_of_ble_eq_true rfl, Nat.le_of_ble_eq_true rfl⟩
    (zfl_all (fun _ h => absurd h List.not_mem_nil))
    (zco_all (fun _ h => absurd h List.not_mem_nil)) (zlc_all (fun _ h => absurd h List.not_mem_nil))
    (fun _ h => absurd h List.not_mem_nil)
    (fun _ h => absurd h List.not_mem_nil)
    (zmm_all (fun _ h => absurd h List.not_mem_nil)) (fun _ h => absurd h List.not_mem_nil) (zpr_all hp_X8_bitsOf) (fun as σ res h => by
      unfold F_X8_bitsOf at h
      split at h
      · rename_i x0
        cases hr : f_X8_bitsOf N σ x0 with
        | none => rw [hr] at h; cases h
        | some r =>
          rw [hr] at h
          cases h
          exact ⟨Nat.le_of_ble_eq_true rfl, t_X8_bitsOf σ x0 r hr⟩
      · cases h)
noncomputable def pr_X8_can : List (Nat × Instr × Nat) := [(0, .aload_n 0, 1), (1, .iload_n 1, 1), (2, .invokevirtual 205, 3), (5, .ifCond .eq 11, 3), (8, .aload_n 0, 1), (9, .iload_n 2, 1), (10, .invokevirtual 209, 3), (13, .ifCond .ne 5, 3), (16, .iconst (-1), 1), (17, .ireturn, 1), (18, .aload_n 0, 1), (19, .getfield 7, 3), (22, .bipush 7, 2), (24, .iload_n 1, 1), (25, .iadd, 1), (26, .iaload, 1), (27, .iload_n 2, 1), (28, .ishr, 1), (29, .iconst 1, 1), (30, .iand, 1), (31, .istore 4, 2), (33, .aload_n 0, 1), (34, .getfield 7, 3), (37, .bipush 7, 2), (39, .iload_n 1, 1), (40, .iadd, 1), (41, .iload_n 3, 1), (42, .ifCond .eq 19, 3), (45, .aload_n 0, 1), (46, .getfield 7, 3), (49, .bipush 7, 2), (51, .iload_n 1, 1), (52, .iadd, 1), (53, .iaload, 1), (54, .iconst 1, 1), (55, .iload_n 2, 1), (56, .ishl, 1), (57, .ior, 1), (58, .goto 18, 3), (61, .aload_n 0, 1), (62, .getfield 7, 3), (65, .bipush 7, 2), (67, .iload_n 1, 1), (68, .iadd, 1), (69, .iaload, 1), (70, .iconst 1, 1), (71, .iload_n 2, 1), (72, .ishl, 1), (73, .iconst (-1), 1), (74, .ixor, 1), (75, .iand, 1), (76, .iastore, 1), (77, .iload 4, 2), (79, .ireturn, 1)]
set_option maxRecDepth 100000 in
theorem hp_X8_can : pr_X8_can.all (fun x => decide (decode cX8_can x.1 = .ok x.2)) = true := by decide +kernel
noncomputable def f_X8_can_b16 (N : Nat) (σ : yS) : Option (Int × yS) :=
  some ((-1), σ)
noncomputable def f_X8_can_b76 (N : Nat) (σ : yS) (x4 : Int) (s0 : Int) (s1 : Int) : Option (Int × yS) :=
  bif yin s1 393 then
    some (x4, yw σ 1 s1.toNat s0)
  else none
noncomputable def f_X8_can (N : Nat) (σ : yS) (x1 : Int) (x2 : Int) (x3 : Int) : Option (Int × yS) :=
  match f_X8_isHouse N σ x1 with
  | none => none
  | some r1 => bif ycP .eq r1.1 0 then
      f_X8_can_b16 N r1.2
    else
      match f_X8_isDeed N r1.2 x2 with
      | none => none
      | some r2 => bif ycP .ne r2.1 0 then
          bif yin (yad 7 x1) 393 then
            bif ycP .eq x3 0 then
              f_X8_can_b76 N r2.2 (yan (ysr (r2.2.1 1 (yad 7 x1).toNat) x2) 1) (yan (r2.2.1 1 (yad 7 x1).toNat) (yxo (ysl 1 x2) ((-1)))) (yad 7 x1)
            else
              f_X8_can_b76 N r2.2 (yan (ysr (r2.2.1 1 (yad 7 x1).toNat) x2) 1) (yor (r2.2.1 1 (yad 7 x1).toNat) (ysl 1 x2)) (yad 7 x1)
          else none
        else
          f_X8_can_b16 N r2.2
noncomputable def F_X8_can (N : Nat) : yF := fun as σ => match as with
  | [.inr (.inl 8, 0), .inl (.inl x1), .inl (.inl x2), .inl (.inl x3)] => (f_X8_can N σ x1 x2 x3).map (fun r => (some (.inl (.inl r.1)), r.2))
  | _ => none
theorem e_X8_can {N : Nat} {σ : yS} {x1 : Int} {x2 : Int} {x3 : Int} {r : Int × yS} (h : f_X8_can N σ x1 x2 x3 = some r) : F_X8_can N [.inr (.inl 8, 0), .inl (.inl x1), .inl (.inl x2), .inl (.inl x3)] σ = some (some (.inl (.inl r.1)), r.2) := by
  show (f_X8_can N σ x1 x2 x3).map (fun r => ((some (.inl (.inl r.1)), r.2) : yR)) = _
  rw [h]
  rfl
noncomputable def tb_X8_can (N : Nat) : yTb := ([(7, 8, 0, 3)], [], [], [(205, 2, 8, F_X8_isHouse N), (209, 2, 8, F_X8_isDeed N)], [], [], [])
abbrev G_X8_can (N : Nat) (X : zXT) (sh : List yH) (l : Launch) (rm : Room) : yC → yR → Prop := yGoes X vwCl yct sh l rm cX8_can 5 wsX8_can RX8 (tb_X8_can N) pr_X8_can 1
set_option maxRecDepth 100000 in
set_option maxHeartbeats 4000000 in
theorem t_X8_can_b16 {N : Nat} {X : zXT} {sh : List yH} {l : Launch} {rm : Room} (σ : yS) (res : Int × yS) (h : f_X8_can_b16 N σ = some res) : G_X8_can N X sh l rm (16, [], [], σ) (some (.inl (.inl res.1)), res.2) := by
  unfold f_X8_can_b16 at h
  refine yG_n (n := 1) (C' := (17, [], [.inl (.inl ((-1)))], σ)) rfl ?_
  have h := Option.some.inj h
  subst h
  dsimp only
  exact yG_r rfl rfl
set_option maxRecDepth 100000 in
set_option maxHeartbeats 4000000 in
theorem t_X8_can_b76 {N : Nat} {X : zXT} {sh : List yH} {l : Launch} {rm : Room} (σ : yS) (x4 : Int) (s0 : Int) (s1 : Int) (res : Int × yS) (h : f_X8_can_b76 N σ x4 s0 s1 = some res) : G_X8_can N X sh l rm (76, [(4, .inl (.inl x4))], [.inl (.inl s0), .inl (.inl s1), .inr (.inr (0, 393), 1)], σ) (some (.inl (.inl res.1)), res.2) := by
  unfold f_X8_can_b76 at h
  cases hg1 : yin s1 393 with
  | false => rw [hg1] at h; dsimp only [cond] at h; cases h
  | true =>
    rw [hg1] at h
    dsimp only [cond] at h
    refine yG_t (C' := (77, [(4, .inl (.inl x4))], [], yw σ 1 s1.toNat s0)) rfl hg1 ?_
    refine yG_n (n := 1) (C' := (79, [(4, .inl (.inl x4))], [.inl (.inl x4)], yw σ 1 s1.toNat s0)) rfl ?_
    have h := Option.some.inj h
    subst h
    dsimp only
    exact yG_r rfl rfl
set_option maxRecDepth 100000 in
set_option maxHeartbeats 4000000 in
theorem t_X8_can {N : Nat} {X : zXT} {sh : List yH} {l : Launch} {rm : Room} (σ : yS) (x1 : Int) (x2 : Int) (x3 : Int) (res : Int × yS) (h : f_X8_can N σ x1 x2 x3 = some res) : G_X8_can N X sh l rm (0, [(0, .inr (.inl 8, 0)), (1, .inl (.inl x1)), (2, .inl (.inl x2)), (3, .inl (.inl x3))], [], σ) (some (.inl (.inl res.1)), res.2) := by
  unfold f_X8_can at h
  refine yG_n (n := 2) (C' := (2, [(0, .inr (.inl 8, 0)), (1, .inl (.inl x1)), (2, .inl (.inl x2)), (3, .inl (.inl x3))], [.inl (.inl x1), .inr (.inl 8, 0)], σ)) rfl ?_
  cases hr2 : f_X8_isHouse N σ x1 with
  | none => rw [hr2] at h; dsimp only at h; cases h
  | some r1 =>
    rw [hr2] at h
    dsimp only at h
    refine yG_c (C1 := (5, [(0, .inr (.inl 8, 0)), (1, .inl (.inl x1)), (2, .inl (.inl x2)), (3, .inl (.inl x3))], [.inl (.inl r1.1)], r1.2)) rfl (e_X8_isHouse hr2) rfl ?_
    cases hg3 : ycP .eq r1.1 0 with
    | true =>
      rw [hg3] at h
      dsimp only [cond] at h
      refine yG_t (C' := (16, [(0, .inr (.inl 8, 0)), (1, .inl (.inl x1)), (2, .inl (.inl x2)), (3, .inl (.inl x3))], [], r1.2)) rfl hg3 ?_
      exact yG_w [] rfl (t_X8_can_b16 r1.2 res h)
    | false =>
      rw [hg3] at h
      dsimp only [cond] at h
      refine yG_f (C' := (8, [(0, .inr (.inl 8, 0)), (1, .inl (.inl x1)), (2, .inl (.inl x2)), (3, .inl (.inl x3))], [], r1.2)) rfl hg3 ?_
      refine yG_n (n := 2) (C' := (10, [(0, .inr (.inl 8, 0)), (1, .inl (.inl x1)), (2, .inl (.inl x2)), (3, .inl (.inl x3))], [.inl (.inl x2), .inr (.inl 8, 0)], r1.2)) rfl ?_
      cases hr4 : f_X8_isDeed N r1.2 x2 with
      | none => rw [hr4] at h; dsimp only at h; cases h
      | some r2 =>
        rw [hr4] at h
        dsimp only at h
        refine yG_c (C1 := (13, [(0, .inr (.inl 8, 0)), (1, .inl (.inl x1)), (2, .inl (.inl x2)), (3, .inl (.inl x3))], [.inl (.inl r2.1)], r2.2)) rfl (e_X8_isDeed hr4) rfl ?_
        cases hg5 : ycP .ne r2.1 0 with
        | true =>
          rw [hg5] at h
          dsimp only [cond] at h
          refine yG_t (C' := (18, [(0, .inr (.inl 8, 0)), (1, .inl (.inl x1)), (2, .inl (.inl x2)), (3, .inl (.inl x3))], [], r2.2)) rfl hg5 ?_
          refine yG_n (n := 5) (C' := (26, [(0, .inr (.inl 8, 0)), (1, .inl (.inl x1)), (2, .inl (.inl x2)), (3, .inl (.inl x3))], [.inl (.inl (yad 7 x1)), .inr (.inr (0, 393), 1)], r2.2)) rfl ?_
          cases hg6 : yin (yad 7 x1) 393 with
          | false => rw [hg6] at h; dsimp only [cond] at h; cases h
          | true =>
            rw [hg6] at h
            dsimp only [cond] at h
            refine yG_t (C' := (27, [(0, .inr (.inl 8, 0)), (1, .inl (.inl x1)), (2, .inl (.inl x2)), (3, .inl (.inl x3))], [.inl (.inl (r2.2.1 1 (yad 7 x1).toNat))], r2.2)) rfl hg6 ?_
            refine yG_n (n := 11) (C' := (42, [(4, .inl (.inl (yan (ysr (r2.2.1 1 (yad 7 x1).toNat) x2) 1))), (0, .inr (.inl 8, 0)), (1, .inl (.inl x1)), (2, .inl (.inl x2)), (3, .inl (.inl x3))], [.inl (.inl x3), .inl (.inl (yad 7 x1)), .inr (.inr (0, 393), 1)], r2.2)) rfl ?_
            cases hg7 : ycP .eq x3 0 with
            | true =>
              rw [hg7] at h
              dsimp only [cond] at h
              refine yG_t (C' := (61, [(4, .inl (.inl (yan (ysr (r2.2.1 1 (yad 7 x1).toNat) x2) 1))), (0, .inr (.inl 8, 0)), (1, .inl (.inl x1)), (2, .inl (.inl x2)), (3, .inl (.inl x3))], [.inl (.inl (yad 7 x1)), .inr (.inr (0, 393), 1)], r2.2)) rfl hg7 ?_
              refine yG_n (n := 5) (C' := (69, [(4, .inl (.inl (yan (ysr (r2.2.1 1 (yad 7 x1).toNat) x2) 1))), (0, .inr (.inl 8, 0)), (1, .inl (.inl x1)), (2, .inl (.inl x2)), (3, .inl (.inl x3))], [.inl (.inl (yad 7 x1)), .inr (.inr (0, 393), 1), .inl (.inl (yad 7 x1)), .inr (.inr (0, 393), 1)], r2.2)) rfl ?_
              refine yG_t (C' := (70, [(4, .inl (.inl (yan (ysr (r2.2.1 1 (yad 7 x1).toNat) x2) 1))), (0, .inr (.inl 8, 0)), (1, .inl (.inl x1)), (2, .inl (.inl x2)), (3, .inl (.inl x3))], [.inl (.inl (r2.2.1 1 (yad 7 x1).toNat)), .inl (.inl (yad 7 x1)), .inr (.inr (0, 393), 1)], r2.2)) rfl hg6 ?_
              refine yG_n (n := 6) (C' := (76, [(4, .inl (.inl (yan (ysr (r2.2.1 1 (yad 7 x1).toNat) x2) 1))), (0, .inr (.inl 8, 0)), (1, .inl (.inl x1)), (2, .inl (.inl x2)), (3, .inl (.inl x3))], [.inl (.inl (yan (r2.2.1 1 (yad 7 x1).toNat) (yxo (ysl 1 x2) ((-1))))), .inl (.inl (yad 7 x1)), .inr (.inr (0, 393), 1)], r2.2)) rfl ?_
              exact yG_w [0] rfl (t_X8_can_b76 r2.2 (yan (ysr (r2.2.1 1 (yad 7 x1).toNat) x2) 1) (yan (r2.2.1 1 (yad 7 x1).toNat) (yxo (ysl 1 x2) ((-1)))) (yad 7 x1) res h)
            | false =>
              rw [hg7] at h
              dsimp only [cond] at h
              refine yG_f (C' := (45, [(4, .inl (.inl (yan (ysr (r2.2.1 1 (yad 7 x1).toNat) x2) 1))), (0, .inr (.inl 8, 0)), (1, .inl (.inl x1)), (2, .inl (.inl x2)), (3, .inl (.inl x3))], [.inl (.inl (yad 7 x1)), .inr (.inr (0, 393), 1)], r2.2)) rfl hg7 ?_
              refine yG_n (n := 5) (C' := (53, [(4, .inl (.inl (yan (ysr (r2.2.1 1 (yad 7 x1).toNat) x2) 1))), (0, .inr (.inl 8, 0)), (1, .inl (.inl x1)), (2, .inl (.inl x2)), (3, .inl (.inl x3))], [.inl (.inl (yad 7 x1)), .inr (.inr (0, 393), 1), .inl (.inl (yad 7 x1)), .inr (.inr (0, 393), 1)], r2.2)) rfl ?_
              refine yG_t (C' := (54, [(4, .inl (.inl (yan (ysr (r2.2.1 1 (yad 7 x1).toNat) x2) 1))), (0, .inr (.inl 8, 0)), (1, .inl (.inl x1)), (2, .inl (.inl x2)), (3, .inl (.inl x3))], [.inl (.inl (r2.2.1 1 (yad 7 x1).toNat)), .inl (.inl (yad 7 x1)), .inr (.inr (0, 393), 1)], r2.2)) rfl hg6 ?_
              refine yG_n (n := 5) (C' := (76, [(4, .inl (.inl (yan (ysr (r2.2.1 1 (yad 7 x1).toNat) x2) 1))), (0, .inr (.inl 8, 0)), (1, .inl (.inl x1)), (2, .inl (.inl x2)), (3, .inl (.inl x3))], [.inl (.inl (yor (r2.2.1 1 (yad 7 x1).toNat) (ysl 1 x2))), .inl (.inl (yad 7 x1)), .inr (.inr (0, 393), 1)], r2.2)) rfl ?_
              exact yG_w [0] rfl (t_X8_can_b76 r2.2 (yan (ysr (r2.2.1 1 (yad 7 x1).toNat) x2) 1) (yor (r2.2.1 1 (yad 7 x1).toNat) (ysl 1 x2)) (yad 7 x1) res h)
        | false =>
          rw [hg5] at h
          dsimp only [cond] at h
          refine yG_f (C' := (16, [(0, .inr (.inl 8, 0)), (1, .inl (.inl x1)), (2, .inl (.inl x2)), (3, .inl (.inl x3))], [], r2.2)) rfl hg5 ?_
          exact yG_w [] rfl (t_X8_can_b16 r2.2 res h)
set_option maxRecDepth 100000 in
set_option maxHeartbeats 4000000 in
theorem m_X8_can {N : Nat} {X : zXT} (hX : zXok X) (hN : zXn X) (l : Launch) {sh : List yH} : yMet X vwCl yct sh l yX8_can wsX8_can { frames := 3, cells := 0, slots := 0, locals := 110 } (F_X8_can N) :=
  ymeth (tb := tb_X8_can N) (pr := pr_X8_can) (rt := 1) (own := RX8) hX (by decide +kernel) rfl rfl ⟨Nat.le_of_ble_eq_true rfl, Nat.le_of_ble_eq_true rfl⟩
    (zfl_all (List.forall_mem_cons.mpr ⟨zfl_X8 (fun w h => List.mem_cons_of_mem _ (List.mem_append_right _ h)) (List.mem_of_getElem? (i := 1) rfl) (by decide) (by decide), fun _ h => absurd h List.not_mem_nil⟩))
    (zco_all (fun _ h => absurd h List.not_mem_nil)) (zlc_all (fun _ h => absurd h List.not_mem_nil))
    (List.forall_mem_cons.mpr ⟨ycal_V hX (m_X8_isHouse hX hN l) rfl (fun s args hts => cwV 1 hts gX8_can_X8_isHouse rfl rfl rfl (by decide +kernel) ⟨Nat.le_of_ble_eq_true rfl, Nat.le_of_ble_eq_true rfl⟩), List.forall_mem_cons.mpr ⟨ycal_V hX (m_X8_isDeed hX hN l) rfl (fun s args hts => cwV 1 hts gX8_can_X8_isDeed rfl rfl rfl (by decide +kernel) ⟨Nat.le_of_ble_eq_true rfl, Nat.le_of_ble_eq_true rfl⟩), fun _ h => absurd h List.not_mem_nil⟩⟩)
    (fun _ h => absurd h List.not_mem_nil)
    (zmm_all (fun _ h => absurd h List.not_mem_nil)) (fun _ h => absurd h List.not_mem_nil) (zpr_all hp_X8_can) (fun as σ res h => by
      unfold F_X8_can at h
      split at h
      · rename_i x1 x2 x3
        cases hr : f_X8_can N σ x1 x2 x3 with
        | none => rw [hr] at h; cases h
        | some r =>
          rw [hr] at h
          cases h
          exact ⟨Nat.le_of_ble_eq_true rfl, t_X8_can σ x1 x2 x3 r hr⟩
      · cases h)
end
