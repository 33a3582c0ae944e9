section
noncomputable def pr_X8_lookedDeed : List (Nat × Instr × Nat) := [(0, .aload_n 0, 1), (1, .iconst 0, 1), (2, .iconst 4, 1), (3, .invokevirtual 143, 3), (6, .istore_n 1, 1), (7, .aload_n 0, 1), (8, .aload_n 0, 1), (9, .getfield 97, 3), (12, .ifCond .ne 15, 3), (15, .iload_n 1, 1), (16, .aload_n 0, 1), (17, .getfield 76, 3), (20, .if_icmp .le 7, 3), (23, .iload_n 1, 1), (24, .goto 7, 3), (27, .aload_n 0, 1), (28, .getfield 76, 3), (31, .putfield 76, 3), (34, .iload_n 1, 1), (35, .ireturn, 1)]
set_option maxRecDepth 100000 in
theorem hp_X8_lookedDeed : pr_X8_lookedDeed.all (fun x => decide (decode cX8_lookedDeed x.1 = .ok x.2)) = true := by decide +kernel
noncomputable def f_X8_lookedDeed_b31 (N : Nat) (σ : yS) (x1 : Int) (s0 : Int) : Option (Int × yS) :=
  some (x1, yw σ 0 15 s0)
noncomputable def f_X8_lookedDeed_b27 (N : Nat) (σ : yS) (x1 : Int) : Option (Int × yS) :=
  f_X8_lookedDeed_b31 N σ x1 (σ.1 0 15)
noncomputable def f_X8_lookedDeed (N : Nat) (σ : yS) : Option (Int × yS) :=
  match f_X8_looked N σ 0 4 with
  | none => none
  | some r1 => bif ycP .ne (r1.2.1 0 22) 0 then
      f_X8_lookedDeed_b27 N r1.2 r1.1
    else
      bif ycP .le r1.1 (r1.2.1 0 15) then
        f_X8_lookedDeed_b27 N r1.2 r1.1
      else
        f_X8_lookedDeed_b31 N r1.2 r1.1 r1.1
noncomputable def F_X8_lookedDeed (N : Nat) : yF := fun as σ => match as with
  | [.inr (.inl 8, 0)] => (f_X8_lookedDeed N σ).map (fun r => (some (.inl (.inl r.1)), r.2))
  | _ => none
theorem e_X8_lookedDeed {N : Nat} {σ : yS} {r : Int × yS} (h : f_X8_lookedDeed N σ = some r) : F_X8_lookedDeed N [.inr (.inl 8, 0)] σ = some (some (.inl (.inl r.1)), r.2) := by
  show (f_X8_lookedDeed N σ).map (fun r => ((some (.inl (.inl r.1)), r.2) : yR)) = _
  rw [h]
  rfl
noncomputable def tb_X8_lookedDeed (N : Nat) : yTb := ([(76, 8, 15, 0), (97, 8, 22, 0)], [], [], [(143, 3, 8, F_X8_looked N)], [], [], [])
abbrev G_X8_lookedDeed (N : Nat) (X : zXT) (sh : List yH) (l : Launch) (rm : Room) : yC → yR → Prop := yGoes X vwCl yct sh l rm cX8_lookedDeed 2 wsX8_lookedDeed RX8 (tb_X8_lookedDeed N) pr_X8_lookedDeed 1
set_option maxRecDepth 100000 in
set_option maxHeartbeats 4000000 in
theorem t_X8_lookedDeed_b31 {N : Nat} {X : zXT} {sh : List yH} {l : Launch} {rm : Room} (σ : yS) (x1 : Int) (s0 : Int) (res : Int × yS) (h : f_X8_lookedDeed_b31 N σ x1 s0 = some res) : G_X8_lookedDeed N X sh l rm (31, [(1, .inl (.inl x1))], [.inl (.inl s0), .inr (.inl 8, 0)], σ) (some (.inl (.inl res.1)), res.2) := by
  unfold f_X8_lookedDeed_b31 at h
  refine yG_n (n := 2) (C' := (35, [(1, .inl (.inl x1))], [.inl (.inl x1)], yw σ 0 15 s0)) rfl ?_
  have h := Option.some.inj h
  subst h
  dsimp only
  exact yG_r rfl rfl
set_option maxRecDepth 100000 in
set_option maxHeartbeats 4000000 in
theorem t_X8_lookedDeed_b27 {N : Nat} {X : zXT} {sh : List yH} {l : Launch} {rm : Room} (σ : yS) (x1 : Int) (res : Int × yS) (h : f_X8_lookedDeed_b27 N σ x1 = some res) : G_X8_lookedDeed N X sh l rm (27, [(0, .inr (.inl 8, 0)), (1, .inl (.inl x1))], [.inr (.inl 8, 0)], σ) (some (.inl (.inl res.1)), res.2) := by
  unfold f_X8_lookedDeed_b27 at h
  refine yG_n (n := 2) (C' := (31, [(0, .inr (.inl 8, 0)), (1, .inl (.inl x1))], [.inl (.inl (σ.1 0 15)), .inr (.inl 8, 0)], σ)) rfl ?_
  exact yG_w [1] rfl (t_X8_lookedDeed_b31 σ x1 (σ.1 0 15) res h)
set_option maxRecDepth 100000 in
set_option maxHeartbeats 4000000 in
theorem t_X8_lookedDeed {N : Nat} {X : zXT} {sh : List yH} {l : Launch} {rm : Room} (σ : yS) (res : Int × yS) (h : f_X8_lookedDeed N σ = some res) : G_X8_lookedDeed N X sh l rm (0, [(0, .inr (.inl 8, 0))], [], σ) (some (.inl (.inl res.1)), res.2) := by
  unfold f_X8_lookedDeed at h
  refine yG_n (n := 3) (C' := (3, [(0, .inr (.inl 8, 0))], [.inl (.inl 4), .inl (.inl 0), .inr (.inl 8, 0)], σ)) rfl ?_
  cases hr1 : f_X8_looked N σ 0 4 with
  | none => rw [hr1] at h; dsimp only at h; cases h
  | some r1 =>
    rw [hr1] at h
    dsimp only at h
    refine yG_c (C1 := (6, [(0, .inr (.inl 8, 0))], [.inl (.inl r1.1)], r1.2)) rfl (e_X8_looked hr1) rfl ?_
    refine yG_n (n := 4) (C' := (12, [(1, .inl (.inl r1.1)), (0, .inr (.inl 8, 0))], [.inl (.inl (r1.2.1 0 22)), .inr (.inl 8, 0)], r1.2)) rfl ?_
    cases hg2 : ycP .ne (r1.2.1 0 22) 0 with
    | true =>
      rw [hg2] at h
      dsimp only [cond] at h
      refine yG_t (C' := (27, [(1, .inl (.inl r1.1)), (0, .inr (.inl 8, 0))], [.inr (.inl 8, 0)], r1.2)) rfl hg2 ?_
      exact yG_w [1, 0] rfl (t_X8_lookedDeed_b27 r1.2 r1.1 res h)
    | false =>
      rw [hg2] at h
      dsimp only [cond] at h
      refine yG_f (C' := (15, [(1, .inl (.inl r1.1)), (0, .inr (.inl 8, 0))], [.inr (.inl 8, 0)], r1.2)) rfl hg2 ?_
      refine yG_n (n := 3) (C' := (20, [(1, .inl (.inl r1.1)), (0, .inr (.inl 8, 0))], [.inl (.inl (r1.2.1 0 15)), .inl (.inl r1.1), .inr (.inl 8, 0)], r1.2)) rfl ?_
      cases hg3 : ycP .le r1.1 (r1.2.1 0 15) with
      | true =>
        rw [hg3] at h
        dsimp only [cond] at h
        refine yG_t (C' := (27, [(1, .inl (.inl r1.1)), (0, .inr (.inl 8, 0))], [.inr (.inl 8, 0)], r1.2)) rfl hg3 ?_
        exact yG_w [1, 0] rfl (t_X8_lookedDeed_b27 r1.2 r1.1 res h)
      | false =>
        rw [hg3] at h
        dsimp only [cond] at h
        refine yG_f (C' := (23, [(1, .inl (.inl r1.1)), (0, .inr (.inl 8, 0))], [.inr (.inl 8, 0)], r1.2)) rfl hg3 ?_
        refine yG_n (n := 2) (C' := (31, [(1, .inl (.inl r1.1)), (0, .inr (.inl 8, 0))], [.inl (.inl r1.1), .inr (.inl 8, 0)], r1.2)) rfl ?_
        exact yG_w [0] rfl (t_X8_lookedDeed_b31 r1.2 r1.1 r1.1 res h)
set_option maxRecDepth 100000 in
set_option maxHeartbeats 4000000 in
theorem m_X8_lookedDeed {N : Nat} {X : zXT} (hX : zXok X) (hN : zXn X) (l : Launch) {sh : List yH} : yMet X vwCl yct sh l yX8_lookedDeed wsX8_lookedDeed { frames := 3, cells := 0, slots := 0, locals := 111 } (F_X8_lookedDeed N) :=
  ymeth (tb := tb_X8_lookedDeed N) (pr := pr_X8_lookedDeed) (rt := 1) (own := RX8) hX (by decide +kernel) rfl rfl ⟨Nat.le_of_ble_eq_true rfl, Nat.le_of_ble_eq_true rfl⟩
    (zfl_all (List.forall_mem_cons.mpr ⟨zfl_X8 (fun w h => List.mem_cons_of_mem _ (List.mem_append_right _ h)) (List.mem_of_getElem? (i := 2) rfl) (by decide) (by decide), List.forall_mem_cons.mpr ⟨zfl_X8 (fun w h => List.mem_cons_of_mem _ (List.mem_append_right _ h)) (List.mem_of_getElem? (i := 1) rfl) (by decide) (by decide), fun _ h => absurd h List.not_mem_nil⟩⟩))
    (zco_all (fun _ h => absurd h List.not_mem_nil)) (zlc_all (fun _ h => absurd h List.not_mem_nil))
    (List.forall_mem_cons.mpr ⟨ycal_V hX (m_X8_looked hX hN l) rfl (fun s args hts => cwV 2 hts gX8_lookedDeed_X8_looked rfl rfl rfl (by decide +kernel) ⟨Nat.le_of_ble_eq_true rfl, Nat.le_of_ble_eq_true rfl⟩), fun _ h => absurd h List.not_mem_nil⟩)
    (fun _ h => absurd h List.not_mem_nil)
    (zmm_all (fun _ h => absurd h List.not_mem_nil)) (fun _ h => absurd h List.not_mem_nil) (zpr_all hp_X8_lookedDeed) (fun as σ res h => by
      unfold F_X8_lookedDeed at h
      split at h
      · cases hr : f_X8_lookedDeed N σ with
        | none => rw [hr] at h; cases h
        | some r =>
          rw [hr] at h
          cases h
          exact ⟨Nat.le_of_ble_eq_true rfl, t_X8_lookedDeed σ r hr⟩
      · cases h)
noncomputable def pr_X8_lookedHouse : List (Nat × Instr × Nat) := [(0, .aload_n 0, 1), (1, .iconst 0, 1), (2, .bipush 6, 2), (4, .invokevirtual 143, 3), (7, .istore_n 1, 1), (8, .aload_n 0, 1), (9, .aload_n 0, 1), (10, .getfield 97, 3), (13, .ifCond .ne 15, 3), (16, .iload_n 1, 1), (17, .aload_n 0, 1), (18, .getfield 73, 3), (21, .if_icmp .le 7, 3), (24, .iload_n 1, 1), (25, .goto 7, 3), (28, .aload_n 0, 1), (29, .getfield 73, 3), (32, .putfield 73, 3), (35, .iload_n 1, 1), (36, .ireturn, 1)]
set_option maxRecDepth 100000 in
theorem hp_X8_lookedHouse : pr_X8_lookedHouse.all (fun x => decide (decode cX8_lookedHouse x.1 = .ok x.2)) = true := by decide +kernel
noncomputable def f_X8_lookedHouse_b32 (N : Nat) (σ : yS) (x1 : Int) (s0 : Int) : Option (Int × yS) :=
  some (x1, yw σ 0 14 s0)
noncomputable def f_X8_lookedHouse_b28 (N : Nat) (σ : yS) (x1 : Int) : Option (Int × yS) :=
  f_X8_lookedHouse_b32 N σ x1 (σ.1 0 14)
noncomputable def f_X8_lookedHouse (N : Nat) (σ : yS) : Option (Int × yS) :=
  match f_X8_looked N σ 0 6 with
  | none => none
  | some r1 => bif ycP .ne (r1.2.1 0 22) 0 then
      f_X8_lookedHouse_b28 N r1.2 r1.1
    else
      bif ycP .le r1.1 (r1.2.1 0 14) then
        f_X8_lookedHouse_b28 N r1.2 r1.1
      else
        f_X8_lookedHouse_b32 N r1.2 r1.1 r1.1
noncomputable def F_X8_lookedHouse (N : Nat) : yF := fun as σ => match as with
  | [.inr (.inl 8, 0)] => (f_X8_lookedHouse N σ).map (fun r => (some (.inl (.inl r.1)), r.2))
  | _ => none
theorem e_X8_lookedHouse {N : Nat} {σ : yS} {r : Int × yS} (h : f_X8_lookedHouse N σ = some r) : F_X8_lookedHouse N [.inr (.inl 8, 0)] σ = some (some (.inl (.inl r.1)), r.2) := by
  show (f_X8_lookedHouse N σ).map (fun r => ((some (.inl (.inl r.1)), r.2) : yR)) = _
  rw [h]
  rfl
noncomputable def tb_X8_lookedHouse (N : Nat) : yTb := ([(73, 8, 14, 0), (97, 8, 22, 0)], [], [], [(143, 3, 8, F_X8_looked N)], [], [], [])
abbrev G_X8_lookedHouse (N : Nat) (X : zXT) (sh : List yH) (l : Launch) (rm : Room) : yC → yR → Prop := yGoes X vwCl yct sh l rm cX8_lookedHouse 2 wsX8_lookedHouse RX8 (tb_X8_lookedHouse N) pr_X8_lookedHouse 1
set_option maxRecDepth 100000 in
set_option maxHeartbeats 4000000 in
theorem t_X8_lookedHouse_b32 {N : Nat} {X : zXT} {sh : List yH} {l : Launch} {rm : Room} (σ : yS) (x1 : Int) (s0 : Int) (res : Int × yS) (h : f_X8_lookedHouse_b32 N σ x1 s0 = some res) : G_X8_lookedHouse N X sh l rm (32, [(1, .inl (.inl x1))], [.inl (.inl s0), .inr (.inl 8, 0)], σ) (some (.inl (.inl res.1)), res.2) := by
  unfold f_X8_lookedHouse_b32 at h
  refine yG_n (n := 2) (C' := (36, [(1, .inl (.inl x1))], [.inl (.inl x1)], yw σ 0 14 s0)) rfl ?_
  have h := Option.some.inj h
  subst h
  dsimp only
  exact yG_r rfl rfl
set_option maxRecDepth 100000 in
set_option maxHeartbeats 4000000 in
theorem t_X8_lookedHouse_b28 {N : Nat} {X : zXT} {sh : List yH} {l : Launch} {rm : Room} (σ : yS) (x1 : Int) (res : Int × yS) (h : f_X8_lookedHouse_b28 N σ x1 = some res) : G_X8_lookedHouse N X sh l rm (28, [(0, .inr (.inl 8, 0)), (1, .inl (.inl x1))], [.inr (.inl 8, 0)], σ) (some (.inl (.inl res.1)), res.2) := by
  unfold f_X8_lookedHouse_b28 at h
  refine yG_n (n := 2) (C' := (32, [(0, .inr (.inl 8, 0)), (1, .inl (.inl x1))], [.inl (.inl (σ.1 0 14)), .inr (.inl 8, 0)], σ)) rfl ?_
  exact yG_w [1] rfl (t_X8_lookedHouse_b32 σ x1 (σ.1 0 14) res h)
set_option maxRecDepth 100000 in
set_option maxHeartbeats 4000000 in
theorem t_X8_lookedHouse {N : Nat} {X : zXT} {sh : List yH} {l : Launch} {rm : Room} (σ : yS) (res : Int × yS) (h : f_X8_lookedHouse N σ = some res) : G_X8_lookedHouse N X sh l rm (0, [(0, .inr (.inl 8, 0))], [], σ) (some (.inl (.inl res.1)), res.2) := by
  unfold f_X8_lookedHouse at h
  refine yG_n (n := 3) (C' := (4, [(0, .inr (.inl 8, 0))], [.inl (.inl 6), .inl (.inl 0), .inr (.inl 8, 0)], σ)) rfl ?_
  cases hr1 : f_X8_looked N σ 0 6 with
  | none => rw [hr1] at h; dsimp only at h; cases h
  | some r1 =>
    rw [hr1] at h
    dsimp only at h
    refine yG_c (C1 := (7, [(0, .inr (.inl 8, 0))], [.inl (.inl r1.1)], r1.2)) rfl (e_X8_looked hr1) rfl ?_
    refine yG_n (n := 4) (C' := (13, [(1, .inl (.inl r1.1)), (0, .inr (.inl 8, 0))], [.inl (.inl (r1.2.1 0 22)), .inr (.inl 8, 0)], r1.2)) rfl ?_
    cases hg2 : ycP .ne (r1.2.1 0 22) 0 with
    | true =>
      rw [hg2] at h
      dsimp only [cond] at h
      refine yG_t (C' := (28, [(1, .inl (.inl r1.1)), (0, .inr (.inl 8, 0))], [.inr (.inl 8, 0)], r1.2)) rfl hg2 ?_
      exact yG_w [1, 0] rfl (t_X8_lookedHouse_b28 r1.2 r1.1 res h)
    | false =>
      rw [hg2] at h
      dsimp only [cond] at h
      refine yG_f (C' := (16, [(1, .inl (.inl r1.1)), (0, .inr (.inl 8, 0))], [.inr (.inl 8, 0)], r1.2)) rfl hg2 ?_
      refine yG_n (n := 3) (C' := (21, [(1, .inl (.inl r1.1)), (0, .inr (.inl 8, 0))], [.inl (.inl (r1.2.1 0 14)), .inl (.inl r1.1), .inr (.inl 8, 0)], r1.2)) rfl ?_
      cases hg3 : ycP .le r1.1 (r1.2.1 0 14) with
      | true =>
        rw [hg3] at h
        dsimp only [cond] at h
        refine yG_t (C' := (28, [(1, .inl (.inl r1.1)), (0, .inr (.inl 8, 0))], [.inr (.inl 8, 0)], r1.2)) rfl hg3 ?_
        exact yG_w [1, 0] rfl (t_X8_lookedHouse_b28 r1.2 r1.1 res h)
      | false =>
        rw [hg3] at h
        dsimp only [cond] at h
        refine yG_f (C' := (24, [(1, .inl (.inl r1.1)), (0, .inr (.inl 8, 0))], [.inr (.inl 8, 0)], r1.2)) rfl hg3 ?_
        refine yG_n (n := 2) (C' := (32, [(1, .inl (.inl r1.1)), (0, .inr (.inl 8, 0))], [.inl (.inl r1.1), .inr (.inl 8, 0)], r1.2)) rfl ?_
        exact yG_w [0] rfl (t_X8_lookedHouse_b32 r1.2 r1.1 r1.1 res h)
set_option maxRecDepth 100000 in
set_option maxHeartbeats 4000000 in
theorem m_X8_lookedHouse {N : Nat} {X : zXT} (hX : zXok X) (hN : zXn X) (l : Launch) {sh : List yH} : yMet X vwCl yct sh l yX8_lookedHouse wsX8_lookedHouse { frames := 3, cells := 0, slots := 0, locals := 111 } (F_X8_lookedHouse N) :=
  ymeth (tb := tb_X8_lookedHouse N) (pr := pr_X8_lookedHouse) (rt := 1) (own := RX8) hX (by decide +kernel) rfl rfl ⟨Nat.le_of_ble_eq_true rfl, Nat.le_of_ble_eq_true rfl⟩
    (zfl_all (List.forall_mem_cons.mpr ⟨zfl_X8 (fun w h => List.mem_cons_of_mem _ (List.mem_append_right _ h)) (List.mem_of_getElem? (i := 2) rfl) (by decide) (by decide), List.forall_mem_cons.mpr ⟨zfl_X8 (fun w h => List.mem_cons_of_mem _ (List.mem_append_right _ h)) (List.mem_of_getElem? (i := 1) rfl) (by decide) (by decide), fun _ h => absurd h List.not_mem_nil⟩⟩))
    (zco_all (fun _ h => absurd h List.not_mem_nil)) (zlc_all (fun _ h => absurd h List.not_mem_nil))
    (List.forall_mem_cons.mpr ⟨ycal_V hX (m_X8_looked hX hN l) rfl (fun s args hts => cwV 2 hts gX8_lookedHouse_X8_looked rfl rfl rfl (by decide +kernel) ⟨Nat.le_of_ble_eq_true rfl, Nat.le_of_ble_eq_true rfl⟩), fun _ h => absurd h List.not_mem_nil⟩)
    (fun _ h => absurd h List.not_mem_nil)
    (zmm_all (fun _ h => absurd h List.not_mem_nil)) (fun _ h => absurd h List.not_mem_nil) (zpr_all hp_X8_lookedHouse) (fun as σ res h => by
      unfold F_X8_lookedHouse at h
      split at h
      · cases hr : f_X8_lookedHouse N σ with
        | none => rw [hr] at h; cases h
        | some r =>
          rw [hr] at h
          cases h
          exact ⟨Nat.le_of_ble_eq_true rfl, t_X8_lookedHouse σ r hr⟩
      · cases h)
noncomputable def pr_X8_timesOf : List (Nat × Instr × Nat) := [(0, .iconst 0, 1), (1, .istore_n 3, 1), (2, .iconst 0, 1), (3, .istore 4, 2), (5, .iload 4, 2), (7, .aload_n 0, 1), (8, .getfield 7, 3), (11, .bipush 21, 2), (13, .iload_n 1, 1), (14, .iadd, 1), (15, .iaload, 1), (16, .invokestatic 249, 3), (19, .if_icmp .ge 43, 3), (22, .iload_n 3, 1), (23, .aload_n 0, 1), (24, .iload_n 1, 1), (25, .aload_n 0, 1), (26, .getfield 7, 3), (29, .bipush 21, 2), (31, .iload_n 1, 1), (32, .iadd, 1), (33, .iaload, 1), (34, .iload 4, 2), (36, .invokestatic 252, 3), (39, .invokevirtual 255, 3), (42, .iload_n 2, 1), (43, .if_icmp .ne 7, 3), (46, .iconst 1, 1), (47, .goto 4, 3), (50, .iconst 0, 1), (51, .invokestatic 197, 3), (54, .iadd, 1), (55, .istore_n 3, 1), (56, .iinc 4 1, 3), (59, .goto (-54), 3), (62, .aload_n 0, 1), (63, .getfield 7, 3), (66, .bipush 21, 2), (68, .iload_n 1, 1), (69, .iadd, 1), (70, .iaload, 1), (71, .iconst 4, 1), (72, .if_icmp .eq 28, 3), (75, .aload_n 0, 1), (76, .getfield 7, 3), (79, .bipush 14, 2), (81, .iload_n 2, 1), (82, .iadd, 1), (83, .iaload, 1), (84, .iconst 1, 1), (85, .if_icmp .eq 15, 3), (88, .aload_n 0, 1), (89, .getfield 7, 3), (92, .bipush 35, 2), (94, .iload_n 1, 1), (95, .iadd, 1), (96, .iaload, 1), (97, .ifCond .ne 7, 3), (100, .iconst 0, 1), (101, .goto 4, 3), (104, .iload_n 3, 1), (105, .ireturn, 1)]
set_option maxRecDepth 100000 in
theorem hp_X8_timesOf : pr_X8_timesOf.all (fun x => decide (decode cX8_timesOf x.1 = .ok x.2)) = true := by decide +kernel
noncomputable def f_X8_timesOf_b105 (N : Nat) (σ : yS) (s0 : Int) : Option (Int × yS) :=
  some (s0, σ)
noncomputable def f_X8_timesOf_b100 (N : Nat) (σ : yS) : Option (Int × yS) :=
  f_X8_timesOf_b105 N σ 0
noncomputable def f_X8_timesOf_b51 (N : Nat) (k5 : yS → Int → Int → Int → Int → Option (Int × yS)) (σ : yS) (x1 : Int) (x2 : Int) (x4 : Int) (s0 : Int) (s1 : Int) : Option (Int × yS) :=
  match f_X8_flag N σ s0 with
  | none => none
  | some r4 => k5 r4.2 x1 x2 (yad s1 r4.1) (yad x4 1)
noncomputable def f_X8_timesOf_b5 (N : Nat) : Nat → yS → Int → Int → Int → Int → Option (Int × yS) := yfix (fun _ _ _ _ _ => none) (fun ih σ x1 x2 x3 x4 =>
    bif yin (yad 21 x1) 393 then
      match f_X8_fallsOf N σ (σ.1 1 (yad 21 x1).toNat) with
      | none => none
      | some r1 => bif ycP .ge x4 r1.1 then
          bif ycP .eq (r1.2.1 1 (yad 21 x1).toNat) 4 then
            f_X8_timesOf_b100 N r1.2
          else
            bif yin (yad 14 x2) 393 then
              bif ycP .eq (r1.2.1 1 (yad 14 x2).toNat) 1 then
                f_X8_timesOf_b100 N r1.2
              else
                bif yin (yad 35 x1) 393 then
                  bif ycP .ne (r1.2.1 1 (yad 35 x1).toNat) 0 then
                    f_X8_timesOf_b105 N r1.2 x3
                  else
                    f_X8_timesOf_b100 N r1.2
                else none
            else none
        else
          match f_X8_byOf N r1.2 (r1.2.1 1 (yad 21 x1).toNat) x4 with
          | none => none
          | some r2 => match f_X8_off N r2.2 x1 r2.1 with
            | none => none
            | some r3 => bif ycP .ne r3.1 x2 then
                f_X8_timesOf_b51 N ih r3.2 x1 x2 x4 0 x3
              else
                f_X8_timesOf_b51 N ih r3.2 x1 x2 x4 1 x3
    else none)
theorem q_X8_timesOf_b5 (N : Nat) (n : Nat) (σ : yS) (x1 : Int) (x2 : Int) (x3 : Int) (x4 : Int) : f_X8_timesOf_b5 N (n + 1) σ x1 x2 x3 x4 =
    (bif yin (yad 21 x1) 393 then
      match f_X8_fallsOf N σ (σ.1 1 (yad 21 x1).toNat) with
      | none => none
      | some r1 => bif ycP .ge x4 r1.1 then
          bif ycP .eq (r1.2.1 1 (yad 21 x1).toNat) 4 then
            f_X8_timesOf_b100 N r1.2
          else
            bif yin (yad 14 x2) 393 then
              bif ycP .eq (r1.2.1 1 (yad 14 x2).toNat) 1 then
                f_X8_timesOf_b100 N r1.2
              else
                bif yin (yad 35 x1) 393 then
                  bif ycP .ne (r1.2.1 1 (yad 35 x1).toNat) 0 then
                    f_X8_timesOf_b105 N r1.2 x3
                  else
                    f_X8_timesOf_b100 N r1.2
                else none
            else none
        else
          match f_X8_byOf N r1.2 (r1.2.1 1 (yad 21 x1).toNat) x4 with
          | none => none
          | some r2 => match f_X8_off N r2.2 x1 r2.1 with
            | none => none
            | some r3 => bif ycP .ne r3.1 x2 then
                f_X8_timesOf_b51 N (f_X8_timesOf_b5 N n) r3.2 x1 x2 x4 0 x3
              else
                f_X8_timesOf_b51 N (f_X8_timesOf_b5 N n) r3.2 x1 x2 x4 1 x3
    else none) := rfl
noncomputable def f_X8_timesOf (N : Nat) (σ : yS) (x1 : Int) (x2 : Int) : Option (Int × yS) :=
  f_X8_timesOf_b5 N N σ x1 x2 0 0
noncomputable def F_X8_timesOf (N : Nat) : yF := fun as σ => match as with
  | [.inr (.inl 8, 0), .inl (.inl x1), .inl (.inl x2)] => (f_X8_timesOf N σ x1 x2).map (fun r => (some (.inl (.inl r.1)), r.2))
  | _ => none
theorem e_X8_timesOf {N : Nat} {σ : yS} {x1 : Int} {x2 : Int} {r : Int × yS} (h : f_X8_timesOf N σ x1 x2 = some r) : F_X8_timesOf N [.inr (.inl 8, 0), .inl (.inl x1), .inl (.inl x2)] σ = some (some (.inl (.inl r.1)), r.2) := by
  show (f_X8_timesOf N σ x1 x2).map (fun r => ((some (.inl (.inl r.1)), r.2) : yR)) = _
  rw [h]
  rfl
noncomputable def tb_X8_timesOf (N : Nat) : yTb := ([(7, 8, 0, 3)], [], [], [(255, 3, 8, F_X8_off N)], [(197, 1, F_X8_flag N), (249, 1, F_X8_fallsOf N), (252, 2, F_X8_byOf N)], [], [])
abbrev G_X8_timesOf (N : Nat) (X : zXT) (sh : List yH) (l : Launch) (rm : Room) : yC → yR → Prop := yGoes X vwCl yct sh l rm cX8_timesOf 5 wsX8_timesOf RX8 (tb_X8_timesOf N) pr_X8_timesOf 1
set_option maxRecDepth 100000 in
set_option maxHeartbeats 4000000 in
theorem t_X8_timesOf_b105 {N : Nat} {X : zXT} {sh : List yH} {l : Launch} {rm : Room} (σ : yS) (s0 : Int) (res : Int × yS) (h : f_X8_timesOf_b105 N σ s0 = some res) : G_X8_timesOf N X sh l rm (105, [], [.inl (.inl s0)], σ) (some (.inl (.inl res.1)), res.2) := by
  unfold f_X8_timesOf_b105 at h
  have h := Option.some.inj h
  subst h
  dsimp only
  exact yG_r rfl rfl
set_option maxRecDepth 100000 in
set_option maxHeartbeats 4000000 in
theorem t_X8_timesOf_b100 {N : Nat} {X : zXT} {sh : List yH} {l : Launch} {rm : Room} (σ : yS) (res : Int × yS) (h : f_X8_timesOf_b100 N σ = some res) : G_X8_timesOf N X sh l rm (100, [], [], σ) (some (.inl (.inl res.1)), res.2) := by
  unfold f_X8_timesOf_b100 at h
  refine yG_n (n := 2) (C' := (105, [], [.inl (.inl 0)], σ)) rfl ?_
  exact t_X8_timesOf_b105 σ 0 res h
set_option maxRecDepth 100000 in
set_option maxHeartbeats 4000000 in
theorem t_X8_timesOf_b51 {N : Nat} {X : zXT} {sh : List yH} {l : Launch} {rm : Room} (k5 : yS → Int → Int → Int → Int → Option (Int × yS)) (hk5 : ∀ (σ : yS) (x1 : Int) (x2 : Int) (x3 : Int) (x4 : Int) (res : Int × yS), k5 σ x1 x2 x3 x4 = some res → G_X8_timesOf N X sh l rm (5, [(0, .inr (.inl 8, 0)), (1, .inl (.inl x1)), (2, .inl (.inl x2)), (3, .inl (.inl x3)), (4, .inl (.inl x4))], [], σ) (some (.inl (.inl res.1)), res.2)) (σ : yS) (x1 : Int) (x2 : Int) (x4 : Int) (s0 : Int) (s1 : Int) (res : Int × yS) (h : f_X8_timesOf_b51 N k5 σ x1 x2 x4 s0 s1 = some res) : G_X8_timesOf N X sh l rm (51, [(0, .inr (.inl 8, 0)), (1, .inl (.inl x1)), (2, .inl (.inl x2)), (4, .inl (.inl x4))], [.inl (.inl s0), .inl (.inl s1)], σ) (some (.inl (.inl res.1)), res.2) := by
  unfold f_X8_timesOf_b51 at h
  cases hr1 : f_X8_flag N σ s0 with
  | none => rw [hr1] at h; dsimp only at h; cases h
  | some r4 =>
    rw [hr1] at h
    dsimp only at h
    refine yG_c (C1 := (54, [(0, .inr (.inl 8, 0)), (1, .inl (.inl x1)), (2, .inl (.inl x2)), (4, .inl (.inl x4))], [.inl (.inl r4.1), .inl (.inl s1)], r4.2)) rfl (e_X8_flag hr1) rfl ?_
    refine yG_n (n := 4) (C' := (5, [(4, .inl (.inl (yad x4 1))), (3, .inl (.inl (yad s1 r4.1))), (0, .inr (.inl 8, 0)), (1, .inl (.inl x1)), (2, .inl (.inl x2))], [], r4.2)) rfl ?_
    exact yG_w [2, 3, 4, 1, 0] rfl (hk5 r4.2 x1 x2 (yad s1 r4.1) (yad x4 1) res h)
set_option maxRecDepth 100000 in
set_option maxHeartbeats 4000000 in
theorem t_X8_timesOf_b5 {N : Nat} {X : zXT} {sh : List yH} {l : Launch} {rm : Room} : ∀ (n : Nat) (σ : yS) (x1 : Int) (x2 : Int) (x3 : Int) (x4 : Int) (res : Int × yS), f_X8_timesOf_b5 N n σ x1 x2 x3 x4 = some res → G_X8_timesOf N X sh l rm (5, [(0, .inr (.inl 8, 0)), (1, .inl (.inl x1)), (2, .inl (.inl x2)), (3, .inl (.inl x3)), (4, .inl (.inl x4))], [], σ) (some (.inl (.inl res.1)), res.2) := by
  intro n
  induction n with
  | zero => intro σ x1 x2 x3 x4 res h; exact (yno h).elim
  | succ n ih =>
    intro σ x1 x2 x3 x4 res h
    rw [q_X8_timesOf_b5] at h
    refine yG_n (n := 6) (C' := (15, [(0, .inr (.inl 8, 0)), (1, .inl (.inl x1)), (2, .inl (.inl x2)), (3, .inl (.inl x3)), (4, .inl (.inl x4))], [.inl (.inl (yad 21 x1)), .inr (.inr (0, 393), 1), .inl (.inl x4)], σ)) rfl ?_
    cases hg2 : yin (yad 21 x1) 393 with
    | false => rw [hg2] at h; dsimp only [cond] at h; cases h
    | true =>
      rw [hg2] at h
      dsimp only [cond] at h
      refine yG_t (C' := (16, [(0, .inr (.inl 8, 0)), (1, .inl (.inl x1)), (2, .inl (.inl x2)), (3, .inl (.inl x3)), (4, .inl (.inl x4))], [.inl (.inl (σ.1 1 (yad 21 x1).toNat)), .inl (.inl x4)], σ)) rfl hg2 ?_
      cases hr3 : f_X8_fallsOf N σ (σ.1 1 (yad 21 x1).toNat) with
      | none => rw [hr3] at h; dsimp only at h; cases h
      | some r1 =>
        rw [hr3] at h
        dsimp only at h
        refine yG_c (C1 := (19, [(0, .inr (.inl 8, 0)), (1, .inl (.inl x1)), (2, .inl (.inl x2)), (3, .inl (.inl x3)), (4, .inl (.inl x4))], [.inl (.inl r1.1), .inl (.inl x4)], r1.2)) rfl (e_X8_fallsOf hr3) rfl ?_
        cases hg4 : ycP .ge x4 r1.1 with
        | true =>
          rw [hg4] at h
          dsimp only [cond] at h
          refine yG_t (C' := (62, [(0, .inr (.inl 8, 0)), (1, .inl (.inl x1)), (2, .inl (.inl x2)), (3, .inl (.inl x3)), (4, .inl (.inl x4))], [], r1.2)) rfl hg4 ?_
          refine yG_n (n := 5) (C' := (70, [(0, .inr (.inl 8, 0)), (1, .inl (.inl x1)), (2, .inl (.inl x2)), (3, .inl (.inl x3)), (4, .inl (.inl x4))], [.inl (.inl (yad 21 x1)), .inr (.inr (0, 393), 1)], r1.2)) rfl ?_
          refine yG_t (C' := (71, [(0, .inr (.inl 8, 0)), (1, .inl (.inl x1)), (2, .inl (.inl x2)), (3, .inl (.inl x3)), (4, .inl (.inl x4))], [.inl (.inl (r1.2.1 1 (yad 21 x1).toNat))], r1.2)) rfl hg2 ?_
          refine yG_n (n := 1) (C' := (72, [(0, .inr (.inl 8, 0)), (1, .inl (.inl x1)), (2, .inl (.inl x2)), (3, .inl (.inl x3)), (4, .inl (.inl x4))], [.inl (.inl 4), .inl (.inl (r1.2.1 1 (yad 21 x1).toNat))], r1.2)) rfl ?_
          cases hg5 : ycP .eq (r1.2.1 1 (yad 21 x1).toNat) 4 with
          | true =>
            rw [hg5] at h
            dsimp only [cond] at h
            refine yG_t (C' := (100, [(0, .inr (.inl 8, 0)), (1, .inl (.inl x1)), (2, .inl (.inl x2)), (3, .inl (.inl x3)), (4, .inl (.inl x4))], [], r1.2)) rfl hg5 ?_
            exact yG_w [] rfl (t_X8_timesOf_b100 r1.2 res h)
          | false =>
            rw [hg5] at h
            dsimp only [cond] at h
            refine yG_f (C' := (75, [(0, .inr (.inl 8, 0)), (1, .inl (.inl x1)), (2, .inl (.inl x2)), (3, .inl (.inl x3)), (4, .inl (.inl x4))], [], r1.2)) rfl hg5 ?_
            refine yG_n (n := 5) (C' := (83, [(0, .inr (.inl 8, 0)), (1, .inl (.inl x1)), (2, .inl (.inl x2)), (3, .inl (.inl x3)), (4, .inl (.inl x4))], [.inl (.inl (yad 14 x2)), .inr (.inr (0, 393), 1)], r1.2)) rfl ?_
            cases hg6 : yin (yad 14 x2) 393 with
            | false => rw [hg6] at h; dsimp only [cond] at h; cases h
            | true =>
              rw [hg6] at h
              dsimp only [cond] at h
              refine yG_t (C' := (84, [(0, .inr (.inl 8, 0)), (1, .inl (.inl x1)), (2, .inl (.inl x2)), (3, .inl (.inl x3)), (4, .inl (.inl x4))], [.inl (.inl (r1.2.1 1 (yad 14 x2).toNat))], r1.2)) rfl hg6 ?_
              refine yG_n (n := 1) (C' := (85, [(0, .inr (.inl 8, 0)), (1, .inl (.inl x1)), (2, .inl (.inl x2)), (3, .inl (.inl x3)), (4, .inl (.inl x4))], [.inl (.inl 1), .inl (.inl (r1.2.1 1 (yad 14 x2).toNat))], r1.2)) rfl ?_
              cases hg7 : ycP .eq (r1.2.1 1 (yad 14 x2).toNat) 1 with
              | true =>
                rw [hg7] at h
                dsimp only [cond] at h
                refine yG_t (C' := (100, [(0, .inr (.inl 8, 0)), (1, .inl (.inl x1)), (2, .inl (.inl x2)), (3, .inl (.inl x3)), (4, .inl (.inl x4))], [], r1.2)) rfl hg7 ?_
                exact yG_w [] rfl (t_X8_timesOf_b100 r1.2 res h)
              | false =>
                rw [hg7] at h
                dsimp only [cond] at h
                refine yG_f (C' := (88, [(0, .inr (.inl 8, 0)), (1, .inl (.inl x1)), (2, .inl (.inl x2)), (3, .inl (.inl x3)), (4, .inl (.inl x4))], [], r1.2)) rfl hg7 ?_
                refine yG_n (n := 5) (C' := (96, [(0, .inr (.inl 8, 0)), (1, .inl (.inl x1)), (2, .inl (.inl x2)), (3, .inl (.inl x3)), (4, .inl (.inl x4))], [.inl (.inl (yad 35 x1)), .inr (.inr (0, 393), 1)], r1.2)) rfl ?_
                cases hg8 : yin (yad 35 x1) 393 with
                | false => rw [hg8] at h; dsimp only [cond] at h; cases h
                | true =>
                  rw [hg8] at h
                  dsimp only [cond] at h
                  refine yG_t (C' := (97, [(0, .inr (.inl 8, 0)), (1, .inl (.inl x1)), (2, .inl (.inl x2)), (3, .inl (.inl x3)), (4, .inl (.inl x4))], [.inl (.inl (r1.2.1 1 (yad 35 x1).toNat))], r1.2)) rfl hg8 ?_
                  cases hg9 : ycP .ne (r1.2.1 1 (yad 35 x1).toNat) 0 with
                  | true =>
                    rw [hg9] at h
                    dsimp only [cond] at h
                    refine yG_t (C' := (104, [(0, .inr (.inl 8, 0)), (1, .inl (.inl x1)), (2, .inl (.inl x2)), (3, .inl (.inl x3)), (4, .inl (.inl x4))], [], r1.2)) rfl hg9 ?_
                    refine yG_n (n := 1) (C' := (105, [(0, .inr (.inl 8, 0)), (1, .inl (.inl x1)), (2, .inl (.inl x2)), (3, .inl (.inl x3)), (4, .inl (.inl x4))], [.inl (.inl x3)], r1.2)) rfl ?_
                    exact yG_w [] rfl (t_X8_timesOf_b105 r1.2 x3 res h)
                  | false =>
                    rw [hg9] at h
                    dsimp only [cond] at h
                    refine yG_f (C' := (100, [(0, .inr (.inl 8, 0)), (1, .inl (.inl x1)), (2, .inl (.inl x2)), (3, .inl (.inl x3)), (4, .inl (.inl x4))], [], r1.2)) rfl hg9 ?_
                    exact yG_w [] rfl (t_X8_timesOf_b100 r1.2 res h)
        | false =>
          rw [hg4] at h
          dsimp only [cond] at h
          refine yG_f (C' := (22, [(0, .inr (.inl 8, 0)), (1, .inl (.inl x1)), (2, .inl (.inl x2)), (3, .inl (.inl x3)), (4, .inl (.inl x4))], [], r1.2)) rfl hg4 ?_
          refine yG_n (n := 8) (C' := (33, [(0, .inr (.inl 8, 0)), (1, .inl (.inl x1)), (2, .inl (.inl x2)), (3, .inl (.inl x3)), (4, .inl (.inl x4))], [.inl (.inl (yad 21 x1)), .inr (.inr (0, 393), 1), .inl (.inl x1), .inr (.inl 8, 0), .inl (.inl x3)], r1.2)) rfl ?_
          refine yG_t (C' := (34, [(0, .inr (.inl 8, 0)), (1, .inl (.inl x1)), (2, .inl (.inl x2)), (3, .inl (.inl x3)), (4, .inl (.inl x4))], [.inl (.inl (r1.2.1 1 (yad 21 x1).toNat)), .inl (.inl x1), .inr (.inl 8, 0), .inl (.inl x3)], r1.2)) rfl hg2 ?_
          refine yG_n (n := 1) (C' := (36, [(0, .inr (.inl 8, 0)), (1, .inl (.inl x1)), (2, .inl (.inl x2)), (3, .inl (.inl x3)), (4, .inl (.inl x4))], [.inl (.inl x4), .inl (.inl (r1.2.1 1 (yad 21 x1).toNat)), .inl (.inl x1), .inr (.inl 8, 0), .inl (.inl x3)], r1.2)) rfl ?_
          cases hr10 : f_X8_byOf N r1.2 (r1.2.1 1 (yad 21 x1).toNat) x4 with
          | none => rw [hr10] at h; dsimp only at h; cases h
          | some r2 =>
            rw [hr10] at h
            dsimp only at h
            refine yG_c (C1 := (39, [(0, .inr (.inl 8, 0)), (1, .inl (.inl x1)), (2, .inl (.inl x2)), (3, .inl (.inl x3)), (4, .inl (.inl x4))], [.inl (.inl r2.1), .inl (.inl x1), .inr (.inl 8, 0), .inl (.inl x3)], r2.2)) rfl (e_X8_byOf hr10) rfl ?_
            cases hr11 : f_X8_off N r2.2 x1 r2.1 with
            | none => rw [hr11] at h; dsimp only at h; cases h
            | some r3 =>
              rw [hr11] at h
              dsimp only at h
              refine yG_c (C1 := (42, [(0, .inr (.inl 8, 0)), (1, .inl (.inl x1)), (2, .inl (.inl x2)), (3, .inl (.inl x3)), (4, .inl (.inl x4))], [.inl (.inl r3.1), .inl (.inl x3)], r3.2)) rfl (e_X8_off hr11) rfl ?_
              refine yG_n (n := 1) (C' := (43, [(0, .inr (.inl 8, 0)), (1, .inl (.inl x1)), (2, .inl (.inl x2)), (3, .inl (.inl x3)), (4, .inl (.inl x4))], [.inl (.inl x2), .inl (.inl r3.1), .inl (.inl x3)], r3.2)) rfl ?_
              cases hg12 : ycP .ne r3.1 x2 with
              | true =>
                rw [hg12] at h
                dsimp only [cond] at h
                refine yG_t (C' := (50, [(0, .inr (.inl 8, 0)), (1, .inl (.inl x1)), (2, .inl (.inl x2)), (3, .inl (.inl x3)), (4, .inl (.inl x4))], [.inl (.inl x3)], r3.2)) rfl hg12 ?_
                refine yG_n (n := 1) (C' := (51, [(0, .inr (.inl 8, 0)), (1, .inl (.inl x1)), (2, .inl (.inl x2)), (3, .inl (.inl x3)), (4, .inl (.inl x4))], [.inl (.inl 0), .inl (.inl x3)], r3.2)) rfl ?_
                exact yG_w [0, 1, 2, 4] rfl (t_X8_timesOf_b51 (f_X8_timesOf_b5 N n) ih r3.2 x1 x2 x4 0 x3 res h)
              | false =>
                rw [hg12] at h
                dsimp only [cond] at h
                refine yG_f (C' := (46, [(0, .inr (.inl 8, 0)), (1, .inl (.inl x1)), (2, .inl (.inl x2)), (3, .inl (.inl x3)), (4, .inl (.inl x4))], [.inl (.inl x3)], r3.2)) rfl hg12 ?_
                refine yG_n (n := 2) (C' := (51, [(0, .inr (.inl 8, 0)), (1, .inl (.inl x1)), (2, .inl (.inl x2)), (3, .inl (.inl x3)), (4, .inl (.inl x4))], [.inl (.inl 1), .inl (.inl x3)], r3.2)) rfl ?_
                exact yG_w [0, 1, 2, 4] rfl (t_X8_timesOf_b51 (f_X8_timesOf_b5 N n) ih r3.2 x1 x2 x4 1 x3 res h)
set_option maxRecDepth 100000 in
set_option maxHeartbeats 4000000 in
theorem t_X8_timesOf {N : Nat} {X : zXT} {sh : List yH} {l : Launch} {rm : Room} (σ : yS) (x1 : Int) (x2 : Int) (res : Int × yS) (h : f_X8_timesOf N σ x1 x2 = some res) : G_X8_timesOf N X sh l rm (0, [(0, .inr (.inl 8, 0)), (1, .inl (.inl x1)), (2, .inl (.inl x2))], [], σ) (some (.inl (.inl res.1)), res.2) := by
  unfold f_X8_timesOf at h
  refine yG_n (n := 4) (C' := (5, [(4, .inl (.inl 0)), (3, .inl (.inl 0)), (0, .inr (.inl 8, 0)), (1, .inl (.inl x1)), (2, .inl (.inl x2))], [], σ)) rfl ?_
  exact yG_w [2, 3, 4, 1, 0] rfl (t_X8_timesOf_b5 N σ x1 x2 0 0 res h)
set_option maxRecDepth 100000 in
set_option maxHeartbeats 4000000 in
theorem m_X8_timesOf {N : Nat} {X : zXT} (hX : zXok X) (hN : zXn X) (l : Launch) {sh : List yH} : yMet X vwCl yct sh l yX8_timesOf wsX8_timesOf { frames := 3, cells := 0, slots := 0, locals := 112 } (F_X8_timesOf N) :=
  ymeth (tb := tb_X8_timesOf N) (pr := pr_X8_timesOf) (rt := 1) (own := RX8) hX (by decide +kernel) rfl rfl ⟨Nat.le_of_ble_eq_true rfl, Nat.le_of_ble_eq_true rfl⟩
    (zfl_all (List.forall_mem_cons.mpr ⟨zfl_X8 (fun w h => List.mem_cons_of_mem _ (List.mem_append_right _ h)) (List.mem_of_getElem? (i := 1) rfl) (by decide) (by decide), fun _ h => absurd h List.not_mem_nil⟩))
    (zco_all (fun _ h => absurd h List.not_mem_nil)) (zlc_all (fun _ h => absurd h List.not_mem_nil))
    (List.forall_mem_cons.mpr ⟨ycal_V hX (m_X8_off hX hN l) rfl (fun s args hts => cwV 2 hts gX8_timesOf_X8_off rfl rfl rfl (by decide +kernel) ⟨Nat.le_of_ble_eq_true rfl, Nat.le_of_ble_eq_true rfl⟩), fun _ h => absurd h List.not_mem_nil⟩)
    (List.forall_mem_cons.mpr ⟨ycal_S hX (m_X8_flag hX hN l) (fun s args hts => va_cwS 1 hts gX8_timesOf_X8_flag rfl rfl rfl (by decide +kernel) ⟨Nat.le_of_ble_eq_true rfl, Nat.le_of_ble_eq_true rfl⟩), List.forall_mem_cons.mpr ⟨ycal_S hX (m_X8_fallsOf hX hN l) (fun s args hts => va_cwS 1 hts gX8_timesOf_X8_fallsOf rfl rfl rfl (by decide +kernel) ⟨Nat.le_of_ble_eq_true rfl, Nat.le_of_ble_eq_true rfl⟩), List.forall_mem_cons.mpr ⟨ycal_S hX (m_X8_byOf hX hN l) (fun s args hts => va_cwS 2 hts gX8_timesOf_X8_byOf rfl rfl rfl (by decide +kernel) ⟨Nat.le_of_ble_eq_true rfl, Nat.le_of_ble_eq_true rfl⟩), fun _ h => absurd h List.not_mem_nil⟩⟩⟩)
    (zmm_all (fun _ h => absurd h List.not_mem_nil)) (fun _ h => absurd h List.not_mem_nil) (zpr_all hp_X8_timesOf) (fun as σ res h => by
      unfold F_X8_timesOf at h
      split at h
      · rename_i x1 x2
        cases hr : f_X8_timesOf N σ x1 x2 with
        | none => rw [hr] at h; cases h
        | some r =>
          rw [hr] at h
          cases h
          exact ⟨Nat.le_of_ble_eq_true rfl, t_X8_timesOf σ x1 x2 r hr⟩
      · cases h)
noncomputable def pr_X8_told : List (Nat × Instr × Nat) := [(0, .lload_n 2, 1), (1, .lload_n 0, 1), (2, .invokestatic 304, 3), (5, .lstore 5, 2), (7, .iload 4, 2), (9, .ifCond .ne 10, 3), (12, .lload_n 0, 1), (13, .lload 5, 2), (15, .ldiv, 1), (16, .goto 7, 3), (19, .lload_n 2, 1), (20, .lload 5, 2), (22, .ldiv, 1), (23, .lreturn, 1)]
set_option maxRecDepth 100000 in
theorem hp_X8_told : pr_X8_told.all (fun x => decide (decode cX8_told x.1 = .ok x.2)) = true := by decide +kernel
noncomputable def f_X8_told_b23 (N : Nat) (σ : yS) (s0 : Int) : Option (Int × yS) :=
  some (s0, σ)
noncomputable def f_X8_told (N : Nat) (σ : yS) (x0 : Int) (x2 : Int) (x4 : Int) : Option (Int × yS) :=
  match f_X8_common N σ x2 x0 with
  | none => none
  | some r1 => bif ycP .ne x4 0 then
      bif ynz r1.1 then
        f_X8_told_b23 N r1.2 (ydvL x2 r1.1)
      else none
    else
      bif ynz r1.1 then
        f_X8_told_b23 N r1.2 (ydvL x0 r1.1)
      else none
noncomputable def F_X8_told (N : Nat) : yF := fun as σ => match as with
  | [.inl (.inr x0), .inl (.inr x2), .inl (.inl x4)] => (f_X8_told N σ x0 x2 x4).map (fun r => (some (.inl (.inr r.1)), r.2))
  | _ => none
theorem e_X8_told {N : Nat} {σ : yS} {x0 : Int} {x2 : Int} {x4 : Int} {r : Int × yS} (h : f_X8_told N σ x0 x2 x4 = some r) : F_X8_told N [.inl (.inr x0), .inl (.inr x2), .inl (.inl x4)] σ = some (some (.inl (.inr r.1)), r.2) := by
  show (f_X8_told N σ x0 x2 x4).map (fun r => ((some (.inl (.inr r.1)), r.2) : yR)) = _
  rw [h]
  rfl
noncomputable def tb_X8_told (N : Nat) : yTb := ([], [], [], [], [(304, 2, F_X8_common N)], [], [])
abbrev G_X8_told (N : Nat) (X : zXT) (sh : List yH) (l : Launch) (rm : Room) : yC → yR → Prop := yGoes X vwCl yct sh l rm cX8_told 7 wsX8_told RX8 (tb_X8_told N) pr_X8_told 3
set_option maxRecDepth 100000 in
set_option maxHeartbeats 4000000 in
theorem t_X8_told_b23 {N : Nat} {X : zXT} {sh : List yH} {l : Launch} {rm : Room} (σ : yS) (s0 : Int) (res : Int × yS) (h : f_X8_told_b23 N σ s0 = some res) : G_X8_told N X sh l rm (23, [], [.inl (.inr s0)], σ) (some (.inl (.inr res.1)), res.2) := by
  unfold f_X8_told_b23 at h
  have h := Option.some.inj h
  subst h
  dsimp only
  exact yG_r rfl rfl
set_option maxRecDepth 100000 in
set_option maxHeartbeats 4000000 in
theorem t_X8_told {N : Nat} {X : zXT} {sh : List yH} {l : Launch} {rm : Room} (σ : yS) (x0 : Int) (x2 : Int) (x4 : Int) (res : Int × yS) (h : f_X8_told N σ x0 x2 x4 = some res) : G_X8_told N X sh l rm (0, [(0, .inl (.inr x0)), (2, .inl (.inr x2)), (4, .inl (.inl x4))], [], σ) (some (.inl (.inr res.1)), res.2) := by
  unfold f_X8_told at h
  refine yG_n (n := 2) (C' := (2, [(0, .inl (.inr x0)), (2, .inl (.inr x2)), (4, .inl (.inl x4))], [.inl (.inr x0), .inl (.inr x2)], σ)) rfl ?_
  cases hr1 : f_X8_common N σ x2 x0 with
  | none => rw [hr1] at h; dsimp only at h; cases h
  | some r1 =>
    rw [hr1] at h
    dsimp only at h
    refine yG_c (C1 := (5, [(0, .inl (.inr x0)), (2, .inl (.inr x2)), (4, .inl (.inl x4))], [.inl (.inr r1.1)], r1.2)) rfl (e_X8_common hr1) rfl ?_
    refine yG_n (n := 2) (C' := (9, [(5, .inl (.inr r1.1)), (0, .inl (.inr x0)), (2, .inl (.inr x2)), (4, .inl (.inl x4))], [.inl (.inl x4)], r1.2)) rfl ?_
    cases hg2 : ycP .ne x4 0 with
    | true =>
      rw [hg2] at h
      dsimp only [cond] at h
      refine yG_t (C' := (19, [(5, .inl (.inr r1.1)), (0, .inl (.inr x0)), (2, .inl (.inr x2)), (4, .inl (.inl x4))], [], r1.2)) rfl hg2 ?_
      refine yG_n (n := 2) (C' := (22, [(5, .inl (.inr r1.1)), (0, .inl (.inr x0)), (2, .inl (.inr x2)), (4, .inl (.inl x4))], [.inl (.inr r1.1), .inl (.inr x2)], r1.2)) rfl ?_
      cases hg3 : ynz r1.1 with
      | false => rw [hg3] at h; dsimp only [cond] at h; cases h
      | true =>
        rw [hg3] at h
        dsimp only [cond] at h
        refine yG_t (C' := (23, [(5, .inl (.inr r1.1)), (0, .inl (.inr x0)), (2, .inl (.inr x2)), (4, .inl (.inl x4))], [.inl (.inr (ydvL x2 r1.1))], r1.2)) rfl hg3 ?_
        exact yG_w [] rfl (t_X8_told_b23 r1.2 (ydvL x2 r1.1) res h)
    | false =>
      rw [hg2] at h
      dsimp only [cond] at h
      refine yG_f (C' := (12, [(5, .inl (.inr r1.1)), (0, .inl (.inr x0)), (2, .inl (.inr x2)), (4, .inl (.inl x4))], [], r1.2)) rfl hg2 ?_
      refine yG_n (n := 2) (C' := (15, [(5, .inl (.inr r1.1)), (0, .inl (.inr x0)), (2, .inl (.inr x2)), (4, .inl (.inl x4))], [.inl (.inr r1.1), .inl (.inr x0)], r1.2)) rfl ?_
      cases hg4 : ynz r1.1 with
      | false => rw [hg4] at h; dsimp only [cond] at h; cases h
      | true =>
        rw [hg4] at h
        dsimp only [cond] at h
        refine yG_t (C' := (16, [(5, .inl (.inr r1.1)), (0, .inl (.inr x0)), (2, .inl (.inr x2)), (4, .inl (.inl x4))], [.inl (.inr (ydvL x0 r1.1))], r1.2)) rfl hg4 ?_
        refine yG_n (n := 1) (C' := (23, [(5, .inl (.inr r1.1)), (0, .inl (.inr x0)), (2, .inl (.inr x2)), (4, .inl (.inl x4))], [.inl (.inr (ydvL x0 r1.1))], r1.2)) rfl ?_
        exact yG_w [] rfl (t_X8_told_b23 r1.2 (ydvL x0 r1.1) res h)
set_option maxRecDepth 100000 in
set_option maxHeartbeats 4000000 in
theorem m_X8_told {N : Nat} {X : zXT} (hX : zXok X) (hN : zXn X) (l : Launch) {sh : List yH} : yMet X vwCl yct sh l yX8_told wsX8_told { frames := 2, cells := 0, slots := 0, locals := 93 } (F_X8_told N) :=
  ymeth (tb := tb_X8_told N) (pr := pr_X8_told) (rt := 3) (own := RX8) hX (by decide +kernel) rfl rfl ⟨Nat.le_of_ble_eq_true rfl, Nat.le_of_ble_eq_true rfl⟩
    (zfl_all (fun _ h => absurd h List.not_mem_nil))
    (zco_all (fun _ h => absurd h List.not_mem_nil)) (zlc_all (fun _ h => absurd h List.not_mem_nil))
    (fun _ h => absurd h List.not_mem_nil)
    (List.forall_mem_cons.mpr ⟨ycal_S hX (m_X8_common hX hN l) (fun s args hts => va_cwS 2 hts gX8_told_X8_common rfl rfl rfl (by decide +kernel) ⟨Nat.le_of_ble_eq_true rfl, Nat.le_of_ble_eq_true rfl⟩), fun _ h => absurd h List.not_mem_nil⟩)
    (zmm_all (fun _ h => absurd h List.not_mem_nil)) (fun _ h => absurd h List.not_mem_nil) (zpr_all hp_X8_told) (fun as σ res h => by
      unfold F_X8_told at h
      split at h
      · rename_i x0 x2 x4
        cases hr : f_X8_told N σ x0 x2 x4 with
        | none => rw [hr] at h; cases h
        | some r =>
          rw [hr] at h
          cases h
          exact ⟨Nat.le_of_ble_eq_true rfl, t_X8_told σ x0 x2 x4 r hr⟩
      · cases h)
noncomputable def pr_X8_luck : List (Nat × Instr × Nat) := [(0, .aload_n 0, 1), (1, .iload_n 1, 1), (2, .invokevirtual 205, 3), (5, .ifCond .eq 13, 3), (8, .iload_n 2, 1), (9, .i2l, 1), (10, .lconst 0, 1), (11, .lconst 1, 1), (12, .invokestatic 90, 3), (15, .ifCond .ne 7, 3), (18, .ldc2_w 308, 3), (21, .lreturn, 1), (22, .lconst 0, 1), (23, .lstore_n 3, 1), (24, .lconst 1, 1), (25, .lstore 5, 2), (27, .iconst 0, 1), (28, .istore 7, 2), (30, .iload 7, 2), (32, .aload_n 0, 1), (33, .getfield 79, 3), (36, .if_icmp .ge 17, 3), (39, .lload 5, 2), (41, .ldc2_w 220, 3), (44, .lmul, 1), (45, .lstore 5, 2), (47, .iinc 7 1, 3), (50, .goto (-20), 3), (53, .iconst 0, 1), (54, .istore 7, 2), (56, .iload 7, 2), (58, .iconst 1, 1), (59, .aload_n 0, 1), (60, .getfield 79, 3), (63, .ishl, 1), (64, .if_icmp .ge 212, 3), (67, .lconst 1, 1), (68, .lstore 8, 2), (70, .iconst 0, 1), (71, .istore 10, 2), (73, .iconst 1, 1), (74, .istore 11, 2), (76, .iconst 0, 1), (77, .istore 12, 2), (79, .iload 12, 2), (81, .aload_n 0, 1), (82, .getfield 79, 3), (85, .if_icmp .ge 158, 3), (88, .iload 7, 2), (90, .iload 12, 2), (92, .ishr, 1), (93, .iconst 1, 1), (94, .iand, 1), (95, .iconst 1, 1), (96, .if_icmp .ne 7, 3), (99, .iconst 1, 1), (100, .goto 4, 3), (103, .iconst 0, 1), (104, .istore 13, 2), (106, .lload 8, 2), (108, .iload 13, 2), (110, .ifCond .eq 17, 3), (113, .aload_n 0, 1), (114, .getfield 7, 3), (117, .bipush 35, 2), (119, .iload 12, 2), (121, .iadd, 1), (122, .iaload, 1), (123, .i2l, 1), (124, .goto 17, 3), (127, .bipush 10, 2), (129, .aload_n 0, 1), (130, .getfield 7, 3), (133, .bipush 35, 2), (135, .iload 12, 2), (137, .iadd, 1), (138, .iaload, 1), (139, .isub, 1), (140, .i2l, 1), (141, .lmul, 1), (142, .lstore 8, 2), (144, .iload 13, 2), (146, .ifCond .eq 13, 3), (149, .aload_n 0, 1), (150, .iload 12, 2), (152, .iload_n 1, 1), (153, .invokevirtual 310, 3), (156, .goto 4, 3), (159, .iconst 0, 1), (160, .istore 14, 2), (162, .iload 10, 2), (164, .iload 14, 2), (166, .ifCond .ne 7, 3), (169, .iconst 0, 1), (170, .goto 21, 3), (173, .iload 14, 2), (175, .aload_n 0, 1), (176, .getfield 20, 3), (179, .aload_n 0, 1), (180, .getfield 7, 3), (183, .bipush 28, 2), (185, .iload 12, 2), (187, .iadd, 1), (188, .iaload, 1), (189, .iaload, 1), (190, .imul, 1), (191, .iadd, 1), (192, .istore 10, 2), (194, .iload 11, 2), (196, .ifCond .eq 38, 3), (199, .iload 14, 2), (201, .ifCond .eq 29, 3), (204, .aload_n 0, 1), (205, .getfield 7, 3), (208, .bipush 7, 2), (210, .iload_n 1, 1), (211, .iadd, 1), (212, .iaload, 1), (213, .aload_n 0, 1), (214, .getfield 7, 3), (217, .bipush 28, 2), (219, .iload 12, 2), (221, .iadd, 1), (222, .iaload, 1), (223, .ishr, 1), (224, .iconst 1, 1), (225, .iand, 1), (226, .iconst 1, 1), (227, .if_icmp .ne 7, 3), (230, .iconst 1, 1), (231, .goto 4, 3), (234, .iconst 0, 1), (235, .istore 11, 2), (237, .iinc 12 1, 3), (240, .goto (-161), 3), (243, .lload_n 3, 1), (244, .iload 11, 2), (246, .ifCond .eq 21, 3), (249, .iload 10, 2), (251, .aload_n 0, 1), (252, .getfield 7, 3), (255, .iconst 0, 1), (256, .iload_n 1, 1), (257, .iadd, 1), (258, .iaload, 1), (259, .if_icmp .gt 8, 3), (262, .lload 8, 2), (264, .goto 4, 3), (267, .lconst 0, 1), (268, .ladd, 1), (269, .lstore_n 3, 1), (270, .iinc 7 1, 3), (273, .goto (-217), 3), (276, .lload_n 3, 1), (277, .lload 5, 2), (279, .iload_n 2, 1), (280, .invokestatic 313, 3), (283, .lreturn, 1)]
set_option maxRecDepth 100000 in
theorem hp_X8_luck : pr_X8_luck.all (fun x => decide (decode cX8_luck x.1 = .ok x.2)) = true := by decide +kernel
noncomputable def f_X8_luck_b18 (N : Nat) (σ : yS) : Option (Int × yS) :=
  some ((-1), σ)
noncomputable def f_X8_luck_b268 (N : Nat) (k56 : yS → Int → Int → Int → Int → Int → Option (Int × yS)) (σ : yS) (x1 : Int) (x2 : Int) (x5 : Int) (x7 : Int) (s0 : Int) (s1 : Int) : Option (Int × yS) :=
  k56 σ x1 x2 (yadL s1 s0) x5 (yad x7 1)
noncomputable def f_X8_luck_b267 (N : Nat) (k56 : yS → Int → Int → Int → Int → Int → Option (Int × yS)) (σ : yS) (x1 : Int) (x2 : Int) (x5 : Int) (x7 : Int) (s0 : Int) : Option (Int × yS) :=
  f_X8_luck_b268 N k56 σ x1 x2 x5 x7 0 s0
noncomputable def f_X8_luck_b235 (N : Nat) (k56 : yS → Int → Int → Int → Int → Int → Option (Int × yS)) (k79 : yS → Int → Int → Int → Int → Int → Int → Int → Int → Int → Option (Int × yS)) (σ : yS) (x1 : Int) (x2 : Int) (x3 : Int) (x5 : Int) (x7 : Int) (x8 : Int) (x10 : Int) (x12 : Int) (s0 : Int) : Option (Int × yS) :=
  k79 σ x1 x2 x3 x5 x7 x8 x10 s0 (yad x12 1)
noncomputable def f_X8_luck_b234 (N : Nat) (k56 : yS → Int → Int → Int → Int → Int → Option (Int × yS)) (k79 : yS → Int → Int → Int → Int → Int → Int → Int → Int → Int → Option (Int × yS)) (σ : yS) (x1 : Int) (x2 : Int) (x3 : Int) (x5 : Int) (x7 : Int) (x8 : Int) (x10 : Int) (x12 : Int) : Option (Int × yS) :=
  f_X8_luck_b235 N k56 k79 σ x1 x2 x3 x5 x7 x8 x10 x12 0
noncomputable def f_X8_luck_b230 (N : Nat) (k56 : yS → Int → Int → Int → Int → Int → Option (Int × yS)) (k79 : yS → Int → Int → Int → Int → Int → Int → Int → Int → Int → Option (Int × yS)) (σ : yS) (x1 : Int) (x2 : Int) (x3 : Int) (x5 : Int) (x7 : Int) (x8 : Int) (x10 : Int) (x12 : Int) : Option (Int × yS) :=
  f_X8_luck_b235 N k56 k79 σ x1 x2 x3 x5 x7 x8 x10 x12 1
noncomputable def f_X8_luck_b191 (N : Nat) (k56 : yS → Int → Int → Int → Int → Int → Option (Int × yS)) (k79 : yS → Int → Int → Int → Int → Int → Int → Int → Int → Int → Option (Int × yS)) (σ : yS) (x1 : Int) (x2 : Int) (x3 : Int) (x5 : Int) (x7 : Int) (x8 : Int) (x11 : Int) (x12 : Int) (x14 : Int) (s0 : Int) (s1 : Int) : Option (Int × yS) :=
  bif ycP .eq x11 0 then
    f_X8_luck_b234 N k56 k79 σ x1 x2 x3 x5 x7 x8 (yad s1 s0) x12
  else
    bif ycP .eq x14 0 then
      f_X8_luck_b230 N k56 k79 σ x1 x2 x3 x5 x7 x8 (yad s1 s0) x12
    else
      bif yin (yad 7 x1) 393 then
        bif yin (yad 28 x12) 393 then
          bif ycP .ne (yan (ysr (σ.1 1 (yad 7 x1).toNat) (σ.1 1 (yad 28 x12).toNat)) 1) 1 then
            f_X8_luck_b234 N k56 k79 σ x1 x2 x3 x5 x7 x8 (yad s1 s0) x12
          else
            f_X8_luck_b230 N k56 k79 σ x1 x2 x3 x5 x7 x8 (yad s1 s0) x12
        else none
      else none
noncomputable def f_X8_luck_b160 (N : Nat) (k56 : yS → Int → Int → Int → Int → Int → Option (Int × yS)) (k79 : yS → Int → Int → Int → Int → Int → Int → Int → Int → Int → Option (Int × yS)) (σ : yS) (x1 : Int) (x2 : Int) (x3 : Int) (x5 : Int) (x7 : Int) (x8 : Int) (x10 : Int) (x11 : Int) (x12 : Int) (s0 : Int) : Option (Int × yS) :=
  bif ycP .ne s0 0 then
    bif yin (yad 28 x12) 393 then
      bif yin (σ.1 1 (yad 28 x12).toNat) 5 then
        f_X8_luck_b191 N k56 k79 σ x1 x2 x3 x5 x7 x8 x11 x12 s0 (ymu s0 (σ.1 4 (σ.1 1 (yad 28 x12).toNat).toNat)) x10
      else none
    else none
  else
    f_X8_luck_b191 N k56 k79 σ x1 x2 x3 x5 x7 x8 x11 x12 s0 0 x10
noncomputable def f_X8_luck_b141 (N : Nat) (k56 : yS → Int → Int → Int → Int → Int → Option (Int × yS)) (k79 : yS → Int → Int → Int → Int → Int → Int → Int → Int → Int → Option (Int × yS)) (σ : yS) (x1 : Int) (x2 : Int) (x3 : Int) (x5 : Int) (x7 : Int) (x10 : Int) (x11 : Int) (x12 : Int) (x13 : Int) (s0 : Int) (s1 : Int) : Option (Int × yS) :=
  bif ycP .eq x13 0 then
    f_X8_luck_b160 N k56 k79 σ x1 x2 x3 x5 x7 (ymuL s1 s0) x10 x11 x12 0
  else
    match f_X8_timesOf N σ x12 x1 with
    | none => none
    | some r4 => f_X8_luck_b160 N k56 k79 r4.2 x1 x2 x3 x5 x7 (ymuL s1 s0) x10 x11 x12 r4.1
noncomputable def f_X8_luck_b104 (N : Nat) (k56 : yS → Int → Int → Int → Int → Int → Option (Int × yS)) (k79 : yS → Int → Int → Int → Int → Int → Int → Int → Int → Int → Option (Int × yS)) (σ : yS) (x1 : Int) (x2 : Int) (x3 : Int) (x5 : Int) (x7 : Int) (x8 : Int) (x10 : Int) (x11 : Int) (x12 : Int) (s0 : Int) : Option (Int × yS) :=
  bif ycP .eq s0 0 then
    bif yin (yad 35 x12) 393 then
      f_X8_luck_b141 N k56 k79 σ x1 x2 x3 x5 x7 x10 x11 x12 s0 (ysu 10 (σ.1 1 (yad 35 x12).toNat)) x8
    else none
  else
    bif yin (yad 35 x12) 393 then
      f_X8_luck_b141 N k56 k79 σ x1 x2 x3 x5 x7 x10 x11 x12 s0 (σ.1 1 (yad 35 x12).toNat) x8
    else none
noncomputable def f_X8_luck_b79 (N : Nat) (k56 : yS → Int → Int → Int → Int → Int → Option (Int × yS)) : Nat → yS → Int → Int → Int → Int → Int → Int → Int → Int → Int → Option (Int × yS) := yfix (fun _ _ _ _ _ _ _ _ _ _ => none) (fun ih σ x1 x2 x3 x5 x7 x8 x10 x11 x12 =>
    bif ycP .ge x12 (σ.1 0 3) then
      bif ycP .eq x11 0 then
        f_X8_luck_b267 N k56 σ x1 x2 x5 x7 x3
      else
        bif yin (yad 0 x1) 393 then
          bif ycP .gt x10 (σ.1 1 (yad 0 x1).toNat) then
            f_X8_luck_b267 N k56 σ x1 x2 x5 x7 x3
          else
            f_X8_luck_b268 N k56 σ x1 x2 x5 x7 x8 x3
        else none
    else
      bif ycP .ne (yan (ysr x7 x12) 1) 1 then
        f_X8_luck_b104 N k56 ih σ x1 x2 x3 x5 x7 x8 x10 x11 x12 0
      else
        f_X8_luck_b104 N k56 ih σ x1 x2 x3 x5 x7 x8 x10 x11 x12 1)
theorem q_X8_luck_b79 (N : Nat) (k56 : yS → Int → Int → Int → Int → Int → Option (Int × yS)) (n : Nat) (σ : yS) (x1 : Int) (x2 : Int) (x3 : Int) (x5 : Int) (x7 : Int) (x8 : Int) (x10 : Int) (x11 : Int) (x12 : Int) : f_X8_luck_b79 N k56 (n + 1) σ x1 x2 x3 x5 x7 x8 x10 x11 x12 =
    (bif ycP .ge x12 (σ.1 0 3) then
      bif ycP .eq x11 0 then
        f_X8_luck_b267 N k56 σ x1 x2 x5 x7 x3
      else
        bif yin (yad 0 x1) 393 then
          bif ycP .gt x10 (σ.1 1 (yad 0 x1).toNat) then
            f_X8_luck_b267 N k56 σ x1 x2 x5 x7 x3
          else
            f_X8_luck_b268 N k56 σ x1 x2 x5 x7 x8 x3
        else none
    else
      bif ycP .ne (yan (ysr x7 x12) 1) 1 then
        f_X8_luck_b104 N k56 (f_X8_luck_b79 N k56 n) σ x1 x2 x3 x5 x7 x8 x10 x11 x12 0
      else
        f_X8_luck_b104 N k56 (f_X8_luck_b79 N k56 n) σ x1 x2 x3 x5 x7 x8 x10 x11 x12 1) := rfl
noncomputable def f_X8_luck_b56 (N : Nat) : Nat → yS → Int → Int → Int → Int → Int → Option (Int × yS) := yfix (fun _ _ _ _ _ _ => none) (fun ih σ x1 x2 x3 x5 x7 =>
    bif ycP .ge x7 (ysl 1 (σ.1 0 3)) then
      match f_X8_told N σ x3 x5 x2 with
      | none => none
      | some r3 => some (r3.1, r3.2)
    else
      f_X8_luck_b79 N ih N σ x1 x2 x3 x5 x7 1 0 1 0)
theorem q_X8_luck_b56 (N : Nat) (n : Nat) (σ : yS) (x1 : Int) (x2 : Int) (x3 : Int) (x5 : Int) (x7 : Int) : f_X8_luck_b56 N (n + 1) σ x1 x2 x3 x5 x7 =
    (bif ycP .ge x7 (ysl 1 (σ.1 0 3)) then
      match f_X8_told N σ x3 x5 x2 with
      | none => none
      | some r3 => some (r3.1, r3.2)
    else
      f_X8_luck_b79 N (f_X8_luck_b56 N n) N σ x1 x2 x3 x5 x7 1 0 1 0) := rfl
noncomputable def f_X8_luck_b30 (N : Nat) : Nat → yS → Int → Int → Int → Int → Int → Option (Int × yS) := yfix (fun _ _ _ _ _ _ => none) (fun ih σ x1 x2 x3 x5 x7 =>
    bif ycP .ge x7 (σ.1 0 3) then
      f_X8_luck_b56 N N σ x1 x2 x3 x5 0
    else
      ih σ x1 x2 x3 (ymuL x5 10) (yad x7 1))
theorem q_X8_luck_b30 (N : Nat) (n : Nat) (σ : yS) (x1 : Int) (x2 : Int) (x3 : Int) (x5 : Int) (x7 : Int) : f_X8_luck_b30 N (n + 1) σ x1 x2 x3 x5 x7 =
    (bif ycP .ge x7 (σ.1 0 3) then
      f_X8_luck_b56 N N σ x1 x2 x3 x5 0
    else
      (f_X8_luck_b30 N n) σ x1 x2 x3 (ymuL x5 10) (yad x7 1)) := rfl
noncomputable def f_X8_luck (N : Nat) (σ : yS) (x1 : Int) (x2 : Int) : Option (Int × yS) :=
  match f_X8_isHouse N σ x1 with
  | none => none
  | some r1 => bif ycP .eq r1.1 0 then
      f_X8_luck_b18 N r1.2
    else
      match f_X8_in N r1.2 x2 0 1 with
      | none => none
      | some r2 => bif ycP .ne r2.1 0 then
          f_X8_luck_b30 N N r2.2 x1 x2 0 1 0
        else
          f_X8_luck_b18 N r2.2
noncomputable def F_X8_luck (N : Nat) : yF := fun as σ => match as with
  | [.inr (.inl 8, 0), .inl (.inl x1), .inl (.inl x2)] => (f_X8_luck N σ x1 x2).map (fun r => (some (.inl (.inr r.1)), r.2))
  | _ => none
theorem e_X8_luck {N : Nat} {σ : yS} {x1 : Int} {x2 : Int} {r : Int × yS} (h : f_X8_luck N σ x1 x2 = some r) : F_X8_luck N [.inr (.inl 8, 0), .inl (.inl x1), .inl (.inl x2)] σ = some (some (.inl (.inr r.1)), r.2) := by
  show (f_X8_luck N σ x1 x2).map (fun r => ((some (.inl (.inr r.1)), r.2) : yR)) = _
  rw [h]
  rfl
noncomputable def tb_X8_luck (N : Nat) : yTb := ([(7, 8, 0, 3), (20, 8, 6, 3), (79, 8, 3, 0)], [], [(220, 10), (308, (-1))], [(205, 2, 8, F_X8_isHouse N), (310, 3, 8, F_X8_timesOf N)], [(90, 3, F_X8_in N), (313, 3, F_X8_told N)], [], [])
abbrev G_X8_luck (N : Nat) (X : zXT) (sh : List yH) (l : Launch) (rm : Room) : yC → yR → Prop := yGoes X vwCl yct sh l rm cX8_luck 15 wsX8_luck RX8 (tb_X8_luck N) pr_X8_luck 3
set_option maxRecDepth 100000 in
set_option maxHeartbeats 4000000 in
theorem t_X8_luck_b18 {N : Nat} {X : zXT} {sh : List yH} {l : Launch} {rm : Room} (σ : yS) (res : Int × yS) (h : f_X8_luck_b18 N σ = some res) : G_X8_luck N X sh l rm (18, [], [], σ) (some (.inl (.inr res.1)), res.2) := by
  unfold f_X8_luck_b18 at h
  refine yG_n (n := 1) (C' := (21, [], [.inl (.inr ((-1)))], σ)) rfl ?_
  have h := Option.some.inj h
  subst h
  dsimp only
  exact yG_r rfl rfl
set_option maxRecDepth 100000 in
set_option maxHeartbeats 4000000 in
theorem t_X8_luck_b268 {N : Nat} {X : zXT} {sh : List yH} {l : Launch} {rm : Room} (k56 : yS → Int → Int → Int → Int → Int → Option (Int × yS)) (hk56 : ∀ (σ : yS) (x1 : Int) (x2 : Int) (x3 : Int) (x5 : Int) (x7 : Int) (res : Int × yS), k56 σ x1 x2 x3 x5 x7 = some res → G_X8_luck N X sh l rm (56, [(0, .inr (.inl 8, 0)), (1, .inl (.inl x1)), (2, .inl (.inl x2)), (3, .inl (.inr x3)), (5, .inl (.inr x5)), (7, .inl (.inl x7))], [], σ) (some (.inl (.inr res.1)), res.2)) (σ : yS) (x1 : Int) (x2 : Int) (x5 : Int) (x7 : Int) (s0 : Int) (s1 : Int) (res : Int × yS) (h : f_X8_luck_b268 N k56 σ x1 x2 x5 x7 s0 s1 = some res) : G_X8_luck N X sh l rm (268, [(0, .inr (.inl 8, 0)), (1, .inl (.inl x1)), (2, .inl (.inl x2)), (5, .inl (.inr x5)), (7, .inl (.inl x7))], [.inl (.inr s0), .inl (.inr s1)], σ) (some (.inl (.inr res.1)), res.2) := by
  unfold f_X8_luck_b268 at h
  refine yG_n (n := 4) (C' := (56, [(7, .inl (.inl (yad x7 1))), (3, .inl (.inr (yadL s1 s0))), (0, .inr (.inl 8, 0)), (1, .inl (.inl x1)), (2, .inl (.inl x2)), (5, .inl (.inr x5))], [], σ)) rfl ?_
  exact yG_w [2, 3, 4, 1, 5, 0] rfl (hk56 σ x1 x2 (yadL s1 s0) x5 (yad x7 1) res h)
set_option maxRecDepth 100000 in
set_option maxHeartbeats 4000000 in
theorem t_X8_luck_b267 {N : Nat} {X : zXT} {sh : List yH} {l : Launch} {rm : Room} (k56 : yS → Int → Int → Int → Int → Int → Option (Int × yS)) (hk56 : ∀ (σ : yS) (x1 : Int) (x2 : Int) (x3 : Int) (x5 : Int) (x7 : Int) (res : Int × yS), k56 σ x1 x2 x3 x5 x7 = some res → G_X8_luck N X sh l rm (56, [(0, .inr (.inl 8, 0)), (1, .inl (.inl x1)), (2, .inl (.inl x2)), (3, .inl (.inr x3)), (5, .inl (.inr x5)), (7, .inl (.inl x7))], [], σ) (some (.inl (.inr res.1)), res.2)) (σ : yS) (x1 : Int) (x2 : Int) (x5 : Int) (x7 : Int) (s0 : Int) (res : Int × yS) (h : f_X8_luck_b267 N k56 σ x1 x2 x5 x7 s0 = some res) : G_X8_luck N X sh l rm (267, [(0, .inr (.inl 8, 0)), (1, .inl (.inl x1)), (2, .inl (.inl x2)), (5, .inl (.inr x5)), (7, .inl (.inl x7))], [.inl (.inr s0)], σ) (some (.inl (.inr res.1)), res.2) := by
  unfold f_X8_luck_b267 at h
  refine yG_n (n := 1) (C' := (268, [(0, .inr (.inl 8, 0)), (1, .inl (.inl x1)), (2, .inl (.inl x2)), (5, .inl (.inr x5)), (7, .inl (.inl x7))], [.inl (.inr 0), .inl (.inr s0)], σ)) rfl ?_
  exact t_X8_luck_b268 k56 hk56 σ x1 x2 x5 x7 0 s0 res h
set_option maxRecDepth 100000 in
set_option maxHeartbeats 4000000 in
theorem t_X8_luck_b235 {N : Nat} {X : zXT} {sh : List yH} {l : Launch} {rm : Room} (k56 : yS → Int → Int → Int → Int → Int → Option (Int × yS)) (hk56 : ∀ (σ : yS) (x1 : Int) (x2 : Int) (x3 : Int) (x5 : Int) (x7 : Int) (res : Int × yS), k56 σ x1 x2 x3 x5 x7 = some res → G_X8_luck N X sh l rm (56, [(0, .inr (.inl 8, 0)), (1, .inl (.inl x1)), (2, .inl (.inl x2)), (3, .inl (.inr x3)), (5, .inl (.inr x5)), (7, .inl (.inl x7))], [], σ) (some (.inl (.inr res.1)), res.2)) (k79 : yS → Int → Int → Int → Int → Int → Int → Int → Int → Int → Option (Int × yS)) (hk79 : ∀ (σ : yS) (x1 : Int) (x2 : Int) (x3 : Int) (x5 : Int) (x7 : Int) (x8 : Int) (x10 : Int) (x11 : Int) (x12 : Int) (res : Int × yS), k79 σ x1 x2 x3 x5 x7 x8 x10 x11 x12 = some res → G_X8_luck N X sh l rm (79, [(0, .inr (.inl 8, 0)), (1, .inl (.inl x1)), (2, .inl (.inl x2)), (3, .inl (.inr x3)), (5, .inl (.inr x5)), (7, .inl (.inl x7)), (8, .inl (.inr x8)), (10, .inl (.inl x10)), (11, .inl (.inl x11)), (12, .inl (.inl x12))], [], σ) (some (.inl (.inr res.1)), res.2)) (σ : yS) (x1 : Int) (x2 : Int) (x3 : Int) (x5 : Int) (x7 : Int) (x8 : Int) (x10 : Int) (x12 : Int) (s0 : Int) (res : Int × yS) (h : f_X8_luck_b235 N k56 k79 σ x1 x2 x3 x5 x7 x8 x10 x12 s0 = some res) : G_X8_luck N X sh l rm (235, [(0, .inr (.inl 8, 0)), (1, .inl (.inl x1)), (2, .inl (.inl x2)), (3, .inl (.inr x3)), (5, .inl (.inr x5)), (7, .inl (.inl x7)), (8, .inl (.inr x8)), (10, .inl (.inl x10)), (12, .inl (.inl x12))], [.inl (.inl s0)], σ) (some (.inl (.inr res.1)), res.2) := by
  unfold f_X8_luck_b235 at h
  refine yG_n (n := 3) (C' := (79, [(12, .inl (.inl (yad x12 1))), (11, .inl (.inl s0)), (0, .inr (.inl 8, 0)), (1, .inl (.inl x1)), (2, .inl (.inl x2)), (3, .inl (.inr x3)), (5, .inl (.inr x5)), (7, .inl (.inl x7)), (8, .inl (.inr x8)), (10, .inl (.inl x10))], [], σ)) rfl ?_
  exact yG_w [2, 3, 4, 5, 6, 7, 8, 9, 1, 0] rfl (hk79 σ x1 x2 x3 x5 x7 x8 x10 s0 (yad x12 1) res h)
set_option maxRecDepth 100000 in
set_option maxHeartbeats 4000000 in
theorem t_X8_luck_b234 {N : Nat} {X : zXT} {sh : List yH} {l : Launch} {rm : Room} (k56 : yS → Int → Int → Int → Int → Int → Option (Int × yS)) (hk56 : ∀ (σ : yS) (x1 : Int) (x2 : Int) (x3 : Int) (x5 : Int) (x7 : Int) (res : Int × yS), k56 σ x1 x2 x3 x5 x7 = some res → G_X8_luck N X sh l rm (56, [(0, .inr (.inl 8, 0)), (1, .inl (.inl x1)), (2, .inl (.inl x2)), (3, .inl (.inr x3)), (5, .inl (.inr x5)), (7, .inl (.inl x7))], [], σ) (some (.inl (.inr res.1)), res.2)) (k79 : yS → Int → Int → Int → Int → Int → Int → Int → Int → Int → Option (Int × yS)) (hk79 : ∀ (σ : yS) (x1 : Int) (x2 : Int) (x3 : Int) (x5 : Int) (x7 : Int) (x8 : Int) (x10 : Int) (x11 : Int) (x12 : Int) (res : Int × yS), k79 σ x1 x2 x3 x5 x7 x8 x10 x11 x12 = some res → G_X8_luck N X sh l rm (79, [(0, .inr (.inl 8, 0)), (1, .inl (.inl x1)), (2, .inl (.inl x2)), (3, .inl (.inr x3)), (5, .inl (.inr x5)), (7, .inl (.inl x7)), (8, .inl (.inr x8)), (10, .inl (.inl x10)), (11, .inl (.inl x11)), (12, .inl (.inl x12))], [], σ) (some (.inl (.inr res.1)), res.2)) (σ : yS) (x1 : Int) (x2 : Int) (x3 : Int) (x5 : Int) (x7 : Int) (x8 : Int) (x10 : Int) (x12 : Int) (res : Int × yS) (h : f_X8_luck_b234 N k56 k79 σ x1 x2 x3 x5 x7 x8 x10 x12 = some res) : G_X8_luck N X sh l rm (234, [(0, .inr (.inl 8, 0)), (1, .inl (.inl x1)), (2, .inl (.inl x2)), (3, .inl (.inr x3)), (5, .inl (.inr x5)), (7, .inl (.inl x7)), (8, .inl (.inr x8)), (10, .inl (.inl x10)), (12, .inl (.inl x12))], [], σ) (some (.inl (.inr res.1)), res.2) := by
  unfold f_X8_luck_b234 at h
  refine yG_n (n := 1) (C' := (235, [(0, .inr (.inl 8, 0)), (1, .inl (.inl x1)), (2, .inl (.inl x2)), (3, .inl (.inr x3)), (5, .inl (.inr x5)), (7, .inl (.inl x7)), (8, .inl (.inr x8)), (10, .inl (.inl x10)), (12, .inl (.inl x12))], [.inl (.inl 0)], σ)) rfl ?_
  exact t_X8_luck_b235 k56 hk56 k79 hk79 σ x1 x2 x3 x5 x7 x8 x10 x12 0 res h
set_option maxRecDepth 100000 in
set_option maxHeartbeats 4000000 in
theorem t_X8_luck_b230 {N : Nat} {X : zXT} {sh : List yH} {l : Launch} {rm : Room} (k56 : yS → Int → Int → Int → Int → Int → Option (Int × yS)) (hk56 : ∀ (σ : yS) (x1 : Int) (x2 : Int) (x3 : Int) (x5 : Int) (x7 : Int) (res : Int × yS), k56 σ x1 x2 x3 x5 x7 = some res → G_X8_luck N X sh l rm (56, [(0, .inr (.inl 8, 0)), (1, .inl (.inl x1)), (2, .inl (.inl x2)), (3, .inl (.inr x3)), (5, .inl (.inr x5)), (7, .inl (.inl x7))], [], σ) (some (.inl (.inr res.1)), res.2)) (k79 : yS → Int → Int → Int → Int → Int → Int → Int → Int → Int → Option (Int × yS)) (hk79 : ∀ (σ : yS) (x1 : Int) (x2 : Int) (x3 : Int) (x5 : Int) (x7 : Int) (x8 : Int) (x10 : Int) (x11 : Int) (x12 : Int) (res : Int × yS), k79 σ x1 x2 x3 x5 x7 x8 x10 x11 x12 = some res → G_X8_luck N X sh l rm (79, [(0, .inr (.inl 8, 0)), (1, .inl (.inl x1)), (2, .inl (.inl x2)), (3, .inl (.inr x3)), (5, .inl (.inr x5)), (7, .inl (.inl x7)), (8, .inl (.inr x8)), (10, .inl (.inl x10)), (11, .inl (.inl x11)), (12, .inl (.inl x12))], [], σ) (some (.inl (.inr res.1)), res.2)) (σ : yS) (x1 : Int) (x2 : Int) (x3 : Int) (x5 : Int) (x7 : Int) (x8 : Int) (x10 : Int) (x12 : Int) (res : Int × yS) (h : f_X8_luck_b230 N k56 k79 σ x1 x2 x3 x5 x7 x8 x10 x12 = some res) : G_X8_luck N X sh l rm (230, [(0, .inr (.inl 8, 0)), (1, .inl (.inl x1)), (2, .inl (.inl x2)), (3, .inl (.inr x3)), (5, .inl (.inr x5)), (7, .inl (.inl x7)), (8, .inl (.inr x8)), (10, .inl (.inl x10)), (12, .inl (.inl x12))], [], σ) (some (.inl (.inr res.1)), res.2) := by
  unfold f_X8_luck_b230 at h
  refine yG_n (n := 2) (C' := (235, [(0, .inr (.inl 8, 0)), (1, .inl (.inl x1)), (2, .inl (.inl x2)), (3, .inl (.inr x3)), (5, .inl (.inr x5)), (7, .inl (.inl x7)), (8, .inl (.inr x8)), (10, .inl (.inl x10)), (12, .inl (.inl x12))], [.inl (.inl 1)], σ)) rfl ?_
  exact t_X8_luck_b235 k56 hk56 k79 hk79 σ x1 x2 x3 x5 x7 x8 x10 x12 1 res h
set_option maxRecDepth 100000 in
set_option maxHeartbeats 4000000 in
theorem t_X8_luck_b191 {N : Nat} {X : zXT} {sh : List yH} {l : Launch} {rm : Room} (k56 : yS → Int → Int → Int → Int → Int → Option (Int × yS)) (hk56 : ∀ (σ : yS) (x1 : Int) (x2 : Int) (x3 : Int) (x5 : Int) (x7 : Int) (res : Int × yS), k56 σ x1 x2 x3 x5 x7 = some res → G_X8_luck N X sh l rm (56, [(0, .inr (.inl 8, 0)), (1, .inl (.inl x1)), (2, .inl (.inl x2)), (3, .inl (.inr x3)), (5, .inl (.inr x5)), (7, .inl (.inl x7))], [], σ) (some (.inl (.inr res.1)), res.2)) (k79 : yS → Int → Int → Int → Int → Int → Int → Int → Int → Int → Option (Int × yS)) (hk79 : ∀ (σ : yS) (x1 : Int) (x2 : Int) (x3 : Int) (x5 : Int) (x7 : Int) (x8 : Int) (x10 : Int) (x11 : Int) (x12 : Int) (res : Int × yS), k79 σ x1 x2 x3 x5 x7 x8 x10 x11 x12 = some res → G_X8_luck N X sh l rm (79, [(0, .inr (.inl 8, 0)), (1, .inl (.inl x1)), (2, .inl (.inl x2)), (3, .inl (.inr x3)), (5, .inl (.inr x5)), (7, .inl (.inl x7)), (8, .inl (.inr x8)), (10, .inl (.inl x10)), (11, .inl (.inl x11)), (12, .inl (.inl x12))], [], σ) (some (.inl (.inr res.1)), res.2)) (σ : yS) (x1 : Int) (x2 : Int) (x3 : Int) (x5 : Int) (x7 : Int) (x8 : Int) (x11 : Int) (x12 : Int) (x14 : Int) (s0 : Int) (s1 : Int) (res : Int × yS) (h : f_X8_luck_b191 N k56 k79 σ x1 x2 x3 x5 x7 x8 x11 x12 x14 s0 s1 = some res) : G_X8_luck N X sh l rm (191, [(0, .inr (.inl 8, 0)), (1, .inl (.inl x1)), (2, .inl (.inl x2)), (3, .inl (.inr x3)), (5, .inl (.inr x5)), (7, .inl (.inl x7)), (8, .inl (.inr x8)), (11, .inl (.inl x11)), (12, .inl (.inl x12)), (14, .inl (.inl x14))], [.inl (.inl s0), .inl (.inl s1)], σ) (some (.inl (.inr res.1)), res.2) := by
  unfold f_X8_luck_b191 at h
  refine yG_n (n := 3) (C' := (196, [(10, .inl (.inl (yad s1 s0))), (0, .inr (.inl 8, 0)), (1, .inl (.inl x1)), (2, .inl (.inl x2)), (3, .inl (.inr x3)), (5, .inl (.inr x5)), (7, .inl (.inl x7)), (8, .inl (.inr x8)), (11, .inl (.inl x11)), (12, .inl (.inl x12)), (14, .inl (.inl x14))], [.inl (.inl x11)], σ)) rfl ?_
  cases hg1 : ycP .eq x11 0 with
  | true =>
    rw [hg1] at h
    dsimp only [cond] at h
    refine yG_t (C' := (234, [(10, .inl (.inl (yad s1 s0))), (0, .inr (.inl 8, 0)), (1, .inl (.inl x1)), (2, .inl (.inl x2)), (3, .inl (.inr x3)), (5, .inl (.inr x5)), (7, .inl (.inl x7)), (8, .inl (.inr x8)), (11, .inl (.inl x11)), (12, .inl (.inl x12)), (14, .inl (.inl x14))], [], σ)) rfl hg1 ?_
    exact yG_w [1, 2, 3, 4, 5, 6, 7, 0, 9] rfl (t_X8_luck_b234 k56 hk56 k79 hk79 σ x1 x2 x3 x5 x7 x8 (yad s1 s0) x12 res h)
  | false =>
    rw [hg1] at h
    dsimp only [cond] at h
    refine yG_f (C' := (199, [(10, .inl (.inl (yad s1 s0))), (0, .inr (.inl 8, 0)), (1, .inl (.inl x1)), (2, .inl (.inl x2)), (3, .inl (.inr x3)), (5, .inl (.inr x5)), (7, .inl (.inl x7)), (8, .inl (.inr x8)), (11, .inl (.inl x11)), (12, .inl (.inl x12)), (14, .inl (.inl x14))], [], σ)) rfl hg1 ?_
    refine yG_n (n := 1) (C' := (201, [(10, .inl (.inl (yad s1 s0))), (0, .inr (.inl 8, 0)), (1, .inl (.inl x1)), (2, .inl (.inl x2)), (3, .inl (.inr x3)), (5, .inl (.inr x5)), (7, .inl (.inl x7)), (8, .inl (.inr x8)), (11, .inl (.inl x11)), (12, .inl (.inl x12)), (14, .inl (.inl x14))], [.inl (.inl x14)], σ)) rfl ?_
    cases hg2 : ycP .eq x14 0 with
    | true =>
      rw [hg2] at h
      dsimp only [cond] at h
      refine yG_t (C' := (230, [(10, .inl (.inl (yad s1 s0))), (0, .inr (.inl 8, 0)), (1, .inl (.inl x1)), (2, .inl (.inl x2)), (3, .inl (.inr x3)), (5, .inl (.inr x5)), (7, .inl (.inl x7)), (8, .inl (.inr x8)), (11, .inl (.inl x11)), (12, .inl (.inl x12)), (14, .inl (.inl x14))], [], σ)) rfl hg2 ?_
      exact yG_w [1, 2, 3, 4, 5, 6, 7, 0, 9] rfl (t_X8_luck_b230 k56 hk56 k79 hk79 σ x1 x2 x3 x5 x7 x8 (yad s1 s0) x12 res h)
    | false =>
      rw [hg2] at h
      dsimp only [cond] at h
      refine yG_f (C' := (204, [(10, .inl (.inl (yad s1 s0))), (0, .inr (.inl 8, 0)), (1, .inl (.inl x1)), (2, .inl (.inl x2)), (3, .inl (.inr x3)), (5, .inl (.inr x5)), (7, .inl (.inl x7)), (8, .inl (.inr x8)), (11, .inl (.inl x11)), (12, .inl (.inl x12)), (14, .inl (.inl x14))], [], σ)) rfl hg2 ?_
      refine yG_n (n := 5) (C' := (212, [(10, .inl (.inl (yad s1 s0))), (0, .inr (.inl 8, 0)), (1, .inl (.inl x1)), (2, .inl (.inl x2)), (3, .inl (.inr x3)), (5, .inl (.inr x5)), (7, .inl (.inl x7)), (8, .inl (.inr x8)), (11, .inl (.inl x11)), (12, .inl (.inl x12)), (14, .inl (.inl x14))], [.inl (.inl (yad 7 x1)), .inr (.inr (0, 393), 1)], σ)) rfl ?_
      cases hg3 : yin (yad 7 x1) 393 with
      | false => rw [hg3] at h; dsimp only [cond] at h; cases h
      | true =>
        rw [hg3] at h
        dsimp only [cond] at h
        refine yG_t (C' := (213, [(10, .inl (.inl (yad s1 s0))), (0, .inr (.inl 8, 0)), (1, .inl (.inl x1)), (2, .inl (.inl x2)), (3, .inl (.inr x3)), (5, .inl (.inr x5)), (7, .inl (.inl x7)), (8, .inl (.inr x8)), (11, .inl (.inl x11)), (12, .inl (.inl x12)), (14, .inl (.inl x14))], [.inl (.inl (σ.1 1 (yad 7 x1).toNat))], σ)) rfl hg3 ?_
        refine yG_n (n := 5) (C' := (222, [(10, .inl (.inl (yad s1 s0))), (0, .inr (.inl 8, 0)), (1, .inl (.inl x1)), (2, .inl (.inl x2)), (3, .inl (.inr x3)), (5, .inl (.inr x5)), (7, .inl (.inl x7)), (8, .inl (.inr x8)), (11, .inl (.inl x11)), (12, .inl (.inl x12)), (14, .inl (.inl x14))], [.inl (.inl (yad 28 x12)), .inr (.inr (0, 393), 1), .inl (.inl (σ.1 1 (yad 7 x1).toNat))], σ)) rfl ?_
        cases hg4 : yin (yad 28 x12) 393 with
        | false => rw [hg4] at h; dsimp only [cond] at h; cases h
        | true =>
          rw [hg4] at h
          dsimp only [cond] at h
          refine yG_t (C' := (223, [(10, .inl (.inl (yad s1 s0))), (0, .inr (.inl 8, 0)), (1, .inl (.inl x1)), (2, .inl (.inl x2)), (3, .inl (.inr x3)), (5, .inl (.inr x5)), (7, .inl (.inl x7)), (8, .inl (.inr x8)), (11, .inl (.inl x11)), (12, .inl (.inl x12)), (14, .inl (.inl x14))], [.inl (.inl (σ.1 1 (yad 28 x12).toNat)), .inl (.inl (σ.1 1 (yad 7 x1).toNat))], σ)) rfl hg4 ?_
          refine yG_n (n := 4) (C' := (227, [(10, .inl (.inl (yad s1 s0))), (0, .inr (.inl 8, 0)), (1, .inl (.inl x1)), (2, .inl (.inl x2)), (3, .inl (.inr x3)), (5, .inl (.inr x5)), (7, .inl (.inl x7)), (8, .inl (.inr x8)), (11, .inl (.inl x11)), (12, .inl (.inl x12)), (14, .inl (.inl x14))], [.inl (.inl 1), .inl (.inl (yan (ysr (σ.1 1 (yad 7 x1).toNat) (σ.1 1 (yad 28 x12).toNat)) 1))], σ)) rfl ?_
          cases hg5 : ycP .ne (yan (ysr (σ.1 1 (yad 7 x1).toNat) (σ.1 1 (yad 28 x12).toNat)) 1) 1 with
          | true =>
            rw [hg5] at h
            dsimp only [cond] at h
            refine yG_t (C' := (234, [(10, .inl (.inl (yad s1 s0))), (0, .inr (.inl 8, 0)), (1, .inl (.inl x1)), (2, .inl (.inl x2)), (3, .inl (.inr x3)), (5, .inl (.inr x5)), (7, .inl (.inl x7)), (8, .inl (.inr x8)), (11, .inl (.inl x11)), (12, .inl (.inl x12)), (14, .inl (.inl x14))], [], σ)) rfl hg5 ?_
            exact yG_w [1, 2, 3, 4, 5, 6, 7, 0, 9] rfl (t_X8_luck_b234 k56 hk56 k79 hk79 σ x1 x2 x3 x5 x7 x8 (yad s1 s0) x12 res h)
          | false =>
            rw [hg5] at h
            dsimp only [cond] at h
            refine yG_f (C' := (230, [(10, .inl (.inl (yad s1 s0))), (0, .inr (.inl 8, 0)), (1, .inl (.inl x1)), (2, .inl (.inl x2)), (3, .inl (.inr x3)), (5, .inl (.inr x5)), (7, .inl (.inl x7)), (8, .inl (.inr x8)), (11, .inl (.inl x11)), (12, .inl (.inl x12)), (14, .inl (.inl x14))], [], σ)) rfl hg5 ?_
            exact yG_w [1, 2, 3, 4, 5, 6, 7, 0, 9] rfl (t_X8_luck_b230 k56 hk56 k79 hk79 σ x1 x2 x3 x5 x7 x8 (yad s1 s0) x12 res h)
set_option maxRecDepth 100000 in
set_option maxHeartbeats 4000000 in
theorem t_X8_luck_b160 {N : Nat} {X : zXT} {sh : List yH} {l : Launch} {rm : Room} (k56 : yS → Int → Int → Int → Int → Int → Option (Int × yS)) (hk56 : ∀ (σ : yS) (x1 : Int) (x2 : Int) (x3 : Int) (x5 : Int) (x7 : Int) (res : Int × yS), k56 σ x1 x2 x3 x5 x7 = some res → G_X8_luck N X sh l rm (56, [(0, .inr (.inl 8, 0)), (1, .inl (.inl x1)), (2, .inl (.inl x2)), (3, .inl (.inr x3)), (5, .inl (.inr x5)), (7, .inl (.inl x7))], [], σ) (some (.inl (.inr res.1)), res.2)) (k79 : yS → Int → Int → Int → Int → Int → Int → Int → Int → Int → Option (Int × yS)) (hk79 : ∀ (σ : yS) (x1 : Int) (x2 : Int) (x3 : Int) (x5 : Int) (x7 : Int) (x8 : Int) (x10 : Int) (x11 : Int) (x12 : Int) (res : Int × yS), k79 σ x1 x2 x3 x5 x7 x8 x10 x11 x12 = some res → G_X8_luck N X sh l rm (79, [(0, .inr (.inl 8, 0)), (1, .inl (.inl x1)), (2, .inl (.inl x2)), (3, .inl (.inr x3)), (5, .inl (.inr x5)), (7, .inl (.inl x7)), (8, .inl (.inr x8)), (10, .inl (.inl x10)), (11, .inl (.inl x11)), (12, .inl (.inl x12))], [], σ) (some (.inl (.inr res.1)), res.2)) (σ : yS) (x1 : Int) (x2 : Int) (x3 : Int) (x5 : Int) (x7 : Int) (x8 : Int) (x10 : Int) (x11 : Int) (x12 : Int) (s0 : Int) (res : Int × yS) (h : f_X8_luck_b160 N k56 k79 σ x1 x2 x3 x5 x7 x8 x10 x11 x12 s0 = some res) : G_X8_luck N X sh l rm (160, [(0, .inr (.inl 8, 0)), (1, .inl (.inl x1)), (2, .inl (.inl x2)), (3, .inl (.inr x3)), (5, .inl (.inr x5)), (7, .inl (.inl x7)), (8, .inl (.inr x8)), (10, .inl (.inl x10)), (11, .inl (.inl x11)), (12, .inl (.inl x12))], [.inl (.inl s0)], σ) (some (.inl (.inr res.1)), res.2) := by
  unfold f_X8_luck_b160 at h
  refine yG_n (n := 3) (C' := (166, [(14, .inl (.inl s0)), (0, .inr (.inl 8, 0)), (1, .inl (.inl x1)), (2, .inl (.inl x2)), (3, .inl (.inr x3)), (5, .inl (.inr x5)), (7, .inl (.inl x7)), (8, .inl (.inr x8)), (10, .inl (.inl x10)), (11, .inl (.inl x11)), (12, .inl (.inl x12))], [.inl (.inl s0), .inl (.inl x10)], σ)) rfl ?_
  cases hg6 : ycP .ne s0 0 with
  | true =>
    rw [hg6] at h
    dsimp only [cond] at h
    refine yG_t (C' := (173, [(14, .inl (.inl s0)), (0, .inr (.inl 8, 0)), (1, .inl (.inl x1)), (2, .inl (.inl x2)), (3, .inl (.inr x3)), (5, .inl (.inr x5)), (7, .inl (.inl x7)), (8, .inl (.inr x8)), (10, .inl (.inl x10)), (11, .inl (.inl x11)), (12, .inl (.inl x12))], [.inl (.inl x10)], σ)) rfl hg6 ?_
    refine yG_n (n := 8) (C' := (188, [(14, .inl (.inl s0)), (0, .inr (.inl 8, 0)), (1, .inl (.inl x1)), (2, .inl (.inl x2)), (3, .inl (.inr x3)), (5, .inl (.inr x5)), (7, .inl (.inl x7)), (8, .inl (.inr x8)), (10, .inl (.inl x10)), (11, .inl (.inl x11)), (12, .inl (.inl x12))], [.inl (.inl (yad 28 x12)), .inr (.inr (0, 393), 1), .inr (.inr (0, 5), 4), .inl (.inl s0), .inl (.inl x10)], σ)) rfl ?_
    cases hg7 : yin (yad 28 x12) 393 with
    | false => rw [hg7] at h; dsimp only [cond] at h; cases h
    | true =>
      rw [hg7] at h
      dsimp only [cond] at h
      refine yG_t (C' := (189, [(14, .inl (.inl s0)), (0, .inr (.inl 8, 0)), (1, .inl (.inl x1)), (2, .inl (.inl x2)), (3, .inl (.inr x3)), (5, .inl (.inr x5)), (7, .inl (.inl x7)), (8, .inl (.inr x8)), (10, .inl (.inl x10)), (11, .inl (.inl x11)), (12, .inl (.inl x12))], [.inl (.inl (σ.1 1 (yad 28 x12).toNat)), .inr (.inr (0, 5), 4), .inl (.inl s0), .inl (.inl x10)], σ)) rfl hg7 ?_
      cases hg8 : yin (σ.1 1 (yad 28 x12).toNat) 5 with
      | false => rw [hg8] at h; dsimp only [cond] at h; cases h
      | true =>
        rw [hg8] at h
        dsimp only [cond] at h
        refine yG_t (C' := (190, [(14, .inl (.inl s0)), (0, .inr (.inl 8, 0)), (1, .inl (.inl x1)), (2, .inl (.inl x2)), (3, .inl (.inr x3)), (5, .inl (.inr x5)), (7, .inl (.inl x7)), (8, .inl (.inr x8)), (10, .inl (.inl x10)), (11, .inl (.inl x11)), (12, .inl (.inl x12))], [.inl (.inl (σ.1 4 (σ.1 1 (yad 28 x12).toNat).toNat)), .inl (.inl s0), .inl (.inl x10)], σ)) rfl hg8 ?_
        refine yG_n (n := 1) (C' := (191, [(14, .inl (.inl s0)), (0, .inr (.inl 8, 0)), (1, .inl (.inl x1)), (2, .inl (.inl x2)), (3, .inl (.inr x3)), (5, .inl (.inr x5)), (7, .inl (.inl x7)), (8, .inl (.inr x8)), (10, .inl (.inl x10)), (11, .inl (.inl x11)), (12, .inl (.inl x12))], [.inl (.inl (ymu s0 (σ.1 4 (σ.1 1 (yad 28 x12).toNat).toNat))), .inl (.inl x10)], σ)) rfl ?_
        exact yG_w [1, 2, 3, 4, 5, 6, 7, 9, 10, 0] rfl (t_X8_luck_b191 k56 hk56 k79 hk79 σ x1 x2 x3 x5 x7 x8 x11 x12 s0 (ymu s0 (σ.1 4 (σ.1 1 (yad 28 x12).toNat).toNat)) x10 res h)
  | false =>
    rw [hg6] at h
    dsimp only [cond] at h
    refine yG_f (C' := (169, [(14, .inl (.inl s0)), (0, .inr (.inl 8, 0)), (1, .inl (.inl x1)), (2, .inl (.inl x2)), (3, .inl (.inr x3)), (5, .inl (.inr x5)), (7, .inl (.inl x7)), (8, .inl (.inr x8)), (10, .inl (.inl x10)), (11, .inl (.inl x11)), (12, .inl (.inl x12))], [.inl (.inl x10)], σ)) rfl hg6 ?_
    refine yG_n (n := 2) (C' := (191, [(14, .inl (.inl s0)), (0, .inr (.inl 8, 0)), (1, .inl (.inl x1)), (2, .inl (.inl x2)), (3, .inl (.inr x3)), (5, .inl (.inr x5)), (7, .inl (.inl x7)), (8, .inl (.inr x8)), (10, .inl (.inl x10)), (11, .inl (.inl x11)), (12, .inl (.inl x12))], [.inl (.inl 0), .inl (.inl x10)], σ)) rfl ?_
    exact yG_w [1, 2, 3, 4, 5, 6, 7, 9, 10, 0] rfl (t_X8_luck_b191 k56 hk56 k79 hk79 σ x1 x2 x3 x5 x7 x8 x11 x12 s0 0 x10 res h)
set_option maxRecDepth 100000 in
set_option maxHeartbeats 4000000 in
theorem t_X8_luck_b141 {N : Nat} {X : zXT} {sh : List yH} {l : Launch} {rm : Room} (k56 : yS → Int → Int → Int → Int → Int → Option (Int × yS)) (hk56 : ∀ (σ : yS) (x1 : Int) (x2 : Int) (x3 : Int) (x5 : Int) (x7 : Int) (res : Int × yS), k56 σ x1 x2 x3 x5 x7 = some res → G_X8_luck N X sh l rm (56, [(0, .inr (.inl 8, 0)), (1, .inl (.inl x1)), (2, .inl (.inl x2)), (3, .inl (.inr x3)), (5, .inl (.inr x5)), (7, .inl (.inl x7))], [], σ) (some (.inl (.inr res.1)), res.2)) (k79 : yS → Int → Int → Int → Int → Int → Int → Int → Int → Int → Option (Int × yS)) (hk79 : ∀ (σ : yS) (x1 : Int) (x2 : Int) (x3 : Int) (x5 : Int) (x7 : Int) (x8 : Int) (x10 : Int) (x11 : Int) (x12 : Int) (res : Int × yS), k79 σ x1 x2 x3 x5 x7 x8 x10 x11 x12 = some res → G_X8_luck N X sh l rm (79, [(0, .inr (.inl 8, 0)), (1, .inl (.inl x1)), (2, .inl (.inl x2)), (3, .inl (.inr x3)), (5, .inl (.inr x5)), (7, .inl (.inl x7)), (8, .inl (.inr x8)), (10, .inl (.inl x10)), (11, .inl (.inl x11)), (12, .inl (.inl x12))], [], σ) (some (.inl (.inr res.1)), res.2)) (σ : yS) (x1 : Int) (x2 : Int) (x3 : Int) (x5 : Int) (x7 : Int) (x10 : Int) (x11 : Int) (x12 : Int) (x13 : Int) (s0 : Int) (s1 : Int) (res : Int × yS) (h : f_X8_luck_b141 N k56 k79 σ x1 x2 x3 x5 x7 x10 x11 x12 x13 s0 s1 = some res) : G_X8_luck N X sh l rm (141, [(0, .inr (.inl 8, 0)), (1, .inl (.inl x1)), (2, .inl (.inl x2)), (3, .inl (.inr x3)), (5, .inl (.inr x5)), (7, .inl (.inl x7)), (10, .inl (.inl x10)), (11, .inl (.inl x11)), (12, .inl (.inl x12)), (13, .inl (.inl x13))], [.inl (.inr s0), .inl (.inr s1)], σ) (some (.inl (.inr res.1)), res.2) := by
  unfold f_X8_luck_b141 at h
  refine yG_n (n := 3) (C' := (146, [(8, .inl (.inr (ymuL s1 s0))), (0, .inr (.inl 8, 0)), (1, .inl (.inl x1)), (2, .inl (.inl x2)), (3, .inl (.inr x3)), (5, .inl (.inr x5)), (7, .inl (.inl x7)), (10, .inl (.inl x10)), (11, .inl (.inl x11)), (12, .inl (.inl x12)), (13, .inl (.inl x13))], [.inl (.inl x13)], σ)) rfl ?_
  cases hg9 : ycP .eq x13 0 with
  | true =>
    rw [hg9] at h
    dsimp only [cond] at h
    refine yG_t (C' := (159, [(8, .inl (.inr (ymuL s1 s0))), (0, .inr (.inl 8, 0)), (1, .inl (.inl x1)), (2, .inl (.inl x2)), (3, .inl (.inr x3)), (5, .inl (.inr x5)), (7, .inl (.inl x7)), (10, .inl (.inl x10)), (11, .inl (.inl x11)), (12, .inl (.inl x12)), (13, .inl (.inl x13))], [], σ)) rfl hg9 ?_
    refine yG_n (n := 1) (C' := (160, [(8, .inl (.inr (ymuL s1 s0))), (0, .inr (.inl 8, 0)), (1, .inl (.inl x1)), (2, .inl (.inl x2)), (3, .inl (.inr x3)), (5, .inl (.inr x5)), (7, .inl (.inl x7)), (10, .inl (.inl x10)), (11, .inl (.inl x11)), (12, .inl (.inl x12)), (13, .inl (.inl x13))], [.inl (.inl 0)], σ)) rfl ?_
    exact yG_w [1, 2, 3, 4, 5, 6, 0, 7, 8, 9] rfl (t_X8_luck_b160 k56 hk56 k79 hk79 σ x1 x2 x3 x5 x7 (ymuL s1 s0) x10 x11 x12 0 res h)
  | false =>
    rw [hg9] at h
    dsimp only [cond] at h
    refine yG_f (C' := (149, [(8, .inl (.inr (ymuL s1 s0))), (0, .inr (.inl 8, 0)), (1, .inl (.inl x1)), (2, .inl (.inl x2)), (3, .inl (.inr x3)), (5, .inl (.inr x5)), (7, .inl (.inl x7)), (10, .inl (.inl x10)), (11, .inl (.inl x11)), (12, .inl (.inl x12)), (13, .inl (.inl x13))], [], σ)) rfl hg9 ?_
    refine yG_n (n := 3) (C' := (153, [(8, .inl (.inr (ymuL s1 s0))), (0, .inr (.inl 8, 0)), (1, .inl (.inl x1)), (2, .inl (.inl x2)), (3, .inl (.inr x3)), (5, .inl (.inr x5)), (7, .inl (.inl x7)), (10, .inl (.inl x10)), (11, .inl (.inl x11)), (12, .inl (.inl x12)), (13, .inl (.inl x13))], [.inl (.inl x1), .inl (.inl x12), .inr (.inl 8, 0)], σ)) rfl ?_
    cases hr10 : f_X8_timesOf N σ x12 x1 with
    | none => rw [hr10] at h; dsimp only at h; cases h
    | some r4 =>
      rw [hr10] at h
      dsimp only at h
      refine yG_c (C1 := (156, [(8, .inl (.inr (ymuL s1 s0))), (0, .inr (.inl 8, 0)), (1, .inl (.inl x1)), (2, .inl (.inl x2)), (3, .inl (.inr x3)), (5, .inl (.inr x5)), (7, .inl (.inl x7)), (10, .inl (.inl x10)), (11, .inl (.inl x11)), (12, .inl (.inl x12)), (13, .inl (.inl x13))], [.inl (.inl r4.1)], r4.2)) rfl (e_X8_timesOf hr10) rfl ?_
      refine yG_n (n := 1) (C' := (160, [(8, .inl (.inr (ymuL s1 s0))), (0, .inr (.inl 8, 0)), (1, .inl (.inl x1)), (2, .inl (.inl x2)), (3, .inl (.inr x3)), (5, .inl (.inr x5)), (7, .inl (.inl x7)), (10, .inl (.inl x10)), (11, .inl (.inl x11)), (12, .inl (.inl x12)), (13, .inl (.inl x13))], [.inl (.inl r4.1)], r4.2)) rfl ?_
      exact yG_w [1, 2, 3, 4, 5, 6, 0, 7, 8, 9] rfl (t_X8_luck_b160 k56 hk56 k79 hk79 r4.2 x1 x2 x3 x5 x7 (ymuL s1 s0) x10 x11 x12 r4.1 res h)
set_option maxRecDepth 100000 in
set_option maxHeartbeats 4000000 in
theorem t_X8_luck_b104 {N : Nat} {X : zXT} {sh : List yH} {l : Launch} {rm : Room} (k56 : yS → Int → Int → Int → Int → Int → Option (Int × yS)) (hk56 : ∀ (σ : yS) (x1 : Int) (x2 : Int) (x3 : Int) (x5 : Int) (x7 : Int) (res : Int × yS), k56 σ x1 x2 x3 x5 x7 = some res → G_X8_luck N X sh l rm (56, [(0, .inr (.inl 8, 0)), (1, .inl (.inl x1)), (2, .inl (.inl x2)), (3, .inl (.inr x3)), (5, .inl (.inr x5)), (7, .inl (.inl x7))], [], σ) (some (.inl (.inr res.1)), res.2)) (k79 : yS → Int → Int → Int → Int → Int → Int → Int → Int → Int → Option (Int × yS)) (hk79 : ∀ (σ : yS) (x1 : Int) (x2 : Int) (x3 : Int) (x5 : Int) (x7 : Int) (x8 : Int) (x10 : Int) (x11 : Int) (x12 : Int) (res : Int × yS), k79 σ x1 x2 x3 x5 x7 x8 x10 x11 x12 = some res → G_X8_luck N X sh l rm (79, [(0, .inr (.inl 8, 0)), (1, .inl (.inl x1)), (2, .inl (.inl x2)), (3, .inl (.inr x3)), (5, .inl (.inr x5)), (7, .inl (.inl x7)), (8, .inl (.inr x8)), (10, .inl (.inl x10)), (11, .inl (.inl x11)), (12, .inl (.inl x12))], [], σ) (some (.inl (.inr res.1)), res.2)) (σ : yS) (x1 : Int) (x2 : Int) (x3 : Int) (x5 : Int) (x7 : Int) (x8 : Int) (x10 : Int) (x11 : Int) (x12 : Int) (s0 : Int) (res : Int × yS) (h : f_X8_luck_b104 N k56 k79 σ x1 x2 x3 x5 x7 x8 x10 x11 x12 s0 = some res) : G_X8_luck N X sh l rm (104, [(0, .inr (.inl 8, 0)), (1, .inl (.inl x1)), (2, .inl (.inl x2)), (3, .inl (.inr x3)), (5, .inl (.inr x5)), (7, .inl (.inl x7)), (8, .inl (.inr x8)), (10, .inl (.inl x10)), (11, .inl (.inl x11)), (12, .inl (.inl x12))], [.inl (.inl s0)], σ) (some (.inl (.inr res.1)), res.2) := by
  unfold f_X8_luck_b104 at h
  refine yG_n (n := 3) (C' := (110, [(13, .inl (.inl s0)), (0, .inr (.inl 8, 0)), (1, .inl (.inl x1)), (2, .inl (.inl x2)), (3, .inl (.inr x3)), (5, .inl (.inr x5)), (7, .inl (.inl x7)), (8, .inl (.inr x8)), (10, .inl (.inl x10)), (11, .inl (.inl x11)), (12, .inl (.inl x12))], [.inl (.inl s0), .inl (.inr x8)], σ)) rfl ?_
  cases hg11 : ycP .eq s0 0 with
  | true =>
    rw [hg11] at h
    dsimp only [cond] at h
    refine yG_t (C' := (127, [(13, .inl (.inl s0)), (0, .inr (.inl 8, 0)), (1, .inl (.inl x1)), (2, .inl (.inl x2)), (3, .inl (.inr x3)), (5, .inl (.inr x5)), (7, .inl (.inl x7)), (8, .inl (.inr x8)), (10, .inl (.inl x10)), (11, .inl (.inl x11)), (12, .inl (.inl x12))], [.inl (.inr x8)], σ)) rfl hg11 ?_
    refine yG_n (n := 6) (C' := (138, [(13, .inl (.inl s0)), (0, .inr (.inl 8, 0)), (1, .inl (.inl x1)), (2, .inl (.inl x2)), (3, .inl (.inr x3)), (5, .inl (.inr x5)), (7, .inl (.inl x7)), (8, .inl (.inr x8)), (10, .inl (.inl x10)), (11, .inl (.inl x11)), (12, .inl (.inl x12))], [.inl (.inl (yad 35 x12)), .inr (.inr (0, 393), 1), .inl (.inl 10), .inl (.inr x8)], σ)) rfl ?_
    cases hg12 : yin (yad 35 x12) 393 with
    | false => rw [hg12] at h; dsimp only [cond] at h; cases h
    | true =>
      rw [hg12] at h
      dsimp only [cond] at h
      refine yG_t (C' := (139, [(13, .inl (.inl s0)), (0, .inr (.inl 8, 0)), (1, .inl (.inl x1)), (2, .inl (.inl x2)), (3, .inl (.inr x3)), (5, .inl (.inr x5)), (7, .inl (.inl x7)), (8, .inl (.inr x8)), (10, .inl (.inl x10)), (11, .inl (.inl x11)), (12, .inl (.inl x12))], [.inl (.inl (σ.1 1 (yad 35 x12).toNat)), .inl (.inl 10), .inl (.inr x8)], σ)) rfl hg12 ?_
      refine yG_n (n := 2) (C' := (141, [(13, .inl (.inl s0)), (0, .inr (.inl 8, 0)), (1, .inl (.inl x1)), (2, .inl (.inl x2)), (3, .inl (.inr x3)), (5, .inl (.inr x5)), (7, .inl (.inl x7)), (8, .inl (.inr x8)), (10, .inl (.inl x10)), (11, .inl (.inl x11)), (12, .inl (.inl x12))], [.inl (.inr (ysu 10 (σ.1 1 (yad 35 x12).toNat))), .inl (.inr x8)], σ)) rfl ?_
      exact yG_w [1, 2, 3, 4, 5, 6, 8, 9, 10, 0] rfl (t_X8_luck_b141 k56 hk56 k79 hk79 σ x1 x2 x3 x5 x7 x10 x11 x12 s0 (ysu 10 (σ.1 1 (yad 35 x12).toNat)) x8 res h)
  | false =>
    rw [hg11] at h
    dsimp only [cond] at h
    refine yG_f (C' := (113, [(13, .inl (.inl s0)), (0, .inr (.inl 8, 0)), (1, .inl (.inl x1)), (2, .inl (.inl x2)), (3, .inl (.inr x3)), (5, .inl (.inr x5)), (7, .inl (.inl x7)), (8, .inl (.inr x8)), (10, .inl (.inl x10)), (11, .inl (.inl x11)), (12, .inl (.inl x12))], [.inl (.inr x8)], σ)) rfl hg11 ?_
    refine yG_n (n := 5) (C' := (122, [(13, .inl (.inl s0)), (0, .inr (.inl 8, 0)), (1, .inl (.inl x1)), (2, .inl (.inl x2)), (3, .inl (.inr x3)), (5, .inl (.inr x5)), (7, .inl (.inl x7)), (8, .inl (.inr x8)), (10, .inl (.inl x10)), (11, .inl (.inl x11)), (12, .inl (.inl x12))], [.inl (.inl (yad 35 x12)), .inr (.inr (0, 393), 1), .inl (.inr x8)], σ)) rfl ?_
    cases hg13 : yin (yad 35 x12) 393 with
    | false => rw [hg13] at h; dsimp only [cond] at h; cases h
    | true =>
      rw [hg13] at h
      dsimp only [cond] at h
      refine yG_t (C' := (123, [(13, .inl (.inl s0)), (0, .inr (.inl 8, 0)), (1, .inl (.inl x1)), (2, .inl (.inl x2)), (3, .inl (.inr x3)), (5, .inl (.inr x5)), (7, .inl (.inl x7)), (8, .inl (.inr x8)), (10, .inl (.inl x10)), (11, .inl (.inl x11)), (12, .inl (.inl x12))], [.inl (.inl (σ.1 1 (yad 35 x12).toNat)), .inl (.inr x8)], σ)) rfl hg13 ?_
      refine yG_n (n := 2) (C' := (141, [(13, .inl (.inl s0)), (0, .inr (.inl 8, 0)), (1, .inl (.inl x1)), (2, .inl (.inl x2)), (3, .inl (.inr x3)), (5, .inl (.inr x5)), (7, .inl (.inl x7)), (8, .inl (.inr x8)), (10, .inl (.inl x10)), (11, .inl (.inl x11)), (12, .inl (.inl x12))], [.inl (.inr (σ.1 1 (yad 35 x12).toNat)), .inl (.inr x8)], σ)) rfl ?_
      exact yG_w [1, 2, 3, 4, 5, 6, 8, 9, 10, 0] rfl (t_X8_luck_b141 k56 hk56 k79 hk79 σ x1 x2 x3 x5 x7 x10 x11 x12 s0 (σ.1 1 (yad 35 x12).toNat) x8 res h)
set_option maxRecDepth 100000 in
set_option maxHeartbeats 4000000 in
theorem t_X8_luck_b79 {N : Nat} {X : zXT} {sh : List yH} {l : Launch} {rm : Room} (k56 : yS → Int → Int → Int → Int → Int → Option (Int × yS)) (hk56 : ∀ (σ : yS) (x1 : Int) (x2 : Int) (x3 : Int) (x5 : Int) (x7 : Int) (res : Int × yS), k56 σ x1 x2 x3 x5 x7 = some res → G_X8_luck N X sh l rm (56, [(0, .inr (.inl 8, 0)), (1, .inl (.inl x1)), (2, .inl (.inl x2)), (3, .inl (.inr x3)), (5, .inl (.inr x5)), (7, .inl (.inl x7))], [], σ) (some (.inl (.inr res.1)), res.2)) : ∀ (n : Nat) (σ : yS) (x1 : Int) (x2 : Int) (x3 : Int) (x5 : Int) (x7 : Int) (x8 : Int) (x10 : Int) (x11 : Int) (x12 : Int) (res : Int × yS), f_X8_luck_b79 N k56 n σ x1 x2 x3 x5 x7 x8 x10 x11 x12 = some res → G_X8_luck N X sh l rm (79, [(0, .inr (.inl 8, 0)), (1, .inl (.inl x1)), (2, .inl (.inl x2)), (3, .inl (.inr x3)), (5, .inl (.inr x5)), (7, .inl (.inl x7)), (8, .inl (.inr x8)), (10, .inl (.inl x10)), (11, .inl (.inl x11)), (12, .inl (.inl x12))], [], σ) (some (.inl (.inr res.1)), res.2) := by
  intro n
  induction n with
  | zero => intro σ x1 x2 x3 x5 x7 x8 x10 x11 x12 res h; exact (yno h).elim
  | succ n ih =>
    intro σ x1 x2 x3 x5 x7 x8 x10 x11 x12 res h
    rw [q_X8_luck_b79] at h
    refine yG_n (n := 3) (C' := (85, [(0, .inr (.inl 8, 0)), (1, .inl (.inl x1)), (2, .inl (.inl x2)), (3, .inl (.inr x3)), (5, .inl (.inr x5)), (7, .inl (.inl x7)), (8, .inl (.inr x8)), (10, .inl (.inl x10)), (11, .inl (.inl x11)), (12, .inl (.inl x12))], [.inl (.inl (σ.1 0 3)), .inl (.inl x12)], σ)) rfl ?_
    cases hg14 : ycP .ge x12 (σ.1 0 3) with
    | true =>
      rw [hg14] at h
      dsimp only [cond] at h
      refine yG_t (C' := (243, [(0, .inr (.inl 8, 0)), (1, .inl (.inl x1)), (2, .inl (.inl x2)), (3, .inl (.inr x3)), (5, .inl (.inr x5)), (7, .inl (.inl x7)), (8, .inl (.inr x8)), (10, .inl (.inl x10)), (11, .inl (.inl x11)), (12, .inl (.inl x12))], [], σ)) rfl hg14 ?_
      refine yG_n (n := 2) (C' := (246, [(0, .inr (.inl 8, 0)), (1, .inl (.inl x1)), (2, .inl (.inl x2)), (3, .inl (.inr x3)), (5, .inl (.inr x5)), (7, .inl (.inl x7)), (8, .inl (.inr x8)), (10, .inl (.inl x10)), (11, .inl (.inl x11)), (12, .inl (.inl x12))], [.inl (.inl x11), .inl (.inr x3)], σ)) rfl ?_
      cases hg15 : ycP .eq x11 0 with
      | true =>
        rw [hg15] at h
        dsimp only [cond] at h
        refine yG_t (C' := (267, [(0, .inr (.inl 8, 0)), (1, .inl (.inl x1)), (2, .inl (.inl x2)), (3, .inl (.inr x3)), (5, .inl (.inr x5)), (7, .inl (.inl x7)), (8, .inl (.inr x8)), (10, .inl (.inl x10)), (11, .inl (.inl x11)), (12, .inl (.inl x12))], [.inl (.inr x3)], σ)) rfl hg15 ?_
        exact yG_w [0, 1, 2, 4, 5] rfl (t_X8_luck_b267 k56 hk56 σ x1 x2 x5 x7 x3 res h)
      | false =>
        rw [hg15] at h
        dsimp only [cond] at h
        refine yG_f (C' := (249, [(0, .inr (.inl 8, 0)), (1, .inl (.inl x1)), (2, .inl (.inl x2)), (3, .inl (.inr x3)), (5, .inl (.inr x5)), (7, .inl (.inl x7)), (8, .inl (.inr x8)), (10, .inl (.inl x10)), (11, .inl (.inl x11)), (12, .inl (.inl x12))], [.inl (.inr x3)], σ)) rfl hg15 ?_
        refine yG_n (n := 6) (C' := (258, [(0, .inr (.inl 8, 0)), (1, .inl (.inl x1)), (2, .inl (.inl x2)), (3, .inl (.inr x3)), (5, .inl (.inr x5)), (7, .inl (.inl x7)), (8, .inl (.inr x8)), (10, .inl (.inl x10)), (11, .inl (.inl x11)), (12, .inl (.inl x12))], [.inl (.inl (yad 0 x1)), .inr (.inr (0, 393), 1), .inl (.inl x10), .inl (.inr x3)], σ)) rfl ?_
        cases hg16 : yin (yad 0 x1) 393 with
        | false => rw [hg16] at h; dsimp only [cond] at h; cases h
        | true =>
          rw [hg16] at h
          dsimp only [cond] at h
          refine yG_t (C' := (259, [(0, .inr (.inl 8, 0)), (1, .inl (.inl x1)), (2, .inl (.inl x2)), (3, .inl (.inr x3)), (5, .inl (.inr x5)), (7, .inl (.inl x7)), (8, .inl (.inr x8)), (10, .inl (.inl x10)), (11, .inl (.inl x11)), (12, .inl (.inl x12))], [.inl (.inl (σ.1 1 (yad 0 x1).toNat)), .inl (.inl x10), .inl (.inr x3)], σ)) rfl hg16 ?_
          cases hg17 : ycP .gt x10 (σ.1 1 (yad 0 x1).toNat) with
          | true =>
            rw [hg17] at h
            dsimp only [cond] at h
            refine yG_t (C' := (267, [(0, .inr (.inl 8, 0)), (1, .inl (.inl x1)), (2, .inl (.inl x2)), (3, .inl (.inr x3)), (5, .inl (.inr x5)), (7, .inl (.inl x7)), (8, .inl (.inr x8)), (10, .inl (.inl x10)), (11, .inl (.inl x11)), (12, .inl (.inl x12))], [.inl (.inr x3)], σ)) rfl hg17 ?_
            exact yG_w [0, 1, 2, 4, 5] rfl (t_X8_luck_b267 k56 hk56 σ x1 x2 x5 x7 x3 res h)
          | false =>
            rw [hg17] at h
            dsimp only [cond] at h
            refine yG_f (C' := (262, [(0, .inr (.inl 8, 0)), (1, .inl (.inl x1)), (2, .inl (.inl x2)), (3, .inl (.inr x3)), (5, .inl (.inr x5)), (7, .inl (.inl x7)), (8, .inl (.inr x8)), (10, .inl (.inl x10)), (11, .inl (.inl x11)), (12, .inl (.inl x12))], [.inl (.inr x3)], σ)) rfl hg17 ?_
            refine yG_n (n := 2) (C' := (268, [(0, .inr (.inl 8, 0)), (1, .inl (.inl x1)), (2, .inl (.inl x2)), (3, .inl (.inr x3)), (5, .inl (.inr x5)), (7, .inl (.inl x7)), (8, .inl (.inr x8)), (10, .inl (.inl x10)), (11, .inl (.inl x11)), (12, .inl (.inl x12))], [.inl (.inr x8), .inl (.inr x3)], σ)) rfl ?_
            exact yG_w [0, 1, 2, 4, 5] rfl (t_X8_luck_b268 k56 hk56 σ x1 x2 x5 x7 x8 x3 res h)
    | false =>
      rw [hg14] at h
      dsimp only [cond] at h
      refine yG_f (C' := (88, [(0, .inr (.inl 8, 0)), (1, .inl (.inl x1)), (2, .inl (.inl x2)), (3, .inl (.inr x3)), (5, .inl (.inr x5)), (7, .inl (.inl x7)), (8, .inl (.inr x8)), (10, .inl (.inl x10)), (11, .inl (.inl x11)), (12, .inl (.inl x12))], [], σ)) rfl hg14 ?_
      refine yG_n (n := 6) (C' := (96, [(0, .inr (.inl 8, 0)), (1, .inl (.inl x1)), (2, .inl (.inl x2)), (3, .inl (.inr x3)), (5, .inl (.inr x5)), (7, .inl (.inl x7)), (8, .inl (.inr x8)), (10, .inl (.inl x10)), (11, .inl (.inl x11)), (12, .inl (.inl x12))], [.inl (.inl 1), .inl (.inl (yan (ysr x7 x12) 1))], σ)) rfl ?_
      cases hg18 : ycP .ne (yan (ysr x7 x12) 1) 1 with
      | true =>
        rw [hg18] at h
        dsimp only [cond] at h
        refine yG_t (C' := (103, [(0, .inr (.inl 8, 0)), (1, .inl (.inl x1)), (2, .inl (.inl x2)), (3, .inl (.inr x3)), (5, .inl (.inr x5)), (7, .inl (.inl x7)), (8, .inl (.inr x8)), (10, .inl (.inl x10)), (11, .inl (.inl x11)), (12, .inl (.inl x12))], [], σ)) rfl hg18 ?_
        refine yG_n (n := 1) (C' := (104, [(0, .inr (.inl 8, 0)), (1, .inl (.inl x1)), (2, .inl (.inl x2)), (3, .inl (.inr x3)), (5, .inl (.inr x5)), (7, .inl (.inl x7)), (8, .inl (.inr x8)), (10, .inl (.inl x10)), (11, .inl (.inl x11)), (12, .inl (.inl x12))], [.inl (.inl 0)], σ)) rfl ?_
        exact t_X8_luck_b104 k56 hk56 (f_X8_luck_b79 N k56 n) ih σ x1 x2 x3 x5 x7 x8 x10 x11 x12 0 res h
      | false =>
        rw [hg18] at h
        dsimp only [cond] at h
        refine yG_f (C' := (99, [(0, .inr (.inl 8, 0)), (1, .inl (.inl x1)), (2, .inl (.inl x2)), (3, .inl (.inr x3)), (5, .inl (.inr x5)), (7, .inl (.inl x7)), (8, .inl (.inr x8)), (10, .inl (.inl x10)), (11, .inl (.inl x11)), (12, .inl (.inl x12))], [], σ)) rfl hg18 ?_
        refine yG_n (n := 2) (C' := (104, [(0, .inr (.inl 8, 0)), (1, .inl (.inl x1)), (2, .inl (.inl x2)), (3, .inl (.inr x3)), (5, .inl (.inr x5)), (7, .inl (.inl x7)), (8, .inl (.inr x8)), (10, .inl (.inl x10)), (11, .inl (.inl x11)), (12, .inl (.inl x12))], [.inl (.inl 1)], σ)) rfl ?_
        exact t_X8_luck_b104 k56 hk56 (f_X8_luck_b79 N k56 n) ih σ x1 x2 x3 x5 x7 x8 x10 x11 x12 1 res h
set_option maxRecDepth 100000 in
set_option maxHeartbeats 4000000 in
theorem t_X8_luck_b56 {N : Nat} {X : zXT} {sh : List yH} {l : Launch} {rm : Room} : ∀ (n : Nat) (σ : yS) (x1 : Int) (x2 : Int) (x3 : Int) (x5 : Int) (x7 : Int) (res : Int × yS), f_X8_luck_b56 N n σ x1 x2 x3 x5 x7 = some res → G_X8_luck N X sh l rm (56, [(0, .inr (.inl 8, 0)), (1, .inl (.inl x1)), (2, .inl (.inl x2)), (3, .inl (.inr x3)), (5, .inl (.inr x5)), (7, .inl (.inl x7))], [], σ) (some (.inl (.inr res.1)), res.2) := by
  intro n
  induction n with
  | zero => intro σ x1 x2 x3 x5 x7 res h; exact (yno h).elim
  | succ n ih =>
    intro σ x1 x2 x3 x5 x7 res h
    rw [q_X8_luck_b56] at h
    refine yG_n (n := 5) (C' := (64, [(0, .inr (.inl 8, 0)), (1, .inl (.inl x1)), (2, .inl (.inl x2)), (3, .inl (.inr x3)), (5, .inl (.inr x5)), (7, .inl (.inl x7))], [.inl (.inl (ysl 1 (σ.1 0 3))), .inl (.inl x7)], σ)) rfl ?_
    cases hg19 : ycP .ge x7 (ysl 1 (σ.1 0 3)) with
    | true =>
      rw [hg19] at h
      dsimp only [cond] at h
      refine yG_t (C' := (276, [(0, .inr (.inl 8, 0)), (1, .inl (.inl x1)), (2, .inl (.inl x2)), (3, .inl (.inr x3)), (5, .inl (.inr x5)), (7, .inl (.inl x7))], [], σ)) rfl hg19 ?_
      refine yG_n (n := 3) (C' := (280, [(0, .inr (.inl 8, 0)), (1, .inl (.inl x1)), (2, .inl (.inl x2)), (3, .inl (.inr x3)), (5, .inl (.inr x5)), (7, .inl (.inl x7))], [.inl (.inl x2), .inl (.inr x5), .inl (.inr x3)], σ)) rfl ?_
      cases hr20 : f_X8_told N σ x3 x5 x2 with
      | none => rw [hr20] at h; dsimp only at h; cases h
      | some r3 =>
        rw [hr20] at h
        dsimp only at h
        refine yG_c (C1 := (283, [(0, .inr (.inl 8, 0)), (1, .inl (.inl x1)), (2, .inl (.inl x2)), (3, .inl (.inr x3)), (5, .inl (.inr x5)), (7, .inl (.inl x7))], [.inl (.inr r3.1)], r3.2)) rfl (e_X8_told hr20) rfl ?_
        have h := Option.some.inj h
        subst h
        dsimp only
        exact yG_r rfl rfl
    | false =>
      rw [hg19] at h
      dsimp only [cond] at h
      refine yG_f (C' := (67, [(0, .inr (.inl 8, 0)), (1, .inl (.inl x1)), (2, .inl (.inl x2)), (3, .inl (.inr x3)), (5, .inl (.inr x5)), (7, .inl (.inl x7))], [], σ)) rfl hg19 ?_
      refine yG_n (n := 8) (C' := (79, [(12, .inl (.inl 0)), (11, .inl (.inl 1)), (10, .inl (.inl 0)), (8, .inl (.inr 1)), (0, .inr (.inl 8, 0)), (1, .inl (.inl x1)), (2, .inl (.inl x2)), (3, .inl (.inr x3)), (5, .inl (.inr x5)), (7, .inl (.inl x7))], [], σ)) rfl ?_
      exact yG_w [4, 5, 6, 7, 8, 9, 3, 2, 1, 0] rfl (t_X8_luck_b79 (f_X8_luck_b56 N n) ih N σ x1 x2 x3 x5 x7 1 0 1 0 res h)
set_option maxRecDepth 100000 in
set_option maxHeartbeats 4000000 in
theorem t_X8_luck_b30 {N : Nat} {X : zXT} {sh : List yH} {l : Launch} {rm : Room} : ∀ (n : Nat) (σ : yS) (x1 : Int) (x2 : Int) (x3 : Int) (x5 : Int) (x7 : Int) (res : Int × yS), f_X8_luck_b30 N n σ x1 x2 x3 x5 x7 = some res → G_X8_luck N X sh l rm (30, [(0, .inr (.inl 8, 0)), (1, .inl (.inl x1)), (2, .inl (.inl x2)), (3, .inl (.inr x3)), (5, .inl (.inr x5)), (7, .inl (.inl x7))], [], σ) (some (.inl (.inr res.1)), res.2) := by
  intro n
  induction n with
  | zero => intro σ x1 x2 x3 x5 x7 res h; exact (yno h).elim
  | succ n ih =>
    intro σ x1 x2 x3 x5 x7 res h
    rw [q_X8_luck_b30] at h
    refine yG_n (n := 3) (C' := (36, [(0, .inr (.inl 8, 0)), (1, .inl (.inl x1)), (2, .inl (.inl x2)), (3, .inl (.inr x3)), (5, .inl (.inr x5)), (7, .inl (.inl x7))], [.inl (.inl (σ.1 0 3)), .inl (.inl x7)], σ)) rfl ?_
    cases hg21 : ycP .ge x7 (σ.1 0 3) with
    | true =>
      rw [hg21] at h
      dsimp only [cond] at h
      refine yG_t (C' := (53, [(0, .inr (.inl 8, 0)), (1, .inl (.inl x1)), (2, .inl (.inl x2)), (3, .inl (.inr x3)), (5, .inl (.inr x5)), (7, .inl (.inl x7))], [], σ)) rfl hg21 ?_
      refine yG_n (n := 2) (C' := (56, [(7, .inl (.inl 0)), (0, .inr (.inl 8, 0)), (1, .inl (.inl x1)), (2, .inl (.inl x2)), (3, .inl (.inr x3)), (5, .inl (.inr x5))], [], σ)) rfl ?_
      exact yG_w [1, 2, 3, 4, 5, 0] rfl (t_X8_luck_b56 N σ x1 x2 x3 x5 0 res h)
    | false =>
      rw [hg21] at h
      dsimp only [cond] at h
      refine yG_f (C' := (39, [(0, .inr (.inl 8, 0)), (1, .inl (.inl x1)), (2, .inl (.inl x2)), (3, .inl (.inr x3)), (5, .inl (.inr x5)), (7, .inl (.inl x7))], [], σ)) rfl hg21 ?_
      refine yG_n (n := 6) (C' := (30, [(7, .inl (.inl (yad x7 1))), (5, .inl (.inr (ymuL x5 10))), (0, .inr (.inl 8, 0)), (1, .inl (.inl x1)), (2, .inl (.inl x2)), (3, .inl (.inr x3))], [], σ)) rfl ?_
      exact yG_w [2, 3, 4, 5, 1, 0] rfl (ih σ x1 x2 x3 (ymuL x5 10) (yad x7 1) res h)
set_option maxRecDepth 100000 in
set_option maxHeartbeats 4000000 in
theorem t_X8_luck {N : Nat} {X : zXT} {sh : List yH} {l : Launch} {rm : Room} (σ : yS) (x1 : Int) (x2 : Int) (res : Int × yS) (h : f_X8_luck N σ x1 x2 = some res) : G_X8_luck N X sh l rm (0, [(0, .inr (.inl 8, 0)), (1, .inl (.inl x1)), (2, .inl (.inl x2))], [], σ) (some (.inl (.inr res.1)), res.2) := by
  unfold f_X8_luck at h
  refine yG_n (n := 2) (C' := (2, [(0, .inr (.inl 8, 0)), (1, .inl (.inl x1)), (2, .inl (.inl x2))], [.inl (.inl x1), .inr (.inl 8, 0)], σ)) rfl ?_
  cases hr22 : f_X8_isHouse N σ x1 with
  | none => rw [hr22] at h; dsimp only at h; cases h
  | some r1 =>
    rw [hr22] at h
    dsimp only at h
    refine yG_c (C1 := (5, [(0, .inr (.inl 8, 0)), (1, .inl (.inl x1)), (2, .inl (.inl x2))], [.inl (.inl r1.1)], r1.2)) rfl (e_X8_isHouse hr22) rfl ?_
    cases hg23 : ycP .eq r1.1 0 with
    | true =>
      rw [hg23] at h
      dsimp only [cond] at h
      refine yG_t (C' := (18, [(0, .inr (.inl 8, 0)), (1, .inl (.inl x1)), (2, .inl (.inl x2))], [], r1.2)) rfl hg23 ?_
      exact yG_w [] rfl (t_X8_luck_b18 r1.2 res h)
    | false =>
      rw [hg23] at h
      dsimp only [cond] at h
      refine yG_f (C' := (8, [(0, .inr (.inl 8, 0)), (1, .inl (.inl x1)), (2, .inl (.inl x2))], [], r1.2)) rfl hg23 ?_
      refine yG_n (n := 4) (C' := (12, [(0, .inr (.inl 8, 0)), (1, .inl (.inl x1)), (2, .inl (.inl x2))], [.inl (.inr 1), .inl (.inr 0), .inl (.inr x2)], r1.2)) rfl ?_
      cases hr24 : f_X8_in N r1.2 x2 0 1 with
      | none => rw [hr24] at h; dsimp only at h; cases h
      | some r2 =>
        rw [hr24] at h
        dsimp only at h
        refine yG_c (C1 := (15, [(0, .inr (.inl 8, 0)), (1, .inl (.inl x1)), (2, .inl (.inl x2))], [.inl (.inl r2.1)], r2.2)) rfl (e_X8_in hr24) rfl ?_
        cases hg25 : ycP .ne r2.1 0 with
        | true =>
          rw [hg25] at h
          dsimp only [cond] at h
          refine yG_t (C' := (22, [(0, .inr (.inl 8, 0)), (1, .inl (.inl x1)), (2, .inl (.inl x2))], [], r2.2)) rfl hg25 ?_
          refine yG_n (n := 6) (C' := (30, [(7, .inl (.inl 0)), (5, .inl (.inr 1)), (3, .inl (.inr 0)), (0, .inr (.inl 8, 0)), (1, .inl (.inl x1)), (2, .inl (.inl x2))], [], r2.2)) rfl ?_
          exact yG_w [3, 4, 5, 2, 1, 0] rfl (t_X8_luck_b30 N r2.2 x1 x2 0 1 0 res h)
        | false =>
          rw [hg25] at h
          dsimp only [cond] at h
          refine yG_f (C' := (18, [(0, .inr (.inl 8, 0)), (1, .inl (.inl x1)), (2, .inl (.inl x2))], [], r2.2)) rfl hg25 ?_
          exact yG_w [] rfl (t_X8_luck_b18 r2.2 res h)
set_option maxRecDepth 100000 in
set_option maxHeartbeats 4000000 in
theorem m_X8_luck {N : Nat} {X : zXT} (hX : zXok X) (hN : zXn X) (l : Launch) {sh : List yH} : yMet X vwCl yct sh l yX8_luck wsX8_luck { frames := 4, cells := 0, slots := 0, locals := 136 } (F_X8_luck N) :=
  ymeth (tb := tb_X8_luck N) (pr := pr_X8_luck) (rt := 3) (own := RX8) hX (by decide +kernel) rfl rfl ⟨Nat.le_of_ble_eq_true rfl, Nat.le_of_ble_eq_true rfl⟩
    (zfl_all (List.forall_mem_cons.mpr ⟨zfl_X8 (fun w h => List.mem_cons_of_mem _ (List.mem_append_right _ h)) (List.mem_of_getElem? (i := 4) rfl) (by decide) (by decide), List.forall_mem_cons.mpr ⟨zfl_X8 (fun w h => List.mem_cons_of_mem _ (List.mem_append_right _ h)) (List.mem_of_getElem? (i := 5) rfl) (by decide) (by decide), List.forall_mem_cons.mpr ⟨zfl_X8 (fun w h => List.mem_cons_of_mem _ (List.mem_append_right _ h)) (List.mem_of_getElem? (i := 2) rfl) (by decide) (by decide), fun _ h => absurd h List.not_mem_nil⟩⟩⟩))
    (zco_all (fun _ h => absurd h List.not_mem_nil)) (zlc_all (List.forall_mem_cons.mpr ⟨(List.mem_of_getElem? (i := 3) rfl), List.forall_mem_cons.mpr ⟨(List.mem_of_getElem? (i := 1) rfl), fun _ h => absurd h List.not_mem_nil⟩⟩))
    (List.forall_mem_cons.mpr ⟨ycal_V hX (m_X8_isHouse hX hN l) rfl (fun s args hts => cwV 1 hts gX8_luck_X8_isHouse rfl rfl rfl (by decide +kernel) ⟨Nat.le_of_ble_eq_true rfl, Nat.le_of_ble_eq_true rfl⟩), List.forall_mem_cons.mpr ⟨ycal_V hX (m_X8_timesOf hX hN l) rfl (fun s args hts => cwV 2 hts gX8_luck_X8_timesOf rfl rfl rfl (by decide +kernel) ⟨Nat.le_of_ble_eq_true rfl, Nat.le_of_ble_eq_true rfl⟩), fun _ h => absurd h List.not_mem_nil⟩⟩)
    (List.forall_mem_cons.mpr ⟨ycal_S hX (m_X8_in hX hN l) (fun s args hts => va_cwS 3 hts gX8_luck_X8_in rfl rfl rfl (by decide +kernel) ⟨Nat.le_of_ble_eq_true rfl, Nat.le_of_ble_eq_true rfl⟩), List.forall_mem_cons.mpr ⟨ycal_S hX (m_X8_told hX hN l) (fun s args hts => va_cwS 3 hts gX8_luck_X8_told rfl rfl rfl (by decide +kernel) ⟨Nat.le_of_ble_eq_true rfl, Nat.le_of_ble_eq_true rfl⟩), fun _ h => absurd h List.not_mem_nil⟩⟩)
    (zmm_all (fun _ h => absurd h List.not_mem_nil)) (fun _ h => absurd h List.not_mem_nil) (zpr_all hp_X8_luck) (fun as σ res h => by
      unfold F_X8_luck at h
      split at h
      · rename_i x1 x2
        cases hr : f_X8_luck N σ x1 x2 with
        | none => rw [hr] at h; cases h
        | some r =>
          rw [hr] at h
          cases h
          exact ⟨Nat.le_of_ble_eq_true rfl, t_X8_luck σ x1 x2 r hr⟩
      · cases h)
end
section
noncomputable def pr_X8_mean : List (Nat × Instr × Nat) := [(0, .aload_n 0, 1), (1, .iload_n 1, 1), (2, .invokevirtual 205, 3), (5, .ifCond .eq 13, 3), (8, .iload_n 2, 1), (9, .i2l, 1), (10, .lconst 0, 1), (11, .lconst 1, 1), (12, .invokestatic 90, 3), (15, .ifCond .ne 7, 3), (18, .ldc2_w 308, 3), (21, .lreturn, 1), (22, .lconst 0, 1), (23, .lstore_n 3, 1), (24, .iconst 0, 1), (25, .istore 5, 2), (27, .iload 5, 2), (29, .aload_n 0, 1), (30, .getfield 79, 3), (33, .if_icmp .ge 62, 3), (36, .aload_n 0, 1), (37, .iload 5, 2), (39, .iload_n 1, 1), (40, .invokevirtual 310, 3), (43, .istore 6, 2), (45, .lload_n 3, 1), (46, .iload 6, 2), (48, .ifCond .ne 7, 3), (51, .lconst 0, 1), (52, .goto 35, 3), (55, .iload 6, 2), (57, .i2l, 1), (58, .aload_n 0, 1), (59, .getfield 7, 3), (62, .bipush 35, 2), (64, .iload 5, 2), (66, .iadd, 1), (67, .iaload, 1), (68, .i2l, 1), (69, .lmul, 1), (70, .aload_n 0, 1), (71, .getfield 20, 3), (74, .aload_n 0, 1), (75, .getfield 7, 3), (78, .bipush 28, 2), (80, .iload 5, 2), (82, .iadd, 1), (83, .iaload, 1), (84, .iaload, 1), (85, .i2l, 1), (86, .lmul, 1), (87, .ladd, 1), (88, .lstore_n 3, 1), (89, .iinc 5 1, 3), (92, .goto (-65), 3), (95, .lload_n 3, 1), (96, .ldc2_w 220, 3), (99, .iload_n 2, 1), (100, .invokestatic 313, 3), (103, .lreturn, 1)]
set_option maxRecDepth 100000 in
theorem hp_X8_mean : pr_X8_mean.all (fun x => decide (decode cX8_mean x.1 = .ok x.2)) = true := by decide +kernel
noncomputable def f_X8_mean_b18 (N : Nat) (σ : yS) : Option (Int × yS) :=
  some ((-1), σ)
noncomputable def f_X8_mean_b87 (N : Nat) (k27 : yS → Int → Int → Int → Int → Option (Int × yS)) (σ : yS) (x1 : Int) (x2 : Int) (x5 : Int) (s0 : Int) (s1 : Int) : Option (Int × yS) :=
  k27 σ x1 x2 (yadL s1 s0) (yad x5 1)
noncomputable def f_X8_mean_b27 (N : Nat) : Nat → yS → Int → Int → Int → Int → Option (Int × yS) := yfix (fun _ _ _ _ _ => none) (fun ih σ x1 x2 x3 x5 =>
    bif ycP .ge x5 (σ.1 0 3) then
      match f_X8_told N σ x3 10 x2 with
      | none => none
      | some r3 => some (r3.1, r3.2)
    else
      match f_X8_timesOf N σ x5 x1 with
      | none => none
      | some r4 => bif ycP .ne r4.1 0 then
          bif yin (yad 35 x5) 393 then
            bif yin (yad 28 x5) 393 then
              bif yin (r4.2.1 1 (yad 28 x5).toNat) 5 then
                f_X8_mean_b87 N ih r4.2 x1 x2 x5 (ymuL (ymuL r4.1 (r4.2.1 1 (yad 35 x5).toNat)) (r4.2.1 4 (r4.2.1 1 (yad 28 x5).toNat).toNat)) x3
              else none
            else none
          else none
        else
          f_X8_mean_b87 N ih r4.2 x1 x2 x5 0 x3)
theorem q_X8_mean_b27 (N : Nat) (n : Nat) (σ : yS) (x1 : Int) (x2 : Int) (x3 : Int) (x5 : Int) : f_X8_mean_b27 N (n + 1) σ x1 x2 x3 x5 =
    (bif ycP .ge x5 (σ.1 0 3) then
      match f_X8_told N σ x3 10 x2 with
      | none => none
      | some r3 => some (r3.1, r3.2)
    else
      match f_X8_timesOf N σ x5 x1 with
      | none => none
      | some r4 => bif ycP .ne r4.1 0 then
          bif yin (yad 35 x5) 393 then
            bif yin (yad 28 x5) 393 then
              bif yin (r4.2.1 1 (yad 28 x5).toNat) 5 then
                f_X8_mean_b87 N (f_X8_mean_b27 N n) r4.2 x1 x2 x5 (ymuL (ymuL r4.1 (r4.2.1 1 (yad 35 x5).toNat)) (r4.2.1 4 (r4.2.1 1 (yad 28 x5).toNat).toNat)) x3
              else none
            else none
          else none
        else
          f_X8_mean_b87 N (f_X8_mean_b27 N n) r4.2 x1 x2 x5 0 x3) := rfl
noncomputable def f_X8_mean (N : Nat) (σ : yS) (x1 : Int) (x2 : Int) : Option (Int × yS) :=
  match f_X8_isHouse N σ x1 with
  | none => none
  | some r1 => bif ycP .eq r1.1 0 then
      f_X8_mean_b18 N r1.2
    else
      match f_X8_in N r1.2 x2 0 1 with
      | none => none
      | some r2 => bif ycP .ne r2.1 0 then
          f_X8_mean_b27 N N r2.2 x1 x2 0 0
        else
          f_X8_mean_b18 N r2.2
noncomputable def F_X8_mean (N : Nat) : yF := fun as σ => match as with
  | [.inr (.inl 8, 0), .inl (.inl x1), .inl (.inl x2)] => (f_X8_mean N σ x1 x2).map (fun r => (some (.inl (.inr r.1)), r.2))
  | _ => none
theorem e_X8_mean {N : Nat} {σ : yS} {x1 : Int} {x2 : Int} {r : Int × yS} (h : f_X8_mean N σ x1 x2 = some r) : F_X8_mean N [.inr (.inl 8, 0), .inl (.inl x1), .inl (.inl x2)] σ = some (some (.inl (.inr r.1)), r.2) := by
  show (f_X8_mean N σ x1 x2).map (fun r => ((some (.inl (.inr r.1)), r.2) : yR)) = _
  rw [h]
  rfl
noncomputable def tb_X8_mean (N : Nat) : yTb := ([(7, 8, 0, 3), (20, 8, 6, 3), (79, 8, 3, 0)], [], [(220, 10), (308, (-1))], [(205, 2, 8, F_X8_isHouse N), (310, 3, 8, F_X8_timesOf N)], [(90, 3, F_X8_in N), (313, 3, F_X8_told N)], [], [])
abbrev G_X8_mean (N : Nat) (X : zXT) (sh : List yH) (l : Launch) (rm : Room) : yC → yR → Prop := yGoes X vwCl yct sh l rm cX8_mean 7 wsX8_mean RX8 (tb_X8_mean N) pr_X8_mean 3
set_option maxRecDepth 100000 in
set_option maxHeartbeats 4000000 in
theorem t_X8_mean_b18 {N : Nat} {X : zXT} {sh : List yH} {l : Launch} {rm : Room} (σ : yS) (res : Int × yS) (h : f_X8_mean_b18 N σ = some res) : G_X8_mean N X sh l rm (18, [], [], σ) (some (.inl (.inr res.1)), res.2) := by
  unfold f_X8_mean_b18 at h
  refine yG_n (n := 1) (C' := (21, [], [.inl (.inr ((-1)))], σ)) rfl ?_
  have h := Option.some.inj h
  subst h
  dsimp only
  exact yG_r rfl rfl
set_option maxRecDepth 100000 in
set_option maxHeartbeats 4000000 in
theorem t_X8_mean_b87 {N : Nat} {X : zXT} {sh : List yH} {l : Launch} {rm : Room} (k27 : yS → Int → Int → Int → Int → Option (Int × yS)) (hk27 : ∀ (σ : yS) (x1 : Int) (x2 : Int) (x3 : Int) (x5 : Int) (res : Int × yS), k27 σ x1 x2 x3 x5 = some res → G_X8_mean N X sh l rm (27, [(0, .inr (.inl 8, 0)), (1, .inl (.inl x1)), (2, .inl (.inl x2)), (3, .inl (.inr x3)), (5, .inl (.inl x5))], [], σ) (some (.inl (.inr res.1)), res.2)) (σ : yS) (x1 : Int) (x2 : Int) (x5 : Int) (s0 : Int) (s1 : Int) (res : Int × yS) (h : f_X8_mean_b87 N k27 σ x1 x2 x5 s0 s1 = some res) : G_X8_mean N X sh l rm (87, [(0, .inr (.inl 8, 0)), (1, .inl (.inl x1)), (2, .inl (.inl x2)), (5, .inl (.inl x5))], [.inl (.inr s0), .inl (.inr s1)], σ) (some (.inl (.inr res.1)), res.2) := by
  unfold f_X8_mean_b87 at h
  refine yG_n (n := 4) (C' := (27, [(5, .inl (.inl (yad x5 1))), (3, .inl (.inr (yadL s1 s0))), (0, .inr (.inl 8, 0)), (1, .inl (.inl x1)), (2, .inl (.inl x2))], [], σ)) rfl ?_
  exact yG_w [2, 3, 4, 1, 0] rfl (hk27 σ x1 x2 (yadL s1 s0) (yad x5 1) res h)
set_option maxRecDepth 100000 in
set_option maxHeartbeats 4000000 in
theorem t_X8_mean_b27 {N : Nat} {X : zXT} {sh : List yH} {l : Launch} {rm : Room} : ∀ (n : Nat) (σ : yS) (x1 : Int) (x2 : Int) (x3 : Int) (x5 : Int) (res : Int × yS), f_X8_mean_b27 N n σ x1 x2 x3 x5 = some res → G_X8_mean N X sh l rm (27, [(0, .inr (.inl 8, 0)), (1, .inl (.inl x1)), (2, .inl (.inl x2)), (3, .inl (.inr x3)), (5, .inl (.inl x5))], [], σ) (some (.inl (.inr res.1)), res.2) := by
  intro n
  induction n with
  | zero => intro σ x1 x2 x3 x5 res h; exact (yno h).elim
  | succ n ih =>
    intro σ x1 x2 x3 x5 res h
    rw [q_X8_mean_b27] at h
    refine yG_n (n := 3) (C' := (33, [(0, .inr (.inl 8, 0)), (1, .inl (.inl x1)), (2, .inl (.inl x2)), (3, .inl (.inr x3)), (5, .inl (.inl x5))], [.inl (.inl (σ.1 0 3)), .inl (.inl x5)], σ)) rfl ?_
    cases hg1 : ycP .ge x5 (σ.1 0 3) with
    | true =>
      rw [hg1] at h
      dsimp only [cond] at h
      refine yG_t (C' := (95, [(0, .inr (.inl 8, 0)), (1, .inl (.inl x1)), (2, .inl (.inl x2)), (3, .inl (.inr x3)), (5, .inl (.inl x5))], [], σ)) rfl hg1 ?_
      refine yG_n (n := 3) (C' := (100, [(0, .inr (.inl 8, 0)), (1, .inl (.inl x1)), (2, .inl (.inl x2)), (3, .inl (.inr x3)), (5, .inl (.inl x5))], [.inl (.inl x2), .inl (.inr 10), .inl (.inr x3)], σ)) rfl ?_
      cases hr2 : f_X8_told N σ x3 10 x2 with
      | none => rw [hr2] at h; dsimp only at h; cases h
      | some r3 =>
        rw [hr2] at h
        dsimp only at h
        refine yG_c (C1 := (103, [(0, .inr (.inl 8, 0)), (1, .inl (.inl x1)), (2, .inl (.inl x2)), (3, .inl (.inr x3)), (5, .inl (.inl x5))], [.inl (.inr r3.1)], r3.2)) rfl (e_X8_told hr2) rfl ?_
        have h := Option.some.inj h
        subst h
        dsimp only
        exact yG_r rfl rfl
    | false =>
      rw [hg1] at h
      dsimp only [cond] at h
      refine yG_f (C' := (36, [(0, .inr (.inl 8, 0)), (1, .inl (.inl x1)), (2, .inl (.inl x2)), (3, .inl (.inr x3)), (5, .inl (.inl x5))], [], σ)) rfl hg1 ?_
      refine yG_n (n := 3) (C' := (40, [(0, .inr (.inl 8, 0)), (1, .inl (.inl x1)), (2, .inl (.inl x2)), (3, .inl (.inr x3)), (5, .inl (.inl x5))], [.inl (.inl x1), .inl (.inl x5), .inr (.inl 8, 0)], σ)) rfl ?_
      cases hr3 : f_X8_timesOf N σ x5 x1 with
      | none => rw [hr3] at h; dsimp only at h; cases h
      | some r4 =>
        rw [hr3] at h
        dsimp only at h
        refine yG_c (C1 := (43, [(0, .inr (.inl 8, 0)), (1, .inl (.inl x1)), (2, .inl (.inl x2)), (3, .inl (.inr x3)), (5, .inl (.inl x5))], [.inl (.inl r4.1)], r4.2)) rfl (e_X8_timesOf hr3) rfl ?_
        refine yG_n (n := 3) (C' := (48, [(6, .inl (.inl r4.1)), (0, .inr (.inl 8, 0)), (1, .inl (.inl x1)), (2, .inl (.inl x2)), (3, .inl (.inr x3)), (5, .inl (.inl x5))], [.inl (.inl r4.1), .inl (.inr x3)], r4.2)) rfl ?_
        cases hg4 : ycP .ne r4.1 0 with
        | true =>
          rw [hg4] at h
          dsimp only [cond] at h
          refine yG_t (C' := (55, [(6, .inl (.inl r4.1)), (0, .inr (.inl 8, 0)), (1, .inl (.inl x1)), (2, .inl (.inl x2)), (3, .inl (.inr x3)), (5, .inl (.inl x5))], [.inl (.inr x3)], r4.2)) rfl hg4 ?_
          refine yG_n (n := 7) (C' := (67, [(6, .inl (.inl r4.1)), (0, .inr (.inl 8, 0)), (1, .inl (.inl x1)), (2, .inl (.inl x2)), (3, .inl (.inr x3)), (5, .inl (.inl x5))], [.inl (.inl (yad 35 x5)), .inr (.inr (0, 393), 1), .inl (.inr r4.1), .inl (.inr x3)], r4.2)) rfl ?_
          cases hg5 : yin (yad 35 x5) 393 with
          | false => rw [hg5] at h; dsimp only [cond] at h; cases h
          | true =>
            rw [hg5] at h
            dsimp only [cond] at h
            refine yG_t (C' := (68, [(6, .inl (.inl r4.1)), (0, .inr (.inl 8, 0)), (1, .inl (.inl x1)), (2, .inl (.inl x2)), (3, .inl (.inr x3)), (5, .inl (.inl x5))], [.inl (.inl (r4.2.1 1 (yad 35 x5).toNat)), .inl (.inr r4.1), .inl (.inr x3)], r4.2)) rfl hg5 ?_
            refine yG_n (n := 9) (C' := (83, [(6, .inl (.inl r4.1)), (0, .inr (.inl 8, 0)), (1, .inl (.inl x1)), (2, .inl (.inl x2)), (3, .inl (.inr x3)), (5, .inl (.inl x5))], [.inl (.inl (yad 28 x5)), .inr (.inr (0, 393), 1), .inr (.inr (0, 5), 4), .inl (.inr (ymuL r4.1 (r4.2.1 1 (yad 35 x5).toNat))), .inl (.inr x3)], r4.2)) rfl ?_
            cases hg6 : yin (yad 28 x5) 393 with
            | false => rw [hg6] at h; dsimp only [cond] at h; cases h
            | true =>
              rw [hg6] at h
              dsimp only [cond] at h
              refine yG_t (C' := (84, [(6, .inl (.inl r4.1)), (0, .inr (.inl 8, 0)), (1, .inl (.inl x1)), (2, .inl (.inl x2)), (3, .inl (.inr x3)), (5, .inl (.inl x5))], [.inl (.inl (r4.2.1 1 (yad 28 x5).toNat)), .inr (.inr (0, 5), 4), .inl (.inr (ymuL r4.1 (r4.2.1 1 (yad 35 x5).toNat))), .inl (.inr x3)], r4.2)) rfl hg6 ?_
              cases hg7 : yin (r4.2.1 1 (yad 28 x5).toNat) 5 with
              | false => rw [hg7] at h; dsimp only [cond] at h; cases h
              | true =>
                rw [hg7] at h
                dsimp only [cond] at h
                refine yG_t (C' := (85, [(6, .inl (.inl r4.1)), (0, .inr (.inl 8, 0)), (1, .inl (.inl x1)), (2, .inl (.inl x2)), (3, .inl (.inr x3)), (5, .inl (.inl x5))], [.inl (.inl (r4.2.1 4 (r4.2.1 1 (yad 28 x5).toNat).toNat)), .inl (.inr (ymuL r4.1 (r4.2.1 1 (yad 35 x5).toNat))), .inl (.inr x3)], r4.2)) rfl hg7 ?_
                refine yG_n (n := 2) (C' := (87, [(6, .inl (.inl r4.1)), (0, .inr (.inl 8, 0)), (1, .inl (.inl x1)), (2, .inl (.inl x2)), (3, .inl (.inr x3)), (5, .inl (.inl x5))], [.inl (.inr (ymuL (ymuL r4.1 (r4.2.1 1 (yad 35 x5).toNat)) (r4.2.1 4 (r4.2.1 1 (yad 28 x5).toNat).toNat))), .inl (.inr x3)], r4.2)) rfl ?_
                exact yG_w [1, 2, 3, 5] rfl (t_X8_mean_b87 (f_X8_mean_b27 N n) ih r4.2 x1 x2 x5 (ymuL (ymuL r4.1 (r4.2.1 1 (yad 35 x5).toNat)) (r4.2.1 4 (r4.2.1 1 (yad 28 x5).toNat).toNat)) x3 res h)
        | false =>
          rw [hg4] at h
          dsimp only [cond] at h
          refine yG_f (C' := (51, [(6, .inl (.inl r4.1)), (0, .inr (.inl 8, 0)), (1, .inl (.inl x1)), (2, .inl (.inl x2)), (3, .inl (.inr x3)), (5, .inl (.inl x5))], [.inl (.inr x3)], r4.2)) rfl hg4 ?_
          refine yG_n (n := 2) (C' := (87, [(6, .inl (.inl r4.1)), (0, .inr (.inl 8, 0)), (1, .inl (.inl x1)), (2, .inl (.inl x2)), (3, .inl (.inr x3)), (5, .inl (.inl x5))], [.inl (.inr 0), .inl (.inr x3)], r4.2)) rfl ?_
          exact yG_w [1, 2, 3, 5] rfl (t_X8_mean_b87 (f_X8_mean_b27 N n) ih r4.2 x1 x2 x5 0 x3 res h)
set_option maxRecDepth 100000 in
set_option maxHeartbeats 4000000 in
theorem t_X8_mean {N : Nat} {X : zXT} {sh : List yH} {l : Launch} {rm : Room} (σ : yS) (x1 : Int) (x2 : Int) (res : Int × yS) (h : f_X8_mean N σ x1 x2 = some res) : G_X8_mean N X sh l rm (0, [(0, .inr (.inl 8, 0)), (1, .inl (.inl x1)), (2, .inl (.inl x2))], [], σ) (some (.inl (.inr res.1)), res.2) := by
  unfold f_X8_mean at h
  refine yG_n (n := 2) (C' := (2, [(0, .inr (.inl 8, 0)), (1, .inl (.inl x1)), (2, .inl (.inl x2))], [.inl (.inl x1), .inr (.inl 8, 0)], σ)) rfl ?_
  cases hr8 : f_X8_isHouse N σ x1 with
  | none => rw [hr8] at h; dsimp only at h; cases h
  | some r1 =>
    rw [hr8] at h
    dsimp only at h
    refine yG_c (C1 := (5, [(0, .inr (.inl 8, 0)), (1, .inl (.inl x1)), (2, .inl (.inl x2))], [.inl (.inl r1.1)], r1.2)) rfl (e_X8_isHouse hr8) rfl ?_
    cases hg9 : ycP .eq r1.1 0 with
    | true =>
      rw [hg9] at h
      dsimp only [cond] at h
      refine yG_t (C' := (18, [(0, .inr (.inl 8, 0)), (1, .inl (.inl x1)), (2, .inl (.inl x2))], [], r1.2)) rfl hg9 ?_
      exact yG_w [] rfl (t_X8_mean_b18 r1.2 res h)
    | false =>
      rw [hg9] at h
      dsimp only [cond] at h
      refine yG_f (C' := (8, [(0, .inr (.inl 8, 0)), (1, .inl (.inl x1)), (2, .inl (.inl x2))], [], r1.2)) rfl hg9 ?_
      refine yG_n (n := 4) (C' := (12, [(0, .inr (.inl 8, 0)), (1, .inl (.inl x1)), (2, .inl (.inl x2))], [.inl (.inr 1), .inl (.inr 0), .inl (.inr x2)], r1.2)) rfl ?_
      cases hr10 : f_X8_in N r1.2 x2 0 1 with
      | none => rw [hr10] at h; dsimp only at h; cases h
      | some r2 =>
        rw [hr10] at h
        dsimp only at h
        refine yG_c (C1 := (15, [(0, .inr (.inl 8, 0)), (1, .inl (.inl x1)), (2, .inl (.inl x2))], [.inl (.inl r2.1)], r2.2)) rfl (e_X8_in hr10) rfl ?_
        cases hg11 : ycP .ne r2.1 0 with
        | true =>
          rw [hg11] at h
          dsimp only [cond] at h
          refine yG_t (C' := (22, [(0, .inr (.inl 8, 0)), (1, .inl (.inl x1)), (2, .inl (.inl x2))], [], r2.2)) rfl hg11 ?_
          refine yG_n (n := 4) (C' := (27, [(5, .inl (.inl 0)), (3, .inl (.inr 0)), (0, .inr (.inl 8, 0)), (1, .inl (.inl x1)), (2, .inl (.inl x2))], [], r2.2)) rfl ?_
          exact yG_w [2, 3, 4, 1, 0] rfl (t_X8_mean_b27 N r2.2 x1 x2 0 0 res h)
        | false =>
          rw [hg11] at h
          dsimp only [cond] at h
          refine yG_f (C' := (18, [(0, .inr (.inl 8, 0)), (1, .inl (.inl x1)), (2, .inl (.inl x2))], [], r2.2)) rfl hg11 ?_
          exact yG_w [] rfl (t_X8_mean_b18 r2.2 res h)
set_option maxRecDepth 100000 in
set_option maxHeartbeats 4000000 in
theorem m_X8_mean {N : Nat} {X : zXT} (hX : zXok X) (hN : zXn X) (l : Launch) {sh : List yH} : yMet X vwCl yct sh l yX8_mean wsX8_mean { frames := 4, cells := 0, slots := 0, locals := 136 } (F_X8_mean N) :=
  ymeth (tb := tb_X8_mean N) (pr := pr_X8_mean) (rt := 3) (own := RX8) hX (by decide +kernel) rfl rfl ⟨Nat.le_of_ble_eq_true rfl, Nat.le_of_ble_eq_true rfl⟩
    (zfl_all (List.forall_mem_cons.mpr ⟨zfl_X8 (fun w h => List.mem_cons_of_mem _ (List.mem_append_right _ h)) (List.mem_of_getElem? (i := 3) rfl) (by decide) (by decide), List.forall_mem_cons.mpr ⟨zfl_X8 (fun w h => List.mem_cons_of_mem _ (List.mem_append_right _ h)) (List.mem_of_getElem? (i := 4) rfl) (by decide) (by decide), List.forall_mem_cons.mpr ⟨zfl_X8 (fun w h => List.mem_cons_of_mem _ (List.mem_append_right _ h)) (List.mem_of_getElem? (i := 2) rfl) (by decide) (by decide), fun _ h => absurd h List.not_mem_nil⟩⟩⟩))
    (zco_all (fun _ h => absurd h List.not_mem_nil)) (zlc_all (List.forall_mem_cons.mpr ⟨(List.mem_of_getElem? (i := 5) rfl), List.forall_mem_cons.mpr ⟨(List.mem_of_getElem? (i := 1) rfl), fun _ h => absurd h List.not_mem_nil⟩⟩))
    (List.forall_mem_cons.mpr ⟨ycal_V hX (m_X8_isHouse hX hN l) rfl (fun s args hts => cwV 1 hts gX8_mean_X8_isHouse rfl rfl rfl (by decide +kernel) ⟨Nat.le_of_ble_eq_true rfl, Nat.le_of_ble_eq_true rfl⟩), List.forall_mem_cons.mpr ⟨ycal_V hX (m_X8_timesOf hX hN l) rfl (fun s args hts => cwV 2 hts gX8_mean_X8_timesOf rfl rfl rfl (by decide +kernel) ⟨Nat.le_of_ble_eq_true rfl, Nat.le_of_ble_eq_true rfl⟩), fun _ h => absurd h List.not_mem_nil⟩⟩)
    (List.forall_mem_cons.mpr ⟨ycal_S hX (m_X8_in hX hN l) (fun s args hts => va_cwS 3 hts gX8_mean_X8_in rfl rfl rfl (by decide +kernel) ⟨Nat.le_of_ble_eq_true rfl, Nat.le_of_ble_eq_true rfl⟩), List.forall_mem_cons.mpr ⟨ycal_S hX (m_X8_told hX hN l) (fun s args hts => va_cwS 3 hts gX8_mean_X8_told rfl rfl rfl (by decide +kernel) ⟨Nat.le_of_ble_eq_true rfl, Nat.le_of_ble_eq_true rfl⟩), fun _ h => absurd h List.not_mem_nil⟩⟩)
    (zmm_all (fun _ h => absurd h List.not_mem_nil)) (fun _ h => absurd h List.not_mem_nil) (zpr_all hp_X8_mean) (fun as σ res h => by
      unfold F_X8_mean at h
      split at h
      · rename_i x1 x2
        cases hr : f_X8_mean N σ x1 x2 with
        | none => rw [hr] at h; cases h
        | some r =>
          rw [hr] at h
          cases h
          exact ⟨Nat.le_of_ble_eq_true rfl, t_X8_mean σ x1 x2 r hr⟩
      · cases h)
noncomputable def pr_X8_move : List (Nat × Instr × Nat) := [(0, .aload_n 0, 1), (1, .iload_n 1, 1), (2, .invokevirtual 205, 3), (5, .ifCond .eq 16, 3), (8, .aload_n 0, 1), (9, .iload_n 2, 1), (10, .invokevirtual 205, 3), (13, .ifCond .eq 8, 3), (16, .iload_n 1, 1), (17, .iload_n 2, 1), (18, .if_icmp .ne 5, 3), (21, .iconst (-1), 1), (22, .ireturn, 1), (23, .aload_n 0, 1), (24, .iload_n 1, 1), (25, .iload_n 2, 1), (26, .invokevirtual 229, 3), (29, .aload_n 0, 1), (30, .getfield 7, 3), (33, .bipush 7, 2), (35, .iload_n 1, 1), (36, .iadd, 1), (37, .iaload, 1), (38, .invokestatic 233, 3), (41, .ireturn, 1)]
set_option maxRecDepth 100000 in
theorem hp_X8_move : pr_X8_move.all (fun x => decide (decode cX8_move x.1 = .ok x.2)) = true := by decide +kernel
noncomputable def f_X8_move_b21 (N : Nat) (σ : yS) : Option (Int × yS) :=
  some ((-1), σ)
noncomputable def f_X8_move (N : Nat) (σ : yS) (x1 : Int) (x2 : Int) : Option (Int × yS) :=
  match f_X8_isHouse N σ x1 with
  | none => none
  | some r1 => bif ycP .eq r1.1 0 then
      f_X8_move_b21 N r1.2
    else
      match f_X8_isHouse N r1.2 x2 with
      | none => none
      | some r2 => bif ycP .eq r2.1 0 then
          f_X8_move_b21 N r2.2
        else
          bif ycP .ne x1 x2 then
            match f_X8_moves N r2.2 x1 x2 with
            | none => none
            | some r3 => bif yin (yad 7 x1) 393 then
                match f_X8_bitsOf N r3.2 (r3.2.1 1 (yad 7 x1).toNat) with
                | none => none
                | some r4 => some (r4.1, r4.2)
              else none
          else
            f_X8_move_b21 N r2.2
noncomputable def F_X8_move (N : Nat) : yF := fun as σ => match as with
  | [.inr (.inl 8, 0), .inl (.inl x1), .inl (.inl x2)] => (f_X8_move N σ x1 x2).map (fun r => (some (.inl (.inl r.1)), r.2))
  | _ => none
theorem e_X8_move {N : Nat} {σ : yS} {x1 : Int} {x2 : Int} {r : Int × yS} (h : f_X8_move N σ x1 x2 = some r) : F_X8_move N [.inr (.inl 8, 0), .inl (.inl x1), .inl (.inl x2)] σ = some (some (.inl (.inl r.1)), r.2) := by
  show (f_X8_move N σ x1 x2).map (fun r => ((some (.inl (.inl r.1)), r.2) : yR)) = _
  rw [h]
  rfl
noncomputable def tb_X8_move (N : Nat) : yTb := ([(7, 8, 0, 3)], [], [], [(205, 2, 8, F_X8_isHouse N), (229, 3, 8, F_X8_moves N)], [(233, 1, F_X8_bitsOf N)], [], [])
abbrev G_X8_move (N : Nat) (X : zXT) (sh : List yH) (l : Launch) (rm : Room) : yC → yR → Prop := yGoes X vwCl yct sh l rm cX8_move 3 wsX8_move RX8 (tb_X8_move N) pr_X8_move 1
set_option maxRecDepth 100000 in
set_option maxHeartbeats 4000000 in
theorem t_X8_move_b21 {N : Nat} {X : zXT} {sh : List yH} {l : Launch} {rm : Room} (σ : yS) (res : Int × yS) (h : f_X8_move_b21 N σ = some res) : G_X8_move N X sh l rm (21, [], [], σ) (some (.inl (.inl res.1)), res.2) := by
  unfold f_X8_move_b21 at h
  refine yG_n (n := 1) (C' := (22, [], [.inl (.inl ((-1)))], σ)) rfl ?_
  have h := Option.some.inj h
  subst h
  dsimp only
  exact yG_r rfl rfl
set_option maxRecDepth 100000 in
set_option maxHeartbeats 4000000 in
theorem t_X8_move {N : Nat} {X : zXT} {sh : List yH} {l : Launch} {rm : Room} (σ : yS) (x1 : Int) (x2 : Int) (res : Int × yS) (h : f_X8_move N σ x1 x2 = some res) : G_X8_move N X sh l rm (0, [(0, .inr (.inl 8, 0)), (1, .inl (.inl x1)), (2, .inl (.inl x2))], [], σ) (some (.inl (.inl res.1)), res.2) := by
  unfold f_X8_move at h
  refine yG_n (n := 2) (C' := (2, [(0, .inr (.inl 8, 0)), (1, .inl (.inl x1)), (2, .inl (.inl x2))], [.inl (.inl x1), .inr (.inl 8, 0)], σ)) rfl ?_
  cases hr1 : f_X8_isHouse N σ x1 with
  | none => rw [hr1] at h; dsimp only at h; cases h
  | some r1 =>
    rw [hr1] at h
    dsimp only at h
    refine yG_c (C1 := (5, [(0, .inr (.inl 8, 0)), (1, .inl (.inl x1)), (2, .inl (.inl x2))], [.inl (.inl r1.1)], r1.2)) rfl (e_X8_isHouse hr1) rfl ?_
    cases hg2 : ycP .eq r1.1 0 with
    | true =>
      rw [hg2] at h
      dsimp only [cond] at h
      refine yG_t (C' := (21, [(0, .inr (.inl 8, 0)), (1, .inl (.inl x1)), (2, .inl (.inl x2))], [], r1.2)) rfl hg2 ?_
      exact yG_w [] rfl (t_X8_move_b21 r1.2 res h)
    | false =>
      rw [hg2] at h
      dsimp only [cond] at h
      refine yG_f (C' := (8, [(0, .inr (.inl 8, 0)), (1, .inl (.inl x1)), (2, .inl (.inl x2))], [], r1.2)) rfl hg2 ?_
      refine yG_n (n := 2) (C' := (10, [(0, .inr (.inl 8, 0)), (1, .inl (.inl x1)), (2, .inl (.inl x2))], [.inl (.inl x2), .inr (.inl 8, 0)], r1.2)) rfl ?_
      cases hr3 : f_X8_isHouse N r1.2 x2 with
      | none => rw [hr3] at h; dsimp only at h; cases h
      | some r2 =>
        rw [hr3] at h
        dsimp only at h
        refine yG_c (C1 := (13, [(0, .inr (.inl 8, 0)), (1, .inl (.inl x1)), (2, .inl (.inl x2))], [.inl (.inl r2.1)], r2.2)) rfl (e_X8_isHouse hr3) rfl ?_
        cases hg4 : ycP .eq r2.1 0 with
        | true =>
          rw [hg4] at h
          dsimp only [cond] at h
          refine yG_t (C' := (21, [(0, .inr (.inl 8, 0)), (1, .inl (.inl x1)), (2, .inl (.inl x2))], [], r2.2)) rfl hg4 ?_
          exact yG_w [] rfl (t_X8_move_b21 r2.2 res h)
        | false =>
          rw [hg4] at h
          dsimp only [cond] at h
          refine yG_f (C' := (16, [(0, .inr (.inl 8, 0)), (1, .inl (.inl x1)), (2, .inl (.inl x2))], [], r2.2)) rfl hg4 ?_
          refine yG_n (n := 2) (C' := (18, [(0, .inr (.inl 8, 0)), (1, .inl (.inl x1)), (2, .inl (.inl x2))], [.inl (.inl x2), .inl (.inl x1)], r2.2)) rfl ?_
          cases hg5 : ycP .ne x1 x2 with
          | true =>
            rw [hg5] at h
            dsimp only [cond] at h
            refine yG_t (C' := (23, [(0, .inr (.inl 8, 0)), (1, .inl (.inl x1)), (2, .inl (.inl x2))], [], r2.2)) rfl hg5 ?_
            refine yG_n (n := 3) (C' := (26, [(0, .inr (.inl 8, 0)), (1, .inl (.inl x1)), (2, .inl (.inl x2))], [.inl (.inl x2), .inl (.inl x1), .inr (.inl 8, 0)], r2.2)) rfl ?_
            cases hr6 : f_X8_moves N r2.2 x1 x2 with
            | none => rw [hr6] at h; dsimp only at h; cases h
            | some r3 =>
              rw [hr6] at h
              dsimp only at h
              refine yG_c (C1 := (29, [(0, .inr (.inl 8, 0)), (1, .inl (.inl x1)), (2, .inl (.inl x2))], [], r3.2)) rfl (e_X8_moves hr6) rfl ?_
              refine yG_n (n := 5) (C' := (37, [(0, .inr (.inl 8, 0)), (1, .inl (.inl x1)), (2, .inl (.inl x2))], [.inl (.inl (yad 7 x1)), .inr (.inr (0, 393), 1)], r3.2)) rfl ?_
              cases hg7 : yin (yad 7 x1) 393 with
              | false => rw [hg7] at h; dsimp only [cond] at h; cases h
              | true =>
                rw [hg7] at h
                dsimp only [cond] at h
                refine yG_t (C' := (38, [(0, .inr (.inl 8, 0)), (1, .inl (.inl x1)), (2, .inl (.inl x2))], [.inl (.inl (r3.2.1 1 (yad 7 x1).toNat))], r3.2)) rfl hg7 ?_
                cases hr8 : f_X8_bitsOf N r3.2 (r3.2.1 1 (yad 7 x1).toNat) with
                | none => rw [hr8] at h; dsimp only at h; cases h
                | some r4 =>
                  rw [hr8] at h
                  dsimp only at h
                  refine yG_c (C1 := (41, [(0, .inr (.inl 8, 0)), (1, .inl (.inl x1)), (2, .inl (.inl x2))], [.inl (.inl r4.1)], r4.2)) rfl (e_X8_bitsOf hr8) rfl ?_
                  have h := Option.some.inj h
                  subst h
                  dsimp only
                  exact yG_r rfl rfl
          | false =>
            rw [hg5] at h
            dsimp only [cond] at h
            refine yG_f (C' := (21, [(0, .inr (.inl 8, 0)), (1, .inl (.inl x1)), (2, .inl (.inl x2))], [], r2.2)) rfl hg5 ?_
            exact yG_w [] rfl (t_X8_move_b21 r2.2 res h)
set_option maxRecDepth 100000 in
set_option maxHeartbeats 4000000 in
theorem m_X8_move {N : Nat} {X : zXT} (hX : zXok X) (hN : zXn X) (l : Launch) {sh : List yH} : yMet X vwCl yct sh l yX8_move wsX8_move { frames := 3, cells := 0, slots := 0, locals := 110 } (F_X8_move N) :=
  ymeth (tb := tb_X8_move N) (pr := pr_X8_move) (rt := 1) (own := RX8) hX (by decide +kernel) rfl rfl ⟨Nat.le_of_ble_eq_true rfl, Nat.le_of_ble_eq_true rfl⟩
    (zfl_all (List.forall_mem_cons.mpr ⟨zfl_X8 (fun w h => List.mem_cons_of_mem _ (List.mem_append_right _ h)) (List.mem_of_getElem? (i := 1) rfl) (by decide) (by decide), fun _ h => absurd h List.not_mem_nil⟩))
    (zco_all (fun _ h => absurd h List.not_mem_nil)) (zlc_all (fun _ h => absurd h List.not_mem_nil))
    (List.forall_mem_cons.mpr ⟨ycal_V hX (m_X8_isHouse hX hN l) rfl (fun s args hts => cwV 1 hts gX8_move_X8_isHouse rfl rfl rfl (by decide +kernel) ⟨Nat.le_of_ble_eq_true rfl, Nat.le_of_ble_eq_true rfl⟩), List.forall_mem_cons.mpr ⟨ycal_V hX (m_X8_moves hX hN l) rfl (fun s args hts => cwV 2 hts gX8_move_X8_moves rfl rfl rfl (by decide +kernel) ⟨Nat.le_of_ble_eq_true rfl, Nat.le_of_ble_eq_true rfl⟩), fun _ h => absurd h List.not_mem_nil⟩⟩)
    (List.forall_mem_cons.mpr ⟨ycal_S hX (m_X8_bitsOf hX hN l) (fun s args hts => va_cwS 1 hts gX8_move_X8_bitsOf rfl rfl rfl (by decide +kernel) ⟨Nat.le_of_ble_eq_true rfl, Nat.le_of_ble_eq_true rfl⟩), fun _ h => absurd h List.not_mem_nil⟩)
    (zmm_all (fun _ h => absurd h List.not_mem_nil)) (fun _ h => absurd h List.not_mem_nil) (zpr_all hp_X8_move) (fun as σ res h => by
      unfold F_X8_move at h
      split at h
      · rename_i x1 x2
        cases hr : f_X8_move N σ x1 x2 with
        | none => rw [hr] at h; cases h
        | some r =>
          rw [hr] at h
          cases h
          exact ⟨Nat.le_of_ble_eq_true rfl, t_X8_move σ x1 x2 r hr⟩
      · cases h)
noncomputable def pr_X8_next : List (Nat × Instr × Nat) := [(0, .aload_n 0, 1), (1, .getfield 97, 3), (4, .ifCond .le 4, 3), (7, .return_, 1), (8, .aload_n 0, 1), (9, .aload_n 0, 1), (10, .getfield 106, 3), (13, .invokevirtual 109, 3), (16, .bipush 32, 2), (18, .if_icmp .ne 16, 3), (21, .aload_n 0, 1), (22, .dup, 1), (23, .getfield 106, 3), (26, .iconst 1, 1), (27, .iadd, 1), (28, .putfield 106, 3), (31, .goto (-23), 3), (34, .aload_n 0, 1), (35, .aload_n 0, 1), (36, .getfield 106, 3), (39, .putfield 100, 3), (42, .aload_n 0, 1), (43, .aload_n 0, 1), (44, .getfield 106, 3), (47, .invokevirtual 109, 3), (50, .istore_n 1, 1), (51, .iload_n 1, 1), (52, .ifCond .ge 11, 3), (55, .aload_n 0, 1), (56, .iconst 0, 1), (57, .putfield 125, 3), (60, .goto 214, 3), (63, .iload_n 1, 1), (64, .i2l, 1), (65, .ldc2_w 128, 3), (68, .ldc2_w 130, 3), (71, .invokestatic 90, 3), (74, .ifCond .eq 42, 3), (77, .aload_n 0, 1), (78, .iconst 1, 1), (79, .putfield 125, 3), (82, .aload_n 0, 1), (83, .aload_n 0, 1), (84, .getfield 106, 3), (87, .invokevirtual 109, 3), (90, .i2l, 1), (91, .ldc2_w 128, 3), (94, .ldc2_w 130, 3), (97, .invokestatic 90, 3), (100, .ifCond .eq 174, 3), (103, .aload_n 0, 1), (104, .dup, 1), (105, .getfield 106, 3), (108, .iconst 1, 1), (109, .iadd, 1), (110, .putfield 106, 3), (113, .goto (-31), 3), (116, .iload_n 1, 1), (117, .i2l, 1), (118, .ldc2_w 132, 3), (121, .ldc2_w 134, 3), (124, .invokestatic 90, 3), (127, .ifCond .eq 116, 3), (130, .aload_n 0, 1), (131, .iconst 2, 1), (132, .putfield 125, 3), (135, .aload_n 0, 1), (136, .iconst 0, 1), (137, .putfield 136, 3), (140, .aload_n 0, 1), (141, .aload_n 0, 1), (142, .getfield 106, 3), (145, .invokevirtual 109, 3), (148, .i2l, 1), (149, .ldc2_w 132, 3), (152, .ldc2_w 134, 3), (155, .invokestatic 90, 3), (158, .ifCond .eq 59, 3), (161, .aload_n 0, 1), (162, .aload_n 0, 1), (163, .getfield 106, 3), (166, .aload_n 0, 1), (167, .getfield 100, 3), (170, .isub, 1), (171, .iconst 2, 1), (172, .if_icmp .ge 25, 3), (175, .bipush 10, 2), (177, .aload_n 0, 1), (178, .getfield 136, 3), (181, .imul, 1), (182, .aload_n 0, 1), (183, .aload_n 0, 1), (184, .getfield 106, 3), (187, .invokevirtual 109, 3), (190, .iadd, 1), (191, .bipush 48, 2), (193, .isub, 1), (194, .goto 7, 3), (197, .aload_n 0, 1), (198, .getfield 136, 3), (201, .putfield 136, 3), (204, .aload_n 0, 1), (205, .dup, 1), (206, .getfield 106, 3), (209, .iconst 1, 1), (210, .iadd, 1), (211, .putfield 106, 3), (214, .goto (-74), 3), (217, .aload_n 0, 1), (218, .aload_n 0, 1), (219, .getfield 106, 3), (222, .aload_n 0, 1), (223, .getfield 100, 3), (226, .isub, 1), (227, .iconst 2, 1), (228, .if_icmp .gt 7, 3), (231, .iconst 1, 1), (232, .goto 4, 3), (235, .iconst 0, 1), (236, .iconst 1, 1), (237, .invokevirtual 139, 3), (240, .goto 34, 3), (243, .aload_n 0, 1), (244, .iconst 3, 1), (245, .putfield 125, 3), (248, .aload_n 0, 1), (249, .iload_n 1, 1), (250, .bipush 59, 2), (252, .if_icmp .ne 7, 3), (255, .iconst 1, 1), (256, .goto 4, 3), (259, .iconst 0, 1), (260, .iconst 1, 1), (261, .invokevirtual 139, 3), (264, .aload_n 0, 1), (265, .dup, 1), (266, .getfield 106, 3), (269, .iconst 1, 1), (270, .iadd, 1), (271, .putfield 106, 3), (274, .return_, 1)]
set_option maxRecDepth 100000 in
theorem hp_X8_next : pr_X8_next.all (fun x => decide (decode cX8_next x.1 = .ok x.2)) = true := by decide +kernel
noncomputable def f_X8_next_b274 (N : Nat) (σ : yS) : Option (Int × yS) :=
  some (0, σ)
noncomputable def f_X8_next_b260 (N : Nat) (σ : yS) (s0 : Int) : Option (Int × yS) :=
  match f_X8_needs N σ s0 1 with
  | none => none
  | some r5 => f_X8_next_b274 N (yw r5.2 0 18 (yad (r5.2.1 0 18) 1))
noncomputable def f_X8_next_b236 (N : Nat) (σ : yS) (s0 : Int) : Option (Int × yS) :=
  match f_X8_needs N σ s0 1 with
  | none => none
  | some r8 => f_X8_next_b274 N r8.2
noncomputable def f_X8_next_b206 (N : Nat) (k140 : yS → Option (Int × yS)) (σ : yS) : Option (Int × yS) :=
  k140 (yw σ 0 18 (yad (σ.1 0 18) 1))
noncomputable def f_X8_next_b201 (N : Nat) (k140 : yS → Option (Int × yS)) (σ : yS) (s0 : Int) : Option (Int × yS) :=
  f_X8_next_b206 N k140 (yw σ 0 21 s0)
noncomputable def f_X8_next_b140 (N : Nat) : Nat → yS → Option (Int × yS) := yfix (fun _ => none) (fun ih σ =>
    match f_X8_look N σ (σ.1 0 18) with
    | none => none
    | some r6 => match f_X8_in N r6.2 r6.1 48 57 with
      | none => none
      | some r7 => bif ycP .eq r7.1 0 then
          bif ycP .gt (ysu (r7.2.1 0 18) (r7.2.1 0 19)) 2 then
            f_X8_next_b236 N r7.2 0
          else
            f_X8_next_b236 N r7.2 1
        else
          bif ycP .ge (ysu (r7.2.1 0 18) (r7.2.1 0 19)) 2 then
            f_X8_next_b201 N ih r7.2 (r7.2.1 0 21)
          else
            match f_X8_look N r7.2 (r7.2.1 0 18) with
            | none => none
            | some r9 => f_X8_next_b201 N ih r9.2 (ysu (yad (ymu 10 (r7.2.1 0 21)) r9.1) 48))
theorem q_X8_next_b140 (N : Nat) (n : Nat) (σ : yS) : f_X8_next_b140 N (n + 1) σ =
    (match f_X8_look N σ (σ.1 0 18) with
    | none => none
    | some r6 => match f_X8_in N r6.2 r6.1 48 57 with
      | none => none
      | some r7 => bif ycP .eq r7.1 0 then
          bif ycP .gt (ysu (r7.2.1 0 18) (r7.2.1 0 19)) 2 then
            f_X8_next_b236 N r7.2 0
          else
            f_X8_next_b236 N r7.2 1
        else
          bif ycP .ge (ysu (r7.2.1 0 18) (r7.2.1 0 19)) 2 then
            f_X8_next_b201 N (f_X8_next_b140 N n) r7.2 (r7.2.1 0 21)
          else
            match f_X8_look N r7.2 (r7.2.1 0 18) with
            | none => none
            | some r9 => f_X8_next_b201 N (f_X8_next_b140 N n) r9.2 (ysu (yad (ymu 10 (r7.2.1 0 21)) r9.1) 48)) := rfl
noncomputable def f_X8_next_b82 (N : Nat) : Nat → yS → Option (Int × yS) := yfix (fun _ => none) (fun ih σ =>
    match f_X8_look N σ (σ.1 0 18) with
    | none => none
    | some r10 => match f_X8_in N r10.2 r10.1 97 122 with
      | none => none
      | some r11 => bif ycP .eq r11.1 0 then
          f_X8_next_b274 N r11.2
        else
          ih (yw r11.2 0 18 (yad (r11.2.1 0 18) 1)))
theorem q_X8_next_b82 (N : Nat) (n : Nat) (σ : yS) : f_X8_next_b82 N (n + 1) σ =
    (match f_X8_look N σ (σ.1 0 18) with
    | none => none
    | some r10 => match f_X8_in N r10.2 r10.1 97 122 with
      | none => none
      | some r11 => bif ycP .eq r11.1 0 then
          f_X8_next_b274 N r11.2
        else
          (f_X8_next_b82 N n) (yw r11.2 0 18 (yad (r11.2.1 0 18) 1))) := rfl
noncomputable def f_X8_next_b44 (N : Nat) (σ : yS) : Option (Int × yS) :=
  match f_X8_look N σ (σ.1 0 18) with
  | none => none
  | some r2 => bif ycP .ge r2.1 0 then
      match f_X8_in N r2.2 r2.1 97 122 with
      | none => none
      | some r3 => bif ycP .eq r3.1 0 then
          match f_X8_in N r3.2 r2.1 48 57 with
          | none => none
          | some r4 => bif ycP .eq r4.1 0 then
              bif ycP .ne r2.1 59 then
                f_X8_next_b260 N (yw r4.2 0 20 3) 0
              else
                f_X8_next_b260 N (yw r4.2 0 20 3) 1
            else
              f_X8_next_b140 N N (yw (yw r4.2 0 20 2) 0 21 0)
        else
          f_X8_next_b82 N N (yw r3.2 0 20 1)
    else
      f_X8_next_b274 N (yw r2.2 0 20 0)
noncomputable def f_X8_next_b8 (N : Nat) : Nat → yS → Option (Int × yS) := yfix (fun _ => none) (fun ih σ =>
    match f_X8_look N σ (σ.1 0 18) with
    | none => none
    | some r1 => bif ycP .ne r1.1 32 then
        f_X8_next_b44 N (yw r1.2 0 19 (r1.2.1 0 18))
      else
        ih (yw r1.2 0 18 (yad (r1.2.1 0 18) 1)))
theorem q_X8_next_b8 (N : Nat) (n : Nat) (σ : yS) : f_X8_next_b8 N (n + 1) σ =
    (match f_X8_look N σ (σ.1 0 18) with
    | none => none
    | some r1 => bif ycP .ne r1.1 32 then
        f_X8_next_b44 N (yw r1.2 0 19 (r1.2.1 0 18))
      else
        (f_X8_next_b8 N n) (yw r1.2 0 18 (yad (r1.2.1 0 18) 1))) := rfl
noncomputable def f_X8_next (N : Nat) (σ : yS) : Option (Int × yS) :=
  bif ycP .le (σ.1 0 22) 0 then
    f_X8_next_b8 N N σ
  else
    some (0, σ)
noncomputable def F_X8_next (N : Nat) : yF := fun as σ => match as with
  | [.inr (.inl 8, 0)] => (f_X8_next N σ).map (fun r => (none, r.2))
  | _ => none
theorem e_X8_next {N : Nat} {σ : yS} {r : Int × yS} (h : f_X8_next N σ = some r) : F_X8_next N [.inr (.inl 8, 0)] σ = some (none, r.2) := by
  show (f_X8_next N σ).map (fun r => ((none, r.2) : yR)) = _
  rw [h]
  rfl
noncomputable def tb_X8_next (N : Nat) : yTb := ([(97, 8, 22, 0), (100, 8, 19, 0), (106, 8, 18, 0), (125, 8, 20, 0), (136, 8, 21, 0)], [], [(128, 97), (130, 122), (132, 48), (134, 57)], [(109, 2, 8, F_X8_look N), (139, 3, 8, F_X8_needs N)], [(90, 3, F_X8_in N)], [], [])
abbrev G_X8_next (N : Nat) (X : zXT) (sh : List yH) (l : Launch) (rm : Room) : yC → yR → Prop := yGoes X vwCl yct sh l rm cX8_next 2 wsX8_next RX8 (tb_X8_next N) pr_X8_next 0
set_option maxRecDepth 100000 in
set_option maxHeartbeats 4000000 in
theorem t_X8_next_b274 {N : Nat} {X : zXT} {sh : List yH} {l : Launch} {rm : Room} (σ : yS) (res : Int × yS) (h : f_X8_next_b274 N σ = some res) : G_X8_next N X sh l rm (274, [], [], σ) (none, res.2) := by
  unfold f_X8_next_b274 at h
  have h := Option.some.inj h
  subst h
  dsimp only
  exact yG_r rfl rfl
set_option maxRecDepth 100000 in
set_option maxHeartbeats 4000000 in
theorem t_X8_next_b260 {N : Nat} {X : zXT} {sh : List yH} {l : Launch} {rm : Room} (σ : yS) (s0 : Int) (res : Int × yS) (h : f_X8_next_b260 N σ s0 = some res) : G_X8_next N X sh l rm (260, [(0, .inr (.inl 8, 0))], [.inl (.inl s0), .inr (.inl 8, 0)], σ) (none, res.2) := by
  unfold f_X8_next_b260 at h
  refine yG_n (n := 1) (C' := (261, [(0, .inr (.inl 8, 0))], [.inl (.inl 1), .inl (.inl s0), .inr (.inl 8, 0)], σ)) rfl ?_
  cases hr1 : f_X8_needs N σ s0 1 with
  | none => rw [hr1] at h; dsimp only at h; cases h
  | some r5 =>
    rw [hr1] at h
    dsimp only at h
    refine yG_c (C1 := (264, [(0, .inr (.inl 8, 0))], [], r5.2)) rfl (e_X8_needs hr1) rfl ?_
    refine yG_n (n := 6) (C' := (274, [(0, .inr (.inl 8, 0))], [], yw r5.2 0 18 (yad (r5.2.1 0 18) 1))) rfl ?_
    exact yG_w [] rfl (t_X8_next_b274 (yw r5.2 0 18 (yad (r5.2.1 0 18) 1)) res h)
set_option maxRecDepth 100000 in
set_option maxHeartbeats 4000000 in
theorem t_X8_next_b236 {N : Nat} {X : zXT} {sh : List yH} {l : Launch} {rm : Room} (σ : yS) (s0 : Int) (res : Int × yS) (h : f_X8_next_b236 N σ s0 = some res) : G_X8_next N X sh l rm (236, [], [.inl (.inl s0), .inr (.inl 8, 0)], σ) (none, res.2) := by
  unfold f_X8_next_b236 at h
  refine yG_n (n := 1) (C' := (237, [], [.inl (.inl 1), .inl (.inl s0), .inr (.inl 8, 0)], σ)) rfl ?_
  cases hr2 : f_X8_needs N σ s0 1 with
  | none => rw [hr2] at h; dsimp only at h; cases h
  | some r8 =>
    rw [hr2] at h
    dsimp only at h
    refine yG_c (C1 := (240, [], [], r8.2)) rfl (e_X8_needs hr2) rfl ?_
    refine yG_n (n := 1) (C' := (274, [], [], r8.2)) rfl ?_
    exact t_X8_next_b274 r8.2 res h
set_option maxRecDepth 100000 in
set_option maxHeartbeats 4000000 in
theorem t_X8_next_b206 {N : Nat} {X : zXT} {sh : List yH} {l : Launch} {rm : Room} (k140 : yS → Option (Int × yS)) (hk140 : ∀ (σ : yS) (res : Int × yS), k140 σ = some res → G_X8_next N X sh l rm (140, [(0, .inr (.inl 8, 0))], [], σ) (none, res.2)) (σ : yS) (res : Int × yS) (h : f_X8_next_b206 N k140 σ = some res) : G_X8_next N X sh l rm (206, [(0, .inr (.inl 8, 0))], [.inr (.inl 8, 0), .inr (.inl 8, 0)], σ) (none, res.2) := by
  unfold f_X8_next_b206 at h
  refine yG_n (n := 5) (C' := (140, [(0, .inr (.inl 8, 0))], [], yw σ 0 18 (yad (σ.1 0 18) 1))) rfl ?_
  exact hk140 (yw σ 0 18 (yad (σ.1 0 18) 1)) res h
set_option maxRecDepth 100000 in
set_option maxHeartbeats 4000000 in
theorem t_X8_next_b201 {N : Nat} {X : zXT} {sh : List yH} {l : Launch} {rm : Room} (k140 : yS → Option (Int × yS)) (hk140 : ∀ (σ : yS) (res : Int × yS), k140 σ = some res → G_X8_next N X sh l rm (140, [(0, .inr (.inl 8, 0))], [], σ) (none, res.2)) (σ : yS) (s0 : Int) (res : Int × yS) (h : f_X8_next_b201 N k140 σ s0 = some res) : G_X8_next N X sh l rm (201, [(0, .inr (.inl 8, 0))], [.inl (.inl s0), .inr (.inl 8, 0)], σ) (none, res.2) := by
  unfold f_X8_next_b201 at h
  refine yG_n (n := 3) (C' := (206, [(0, .inr (.inl 8, 0))], [.inr (.inl 8, 0), .inr (.inl 8, 0)], yw σ 0 21 s0)) rfl ?_
  exact t_X8_next_b206 k140 hk140 (yw σ 0 21 s0) res h
set_option maxRecDepth 100000 in
set_option maxHeartbeats 4000000 in
theorem t_X8_next_b140 {N : Nat} {X : zXT} {sh : List yH} {l : Launch} {rm : Room} : ∀ (n : Nat) (σ : yS) (res : Int × yS), f_X8_next_b140 N n σ = some res → G_X8_next N X sh l rm (140, [(0, .inr (.inl 8, 0))], [], σ) (none, res.2) := by
  intro n
  induction n with
  | zero => intro σ res h; exact (yno h).elim
  | succ n ih =>
    intro σ res h
    rw [q_X8_next_b140] at h
    refine yG_n (n := 3) (C' := (145, [(0, .inr (.inl 8, 0))], [.inl (.inl (σ.1 0 18)), .inr (.inl 8, 0)], σ)) rfl ?_
    cases hr3 : f_X8_look N σ (σ.1 0 18) with
    | none => rw [hr3] at h; dsimp only at h; cases h
    | some r6 =>
      rw [hr3] at h
      dsimp only at h
      refine yG_c (C1 := (148, [(0, .inr (.inl 8, 0))], [.inl (.inl r6.1)], r6.2)) rfl (e_X8_look hr3) rfl ?_
      refine yG_n (n := 3) (C' := (155, [(0, .inr (.inl 8, 0))], [.inl (.inr 57), .inl (.inr 48), .inl (.inr r6.1)], r6.2)) rfl ?_
      cases hr4 : f_X8_in N r6.2 r6.1 48 57 with
      | none => rw [hr4] at h; dsimp only at h; cases h
      | some r7 =>
        rw [hr4] at h
        dsimp only at h
        refine yG_c (C1 := (158, [(0, .inr (.inl 8, 0))], [.inl (.inl r7.1)], r7.2)) rfl (e_X8_in hr4) rfl ?_
        cases hg5 : ycP .eq r7.1 0 with
        | true =>
          rw [hg5] at h
          dsimp only [cond] at h
          refine yG_t (C' := (217, [(0, .inr (.inl 8, 0))], [], r7.2)) rfl hg5 ?_
          refine yG_n (n := 7) (C' := (228, [(0, .inr (.inl 8, 0))], [.inl (.inl 2), .inl (.inl (ysu (r7.2.1 0 18) (r7.2.1 0 19))), .inr (.inl 8, 0)], r7.2)) rfl ?_
          cases hg6 : ycP .gt (ysu (r7.2.1 0 18) (r7.2.1 0 19)) 2 with
          | true =>
            rw [hg6] at h
            dsimp only [cond] at h
            refine yG_t (C' := (235, [(0, .inr (.inl 8, 0))], [.inr (.inl 8, 0)], r7.2)) rfl hg6 ?_
            refine yG_n (n := 1) (C' := (236, [(0, .inr (.inl 8, 0))], [.inl (.inl 0), .inr (.inl 8, 0)], r7.2)) rfl ?_
            exact yG_w [] rfl (t_X8_next_b236 r7.2 0 res h)
          | false =>
            rw [hg6] at h
            dsimp only [cond] at h
            refine yG_f (C' := (231, [(0, .inr (.inl 8, 0))], [.inr (.inl 8, 0)], r7.2)) rfl hg6 ?_
            refine yG_n (n := 2) (C' := (236, [(0, .inr (.inl 8, 0))], [.inl (.inl 1), .inr (.inl 8, 0)], r7.2)) rfl ?_
            exact yG_w [] rfl (t_X8_next_b236 r7.2 1 res h)
        | false =>
          rw [hg5] at h
          dsimp only [cond] at h
          refine yG_f (C' := (161, [(0, .inr (.inl 8, 0))], [], r7.2)) rfl hg5 ?_
          refine yG_n (n := 7) (C' := (172, [(0, .inr (.inl 8, 0))], [.inl (.inl 2), .inl (.inl (ysu (r7.2.1 0 18) (r7.2.1 0 19))), .inr (.inl 8, 0)], r7.2)) rfl ?_
          cases hg7 : ycP .ge (ysu (r7.2.1 0 18) (r7.2.1 0 19)) 2 with
          | true =>
            rw [hg7] at h
            dsimp only [cond] at h
            refine yG_t (C' := (197, [(0, .inr (.inl 8, 0))], [.inr (.inl 8, 0)], r7.2)) rfl hg7 ?_
            refine yG_n (n := 2) (C' := (201, [(0, .inr (.inl 8, 0))], [.inl (.inl (r7.2.1 0 21)), .inr (.inl 8, 0)], r7.2)) rfl ?_
            exact t_X8_next_b201 (f_X8_next_b140 N n) ih r7.2 (r7.2.1 0 21) res h
          | false =>
            rw [hg7] at h
            dsimp only [cond] at h
            refine yG_f (C' := (175, [(0, .inr (.inl 8, 0))], [.inr (.inl 8, 0)], r7.2)) rfl hg7 ?_
            refine yG_n (n := 7) (C' := (187, [(0, .inr (.inl 8, 0))], [.inl (.inl (r7.2.1 0 18)), .inr (.inl 8, 0), .inl (.inl (ymu 10 (r7.2.1 0 21))), .inr (.inl 8, 0)], r7.2)) rfl ?_
            cases hr8 : f_X8_look N r7.2 (r7.2.1 0 18) with
            | none => rw [hr8] at h; dsimp only at h; cases h
            | some r9 =>
              rw [hr8] at h
              dsimp only at h
              refine yG_c (C1 := (190, [(0, .inr (.inl 8, 0))], [.inl (.inl r9.1), .inl (.inl (ymu 10 (r7.2.1 0 21))), .inr (.inl 8, 0)], r9.2)) rfl (e_X8_look hr8) rfl ?_
              refine yG_n (n := 4) (C' := (201, [(0, .inr (.inl 8, 0))], [.inl (.inl (ysu (yad (ymu 10 (r7.2.1 0 21)) r9.1) 48)), .inr (.inl 8, 0)], r9.2)) rfl ?_
              exact t_X8_next_b201 (f_X8_next_b140 N n) ih r9.2 (ysu (yad (ymu 10 (r7.2.1 0 21)) r9.1) 48) res h
set_option maxRecDepth 100000 in
set_option maxHeartbeats 4000000 in
theorem t_X8_next_b82 {N : Nat} {X : zXT} {sh : List yH} {l : Launch} {rm : Room} : ∀ (n : Nat) (σ : yS) (res : Int × yS), f_X8_next_b82 N n σ = some res → G_X8_next N X sh l rm (82, [(0, .inr (.inl 8, 0))], [], σ) (none, res.2) := by
  intro n
  induction n with
  | zero => intro σ res h; exact (yno h).elim
  | succ n ih =>
    intro σ res h
    rw [q_X8_next_b82] at h
    refine yG_n (n := 3) (C' := (87, [(0, .inr (.inl 8, 0))], [.inl (.inl (σ.1 0 18)), .inr (.inl 8, 0)], σ)) rfl ?_
    cases hr9 : f_X8_look N σ (σ.1 0 18) with
    | none => rw [hr9] at h; dsimp only at h; cases h
    | some r10 =>
      rw [hr9] at h
      dsimp only at h
      refine yG_c (C1 := (90, [(0, .inr (.inl 8, 0))], [.inl (.inl r10.1)], r10.2)) rfl (e_X8_look hr9) rfl ?_
      refine yG_n (n := 3) (C' := (97, [(0, .inr (.inl 8, 0))], [.inl (.inr 122), .inl (.inr 97), .inl (.inr r10.1)], r10.2)) rfl ?_
      cases hr10 : f_X8_in N r10.2 r10.1 97 122 with
      | none => rw [hr10] at h; dsimp only at h; cases h
      | some r11 =>
        rw [hr10] at h
        dsimp only at h
        refine yG_c (C1 := (100, [(0, .inr (.inl 8, 0))], [.inl (.inl r11.1)], r11.2)) rfl (e_X8_in hr10) rfl ?_
        cases hg11 : ycP .eq r11.1 0 with
        | true =>
          rw [hg11] at h
          dsimp only [cond] at h
          refine yG_t (C' := (274, [(0, .inr (.inl 8, 0))], [], r11.2)) rfl hg11 ?_
          exact yG_w [] rfl (t_X8_next_b274 r11.2 res h)
        | false =>
          rw [hg11] at h
          dsimp only [cond] at h
          refine yG_f (C' := (103, [(0, .inr (.inl 8, 0))], [], r11.2)) rfl hg11 ?_
          refine yG_n (n := 7) (C' := (82, [(0, .inr (.inl 8, 0))], [], yw r11.2 0 18 (yad (r11.2.1 0 18) 1))) rfl ?_
          exact ih (yw r11.2 0 18 (yad (r11.2.1 0 18) 1)) res h
set_option maxRecDepth 100000 in
set_option maxHeartbeats 4000000 in
theorem t_X8_next_b44 {N : Nat} {X : zXT} {sh : List yH} {l : Launch} {rm : Room} (σ : yS) (res : Int × yS) (h : f_X8_next_b44 N σ = some res) : G_X8_next N X sh l rm (44, [(0, .inr (.inl 8, 0))], [.inr (.inl 8, 0), .inr (.inl 8, 0)], σ) (none, res.2) := by
  unfold f_X8_next_b44 at h
  refine yG_n (n := 1) (C' := (47, [(0, .inr (.inl 8, 0))], [.inl (.inl (σ.1 0 18)), .inr (.inl 8, 0)], σ)) rfl ?_
  cases hr12 : f_X8_look N σ (σ.1 0 18) with
  | none => rw [hr12] at h; dsimp only at h; cases h
  | some r2 =>
    rw [hr12] at h
    dsimp only at h
    refine yG_c (C1 := (50, [(0, .inr (.inl 8, 0))], [.inl (.inl r2.1)], r2.2)) rfl (e_X8_look hr12) rfl ?_
    refine yG_n (n := 2) (C' := (52, [(1, .inl (.inl r2.1)), (0, .inr (.inl 8, 0))], [.inl (.inl r2.1)], r2.2)) rfl ?_
    cases hg13 : ycP .ge r2.1 0 with
    | true =>
      rw [hg13] at h
      dsimp only [cond] at h
      refine yG_t (C' := (63, [(1, .inl (.inl r2.1)), (0, .inr (.inl 8, 0))], [], r2.2)) rfl hg13 ?_
      refine yG_n (n := 4) (C' := (71, [(1, .inl (.inl r2.1)), (0, .inr (.inl 8, 0))], [.inl (.inr 122), .inl (.inr 97), .inl (.inr r2.1)], r2.2)) rfl ?_
      cases hr14 : f_X8_in N r2.2 r2.1 97 122 with
      | none => rw [hr14] at h; dsimp only at h; cases h
      | some r3 =>
        rw [hr14] at h
        dsimp only at h
        refine yG_c (C1 := (74, [(1, .inl (.inl r2.1)), (0, .inr (.inl 8, 0))], [.inl (.inl r3.1)], r3.2)) rfl (e_X8_in hr14) rfl ?_
        cases hg15 : ycP .eq r3.1 0 with
        | true =>
          rw [hg15] at h
          dsimp only [cond] at h
          refine yG_t (C' := (116, [(1, .inl (.inl r2.1)), (0, .inr (.inl 8, 0))], [], r3.2)) rfl hg15 ?_
          refine yG_n (n := 4) (C' := (124, [(1, .inl (.inl r2.1)), (0, .inr (.inl 8, 0))], [.inl (.inr 57), .inl (.inr 48), .inl (.inr r2.1)], r3.2)) rfl ?_
          cases hr16 : f_X8_in N r3.2 r2.1 48 57 with
          | none => rw [hr16] at h; dsimp only at h; cases h
          | some r4 =>
            rw [hr16] at h
            dsimp only at h
            refine yG_c (C1 := (127, [(1, .inl (.inl r2.1)), (0, .inr (.inl 8, 0))], [.inl (.inl r4.1)], r4.2)) rfl (e_X8_in hr16) rfl ?_
            cases hg17 : ycP .eq r4.1 0 with
            | true =>
              rw [hg17] at h
              dsimp only [cond] at h
              refine yG_t (C' := (243, [(1, .inl (.inl r2.1)), (0, .inr (.inl 8, 0))], [], r4.2)) rfl hg17 ?_
              refine yG_n (n := 6) (C' := (252, [(1, .inl (.inl r2.1)), (0, .inr (.inl 8, 0))], [.inl (.inl 59), .inl (.inl r2.1), .inr (.inl 8, 0)], yw r4.2 0 20 3)) rfl ?_
              cases hg18 : ycP .ne r2.1 59 with
              | true =>
                rw [hg18] at h
                dsimp only [cond] at h
                refine yG_t (C' := (259, [(1, .inl (.inl r2.1)), (0, .inr (.inl 8, 0))], [.inr (.inl 8, 0)], yw r4.2 0 20 3)) rfl hg18 ?_
                refine yG_n (n := 1) (C' := (260, [(1, .inl (.inl r2.1)), (0, .inr (.inl 8, 0))], [.inl (.inl 0), .inr (.inl 8, 0)], yw r4.2 0 20 3)) rfl ?_
                exact yG_w [1] rfl (t_X8_next_b260 (yw r4.2 0 20 3) 0 res h)
              | false =>
                rw [hg18] at h
                dsimp only [cond] at h
                refine yG_f (C' := (255, [(1, .inl (.inl r2.1)), (0, .inr (.inl 8, 0))], [.inr (.inl 8, 0)], yw r4.2 0 20 3)) rfl hg18 ?_
                refine yG_n (n := 2) (C' := (260, [(1, .inl (.inl r2.1)), (0, .inr (.inl 8, 0))], [.inl (.inl 1), .inr (.inl 8, 0)], yw r4.2 0 20 3)) rfl ?_
                exact yG_w [1] rfl (t_X8_next_b260 (yw r4.2 0 20 3) 1 res h)
            | false =>
              rw [hg17] at h
              dsimp only [cond] at h
              refine yG_f (C' := (130, [(1, .inl (.inl r2.1)), (0, .inr (.inl 8, 0))], [], r4.2)) rfl hg17 ?_
              refine yG_n (n := 6) (C' := (140, [(1, .inl (.inl r2.1)), (0, .inr (.inl 8, 0))], [], yw (yw r4.2 0 20 2) 0 21 0)) rfl ?_
              exact yG_w [1] rfl (t_X8_next_b140 N (yw (yw r4.2 0 20 2) 0 21 0) res h)
        | false =>
          rw [hg15] at h
          dsimp only [cond] at h
          refine yG_f (C' := (77, [(1, .inl (.inl r2.1)), (0, .inr (.inl 8, 0))], [], r3.2)) rfl hg15 ?_
          refine yG_n (n := 3) (C' := (82, [(1, .inl (.inl r2.1)), (0, .inr (.inl 8, 0))], [], yw r3.2 0 20 1)) rfl ?_
          exact yG_w [1] rfl (t_X8_next_b82 N (yw r3.2 0 20 1) res h)
    | false =>
      rw [hg13] at h
      dsimp only [cond] at h
      refine yG_f (C' := (55, [(1, .inl (.inl r2.1)), (0, .inr (.inl 8, 0))], [], r2.2)) rfl hg13 ?_
      refine yG_n (n := 4) (C' := (274, [(1, .inl (.inl r2.1)), (0, .inr (.inl 8, 0))], [], yw r2.2 0 20 0)) rfl ?_
      exact yG_w [] rfl (t_X8_next_b274 (yw r2.2 0 20 0) res h)
set_option maxRecDepth 100000 in
set_option maxHeartbeats 4000000 in
theorem t_X8_next_b8 {N : Nat} {X : zXT} {sh : List yH} {l : Launch} {rm : Room} : ∀ (n : Nat) (σ : yS) (res : Int × yS), f_X8_next_b8 N n σ = some res → G_X8_next N X sh l rm (8, [(0, .inr (.inl 8, 0))], [], σ) (none, res.2) := by
  intro n
  induction n with
  | zero => intro σ res h; exact (yno h).elim
  | succ n ih =>
    intro σ res h
    rw [q_X8_next_b8] at h
    refine yG_n (n := 3) (C' := (13, [(0, .inr (.inl 8, 0))], [.inl (.inl (σ.1 0 18)), .inr (.inl 8, 0)], σ)) rfl ?_
    cases hr19 : f_X8_look N σ (σ.1 0 18) with
    | none => rw [hr19] at h; dsimp only at h; cases h
    | some r1 =>
      rw [hr19] at h
      dsimp only at h
      refine yG_c (C1 := (16, [(0, .inr (.inl 8, 0))], [.inl (.inl r1.1)], r1.2)) rfl (e_X8_look hr19) rfl ?_
      refine yG_n (n := 1) (C' := (18, [(0, .inr (.inl 8, 0))], [.inl (.inl 32), .inl (.inl r1.1)], r1.2)) rfl ?_
      cases hg20 : ycP .ne r1.1 32 with
      | true =>
        rw [hg20] at h
        dsimp only [cond] at h
        refine yG_t (C' := (34, [(0, .inr (.inl 8, 0))], [], r1.2)) rfl hg20 ?_
        refine yG_n (n := 6) (C' := (44, [(0, .inr (.inl 8, 0))], [.inr (.inl 8, 0), .inr (.inl 8, 0)], yw r1.2 0 19 (r1.2.1 0 18))) rfl ?_
        exact t_X8_next_b44 (yw r1.2 0 19 (r1.2.1 0 18)) res h
      | false =>
        rw [hg20] at h
        dsimp only [cond] at h
        refine yG_f (C' := (21, [(0, .inr (.inl 8, 0))], [], r1.2)) rfl hg20 ?_
        refine yG_n (n := 7) (C' := (8, [(0, .inr (.inl 8, 0))], [], yw r1.2 0 18 (yad (r1.2.1 0 18) 1))) rfl ?_
        exact ih (yw r1.2 0 18 (yad (r1.2.1 0 18) 1)) res h
set_option maxRecDepth 100000 in
set_option maxHeartbeats 4000000 in
theorem t_X8_next {N : Nat} {X : zXT} {sh : List yH} {l : Launch} {rm : Room} (σ : yS) (res : Int × yS) (h : f_X8_next N σ = some res) : G_X8_next N X sh l rm (0, [(0, .inr (.inl 8, 0))], [], σ) (none, res.2) := by
  unfold f_X8_next at h
  refine yG_n (n := 2) (C' := (4, [(0, .inr (.inl 8, 0))], [.inl (.inl (σ.1 0 22))], σ)) rfl ?_
  cases hg21 : ycP .le (σ.1 0 22) 0 with
  | true =>
    rw [hg21] at h
    dsimp only [cond] at h
    refine yG_t (C' := (8, [(0, .inr (.inl 8, 0))], [], σ)) rfl hg21 ?_
    exact t_X8_next_b8 N σ res h
  | false =>
    rw [hg21] at h
    dsimp only [cond] at h
    refine yG_f (C' := (7, [(0, .inr (.inl 8, 0))], [], σ)) rfl hg21 ?_
    have h := Option.some.inj h
    subst h
    dsimp only
    exact yG_r rfl rfl
set_option maxRecDepth 100000 in
set_option maxHeartbeats 4000000 in
theorem m_X8_next {N : Nat} {X : zXT} (hX : zXok X) (hN : zXn X) (l : Launch) {sh : List yH} : yMet X vwCl yct sh l yX8_next wsX8_next { frames := 2, cells := 0, slots := 0, locals := 89 } (F_X8_next N) :=
  ymeth (tb := tb_X8_next N) (pr := pr_X8_next) (rt := 0) (own := RX8) hX (by decide +kernel) rfl rfl ⟨Nat.le_of_ble_eq_true rfl, Nat.le_of_ble_eq_true rfl⟩
    (zfl_all (List.forall_mem_cons.mpr ⟨zfl_X8 (fun w h => List.mem_cons_of_mem _ (List.mem_append_right _ h)) (List.mem_of_getElem? (i := 1) rfl) (by decide) (by decide), List.forall_mem_cons.mpr ⟨zfl_X8 (fun w h => List.mem_cons_of_mem _ (List.mem_append_right _ h)) (List.mem_of_getElem? (i := 3) rfl) (by decide) (by decide), List.forall_mem_cons.mpr ⟨zfl_X8 (fun w h => List.mem_cons_of_mem _ (List.mem_append_right _ h)) (List.mem_of_getElem? (i := 2) rfl) (by decide) (by decide), List.forall_mem_cons.mpr ⟨zfl_X8 (fun w h => List.mem_cons_of_mem _ (List.mem_append_right _ h)) (List.mem_of_getElem? (i := 4) rfl) (by decide) (by decide), List.forall_mem_cons.mpr ⟨zfl_X8 (fun w h => List.mem_cons_of_mem _ (List.mem_append_right _ h)) (List.mem_of_getElem? (i := 9) rfl) (by decide) (by decide), fun _ h => absurd h List.not_mem_nil⟩⟩⟩⟩⟩))
    (zco_all (fun _ h => absurd h List.not_mem_nil)) (zlc_all (List.forall_mem_cons.mpr ⟨(List.mem_of_getElem? (i := 5) rfl), List.forall_mem_cons.mpr ⟨(List.mem_of_getElem? (i := 6) rfl), List.forall_mem_cons.mpr ⟨(List.mem_of_getElem? (i := 7) rfl), List.forall_mem_cons.mpr ⟨(List.mem_of_getElem? (i := 8) rfl), fun _ h => absurd h List.not_mem_nil⟩⟩⟩⟩))
    (List.forall_mem_cons.mpr ⟨ycal_V hX (m_X8_look hX hN l) rfl (fun s args hts => cwV 1 hts gX8_next_X8_look rfl rfl rfl (by decide +kernel) ⟨Nat.le_of_ble_eq_true rfl, Nat.le_of_ble_eq_true rfl⟩), List.forall_mem_cons.mpr ⟨ycal_V hX (m_X8_needs hX hN l) rfl (fun s args hts => cwV 2 hts gX8_next_X8_needs rfl rfl rfl (by decide +kernel) ⟨Nat.le_of_ble_eq_true rfl, Nat.le_of_ble_eq_true rfl⟩), fun _ h => absurd h List.not_mem_nil⟩⟩)
    (List.forall_mem_cons.mpr ⟨ycal_S hX (m_X8_in hX hN l) (fun s args hts => va_cwS 3 hts gX8_next_X8_in rfl rfl rfl (by decide +kernel) ⟨Nat.le_of_ble_eq_true rfl, Nat.le_of_ble_eq_true rfl⟩), fun _ h => absurd h List.not_mem_nil⟩)
    (zmm_all (fun _ h => absurd h List.not_mem_nil)) (fun _ h => absurd h List.not_mem_nil) (zpr_all hp_X8_next) (fun as σ res h => by
      unfold F_X8_next at h
      split at h
      · cases hr : f_X8_next N σ with
        | none => rw [hr] at h; cases h
        | some r =>
          rw [hr] at h
          cases h
          exact ⟨Nat.le_of_ble_eq_true rfl, t_X8_next σ r hr⟩
      · cases h)
noncomputable def pr_X8_plan : List (Nat × Instr × Nat) := [(0, .iload_n 1, 1), (1, .ifCond .eq 19, 3), (4, .iload_n 1, 1), (5, .i2l, 1), (6, .ldc2_w 220, 3), (9, .ldc2_w 290, 3), (12, .invokestatic 90, 3), (15, .ifCond .ne 5, 3), (18, .iconst (-1), 1), (19, .ireturn, 1), (20, .aload_n 0, 1), (21, .invokevirtual 292, 3), (24, .iconst 1, 1), (25, .aload_n 0, 1), (26, .getfield 7, 3), (29, .bipush 118, 2), (31, .iaload, 1), (32, .ishl, 1), (33, .iconst 1, 1), (34, .isub, 1), (35, .istore_n 2, 1), (36, .aload_n 0, 1), (37, .getfield 41, 3), (40, .iload_n 2, 1), (41, .iaload, 1), (42, .istore_n 3, 1), (43, .iload_n 3, 1), (44, .ldc_w 289, 3), (47, .if_icmp .ge 7, 3), (50, .iload_n 1, 1), (51, .ifCond .ne 17, 3), (54, .iload_n 3, 1), (55, .ldc_w 289, 3), (58, .if_icmp .lt 8, 3), (61, .bipush (-4), 2), (63, .goto 4, 3), (66, .iload_n 3, 1), (67, .ireturn, 1), (68, .iconst 0, 1), (69, .istore 4, 2), (71, .bipush (-4), 2), (73, .istore 5, 2), (75, .iconst 0, 1), (76, .istore 6, 2), (78, .iload 6, 2), (80, .iload_n 1, 1), (81, .bipush 10, 2), (83, .isub, 1), (84, .if_icmp .gt 83, 3), (87, .iload 6, 2), (89, .iload_n 3, 1), (90, .if_icmp .ge 77, 3), (93, .aload_n 0, 1), (94, .getfield 38, 3), (97, .iload 4, 2), (99, .iaload, 1), (100, .ifCond .eq 36, 3), (103, .aload_n 0, 1), (104, .getfield 41, 3), (107, .bipush 16, 2), (109, .iload 4, 2), (111, .iconst 1, 1), (112, .iadd, 1), (113, .imul, 1), (114, .iload_n 2, 1), (115, .aload_n 0, 1), (116, .getfield 38, 3), (119, .iload 4, 2), (121, .iaload, 1), (122, .iconst (-1), 1), (123, .ixor, 1), (124, .iand, 1), (125, .iadd, 1), (126, .iaload, 1), (127, .iconst 1, 1), (128, .iadd, 1), (129, .iload_n 3, 1), (130, .iload 6, 2), (132, .isub, 1), (133, .if_icmp .eq 9, 3), (136, .iinc 4 1, 3), (139, .goto (-46), 3), (142, .iload 4, 2), (144, .istore 5, 2), (146, .iload_n 2, 1), (147, .aload_n 0, 1), (148, .getfield 38, 3), (151, .iload 4, 2), (153, .iaload, 1), (154, .iconst (-1), 1), (155, .ixor, 1), (156, .iand, 1), (157, .istore_n 2, 1), (158, .iinc 4 1, 3), (161, .iinc 6 1, 3), (164, .goto (-86), 3), (167, .iload_n 1, 1), (168, .bipush 10, 2), (170, .isub, 1), (171, .iload_n 3, 1), (172, .if_icmp .ge 8, 3), (175, .iload 5, 2), (177, .goto 5, 3), (180, .bipush (-4), 2), (182, .ireturn, 1)]
set_option maxRecDepth 100000 in
theorem hp_X8_plan : pr_X8_plan.all (fun x => decide (decode cX8_plan x.1 = .ok x.2)) = true := by decide +kernel
noncomputable def f_X8_plan_b67 (N : Nat) (σ : yS) (s0 : Int) : Option (Int × yS) :=
  some (s0, σ)
noncomputable def f_X8_plan_b54 (N : Nat) (σ : yS) (x3 : Int) : Option (Int × yS) :=
  bif ycP .lt x3 1000000 then
    f_X8_plan_b67 N σ x3
  else
    f_X8_plan_b67 N σ ((-4))
noncomputable def f_X8_plan_b182 (N : Nat) (σ : yS) (s0 : Int) : Option (Int × yS) :=
  some (s0, σ)
noncomputable def f_X8_plan_b167 (N : Nat) (σ : yS) (x1 : Int) (x3 : Int) (x5 : Int) : Option (Int × yS) :=
  bif ycP .ge (ysu x1 10) x3 then
    f_X8_plan_b182 N σ ((-4))
  else
    f_X8_plan_b182 N σ x5
noncomputable def f_X8_plan_b136 (N : Nat) (k78 : yS → Int → Int → Int → Int → Int → Int → Option (Int × yS)) (k93 : yS → Int → Int → Int → Int → Int → Option (Int × yS)) (σ : yS) (x1 : Int) (x2 : Int) (x3 : Int) (x4 : Int) (x6 : Int) : Option (Int × yS) :=
  k93 σ x1 x2 x3 (yad x4 1) x6
noncomputable def f_X8_plan_b93 (N : Nat) (k78 : yS → Int → Int → Int → Int → Int → Int → Option (Int × yS)) : Nat → yS → Int → Int → Int → Int → Int → Option (Int × yS) := yfix (fun _ _ _ _ _ _ => none) (fun ih σ x1 x2 x3 x4 x6 =>
    bif yin x4 700 then
      bif ycP .eq (σ.1 10 x4.toNat) 0 then
        f_X8_plan_b136 N k78 ih σ x1 x2 x3 x4 x6
      else
        bif yin (yad (ymu 16 (yad x4 1)) (yan x2 (yxo (σ.1 10 x4.toNat) ((-1))))) 11216 then
          bif ycP .eq (yad (σ.1 11 (yad (ymu 16 (yad x4 1)) (yan x2 (yxo (σ.1 10 x4.toNat) ((-1))))).toNat) 1) (ysu x3 x6) then
            k78 σ x1 (yan x2 (yxo (σ.1 10 x4.toNat) ((-1)))) x3 (yad x4 1) x4 (yad x6 1)
          else
            f_X8_plan_b136 N k78 ih σ x1 x2 x3 x4 x6
        else none
    else none)
theorem q_X8_plan_b93 (N : Nat) (k78 : yS → Int → Int → Int → Int → Int → Int → Option (Int × yS)) (n : Nat) (σ : yS) (x1 : Int) (x2 : Int) (x3 : Int) (x4 : Int) (x6 : Int) : f_X8_plan_b93 N k78 (n + 1) σ x1 x2 x3 x4 x6 =
    (bif yin x4 700 then
      bif ycP .eq (σ.1 10 x4.toNat) 0 then
        f_X8_plan_b136 N k78 (f_X8_plan_b93 N k78 n) σ x1 x2 x3 x4 x6
      else
        bif yin (yad (ymu 16 (yad x4 1)) (yan x2 (yxo (σ.1 10 x4.toNat) ((-1))))) 11216 then
          bif ycP .eq (yad (σ.1 11 (yad (ymu 16 (yad x4 1)) (yan x2 (yxo (σ.1 10 x4.toNat) ((-1))))).toNat) 1) (ysu x3 x6) then
            k78 σ x1 (yan x2 (yxo (σ.1 10 x4.toNat) ((-1)))) x3 (yad x4 1) x4 (yad x6 1)
          else
            f_X8_plan_b136 N k78 (f_X8_plan_b93 N k78 n) σ x1 x2 x3 x4 x6
        else none
    else none) := rfl
noncomputable def f_X8_plan_b78 (N : Nat) : Nat → yS → Int → Int → Int → Int → Int → Int → Option (Int × yS) := yfix (fun _ _ _ _ _ _ _ => none) (fun ih σ x1 x2 x3 x4 x5 x6 =>
    bif ycP .gt x6 (ysu x1 10) then
      f_X8_plan_b167 N σ x1 x3 x5
    else
      bif ycP .ge x6 x3 then
        f_X8_plan_b167 N σ x1 x3 x5
      else
        f_X8_plan_b93 N ih N σ x1 x2 x3 x4 x6)
theorem q_X8_plan_b78 (N : Nat) (n : Nat) (σ : yS) (x1 : Int) (x2 : Int) (x3 : Int) (x4 : Int) (x5 : Int) (x6 : Int) : f_X8_plan_b78 N (n + 1) σ x1 x2 x3 x4 x5 x6 =
    (bif ycP .gt x6 (ysu x1 10) then
      f_X8_plan_b167 N σ x1 x3 x5
    else
      bif ycP .ge x6 x3 then
        f_X8_plan_b167 N σ x1 x3 x5
      else
        f_X8_plan_b93 N (f_X8_plan_b78 N n) N σ x1 x2 x3 x4 x6) := rfl
noncomputable def f_X8_plan_b20 (N : Nat) (σ : yS) (x1 : Int) : Option (Int × yS) :=
  match f_X8_findFewest N σ with
  | none => none
  | some r1 => bif yin (ysu (ysl 1 (r1.2.1 1 118)) 1) 11216 then
      bif ycP .ge (r1.2.1 11 (ysu (ysl 1 (r1.2.1 1 118)) 1).toNat) 1000000 then
        f_X8_plan_b54 N r1.2 (r1.2.1 11 (ysu (ysl 1 (r1.2.1 1 118)) 1).toNat)
      else
        bif ycP .ne x1 0 then
          f_X8_plan_b78 N N r1.2 x1 (ysu (ysl 1 (r1.2.1 1 118)) 1) (r1.2.1 11 (ysu (ysl 1 (r1.2.1 1 118)) 1).toNat) 0 ((-4)) 0
        else
          f_X8_plan_b54 N r1.2 (r1.2.1 11 (ysu (ysl 1 (r1.2.1 1 118)) 1).toNat)
    else none
noncomputable def f_X8_plan (N : Nat) (σ : yS) (x1 : Int) : Option (Int × yS) :=
  bif ycP .eq x1 0 then
    f_X8_plan_b20 N σ x1
  else
    match f_X8_in N σ x1 10 13 with
    | none => none
    | some r2 => bif ycP .ne r2.1 0 then
        f_X8_plan_b20 N r2.2 x1
      else
        some ((-1), r2.2)
noncomputable def F_X8_plan (N : Nat) : yF := fun as σ => match as with
  | [.inr (.inl 8, 0), .inl (.inl x1)] => (f_X8_plan N σ x1).map (fun r => (some (.inl (.inl r.1)), r.2))
  | _ => none
theorem e_X8_plan {N : Nat} {σ : yS} {x1 : Int} {r : Int × yS} (h : f_X8_plan N σ x1 = some r) : F_X8_plan N [.inr (.inl 8, 0), .inl (.inl x1)] σ = some (some (.inl (.inl r.1)), r.2) := by
  show (f_X8_plan N σ x1).map (fun r => ((some (.inl (.inl r.1)), r.2) : yR)) = _
  rw [h]
  rfl
noncomputable def tb_X8_plan (N : Nat) : yTb := ([(7, 8, 0, 3), (38, 8, 27, 3), (41, 8, 28, 3)], [(289, 1000000)], [(220, 10), (290, 13)], [(292, 1, 8, F_X8_findFewest N)], [(90, 3, F_X8_in N)], [], [])
abbrev G_X8_plan (N : Nat) (X : zXT) (sh : List yH) (l : Launch) (rm : Room) : yC → yR → Prop := yGoes X vwCl yct sh l rm cX8_plan 7 wsX8_plan RX8 (tb_X8_plan N) pr_X8_plan 1
set_option maxRecDepth 100000 in
set_option maxHeartbeats 4000000 in
theorem t_X8_plan_b67 {N : Nat} {X : zXT} {sh : List yH} {l : Launch} {rm : Room} (σ : yS) (s0 : Int) (res : Int × yS) (h : f_X8_plan_b67 N σ s0 = some res) : G_X8_plan N X sh l rm (67, [], [.inl (.inl s0)], σ) (some (.inl (.inl res.1)), res.2) := by
  unfold f_X8_plan_b67 at h
  have h := Option.some.inj h
  subst h
  dsimp only
  exact yG_r rfl rfl
set_option maxRecDepth 100000 in
set_option maxHeartbeats 4000000 in
theorem t_X8_plan_b54 {N : Nat} {X : zXT} {sh : List yH} {l : Launch} {rm : Room} (σ : yS) (x3 : Int) (res : Int × yS) (h : f_X8_plan_b54 N σ x3 = some res) : G_X8_plan N X sh l rm (54, [(3, .inl (.inl x3))], [], σ) (some (.inl (.inl res.1)), res.2) := by
  unfold f_X8_plan_b54 at h
  refine yG_n (n := 2) (C' := (58, [(3, .inl (.inl x3))], [.inl (.inl 1000000), .inl (.inl x3)], σ)) rfl ?_
  cases hg1 : ycP .lt x3 1000000 with
  | true =>
    rw [hg1] at h
    dsimp only [cond] at h
    refine yG_t (C' := (66, [(3, .inl (.inl x3))], [], σ)) rfl hg1 ?_
    refine yG_n (n := 1) (C' := (67, [(3, .inl (.inl x3))], [.inl (.inl x3)], σ)) rfl ?_
    exact yG_w [] rfl (t_X8_plan_b67 σ x3 res h)
  | false =>
    rw [hg1] at h
    dsimp only [cond] at h
    refine yG_f (C' := (61, [(3, .inl (.inl x3))], [], σ)) rfl hg1 ?_
    refine yG_n (n := 2) (C' := (67, [(3, .inl (.inl x3))], [.inl (.inl ((-4)))], σ)) rfl ?_
    exact yG_w [] rfl (t_X8_plan_b67 σ ((-4)) res h)
set_option maxRecDepth 100000 in
set_option maxHeartbeats 4000000 in
theorem t_X8_plan_b182 {N : Nat} {X : zXT} {sh : List yH} {l : Launch} {rm : Room} (σ : yS) (s0 : Int) (res : Int × yS) (h : f_X8_plan_b182 N σ s0 = some res) : G_X8_plan N X sh l rm (182, [], [.inl (.inl s0)], σ) (some (.inl (.inl res.1)), res.2) := by
  unfold f_X8_plan_b182 at h
  have h := Option.some.inj h
  subst h
  dsimp only
  exact yG_r rfl rfl
set_option maxRecDepth 100000 in
set_option maxHeartbeats 4000000 in
theorem t_X8_plan_b167 {N : Nat} {X : zXT} {sh : List yH} {l : Launch} {rm : Room} (σ : yS) (x1 : Int) (x3 : Int) (x5 : Int) (res : Int × yS) (h : f_X8_plan_b167 N σ x1 x3 x5 = some res) : G_X8_plan N X sh l rm (167, [(1, .inl (.inl x1)), (3, .inl (.inl x3)), (5, .inl (.inl x5))], [], σ) (some (.inl (.inl res.1)), res.2) := by
  unfold f_X8_plan_b167 at h
  refine yG_n (n := 4) (C' := (172, [(1, .inl (.inl x1)), (3, .inl (.inl x3)), (5, .inl (.inl x5))], [.inl (.inl x3), .inl (.inl (ysu x1 10))], σ)) rfl ?_
  cases hg2 : ycP .ge (ysu x1 10) x3 with
  | true =>
    rw [hg2] at h
    dsimp only [cond] at h
    refine yG_t (C' := (180, [(1, .inl (.inl x1)), (3, .inl (.inl x3)), (5, .inl (.inl x5))], [], σ)) rfl hg2 ?_
    refine yG_n (n := 1) (C' := (182, [(1, .inl (.inl x1)), (3, .inl (.inl x3)), (5, .inl (.inl x5))], [.inl (.inl ((-4)))], σ)) rfl ?_
    exact yG_w [] rfl (t_X8_plan_b182 σ ((-4)) res h)
  | false =>
    rw [hg2] at h
    dsimp only [cond] at h
    refine yG_f (C' := (175, [(1, .inl (.inl x1)), (3, .inl (.inl x3)), (5, .inl (.inl x5))], [], σ)) rfl hg2 ?_
    refine yG_n (n := 2) (C' := (182, [(1, .inl (.inl x1)), (3, .inl (.inl x3)), (5, .inl (.inl x5))], [.inl (.inl x5)], σ)) rfl ?_
    exact yG_w [] rfl (t_X8_plan_b182 σ x5 res h)
set_option maxRecDepth 100000 in
set_option maxHeartbeats 4000000 in
theorem t_X8_plan_b136 {N : Nat} {X : zXT} {sh : List yH} {l : Launch} {rm : Room} (k78 : yS → Int → Int → Int → Int → Int → Int → Option (Int × yS)) (hk78 : ∀ (σ : yS) (x1 : Int) (x2 : Int) (x3 : Int) (x4 : Int) (x5 : Int) (x6 : Int) (res : Int × yS), k78 σ x1 x2 x3 x4 x5 x6 = some res → G_X8_plan N X sh l rm (78, [(0, .inr (.inl 8, 0)), (1, .inl (.inl x1)), (2, .inl (.inl x2)), (3, .inl (.inl x3)), (4, .inl (.inl x4)), (5, .inl (.inl x5)), (6, .inl (.inl x6))], [], σ) (some (.inl (.inl res.1)), res.2)) (k93 : yS → Int → Int → Int → Int → Int → Option (Int × yS)) (hk93 : ∀ (σ : yS) (x1 : Int) (x2 : Int) (x3 : Int) (x4 : Int) (x6 : Int) (res : Int × yS), k93 σ x1 x2 x3 x4 x6 = some res → G_X8_plan N X sh l rm (93, [(0, .inr (.inl 8, 0)), (1, .inl (.inl x1)), (2, .inl (.inl x2)), (3, .inl (.inl x3)), (4, .inl (.inl x4)), (6, .inl (.inl x6))], [], σ) (some (.inl (.inl res.1)), res.2)) (σ : yS) (x1 : Int) (x2 : Int) (x3 : Int) (x4 : Int) (x6 : Int) (res : Int × yS) (h : f_X8_plan_b136 N k78 k93 σ x1 x2 x3 x4 x6 = some res) : G_X8_plan N X sh l rm (136, [(0, .inr (.inl 8, 0)), (1, .inl (.inl x1)), (2, .inl (.inl x2)), (3, .inl (.inl x3)), (4, .inl (.inl x4)), (6, .inl (.inl x6))], [], σ) (some (.inl (.inl res.1)), res.2) := by
  unfold f_X8_plan_b136 at h
  refine yG_n (n := 2) (C' := (93, [(4, .inl (.inl (yad x4 1))), (0, .inr (.inl 8, 0)), (1, .inl (.inl x1)), (2, .inl (.inl x2)), (3, .inl (.inl x3)), (6, .inl (.inl x6))], [], σ)) rfl ?_
  exact yG_w [1, 2, 3, 4, 0, 5] rfl (hk93 σ x1 x2 x3 (yad x4 1) x6 res h)
set_option maxRecDepth 100000 in
set_option maxHeartbeats 4000000 in
theorem t_X8_plan_b93 {N : Nat} {X : zXT} {sh : List yH} {l : Launch} {rm : Room} (k78 : yS → Int → Int → Int → Int → Int → Int → Option (Int × yS)) (hk78 : ∀ (σ : yS) (x1 : Int) (x2 : Int) (x3 : Int) (x4 : Int) (x5 : Int) (x6 : Int) (res : Int × yS), k78 σ x1 x2 x3 x4 x5 x6 = some res → G_X8_plan N X sh l rm (78, [(0, .inr (.inl 8, 0)), (1, .inl (.inl x1)), (2, .inl (.inl x2)), (3, .inl (.inl x3)), (4, .inl (.inl x4)), (5, .inl (.inl x5)), (6, .inl (.inl x6))], [], σ) (some (.inl (.inl res.1)), res.2)) : ∀ (n : Nat) (σ : yS) (x1 : Int) (x2 : Int) (x3 : Int) (x4 : Int) (x6 : Int) (res : Int × yS), f_X8_plan_b93 N k78 n σ x1 x2 x3 x4 x6 = some res → G_X8_plan N X sh l rm (93, [(0, .inr (.inl 8, 0)), (1, .inl (.inl x1)), (2, .inl (.inl x2)), (3, .inl (.inl x3)), (4, .inl (.inl x4)), (6, .inl (.inl x6))], [], σ) (some (.inl (.inl res.1)), res.2) := by
  intro n
  induction n with
  | zero => intro σ x1 x2 x3 x4 x6 res h; exact (yno h).elim
  | succ n ih =>
    intro σ x1 x2 x3 x4 x6 res h
    rw [q_X8_plan_b93] at h
    refine yG_n (n := 3) (C' := (99, [(0, .inr (.inl 8, 0)), (1, .inl (.inl x1)), (2, .inl (.inl x2)), (3, .inl (.inl x3)), (4, .inl (.inl x4)), (6, .inl (.inl x6))], [.inl (.inl x4), .inr (.inr (0, 700), 10)], σ)) rfl ?_
    cases hg3 : yin x4 700 with
    | false => rw [hg3] at h; dsimp only [cond] at h; cases h
    | true =>
      rw [hg3] at h
      dsimp only [cond] at h
      refine yG_t (C' := (100, [(0, .inr (.inl 8, 0)), (1, .inl (.inl x1)), (2, .inl (.inl x2)), (3, .inl (.inl x3)), (4, .inl (.inl x4)), (6, .inl (.inl x6))], [.inl (.inl (σ.1 10 x4.toNat))], σ)) rfl hg3 ?_
      cases hg4 : ycP .eq (σ.1 10 x4.toNat) 0 with
      | true =>
        rw [hg4] at h
        dsimp only [cond] at h
        refine yG_t (C' := (136, [(0, .inr (.inl 8, 0)), (1, .inl (.inl x1)), (2, .inl (.inl x2)), (3, .inl (.inl x3)), (4, .inl (.inl x4)), (6, .inl (.inl x6))], [], σ)) rfl hg4 ?_
        exact t_X8_plan_b136 k78 hk78 (f_X8_plan_b93 N k78 n) ih σ x1 x2 x3 x4 x6 res h
      | false =>
        rw [hg4] at h
        dsimp only [cond] at h
        refine yG_f (C' := (103, [(0, .inr (.inl 8, 0)), (1, .inl (.inl x1)), (2, .inl (.inl x2)), (3, .inl (.inl x3)), (4, .inl (.inl x4)), (6, .inl (.inl x6))], [], σ)) rfl hg4 ?_
        refine yG_n (n := 11) (C' := (121, [(0, .inr (.inl 8, 0)), (1, .inl (.inl x1)), (2, .inl (.inl x2)), (3, .inl (.inl x3)), (4, .inl (.inl x4)), (6, .inl (.inl x6))], [.inl (.inl x4), .inr (.inr (0, 700), 10), .inl (.inl x2), .inl (.inl (ymu 16 (yad x4 1))), .inr (.inr (0, 11216), 11)], σ)) rfl ?_
        refine yG_t (C' := (122, [(0, .inr (.inl 8, 0)), (1, .inl (.inl x1)), (2, .inl (.inl x2)), (3, .inl (.inl x3)), (4, .inl (.inl x4)), (6, .inl (.inl x6))], [.inl (.inl (σ.1 10 x4.toNat)), .inl (.inl x2), .inl (.inl (ymu 16 (yad x4 1))), .inr (.inr (0, 11216), 11)], σ)) rfl hg3 ?_
        refine yG_n (n := 4) (C' := (126, [(0, .inr (.inl 8, 0)), (1, .inl (.inl x1)), (2, .inl (.inl x2)), (3, .inl (.inl x3)), (4, .inl (.inl x4)), (6, .inl (.inl x6))], [.inl (.inl (yad (ymu 16 (yad x4 1)) (yan x2 (yxo (σ.1 10 x4.toNat) ((-1)))))), .inr (.inr (0, 11216), 11)], σ)) rfl ?_
        cases hg5 : yin (yad (ymu 16 (yad x4 1)) (yan x2 (yxo (σ.1 10 x4.toNat) ((-1))))) 11216 with
        | false => rw [hg5] at h; dsimp only [cond] at h; cases h
        | true =>
          rw [hg5] at h
          dsimp only [cond] at h
          refine yG_t (C' := (127, [(0, .inr (.inl 8, 0)), (1, .inl (.inl x1)), (2, .inl (.inl x2)), (3, .inl (.inl x3)), (4, .inl (.inl x4)), (6, .inl (.inl x6))], [.inl (.inl (σ.1 11 (yad (ymu 16 (yad x4 1)) (yan x2 (yxo (σ.1 10 x4.toNat) ((-1))))).toNat))], σ)) rfl hg5 ?_
          refine yG_n (n := 5) (C' := (133, [(0, .inr (.inl 8, 0)), (1, .inl (.inl x1)), (2, .inl (.inl x2)), (3, .inl (.inl x3)), (4, .inl (.inl x4)), (6, .inl (.inl x6))], [.inl (.inl (ysu x3 x6)), .inl (.inl (yad (σ.1 11 (yad (ymu 16 (yad x4 1)) (yan x2 (yxo (σ.1 10 x4.toNat) ((-1))))).toNat) 1))], σ)) rfl ?_
          cases hg6 : ycP .eq (yad (σ.1 11 (yad (ymu 16 (yad x4 1)) (yan x2 (yxo (σ.1 10 x4.toNat) ((-1))))).toNat) 1) (ysu x3 x6) with
          | true =>
            rw [hg6] at h
            dsimp only [cond] at h
            refine yG_t (C' := (142, [(0, .inr (.inl 8, 0)), (1, .inl (.inl x1)), (2, .inl (.inl x2)), (3, .inl (.inl x3)), (4, .inl (.inl x4)), (6, .inl (.inl x6))], [], σ)) rfl hg6 ?_
            refine yG_n (n := 6) (C' := (153, [(5, .inl (.inl x4)), (0, .inr (.inl 8, 0)), (1, .inl (.inl x1)), (2, .inl (.inl x2)), (3, .inl (.inl x3)), (4, .inl (.inl x4)), (6, .inl (.inl x6))], [.inl (.inl x4), .inr (.inr (0, 700), 10), .inl (.inl x2)], σ)) rfl ?_
            refine yG_t (C' := (154, [(5, .inl (.inl x4)), (0, .inr (.inl 8, 0)), (1, .inl (.inl x1)), (2, .inl (.inl x2)), (3, .inl (.inl x3)), (4, .inl (.inl x4)), (6, .inl (.inl x6))], [.inl (.inl (σ.1 10 x4.toNat)), .inl (.inl x2)], σ)) rfl hg3 ?_
            refine yG_n (n := 7) (C' := (78, [(6, .inl (.inl (yad x6 1))), (4, .inl (.inl (yad x4 1))), (2, .inl (.inl (yan x2 (yxo (σ.1 10 x4.toNat) ((-1)))))), (5, .inl (.inl x4)), (0, .inr (.inl 8, 0)), (1, .inl (.inl x1)), (3, .inl (.inl x3))], [], σ)) rfl ?_
            exact yG_w [4, 5, 2, 6, 1, 3, 0] rfl (hk78 σ x1 (yan x2 (yxo (σ.1 10 x4.toNat) ((-1)))) x3 (yad x4 1) x4 (yad x6 1) res h)
          | false =>
            rw [hg6] at h
            dsimp only [cond] at h
            refine yG_f (C' := (136, [(0, .inr (.inl 8, 0)), (1, .inl (.inl x1)), (2, .inl (.inl x2)), (3, .inl (.inl x3)), (4, .inl (.inl x4)), (6, .inl (.inl x6))], [], σ)) rfl hg6 ?_
            exact t_X8_plan_b136 k78 hk78 (f_X8_plan_b93 N k78 n) ih σ x1 x2 x3 x4 x6 res h
set_option maxRecDepth 100000 in
set_option maxHeartbeats 4000000 in
theorem t_X8_plan_b78 {N : Nat} {X : zXT} {sh : List yH} {l : Launch} {rm : Room} : ∀ (n : Nat) (σ : yS) (x1 : Int) (x2 : Int) (x3 : Int) (x4 : Int) (x5 : Int) (x6 : Int) (res : Int × yS), f_X8_plan_b78 N n σ x1 x2 x3 x4 x5 x6 = some res → G_X8_plan N X sh l rm (78, [(0, .inr (.inl 8, 0)), (1, .inl (.inl x1)), (2, .inl (.inl x2)), (3, .inl (.inl x3)), (4, .inl (.inl x4)), (5, .inl (.inl x5)), (6, .inl (.inl x6))], [], σ) (some (.inl (.inl res.1)), res.2) := by
  intro n
  induction n with
  | zero => intro σ x1 x2 x3 x4 x5 x6 res h; exact (yno h).elim
  | succ n ih =>
    intro σ x1 x2 x3 x4 x5 x6 res h
    rw [q_X8_plan_b78] at h
    refine yG_n (n := 4) (C' := (84, [(0, .inr (.inl 8, 0)), (1, .inl (.inl x1)), (2, .inl (.inl x2)), (3, .inl (.inl x3)), (4, .inl (.inl x4)), (5, .inl (.inl x5)), (6, .inl (.inl x6))], [.inl (.inl (ysu x1 10)), .inl (.inl x6)], σ)) rfl ?_
    cases hg7 : ycP .gt x6 (ysu x1 10) with
    | true =>
      rw [hg7] at h
      dsimp only [cond] at h
      refine yG_t (C' := (167, [(0, .inr (.inl 8, 0)), (1, .inl (.inl x1)), (2, .inl (.inl x2)), (3, .inl (.inl x3)), (4, .inl (.inl x4)), (5, .inl (.inl x5)), (6, .inl (.inl x6))], [], σ)) rfl hg7 ?_
      exact yG_w [1, 3, 5] rfl (t_X8_plan_b167 σ x1 x3 x5 res h)
    | false =>
      rw [hg7] at h
      dsimp only [cond] at h
      refine yG_f (C' := (87, [(0, .inr (.inl 8, 0)), (1, .inl (.inl x1)), (2, .inl (.inl x2)), (3, .inl (.inl x3)), (4, .inl (.inl x4)), (5, .inl (.inl x5)), (6, .inl (.inl x6))], [], σ)) rfl hg7 ?_
      refine yG_n (n := 2) (C' := (90, [(0, .inr (.inl 8, 0)), (1, .inl (.inl x1)), (2, .inl (.inl x2)), (3, .inl (.inl x3)), (4, .inl (.inl x4)), (5, .inl (.inl x5)), (6, .inl (.inl x6))], [.inl (.inl x3), .inl (.inl x6)], σ)) rfl ?_
      cases hg8 : ycP .ge x6 x3 with
      | true =>
        rw [hg8] at h
        dsimp only [cond] at h
        refine yG_t (C' := (167, [(0, .inr (.inl 8, 0)), (1, .inl (.inl x1)), (2, .inl (.inl x2)), (3, .inl (.inl x3)), (4, .inl (.inl x4)), (5, .inl (.inl x5)), (6, .inl (.inl x6))], [], σ)) rfl hg8 ?_
        exact yG_w [1, 3, 5] rfl (t_X8_plan_b167 σ x1 x3 x5 res h)
      | false =>
        rw [hg8] at h
        dsimp only [cond] at h
        refine yG_f (C' := (93, [(0, .inr (.inl 8, 0)), (1, .inl (.inl x1)), (2, .inl (.inl x2)), (3, .inl (.inl x3)), (4, .inl (.inl x4)), (5, .inl (.inl x5)), (6, .inl (.inl x6))], [], σ)) rfl hg8 ?_
        exact yG_w [0, 1, 2, 3, 4, 6] rfl (t_X8_plan_b93 (f_X8_plan_b78 N n) ih N σ x1 x2 x3 x4 x6 res h)
set_option maxRecDepth 100000 in
set_option maxHeartbeats 4000000 in
theorem t_X8_plan_b20 {N : Nat} {X : zXT} {sh : List yH} {l : Launch} {rm : Room} (σ : yS) (x1 : Int) (res : Int × yS) (h : f_X8_plan_b20 N σ x1 = some res) : G_X8_plan N X sh l rm (20, [(0, .inr (.inl 8, 0)), (1, .inl (.inl x1))], [], σ) (some (.inl (.inl res.1)), res.2) := by
  unfold f_X8_plan_b20 at h
  refine yG_n (n := 1) (C' := (21, [(0, .inr (.inl 8, 0)), (1, .inl (.inl x1))], [.inr (.inl 8, 0)], σ)) rfl ?_
  cases hr9 : f_X8_findFewest N σ with
  | none => rw [hr9] at h; dsimp only at h; cases h
  | some r1 =>
    rw [hr9] at h
    dsimp only at h
    refine yG_c (C1 := (24, [(0, .inr (.inl 8, 0)), (1, .inl (.inl x1))], [], r1.2)) rfl (e_X8_findFewest hr9) rfl ?_
    refine yG_n (n := 12) (C' := (41, [(2, .inl (.inl (ysu (ysl 1 (r1.2.1 1 118)) 1))), (0, .inr (.inl 8, 0)), (1, .inl (.inl x1))], [.inl (.inl (ysu (ysl 1 (r1.2.1 1 118)) 1)), .inr (.inr (0, 11216), 11)], r1.2)) rfl ?_
    cases hg10 : yin (ysu (ysl 1 (r1.2.1 1 118)) 1) 11216 with
    | false => rw [hg10] at h; dsimp only [cond] at h; cases h
    | true =>
      rw [hg10] at h
      dsimp only [cond] at h
      refine yG_t (C' := (42, [(2, .inl (.inl (ysu (ysl 1 (r1.2.1 1 118)) 1))), (0, .inr (.inl 8, 0)), (1, .inl (.inl x1))], [.inl (.inl (r1.2.1 11 (ysu (ysl 1 (r1.2.1 1 118)) 1).toNat))], r1.2)) rfl hg10 ?_
      refine yG_n (n := 3) (C' := (47, [(3, .inl (.inl (r1.2.1 11 (ysu (ysl 1 (r1.2.1 1 118)) 1).toNat))), (2, .inl (.inl (ysu (ysl 1 (r1.2.1 1 118)) 1))), (0, .inr (.inl 8, 0)), (1, .inl (.inl x1))], [.inl (.inl 1000000), .inl (.inl (r1.2.1 11 (ysu (ysl 1 (r1.2.1 1 118)) 1).toNat))], r1.2)) rfl ?_
      cases hg11 : ycP .ge (r1.2.1 11 (ysu (ysl 1 (r1.2.1 1 118)) 1).toNat) 1000000 with
      | true =>
        rw [hg11] at h
        dsimp only [cond] at h
        refine yG_t (C' := (54, [(3, .inl (.inl (r1.2.1 11 (ysu (ysl 1 (r1.2.1 1 118)) 1).toNat))), (2, .inl (.inl (ysu (ysl 1 (r1.2.1 1 118)) 1))), (0, .inr (.inl 8, 0)), (1, .inl (.inl x1))], [], r1.2)) rfl hg11 ?_
        exact yG_w [0] rfl (t_X8_plan_b54 r1.2 (r1.2.1 11 (ysu (ysl 1 (r1.2.1 1 118)) 1).toNat) res h)
      | false =>
        rw [hg11] at h
        dsimp only [cond] at h
        refine yG_f (C' := (50, [(3, .inl (.inl (r1.2.1 11 (ysu (ysl 1 (r1.2.1 1 118)) 1).toNat))), (2, .inl (.inl (ysu (ysl 1 (r1.2.1 1 118)) 1))), (0, .inr (.inl 8, 0)), (1, .inl (.inl x1))], [], r1.2)) rfl hg11 ?_
        refine yG_n (n := 1) (C' := (51, [(3, .inl (.inl (r1.2.1 11 (ysu (ysl 1 (r1.2.1 1 118)) 1).toNat))), (2, .inl (.inl (ysu (ysl 1 (r1.2.1 1 118)) 1))), (0, .inr (.inl 8, 0)), (1, .inl (.inl x1))], [.inl (.inl x1)], r1.2)) rfl ?_
        cases hg12 : ycP .ne x1 0 with
        | true =>
          rw [hg12] at h
          dsimp only [cond] at h
          refine yG_t (C' := (68, [(3, .inl (.inl (r1.2.1 11 (ysu (ysl 1 (r1.2.1 1 118)) 1).toNat))), (2, .inl (.inl (ysu (ysl 1 (r1.2.1 1 118)) 1))), (0, .inr (.inl 8, 0)), (1, .inl (.inl x1))], [], r1.2)) rfl hg12 ?_
          refine yG_n (n := 6) (C' := (78, [(6, .inl (.inl 0)), (5, .inl (.inl ((-4)))), (4, .inl (.inl 0)), (3, .inl (.inl (r1.2.1 11 (ysu (ysl 1 (r1.2.1 1 118)) 1).toNat))), (2, .inl (.inl (ysu (ysl 1 (r1.2.1 1 118)) 1))), (0, .inr (.inl 8, 0)), (1, .inl (.inl x1))], [], r1.2)) rfl ?_
          exact yG_w [5, 6, 4, 3, 2, 1, 0] rfl (t_X8_plan_b78 N r1.2 x1 (ysu (ysl 1 (r1.2.1 1 118)) 1) (r1.2.1 11 (ysu (ysl 1 (r1.2.1 1 118)) 1).toNat) 0 ((-4)) 0 res h)
        | false =>
          rw [hg12] at h
          dsimp only [cond] at h
          refine yG_f (C' := (54, [(3, .inl (.inl (r1.2.1 11 (ysu (ysl 1 (r1.2.1 1 118)) 1).toNat))), (2, .inl (.inl (ysu (ysl 1 (r1.2.1 1 118)) 1))), (0, .inr (.inl 8, 0)), (1, .inl (.inl x1))], [], r1.2)) rfl hg12 ?_
          exact yG_w [0] rfl (t_X8_plan_b54 r1.2 (r1.2.1 11 (ysu (ysl 1 (r1.2.1 1 118)) 1).toNat) res h)
set_option maxRecDepth 100000 in
set_option maxHeartbeats 4000000 in
theorem t_X8_plan {N : Nat} {X : zXT} {sh : List yH} {l : Launch} {rm : Room} (σ : yS) (x1 : Int) (res : Int × yS) (h : f_X8_plan N σ x1 = some res) : G_X8_plan N X sh l rm (0, [(0, .inr (.inl 8, 0)), (1, .inl (.inl x1))], [], σ) (some (.inl (.inl res.1)), res.2) := by
  unfold f_X8_plan at h
  refine yG_n (n := 1) (C' := (1, [(0, .inr (.inl 8, 0)), (1, .inl (.inl x1))], [.inl (.inl x1)], σ)) rfl ?_
  cases hg13 : ycP .eq x1 0 with
  | true =>
    rw [hg13] at h
    dsimp only [cond] at h
    refine yG_t (C' := (20, [(0, .inr (.inl 8, 0)), (1, .inl (.inl x1))], [], σ)) rfl hg13 ?_
    exact t_X8_plan_b20 σ x1 res h
  | false =>
    rw [hg13] at h
    dsimp only [cond] at h
    refine yG_f (C' := (4, [(0, .inr (.inl 8, 0)), (1, .inl (.inl x1))], [], σ)) rfl hg13 ?_
    refine yG_n (n := 4) (C' := (12, [(0, .inr (.inl 8, 0)), (1, .inl (.inl x1))], [.inl (.inr 13), .inl (.inr 10), .inl (.inr x1)], σ)) rfl ?_
    cases hr14 : f_X8_in N σ x1 10 13 with
    | none => rw [hr14] at h; dsimp only at h; cases h
    | some r2 =>
      rw [hr14] at h
      dsimp only at h
      refine yG_c (C1 := (15, [(0, .inr (.inl 8, 0)), (1, .inl (.inl x1))], [.inl (.inl r2.1)], r2.2)) rfl (e_X8_in hr14) rfl ?_
      cases hg15 : ycP .ne r2.1 0 with
      | true =>
        rw [hg15] at h
        dsimp only [cond] at h
        refine yG_t (C' := (20, [(0, .inr (.inl 8, 0)), (1, .inl (.inl x1))], [], r2.2)) rfl hg15 ?_
        exact t_X8_plan_b20 r2.2 x1 res h
      | false =>
        rw [hg15] at h
        dsimp only [cond] at h
        refine yG_f (C' := (18, [(0, .inr (.inl 8, 0)), (1, .inl (.inl x1))], [], r2.2)) rfl hg15 ?_
        refine yG_n (n := 1) (C' := (19, [(0, .inr (.inl 8, 0)), (1, .inl (.inl x1))], [.inl (.inl ((-1)))], r2.2)) rfl ?_
        have h := Option.some.inj h
        subst h
        dsimp only
        exact yG_r rfl rfl
set_option maxRecDepth 100000 in
set_option maxHeartbeats 4000000 in
theorem m_X8_plan {N : Nat} {X : zXT} (hX : zXok X) (hN : zXn X) (l : Launch) {sh : List yH} : yMet X vwCl yct sh l yX8_plan wsX8_plan { frames := 8, cells := 0, slots := 0, locals := 239 } (F_X8_plan N) :=
  ymeth (tb := tb_X8_plan N) (pr := pr_X8_plan) (rt := 1) (own := RX8) hX (by decide +kernel) rfl rfl ⟨Nat.le_of_ble_eq_true rfl, Nat.le_of_ble_eq_true rfl⟩
    (zfl_all (List.forall_mem_cons.mpr ⟨zfl_X8 (fun w h => List.mem_cons_of_mem _ (List.mem_append_right _ h)) (List.mem_of_getElem? (i := 3) rfl) (by decide) (by decide), List.forall_mem_cons.mpr ⟨zfl_X8 (fun w h => List.mem_cons_of_mem _ (List.mem_append_right _ h)) (List.mem_of_getElem? (i := 6) rfl) (by decide) (by decide), List.forall_mem_cons.mpr ⟨zfl_X8 (fun w h => List.mem_cons_of_mem _ (List.mem_append_right _ h)) (List.mem_of_getElem? (i := 4) rfl) (by decide) (by decide), fun _ h => absurd h List.not_mem_nil⟩⟩⟩))
    (zco_all (List.forall_mem_cons.mpr ⟨(List.mem_of_getElem? (i := 5) rfl), fun _ h => absurd h List.not_mem_nil⟩)) (zlc_all (List.forall_mem_cons.mpr ⟨(List.mem_of_getElem? (i := 1) rfl), List.forall_mem_cons.mpr ⟨(List.mem_of_getElem? (i := 2) rfl), fun _ h => absurd h List.not_mem_nil⟩⟩))
    (List.forall_mem_cons.mpr ⟨ycal_V hX (m_X8_findFewest hX hN l) rfl (fun s args hts => cwV 0 hts gX8_plan_X8_findFewest rfl rfl rfl (by decide +kernel) ⟨Nat.le_of_ble_eq_true rfl, Nat.le_of_ble_eq_true rfl⟩), fun _ h => absurd h List.not_mem_nil⟩)
    (List.forall_mem_cons.mpr ⟨ycal_S hX (m_X8_in hX hN l) (fun s args hts => va_cwS 3 hts gX8_plan_X8_in rfl rfl rfl (by decide +kernel) ⟨Nat.le_of_ble_eq_true rfl, Nat.le_of_ble_eq_true rfl⟩), fun _ h => absurd h List.not_mem_nil⟩)
    (zmm_all (fun _ h => absurd h List.not_mem_nil)) (fun _ h => absurd h List.not_mem_nil) (zpr_all hp_X8_plan) (fun as σ res h => by
      unfold F_X8_plan at h
      split at h
      · rename_i x1
        cases hr : f_X8_plan N σ x1 with
        | none => rw [hr] at h; cases h
        | some r =>
          rw [hr] at h
          cases h
          exact ⟨Nat.le_of_ble_eq_true rfl, t_X8_plan σ x1 r hr⟩
      · cases h)
noncomputable def pr_X8_vows : List (Nat × Instr × Nat) := [(0, .aload_n 0, 1), (1, .iload_n 1, 1), (2, .invokevirtual 205, 3), (5, .ifCond .eq 26, 3), (8, .iload_n 2, 1), (9, .invokestatic 217, 3), (12, .ifCond .eq 19, 3), (15, .iload_n 3, 1), (16, .invokestatic 222, 3), (19, .ifCond .eq 12, 3), (22, .aload_n 0, 1), (23, .iload 4, 2), (25, .invokevirtual 209, 3), (28, .ifCond .ne 5, 3), (31, .iconst (-1), 1), (32, .ireturn, 1), (33, .aload_n 0, 1), (34, .getfield 7, 3), (37, .bipush 77, 2), (39, .iaload, 1), (40, .bipush 10, 2), (42, .if_icmp .ne 6, 3), (45, .bipush (-3), 2), (47, .ireturn, 1), (48, .bipush 78, 2), (50, .iconst 4, 1), (51, .aload_n 0, 1), (52, .getfield 7, 3), (55, .bipush 77, 2), (57, .iaload, 1), (58, .imul, 1), (59, .iadd, 1), (60, .istore 5, 2), (62, .aload_n 0, 1), (63, .getfield 7, 3), (66, .iload 5, 2), (68, .iload_n 1, 1), (69, .iastore, 1), (70, .aload_n 0, 1), (71, .getfield 7, 3), (74, .iload 5, 2), (76, .iconst 1, 1), (77, .iadd, 1), (78, .iload_n 2, 1), (79, .iastore, 1), (80, .aload_n 0, 1), (81, .getfield 7, 3), (84, .iload 5, 2), (86, .iconst 2, 1), (87, .iadd, 1), (88, .iload_n 3, 1), (89, .iastore, 1), (90, .aload_n 0, 1), (91, .getfield 7, 3), (94, .iload 5, 2), (96, .iconst 3, 1), (97, .iadd, 1), (98, .iload 4, 2), (100, .iastore, 1), (101, .aload_n 0, 1), (102, .getfield 7, 3), (105, .bipush 77, 2), (107, .dup2, 1), (108, .iaload, 1), (109, .iconst 1, 1), (110, .iadd, 1), (111, .iastore, 1), (112, .aload_n 0, 1), (113, .getfield 7, 3), (116, .bipush 77, 2), (118, .iaload, 1), (119, .ireturn, 1)]
set_option maxRecDepth 100000 in
theorem hp_X8_vows : pr_X8_vows.all (fun x => decide (decode cX8_vows x.1 = .ok x.2)) = true := by decide +kernel
noncomputable def f_X8_vows_b31 (N : Nat) (σ : yS) : Option (Int × yS) :=
  some ((-1), σ)
noncomputable def f_X8_vows_b118 (N : Nat) (σ : yS) (s0 : Int) : Option (Int × yS) :=
  bif yin s0 393 then
    some (σ.1 1 s0.toNat, σ)
  else none
noncomputable def f_X8_vows_b108 (N : Nat) (σ : yS) (s0 : Int) (s2 : Int) : Option (Int × yS) :=
  bif yin s0 393 then
    bif yin s2 393 then
      f_X8_vows_b118 N (yw σ 1 s2.toNat (yad (σ.1 1 s0.toNat) 1)) 77
    else none
  else none
noncomputable def f_X8_vows (N : Nat) (σ : yS) (x1 : Int) (x2 : Int) (x3 : Int) (x4 : Int) : Option (Int × yS) :=
  match f_X8_isHouse N σ x1 with
  | none => none
  | some r1 => bif ycP .eq r1.1 0 then
      f_X8_vows_b31 N r1.2
    else
      match f_X8_isKind N r1.2 x2 with
      | none => none
      | some r2 => bif ycP .eq r2.1 0 then
          f_X8_vows_b31 N r2.2
        else
          match f_X8_isDeep N r2.2 x3 with
          | none => none
          | some r3 => bif ycP .eq r3.1 0 then
              f_X8_vows_b31 N r3.2
            else
              match f_X8_isDeed N r3.2 x4 with
              | none => none
              | some r4 => bif ycP .ne r4.1 0 then
                  bif ycP .ne (r4.2.1 1 77) 10 then
                    bif yin (yad 78 (ymu 4 (r4.2.1 1 77))) 393 then
                      bif yin (yad (yad 78 (ymu 4 (r4.2.1 1 77))) 1) 393 then
                        bif yin (yad (yad 78 (ymu 4 (r4.2.1 1 77))) 2) 393 then
                          bif yin (yad (yad 78 (ymu 4 (r4.2.1 1 77))) 3) 393 then
                            f_X8_vows_b108 N (yw (yw (yw (yw r4.2 1 (yad 78 (ymu 4 (r4.2.1 1 77))).toNat x1) 1 (yad (yad 78 (ymu 4 (r4.2.1 1 77))) 1).toNat x2) 1 (yad (yad 78 (ymu 4 (r4.2.1 1 77))) 2).toNat x3) 1 (yad (yad 78 (ymu 4 (r4.2.1 1 77))) 3).toNat x4) 77 77
                          else none
                        else none
                      else none
                    else none
                  else
                    some ((-3), r4.2)
                else
                  f_X8_vows_b31 N r4.2
noncomputable def F_X8_vows (N : Nat) : yF := fun as σ => match as with
  | [.inr (.inl 8, 0), .inl (.inl x1), .inl (.inl x2), .inl (.inl x3), .inl (.inl x4)] => (f_X8_vows N σ x1 x2 x3 x4).map (fun r => (some (.inl (.inl r.1)), r.2))
  | _ => none
theorem e_X8_vows {N : Nat} {σ : yS} {x1 : Int} {x2 : Int} {x3 : Int} {x4 : Int} {r : Int × yS} (h : f_X8_vows N σ x1 x2 x3 x4 = some r) : F_X8_vows N [.inr (.inl 8, 0), .inl (.inl x1), .inl (.inl x2), .inl (.inl x3), .inl (.inl x4)] σ = some (some (.inl (.inl r.1)), r.2) := by
  show (f_X8_vows N σ x1 x2 x3 x4).map (fun r => ((some (.inl (.inl r.1)), r.2) : yR)) = _
  rw [h]
  rfl
noncomputable def tb_X8_vows (N : Nat) : yTb := ([(7, 8, 0, 3)], [], [], [(205, 2, 8, F_X8_isHouse N), (209, 2, 8, F_X8_isDeed N)], [(217, 1, F_X8_isKind N), (222, 1, F_X8_isDeep N)], [], [])
abbrev G_X8_vows (N : Nat) (X : zXT) (sh : List yH) (l : Launch) (rm : Room) : yC → yR → Prop := yGoes X vwCl yct sh l rm cX8_vows 6 wsX8_vows RX8 (tb_X8_vows N) pr_X8_vows 1
set_option maxRecDepth 100000 in
set_option maxHeartbeats 4000000 in
theorem t_X8_vows_b31 {N : Nat} {X : zXT} {sh : List yH} {l : Launch} {rm : Room} (σ : yS) (res : Int × yS) (h : f_X8_vows_b31 N σ = some res) : G_X8_vows N X sh l rm (31, [], [], σ) (some (.inl (.inl res.1)), res.2) := by
  unfold f_X8_vows_b31 at h
  refine yG_n (n := 1) (C' := (32, [], [.inl (.inl ((-1)))], σ)) rfl ?_
  have h := Option.some.inj h
  subst h
  dsimp only
  exact yG_r rfl rfl
set_option maxRecDepth 100000 in
set_option maxHeartbeats 4000000 in
theorem t_X8_vows_b118 {N : Nat} {X : zXT} {sh : List yH} {l : Launch} {rm : Room} (σ : yS) (s0 : Int) (res : Int × yS) (h : f_X8_vows_b118 N σ s0 = some res) : G_X8_vows N X sh l rm (118, [], [.inl (.inl s0), .inr (.inr (0, 393), 1)], σ) (some (.inl (.inl res.1)), res.2) := by
  unfold f_X8_vows_b118 at h
  cases hg1 : yin s0 393 with
  | false => rw [hg1] at h; dsimp only [cond] at h; cases h
  | true =>
    rw [hg1] at h
    dsimp only [cond] at h
    refine yG_t (C' := (119, [], [.inl (.inl (σ.1 1 s0.toNat))], σ)) rfl hg1 ?_
    have h := Option.some.inj h
    subst h
    dsimp only
    exact yG_r rfl rfl
set_option maxRecDepth 100000 in
set_option maxHeartbeats 4000000 in
theorem t_X8_vows_b108 {N : Nat} {X : zXT} {sh : List yH} {l : Launch} {rm : Room} (σ : yS) (s0 : Int) (s2 : Int) (res : Int × yS) (h : f_X8_vows_b108 N σ s0 s2 = some res) : G_X8_vows N X sh l rm (108, [(0, .inr (.inl 8, 0))], [.inl (.inl s0), .inr (.inr (0, 393), 1), .inl (.inl s2), .inr (.inr (0, 393), 1)], σ) (some (.inl (.inl res.1)), res.2) := by
  unfold f_X8_vows_b108 at h
  cases hg2 : yin s0 393 with
  | false => rw [hg2] at h; dsimp only [cond] at h; cases h
  | true =>
    rw [hg2] at h
    dsimp only [cond] at h
    refine yG_t (C' := (109, [(0, .inr (.inl 8, 0))], [.inl (.inl (σ.1 1 s0.toNat)), .inl (.inl s2), .inr (.inr (0, 393), 1)], σ)) rfl hg2 ?_
    refine yG_n (n := 2) (C' := (111, [(0, .inr (.inl 8, 0))], [.inl (.inl (yad (σ.1 1 s0.toNat) 1)), .inl (.inl s2), .inr (.inr (0, 393), 1)], σ)) rfl ?_
    cases hg3 : yin s2 393 with
    | false => rw [hg3] at h; dsimp only [cond] at h; cases h
    | true =>
      rw [hg3] at h
      dsimp only [cond] at h
      refine yG_t (C' := (112, [(0, .inr (.inl 8, 0))], [], yw σ 1 s2.toNat (yad (σ.1 1 s0.toNat) 1))) rfl hg3 ?_
      refine yG_n (n := 3) (C' := (118, [(0, .inr (.inl 8, 0))], [.inl (.inl 77), .inr (.inr (0, 393), 1)], yw σ 1 s2.toNat (yad (σ.1 1 s0.toNat) 1))) rfl ?_
      exact yG_w [] rfl (t_X8_vows_b118 (yw σ 1 s2.toNat (yad (σ.1 1 s0.toNat) 1)) 77 res h)
set_option maxRecDepth 100000 in
set_option maxHeartbeats 4000000 in
theorem t_X8_vows {N : Nat} {X : zXT} {sh : List yH} {l : Launch} {rm : Room} (σ : yS) (x1 : Int) (x2 : Int) (x3 : Int) (x4 : Int) (res : Int × yS) (h : f_X8_vows N σ x1 x2 x3 x4 = some res) : G_X8_vows N X sh l rm (0, [(0, .inr (.inl 8, 0)), (1, .inl (.inl x1)), (2, .inl (.inl x2)), (3, .inl (.inl x3)), (4, .inl (.inl x4))], [], σ) (some (.inl (.inl res.1)), res.2) := by
  unfold f_X8_vows at h
  refine yG_n (n := 2) (C' := (2, [(0, .inr (.inl 8, 0)), (1, .inl (.inl x1)), (2, .inl (.inl x2)), (3, .inl (.inl x3)), (4, .inl (.inl x4))], [.inl (.inl x1), .inr (.inl 8, 0)], σ)) rfl ?_
  cases hr4 : f_X8_isHouse N σ x1 with
  | none => rw [hr4] at h; dsimp only at h; cases h
  | some r1 =>
    rw [hr4] at h
    dsimp only at h
    refine yG_c (C1 := (5, [(0, .inr (.inl 8, 0)), (1, .inl (.inl x1)), (2, .inl (.inl x2)), (3, .inl (.inl x3)), (4, .inl (.inl x4))], [.inl (.inl r1.1)], r1.2)) rfl (e_X8_isHouse hr4) rfl ?_
    cases hg5 : ycP .eq r1.1 0 with
    | true =>
      rw [hg5] at h
      dsimp only [cond] at h
      refine yG_t (C' := (31, [(0, .inr (.inl 8, 0)), (1, .inl (.inl x1)), (2, .inl (.inl x2)), (3, .inl (.inl x3)), (4, .inl (.inl x4))], [], r1.2)) rfl hg5 ?_
      exact yG_w [] rfl (t_X8_vows_b31 r1.2 res h)
    | false =>
      rw [hg5] at h
      dsimp only [cond] at h
      refine yG_f (C' := (8, [(0, .inr (.inl 8, 0)), (1, .inl (.inl x1)), (2, .inl (.inl x2)), (3, .inl (.inl x3)), (4, .inl (.inl x4))], [], r1.2)) rfl hg5 ?_
      refine yG_n (n := 1) (C' := (9, [(0, .inr (.inl 8, 0)), (1, .inl (.inl x1)), (2, .inl (.inl x2)), (3, .inl (.inl x3)), (4, .inl (.inl x4))], [.inl (.inl x2)], r1.2)) rfl ?_
      cases hr6 : f_X8_isKind N r1.2 x2 with
      | none => rw [hr6] at h; dsimp only at h; cases h
      | some r2 =>
        rw [hr6] at h
        dsimp only at h
        refine yG_c (C1 := (12, [(0, .inr (.inl 8, 0)), (1, .inl (.inl x1)), (2, .inl (.inl x2)), (3, .inl (.inl x3)), (4, .inl (.inl x4))], [.inl (.inl r2.1)], r2.2)) rfl (e_X8_isKind hr6) rfl ?_
        cases hg7 : ycP .eq r2.1 0 with
        | true =>
          rw [hg7] at h
          dsimp only [cond] at h
          refine yG_t (C' := (31, [(0, .inr (.inl 8, 0)), (1, .inl (.inl x1)), (2, .inl (.inl x2)), (3, .inl (.inl x3)), (4, .inl (.inl x4))], [], r2.2)) rfl hg7 ?_
          exact yG_w [] rfl (t_X8_vows_b31 r2.2 res h)
        | false =>
          rw [hg7] at h
          dsimp only [cond] at h
          refine yG_f (C' := (15, [(0, .inr (.inl 8, 0)), (1, .inl (.inl x1)), (2, .inl (.inl x2)), (3, .inl (.inl x3)), (4, .inl (.inl x4))], [], r2.2)) rfl hg7 ?_
          refine yG_n (n := 1) (C' := (16, [(0, .inr (.inl 8, 0)), (1, .inl (.inl x1)), (2, .inl (.inl x2)), (3, .inl (.inl x3)), (4, .inl (.inl x4))], [.inl (.inl x3)], r2.2)) rfl ?_
          cases hr8 : f_X8_isDeep N r2.2 x3 with
          | none => rw [hr8] at h; dsimp only at h; cases h
          | some r3 =>
            rw [hr8] at h
            dsimp only at h
            refine yG_c (C1 := (19, [(0, .inr (.inl 8, 0)), (1, .inl (.inl x1)), (2, .inl (.inl x2)), (3, .inl (.inl x3)), (4, .inl (.inl x4))], [.inl (.inl r3.1)], r3.2)) rfl (e_X8_isDeep hr8) rfl ?_
            cases hg9 : ycP .eq r3.1 0 with
            | true =>
              rw [hg9] at h
              dsimp only [cond] at h
              refine yG_t (C' := (31, [(0, .inr (.inl 8, 0)), (1, .inl (.inl x1)), (2, .inl (.inl x2)), (3, .inl (.inl x3)), (4, .inl (.inl x4))], [], r3.2)) rfl hg9 ?_
              exact yG_w [] rfl (t_X8_vows_b31 r3.2 res h)
            | false =>
              rw [hg9] at h
              dsimp only [cond] at h
              refine yG_f (C' := (22, [(0, .inr (.inl 8, 0)), (1, .inl (.inl x1)), (2, .inl (.inl x2)), (3, .inl (.inl x3)), (4, .inl (.inl x4))], [], r3.2)) rfl hg9 ?_
              refine yG_n (n := 2) (C' := (25, [(0, .inr (.inl 8, 0)), (1, .inl (.inl x1)), (2, .inl (.inl x2)), (3, .inl (.inl x3)), (4, .inl (.inl x4))], [.inl (.inl x4), .inr (.inl 8, 0)], r3.2)) rfl ?_
              cases hr10 : f_X8_isDeed N r3.2 x4 with
              | none => rw [hr10] at h; dsimp only at h; cases h
              | some r4 =>
                rw [hr10] at h
                dsimp only at h
                refine yG_c (C1 := (28, [(0, .inr (.inl 8, 0)), (1, .inl (.inl x1)), (2, .inl (.inl x2)), (3, .inl (.inl x3)), (4, .inl (.inl x4))], [.inl (.inl r4.1)], r4.2)) rfl (e_X8_isDeed hr10) rfl ?_
                cases hg11 : ycP .ne r4.1 0 with
                | true =>
                  rw [hg11] at h
                  dsimp only [cond] at h
                  refine yG_t (C' := (33, [(0, .inr (.inl 8, 0)), (1, .inl (.inl x1)), (2, .inl (.inl x2)), (3, .inl (.inl x3)), (4, .inl (.inl x4))], [], r4.2)) rfl hg11 ?_
                  refine yG_n (n := 5) (C' := (42, [(0, .inr (.inl 8, 0)), (1, .inl (.inl x1)), (2, .inl (.inl x2)), (3, .inl (.inl x3)), (4, .inl (.inl x4))], [.inl (.inl 10), .inl (.inl (r4.2.1 1 77))], r4.2)) rfl ?_
                  cases hg12 : ycP .ne (r4.2.1 1 77) 10 with
                  | true =>
                    rw [hg12] at h
                    dsimp only [cond] at h
                    refine yG_t (C' := (48, [(0, .inr (.inl 8, 0)), (1, .inl (.inl x1)), (2, .inl (.inl x2)), (3, .inl (.inl x3)), (4, .inl (.inl x4))], [], r4.2)) rfl hg12 ?_
                    refine yG_n (n := 13) (C' := (69, [(5, .inl (.inl (yad 78 (ymu 4 (r4.2.1 1 77))))), (0, .inr (.inl 8, 0)), (1, .inl (.inl x1)), (2, .inl (.inl x2)), (3, .inl (.inl x3)), (4, .inl (.inl x4))], [.inl (.inl x1), .inl (.inl (yad 78 (ymu 4 (r4.2.1 1 77)))), .inr (.inr (0, 393), 1)], r4.2)) rfl ?_
                    cases hg13 : yin (yad 78 (ymu 4 (r4.2.1 1 77))) 393 with
                    | false => rw [hg13] at h; dsimp only [cond] at h; cases h
                    | true =>
                      rw [hg13] at h
                      dsimp only [cond] at h
                      refine yG_t (C' := (70, [(5, .inl (.inl (yad 78 (ymu 4 (r4.2.1 1 77))))), (0, .inr (.inl 8, 0)), (1, .inl (.inl x1)), (2, .inl (.inl x2)), (3, .inl (.inl x3)), (4, .inl (.inl x4))], [], yw r4.2 1 (yad 78 (ymu 4 (r4.2.1 1 77))).toNat x1)) rfl hg13 ?_
                      refine yG_n (n := 6) (C' := (79, [(5, .inl (.inl (yad 78 (ymu 4 (r4.2.1 1 77))))), (0, .inr (.inl 8, 0)), (1, .inl (.inl x1)), (2, .inl (.inl x2)), (3, .inl (.inl x3)), (4, .inl (.inl x4))], [.inl (.inl x2), .inl (.inl (yad (yad 78 (ymu 4 (r4.2.1 1 77))) 1)), .inr (.inr (0, 393), 1)], yw r4.2 1 (yad 78 (ymu 4 (r4.2.1 1 77))).toNat x1)) rfl ?_
                      cases hg14 : yin (yad (yad 78 (ymu 4 (r4.2.1 1 77))) 1) 393 with
                      | false => rw [hg14] at h; dsimp only [cond] at h; cases h
                      | true =>
                        rw [hg14] at h
                        dsimp only [cond] at h
                        refine yG_t (C' := (80, [(5, .inl (.inl (yad 78 (ymu 4 (r4.2.1 1 77))))), (0, .inr (.inl 8, 0)), (1, .inl (.inl x1)), (2, .inl (.inl x2)), (3, .inl (.inl x3)), (4, .inl (.inl x4))], [], yw (yw r4.2 1 (yad 78 (ymu 4 (r4.2.1 1 77))).toNat x1) 1 (yad (yad 78 (ymu 4 (r4.2.1 1 77))) 1).toNat x2)) rfl hg14 ?_
                        refine yG_n (n := 6) (C' := (89, [(5, .inl (.inl (yad 78 (ymu 4 (r4.2.1 1 77))))), (0, .inr (.inl 8, 0)), (1, .inl (.inl x1)), (2, .inl (.inl x2)), (3, .inl (.inl x3)), (4, .inl (.inl x4))], [.inl (.inl x3), .inl (.inl (yad (yad 78 (ymu 4 (r4.2.1 1 77))) 2)), .inr (.inr (0, 393), 1)], yw (yw r4.2 1 (yad 78 (ymu 4 (r4.2.1 1 77))).toNat x1) 1 (yad (yad 78 (ymu 4 (r4.2.1 1 77))) 1).toNat x2)) rfl ?_
                        cases hg15 : yin (yad (yad 78 (ymu 4 (r4.2.1 1 77))) 2) 393 with
                        | false => rw [hg15] at h; dsimp only [cond] at h; cases h
                        | true =>
                          rw [hg15] at h
                          dsimp only [cond] at h
                          refine yG_t (C' := (90, [(5, .inl (.inl (yad 78 (ymu 4 (r4.2.1 1 77))))), (0, .inr (.inl 8, 0)), (1, .inl (.inl x1)), (2, .inl (.inl x2)), (3, .inl (.inl x3)), (4, .inl (.inl x4))], [], yw (yw (yw r4.2 1 (yad 78 (ymu 4 (r4.2.1 1 77))).toNat x1) 1 (yad (yad 78 (ymu 4 (r4.2.1 1 77))) 1).toNat x2) 1 (yad (yad 78 (ymu 4 (r4.2.1 1 77))) 2).toNat x3)) rfl hg15 ?_
                          refine yG_n (n := 6) (C' := (100, [(5, .inl (.inl (yad 78 (ymu 4 (r4.2.1 1 77))))), (0, .inr (.inl 8, 0)), (1, .inl (.inl x1)), (2, .inl (.inl x2)), (3, .inl (.inl x3)), (4, .inl (.inl x4))], [.inl (.inl x4), .inl (.inl (yad (yad 78 (ymu 4 (r4.2.1 1 77))) 3)), .inr (.inr (0, 393), 1)], yw (yw (yw r4.2 1 (yad 78 (ymu 4 (r4.2.1 1 77))).toNat x1) 1 (yad (yad 78 (ymu 4 (r4.2.1 1 77))) 1).toNat x2) 1 (yad (yad 78 (ymu 4 (r4.2.1 1 77))) 2).toNat x3)) rfl ?_
                          cases hg16 : yin (yad (yad 78 (ymu 4 (r4.2.1 1 77))) 3) 393 with
                          | false => rw [hg16] at h; dsimp only [cond] at h; cases h
                          | true =>
                            rw [hg16] at h
                            dsimp only [cond] at h
                            refine yG_t (C' := (101, [(5, .inl (.inl (yad 78 (ymu 4 (r4.2.1 1 77))))), (0, .inr (.inl 8, 0)), (1, .inl (.inl x1)), (2, .inl (.inl x2)), (3, .inl (.inl x3)), (4, .inl (.inl x4))], [], yw (yw (yw (yw r4.2 1 (yad 78 (ymu 4 (r4.2.1 1 77))).toNat x1) 1 (yad (yad 78 (ymu 4 (r4.2.1 1 77))) 1).toNat x2) 1 (yad (yad 78 (ymu 4 (r4.2.1 1 77))) 2).toNat x3) 1 (yad (yad 78 (ymu 4 (r4.2.1 1 77))) 3).toNat x4)) rfl hg16 ?_
                            refine yG_n (n := 4) (C' := (108, [(5, .inl (.inl (yad 78 (ymu 4 (r4.2.1 1 77))))), (0, .inr (.inl 8, 0)), (1, .inl (.inl x1)), (2, .inl (.inl x2)), (3, .inl (.inl x3)), (4, .inl (.inl x4))], [.inl (.inl 77), .inr (.inr (0, 393), 1), .inl (.inl 77), .inr (.inr (0, 393), 1)], yw (yw (yw (yw r4.2 1 (yad 78 (ymu 4 (r4.2.1 1 77))).toNat x1) 1 (yad (yad 78 (ymu 4 (r4.2.1 1 77))) 1).toNat x2) 1 (yad (yad 78 (ymu 4 (r4.2.1 1 77))) 2).toNat x3) 1 (yad (yad 78 (ymu 4 (r4.2.1 1 77))) 3).toNat x4)) rfl ?_
                            exact yG_w [1] rfl (t_X8_vows_b108 (yw (yw (yw (yw r4.2 1 (yad 78 (ymu 4 (r4.2.1 1 77))).toNat x1) 1 (yad (yad 78 (ymu 4 (r4.2.1 1 77))) 1).toNat x2) 1 (yad (yad 78 (ymu 4 (r4.2.1 1 77))) 2).toNat x3) 1 (yad (yad 78 (ymu 4 (r4.2.1 1 77))) 3).toNat x4) 77 77 res h)
                  | false =>
                    rw [hg12] at h
                    dsimp only [cond] at h
                    refine yG_f (C' := (45, [(0, .inr (.inl 8, 0)), (1, .inl (.inl x1)), (2, .inl (.inl x2)), (3, .inl (.inl x3)), (4, .inl (.inl x4))], [], r4.2)) rfl hg12 ?_
                    refine yG_n (n := 1) (C' := (47, [(0, .inr (.inl 8, 0)), (1, .inl (.inl x1)), (2, .inl (.inl x2)), (3, .inl (.inl x3)), (4, .inl (.inl x4))], [.inl (.inl ((-3)))], r4.2)) rfl ?_
                    have h := Option.some.inj h
                    subst h
                    dsimp only
                    exact yG_r rfl rfl
                | false =>
                  rw [hg11] at h
                  dsimp only [cond] at h
                  refine yG_f (C' := (31, [(0, .inr (.inl 8, 0)), (1, .inl (.inl x1)), (2, .inl (.inl x2)), (3, .inl (.inl x3)), (4, .inl (.inl x4))], [], r4.2)) rfl hg11 ?_
                  exact yG_w [] rfl (t_X8_vows_b31 r4.2 res h)
set_option maxRecDepth 100000 in
set_option maxHeartbeats 4000000 in
theorem m_X8_vows {N : Nat} {X : zXT} (hX : zXok X) (hN : zXn X) (l : Launch) {sh : List yH} : yMet X vwCl yct sh l yX8_vows wsX8_vows { frames := 3, cells := 0, slots := 0, locals := 110 } (F_X8_vows N) :=
  ymeth (tb := tb_X8_vows N) (pr := pr_X8_vows) (rt := 1) (own := RX8) hX (by decide +kernel) rfl rfl ⟨Nat.le_of_ble_eq_true rfl, Nat.le_of_ble_eq_true rfl⟩
    (zfl_all (List.forall_mem_cons.mpr ⟨zfl_X8 (fun w h => List.mem_cons_of_mem _ (List.mem_append_right _ h)) (List.mem_of_getElem? (i := 1) rfl) (by decide) (by decide), fun _ h => absurd h List.not_mem_nil⟩))
    (zco_all (fun _ h => absurd h List.not_mem_nil)) (zlc_all (fun _ h => absurd h List.not_mem_nil))
    (List.forall_mem_cons.mpr ⟨ycal_V hX (m_X8_isHouse hX hN l) rfl (fun s args hts => cwV 1 hts gX8_vows_X8_isHouse rfl rfl rfl (by decide +kernel) ⟨Nat.le_of_ble_eq_true rfl, Nat.le_of_ble_eq_true rfl⟩), List.forall_mem_cons.mpr ⟨ycal_V hX (m_X8_isDeed hX hN l) rfl (fun s args hts => cwV 1 hts gX8_vows_X8_isDeed rfl rfl rfl (by decide +kernel) ⟨Nat.le_of_ble_eq_true rfl, Nat.le_of_ble_eq_true rfl⟩), fun _ h => absurd h List.not_mem_nil⟩⟩)
    (List.forall_mem_cons.mpr ⟨ycal_S hX (m_X8_isKind hX hN l) (fun s args hts => va_cwS 1 hts gX8_vows_X8_isKind rfl rfl rfl (by decide +kernel) ⟨Nat.le_of_ble_eq_true rfl, Nat.le_of_ble_eq_true rfl⟩), List.forall_mem_cons.mpr ⟨ycal_S hX (m_X8_isDeep hX hN l) (fun s args hts => va_cwS 1 hts gX8_vows_X8_isDeep rfl rfl rfl (by decide +kernel) ⟨Nat.le_of_ble_eq_true rfl, Nat.le_of_ble_eq_true rfl⟩), fun _ h => absurd h List.not_mem_nil⟩⟩)
    (zmm_all (fun _ h => absurd h List.not_mem_nil)) (fun _ h => absurd h List.not_mem_nil) (zpr_all hp_X8_vows) (fun as σ res h => by
      unfold F_X8_vows at h
      split at h
      · rename_i x1 x2 x3 x4
        cases hr : f_X8_vows N σ x1 x2 x3 x4 with
        | none => rw [hr] at h; cases h
        | some r =>
          rw [hr] at h
          cases h
          exact ⟨Nat.le_of_ble_eq_true rfl, t_X8_vows σ x1 x2 x3 x4 r hr⟩
      · cases h)
end
