noncomputable def pr_X8_lookedDeed : List (Nat × Instr × Nat) := [(0, .aload_n 0, 1), (1, .iconst 0, 1), (2, .iconst 4, 1), (3, .invokevirtual 143, 3), (6, .istore_n 1, 1), (7, .aload_n 0, 1), (8, .aload_n 0, 1), (9, .getfield 97, 3), (12, .ifCond .ne 15, 3), (15, .iload_n 1, 1), (16, .aload_n 0, 1), (17, .getfield 76, 3), (20, .if_icmp .le 7, 3), (23, .iload_n 1, 1), (24, .goto 7, 3), (27, .aload_n 0, 1), (28, .getfield 76, 3), (31, .putfield 76, 3), (34, .iload_n 1, 1), (35, .ireturn, 1)]
set_option maxRecDepth 100000 in
theorem hp_X8_lookedDeed : pr_X8_lookedDeed.all (fun x => decide (decode cX8_lookedDeed x.1 = .ok x.2)) = true := by decide +kernel
noncomputable def f_X8_lookedDeed_b31 (N : Nat) (σ : yS) (x1 : Int) (s0 : Int) : Option (Int × yS) :=
  some (x1, yw σ 0 15 s0)
noncomputable def f_X8_lookedDeed_b27 (N : Nat) (σ : yS) (x1 : Int) : Option (Int × yS) :=
  f_X8_lookedDeed_b31 N σ x1 (σ.1 0 15)
noncomputable def f_X8_lookedDeed (N : Nat) (σ : yS) : Option (Int × yS) :=
  match f_X8_looked N σ 0 4 with
  | none => none
  | some r1 => bif ycP .ne (r1.2.1 0 22) 0 then
      f_X8_lookedDeed_b27 N r1.2 r1.1
    else
      bif ycP .le r1.1 (r1.2.1 0 15) then
        f_X8_lookedDeed_b27 N r1.2 r1.1
      else
        f_X8_lookedDeed_b31 N r1.2 r1.1 r1.1
noncomputable def F_X8_lookedDeed (N : Nat) : yF := fun as σ => match as with
  | [.inr (.inl 8, 0)] => (f_X8_lookedDeed N σ).map (fun r => (some (.inl (.inl r.1)), r.2))
  | _ => none
theorem e_X8_lookedDeed {N : Nat} {σ : yS} {r : Int × yS} (h : f_X8_lookedDeed N σ = some r) : F_X8_lookedDeed N [.inr (.inl 8, 0)] σ = some (some (.inl (.inl r.1)), r.2) := by
  show (f_X8_lookedDeed N σ).map (fun r => ((some (.inl (.inl r.1)), r.2) : yR)) = _
  rw [h]
  rfl
noncomputable def tb_X8_lookedDeed (N : Nat) : yTb := ([(76, 8, 15, 0), (97, 8, 22, 0)], [], [], [(143, 3, 8, F_X8_looked N)], [], [], [])
abbrev G_X8_lookedDeed (N : Nat) (X : zXT) (sh : List yH) (l : Launch) (rm : Room) : yC → yR → Prop := yGoes X vwCl yct sh l rm cX8_lookedDeed 2 wsX8_lookedDeed RX8 (tb_X8_lookedDeed N) pr_X8_lookedDeed 1
set_option maxRecDepth 100000 in
set_option maxHeartbeats 4000000 in
theorem t_X8_lookedDeed_b31 {N : Nat} {X : zXT} {sh : List yH} {l : Launch} {rm : Room} (σ : yS) (x1 : Int) (s0 : Int) (res : Int × yS) (h : f_X8_lookedDeed_b31 N σ x1 s0 = some res) : G_X8_lookedDeed N X sh l rm (31, [(1, .inl (.inl x1))], [.inl (.inl s0), .inr (.inl 8, 0)], σ) (some (.inl (.inl res.1)), res.2) := by
  unfold f_X8_lookedDeed_b31 at h
  refine yG_n (n := 2) (C' := (35, [(1, .inl (.inl x1))], [.inl (.inl x1)], yw σ 0 15 s0)) rfl ?_
  have h := Option.some.inj h
  subst h
  dsimp only
  exact yG_r rfl rfl
set_option maxRecDepth 100000 in
set_option maxHeartbeats 4000000 in
theorem t_X8_lookedDeed_b27 {N : Nat} {X : zXT} {sh : List yH} {l : Launch} {rm : Room} (σ : yS) (x1 : Int) (res : Int × yS) (h : f_X8_lookedDeed_b27 N σ x1 = some res) : G_X8_lookedDeed N X sh l rm (27, [(0, .inr (.inl 8, 0)), (1, .inl (.inl x1))], [.inr (.inl 8, 0)], σ) (some (.inl (.inl res.1)), res.2) := by
  unfold f_X8_lookedDeed_b27 at h
  refine yG_n (n := 2) (C' := (31, [(0, .inr (.inl 8, 0)), (1, .inl (.inl x1))], [.inl (.inl (σ.1 0 15)), .inr (.inl 8, 0)], σ)) rfl ?_
  exact yG_w [1] rfl (t_X8_lookedDeed_b31 σ x1 (σ.1 0 15) res h)
set_option maxRecDepth 100000 in
set_option maxHeartbeats 4000000 in
theorem t_X8_lookedDeed {N : Nat} {X : zXT} {sh : List yH} {l : Launch} {rm : Room} (σ : yS) (res : Int × yS) (h : f_X8_lookedDeed N σ = some res) : G_X8_lookedDeed N X sh l rm (0, [(0, .inr (.inl 8, 0))], [], σ) (some (.inl (.inl res.1)), res.2) := by
  unfold f_X8_lookedDeed at h
  refine yG_n (n := 3) (C' := (3, [(0, .inr (.inl 8, 0))], [.inl (.inl 4), .inl (.inl 0), .inr (.inl 8, 0)], σ)) rfl ?_
  cases hr1 : f_X8_looked N σ 0 4 with
  | none => rw [hr1] at h; dsimp only at h; cases h
  | some r1 =>
    rw [hr1] at h
    dsimp only at h
    refine yG_c (C1 := (6, [(0, .inr (.inl 8, 0))], [.inl (.inl r1.1)], r1.2)) rfl (e_X8_looked hr1) rfl ?_
    refine yG_n (n := 4) (C' := (12, [(1, .inl (.inl r1.1)), (0, .inr (.inl 8, 0))], [.inl (.inl (r1.2.1 0 22)), .inr (.inl 8, 0)], r1.2)) rfl ?_
    cases hg2 : ycP .ne (r1.2.1 0 22) 0 with
    | true =>
      rw [hg2] at h
      dsimp only [cond] at h
      refine yG_t (C' := (27, [(1, .inl (.inl r1.1)), (0, .inr (.inl 8, 0))], [.inr (.inl 8, 0)], r1.2)) rfl hg2 ?_
      exact yG_w [1, 0] rfl (t_X8_lookedDeed_b27 r1.2 r1.1 res h)
    | false =>
      rw [hg2] at h
      dsimp only [cond] at h
      refine yG_f (C' := (15, [(1, .inl (.inl r1.1)), (0, .inr (.inl 8, 0))], [.inr (.inl 8, 0)], r1.2)) rfl hg2 ?_
      refine yG_n (n := 3) (C' := (20, [(1, .inl (.inl r1.1)), (0, .inr (.inl 8, 0))], [.inl (.inl (r1.2.1 0 15)), .inl (.inl r1.1), .inr (.inl 8, 0)], r1.2)) rfl ?_
      cases hg3 : ycP .le r1.1 (r1.2.1 0 15) with
      | true =>
        rw [hg3] at h
        dsimp only [cond] at h
        refine yG_t (C' := (27, [(1, .inl (.inl r1.1)), (0, .inr (.inl 8, 0))], [.inr (.inl 8, 0)], r1.2)) rfl hg3 ?_
        exact yG_w [1, 0] rfl (t_X8_lookedDeed_b27 r1.2 r1.1 res h)
      | false =>
        rw [hg3] at h
        dsimp only [cond] at h
        refine yG_f (C' := (23, [(1, .inl (.inl r1.1)), (0, .inr (.inl 8, 0))], [.inr (.inl 8, 0)], r1.2)) rfl hg3 ?_
        refine yG_n (n := 2) (C' := (31, [(1, .inl (.inl r1.1)), (0, .inr (.inl 8, 0))], [.inl (.inl r1.1), .inr (.inl 8, 0)], r1.2)) rfl ?_
        exact yG_w [0] rfl (t_X8_lookedDeed_b31 r1.2 r1.1 r1.1 res h)
set_option maxRecDepth 100000 in
set_option maxHeartbeats 4000000 in
theorem m_X8_lookedDeed {N : Nat} {X : zXT} (hX : zXok X) (hN : zXn X) (l : Launch) {sh : List yH} : yMet X vwCl yct sh l yX8_lookedDeed wsX8_lookedDeed { frames := 3, cells := 0, slots := 0, locals := 111 } (F_X8_lookedDeed N) :=
  ymeth (tb := tb_X8_lookedDeed N) (pr := pr_X8_lookedDeed) (rt := 1) (own := RX8) hX (by decide +kernel) rfl rfl ⟨Nat.le_of_ble_eq_true rfl, Nat.le_of_ble_eq_true rfl⟩
    (zfl_all (List.forall_mem_cons.mpr ⟨zfl_X8 (fun w h => List.mem_cons_of_mem _ (List.mem_append_right _ h)) (List.mem_of_getElem? (i := 2) rfl) (by decide) (by decide), List.forall_mem_cons.mpr ⟨zfl_X8 (fun w h => List.mem_cons_of_mem _ (List.mem_append_right _ h)) (List.mem_of_getElem? (i := 1) rfl) (by decide) (by decide), fun _ h => absurd h List.not_mem_nil⟩⟩))
    (zco_all (fun _ h => absurd h List.not_mem_nil)) (zlc_all (fun _ h => absurd h List.not_mem_nil))
    (List.forall_mem_cons.mpr ⟨ycal_V hX (m_X8_looked hX hN l) rfl (fun s args hts => cwV 2 hts gX8_lookedDeed_X8_looked rfl rfl rfl (by decide +kernel) ⟨Nat.le_of_ble_eq_true rfl, Nat.le_of_ble_eq_true rfl⟩), fun _ h => absurd h List.not_mem_nil⟩)
    (fun _ h => absurd h List.not_mem_nil)
    (zmm_all (fun _ h => absurd h List.not_mem_nil)) (fun _ h => absurd h List.not_mem_nil) (zpr_all hp_X8_lookedDeed) (fun as σ res h => by
      unfold F_X8_lookedDeed at h
      split at h
      · cases hr : f_X8_lookedDeed N σ with
        | none => rw [hr] at h; cases h
        | some r =>
          rw [hr] at h
          cases h
          exact ⟨Nat.le_of_ble_eq_true rfl, t_X8_lookedDeed σ r hr⟩
      · cases h)
noncomputable def pr_X8_lookedHouse : List (Nat × Instr × Nat) := [(0, .aload_n 0, 1), (1, .iconst 0, 1), (2, .bipush 6, 2), (4, .invokevirtual 143, 3), (7, .istore_n 1, 1), (8, .aload_n 0, 1), (9, .aload_n 0, 1), (10, .getfield 97, 3), (13, .ifCond .ne 15, 3), (16, .iload_n 1, 1), (17, .aload_n 0, 1), (18, .getfield 73, 3), (21, .if_icmp .le 7, 3), (24, .iload_n 1, 1), (25, .goto 7, 3), (28, .aload_n 0, 1), (29, .getfield 73, 3), (32, .putfield 73, 3), (35, .iload_n 1, 1), (36, .ireturn, 1)]
set_option maxRecDepth 100000 in
theorem hp_X8_lookedHouse : pr_X8_lookedHouse.all (fun x => decide (decode cX8_lookedHouse x.1 = .ok x.2)) = true := by decide +kernel
noncomputable def f_X8_lookedHouse_b32 (N : Nat) (σ : yS) (x1 : Int) (s0 : Int) : Option (Int × yS) :=
  some (x1, yw σ 0 14 s0)
noncomputable def f_X8_lookedHouse_b28 (N : Nat) (σ : yS) (x1 : Int) : Option (Int × yS) :=
  f_X8_lookedHouse_b32 N σ x1 (σ.1 0 14)
noncomputable def f_X8_lookedHouse (N : Nat) (σ : yS) : Option (Int × yS) :=
  match f_X8_looked N σ 0 6 with
  | none => none
  | some r1 => bif ycP .ne (r1.2.1 0 22) 0 then
      f_X8_lookedHouse_b28 N r1.2 r1.1
    else
      bif ycP .le r1.1 (r1.2.1 0 14) then
        f_X8_lookedHouse_b28 N r1.2 r1.1
      else
        f_X8_lookedHouse_b32 N r1.2 r1.1 r1.1
noncomputable def F_X8_lookedHouse (N : Nat) : yF := fun as σ => match as with
  | [.inr (.inl 8, 0)] => (f_X8_lookedHouse N σ).map (fun r => (some (.inl (.inl r.1)), r.2))
  | _ => none
theorem e_X8_lookedHouse {N : Nat} {σ : yS} {r : Int × yS} (h : f_X8_lookedHouse N σ = some r) : F_X8_lookedHouse N [.inr (.inl 8, 0)] σ = some (some (.inl (.inl r.1)), r.2) := by
  show (f_X8_lookedHouse N σ).map (fun r => ((some (.inl (.inl r.1)), r.2) : yR)) = _
  rw [h]
  rfl
noncomputable def tb_X8_lookedHouse (N : Nat) : yTb := ([(73, 8, 14, 0), (97, 8, 22, 0)], [], [], [(143, 3, 8, F_X8_looked N)], [], [], [])
abbrev G_X8_lookedHouse (N : Nat) (X : zXT) (sh : List yH) (l : Launch) (rm : Room) : yC → yR → Prop := yGoes X vwCl yct sh l rm cX8_lookedHouse 2 wsX8_lookedHouse RX8 (tb_X8_lookedHouse N) pr_X8_lookedHouse 1
set_option maxRecDepth 100000 in
set_option maxHeartbeats 4000000 in
theorem t_X8_lookedHouse_b32 {N : Nat} {X : zXT} {sh : List yH} {l : Launch} {rm : Room} (σ : yS) (x1 : Int) (s0 : Int) (res : Int × yS) (h : f_X8_lookedHouse_b32 N σ x1 s0 = some res) : G_X8_lookedHouse N X sh l rm (32, [(1, .inl (.inl x1))], [.inl (.inl s0), .inr (.inl 8, 0)], σ) (some (.inl (.inl res.1)), res.2) := by
  unfold f_X8_lookedHouse_b32 at h
  refine yG_n (n := 2) (C' := (36, [(1, .inl (.inl x1))], [.inl (.inl x1)], yw σ 0 14 s0)) rfl ?_
  have h := Option.some.inj h
  subst h
  dsimp only
  exact yG_r rfl rfl
set_option maxRecDepth 100000 in
set_option maxHeartbeats 4000000 in
theorem t_X8_lookedHouse_b28 {N : Nat} {X : zXT} {sh : List yH} {l : Launch} {rm : Room} (σ : yS) (x1 : Int) (res : Int × yS) (h : f_X8_lookedHouse_b28 N σ x1 = some res) : G_X8_lookedHouse N X sh l rm (28, [(0, .inr (.inl 8, 0)), (1, .inl (.inl x1))], [.inr (.inl 8, 0)], σ) (some (.inl (.inl res.1)), res.2) := by
  unfold f_X8_lookedHouse_b28 at h
  refine yG_n (n := 2) (C' := (32, [(0, .inr (.inl 8, 0)), (1, .inl (.inl x1))], [.inl (.inl (σ.1 0 14)), .inr (.inl 8, 0)], σ)) rfl ?_
  exact yG_w [1] rfl (t_X8_lookedHouse_b32 σ x1 (σ.1 0 14) res h)
set_option maxRecDepth 100000 in
set_option maxHeartbeats 4000000 in
theorem t_X8_lookedHouse {N : Nat} {X : zXT} {sh : List yH} {l : Launch} {rm : Room} (σ : yS) (res : Int × yS) (h : f_X8_lookedHouse N σ = some res) : G_X8_lookedHouse N X sh l rm (0, [(0, .inr (.inl 8, 0))], [], σ) (some (.inl (.inl res.1)), res.2) := by
  unfold f_X8_lookedHouse at h
  refine yG_n (n := 3) (C' := (4, [(0, .inr (.inl 8, 0))], [.inl (.inl 6), .inl (.inl 0), .inr (.inl 8, 0)], σ)) rfl ?_
  cases hr1 : f_X8_looked N σ 0 6 with
  | none => rw [hr1] at h; dsimp only at h; cases h
  | some r1 =>
    rw [hr1] at h
    dsimp only at h
    refine yG_c (C1 := (7, [(0, .inr (.inl 8, 0))], [.inl (.inl r1.1)], r1.2)) rfl (e_X8_looked hr1) rfl ?_
    refine yG_n (n := 4) (C' := (13, [(1, .inl (.inl r1.1)), (0, .inr (.inl 8, 0))], [.inl (.inl (r1.2.1 0 22)), .inr (.inl 8, 0)], r1.2)) rfl ?_
    cases hg2 : ycP .ne (r1.2.1 0 22) 0 with
    | true =>
      rw [hg2] at h
      dsimp only [cond] at h
      refine yG_t (C' := (28, [(1, .inl (.inl r1.1)), (0, .inr (.inl 8, 0))], [.inr (.inl 8, 0)], r1.2)) rfl hg2 ?_
      exact yG_w [1, 0] rfl (t_X8_lookedHouse_b28 r1.2 r1.1 res h)
    | false =>
      rw [hg2] at h
      dsimp only [cond] at h
      refine yG_f (C' := (16, [(1, .inl (.inl r1.1)), (0, .inr (.inl 8, 0))], [.inr (.inl 8, 0)], r1.2)) rfl hg2 ?_
      refine yG_n (n := 3) (C' := (21, [(1, .inl (.inl r1.1)), (0, .inr (.inl 8, 0))], [.inl (.inl (r1.2.1 0 14)), .inl (.inl r1.1), .inr (.inl 8, 0)], r1.2)) rfl ?_
      cases hg3 : ycP .le r1.1 (r1.2.1 0 14) with
      | true =>
        rw [hg3] at h
        dsimp only [cond] at h
        refine yG_t (C' := (28, [(1, .inl (.inl r1.1)), (0, .inr (.inl 8, 0))], [.inr (.inl 8, 0)], r1.2)) rfl hg3 ?_
        exact yG_w [1, 0] rfl (t_X8_lookedHouse_b28 r1.2 r1.1 res h)
      | false =>
        rw [hg3] at h
        dsimp only [cond] at h
        refine yG_f (C' := (24, [(1, .inl (.inl r1.1)), (0, .inr (.inl 8, 0))], [.inr (.inl 8, 0)], r1.2)) rfl hg3 ?_
        refine yG_n (n := 2) (C' := (32, [(1, .inl (.inl r1.1)), (0, .inr (.inl 8, 0))], [.inl (.inl r1.1), .inr (.inl 8, 0)], r1.2)) rfl ?_
        exact yG_w [0] rfl (t_X8_lookedHouse_b32 r1.2 r1.1 r1.1 res h)
set_option maxRecDepth 100000 in
set_option maxHeartbeats 4000000 in
theorem m_X8_lookedHouse {N : Nat} {X : zXT} (hX : zXok X) (hN : zXn X) (l : Launch) {sh : List yH} : yMet X vwCl yct sh l yX8_lookedHouse wsX8_lookedHouse { frames := 3, cells := 0, slots := 0, locals := 111 } (F_X8_lookedHouse N) :=
  ymeth (tb := tb_X8_lookedHouse N) (pr := pr_X8_lookedHouse) (rt := 1) (own := RX8) hX (by decide +kernel) rfl rfl ⟨Nat.le_of_ble_eq_true rfl, Nat.le_of_ble_eq_true rfl⟩
    (zfl_all (List.forall_mem_cons.mpr ⟨zfl_X8 (fun w h => List.mem_cons_of_mem _ (List.mem_append_right _ h)) (List.mem_of_getElem? (i := 2) rfl) (by decide) (by decide), List.forall_mem_cons.mpr ⟨zfl_X8 (fun w h => List.mem_cons_of_mem _ (List.mem_append_right _ h)) (List.mem_of_getElem? (i := 1) rfl) (by decide) (by decide), fun _ h => absurd h List.not_mem_nil⟩⟩))
    (zco_all (fun _ h => absurd h List.not_mem_nil)) (zlc_all (fun _ h => absurd h List.not_mem_nil))
    (List.forall_mem_cons.mpr ⟨ycal_V hX (m_X8_looked hX hN l) rfl (fun s args hts => cwV 2 hts gX8_lookedHouse_X8_looked rfl rfl rfl (by decide +kernel) ⟨Nat.le_of_ble_eq_true rfl, Nat.le_of_ble_eq_true rfl⟩), fun _ h => absurd h List.not_mem_nil⟩)
    (fun _ h => absurd h List.not_mem_nil)
    (zmm_all (fun _ h => absurd h List.not_mem_nil)) (fun _ h => absurd h List.not_mem_nil) (zpr_all hp_X8_lookedHouse) (fun as σ res h => by
      unfold F_X8_lookedHouse at h
      split at h
      · cases hr : f_X8_lookedHouse N σ with
        | none => rw [hr] at h; cases h
        | some r =>
          rw [hr] at h
          cases h
          exact ⟨Nat.le_of_ble_eq_true rfl, t_X8_lookedHouse σ r hr⟩
      · cases h)
noncomputable def pr_X8_timesOf : List (Nat × Instr × Nat) := [(0, .iconst 0, 1), (1, .istore_n 3, 1), (2, .iconst 0, 1), (3, .istore 4, 2), (5, .iload 4, 2), (7, .aload_n 0, 1), (8, .getfield 7, 3), (11, .bipush 21, 2), (13, .iload_n 1, 1), (14, .iadd, 1), (15, .iaload, 1), (16, .invokestatic 249, 3), (19, .if_icmp .ge 43, 3), (22, .iload_n 3, 1), (23, .aload_n 0, 1), (24, .iload_n 1, 1), (25, .aload_n 0, 1), (26, .getfield 7, 3), (29, .bipush 21, 2), (31, .iload_n 1, 1), (32, .iadd, 1), (33, .iaload, 1), (34, .iload 4, 2), (36, .invokestatic 252, 3), (39, .invokevirtual 255, 3), (42, .iload_n 2, 1), (43, .if_icmp .ne 7, 3), (46, .iconst 1, 1), (47, .goto 4, 3), (50, .iconst 0, 1), (51, .invokestatic 197, 3), (54, .iadd, 1), (55, .istore_n 3, 1), (56, .iinc 4 1, 3), (59, .goto (-54), 3), (62, .aload_n 0, 1), (63, .getfield 7, 3), (66, .bipush 21, 2), (68, .iload_n 1, 1), (69, .iadd, 1), (70, .iaload, 1), (71, .iconst 4, 1), (72, .if_icmp .eq 28, 3), (75, .aload_n 0, 1), (76, .getfield 7, 3), (79, .bipush 14, 2), (81, .iload_n 2, 1), (82, .iadd, 1), (83, .iaload, 1), (84, .iconst 1, 1), (85, .if_icmp .eq 15, 3), (88, .aload_n 0, 1), (89, .getfield 7, 3), (92, .bipush 35, 2), (94, .iload_n 1, 1), (95, .iadd, 1), (96, .iaload, 1), (97, .ifCond .ne 7, 3), (100, .iconst 0, 1), (101, .goto 4, 3), (104, .iload_n 3, 1), (105, .ireturn, 1)]
set_option maxRecDepth 100000 in
theorem hp_X8_timesOf : pr_X8_timesOf.all (fun x => decide (decode cX8_timesOf x.1 = .ok x.2)) = true := by decide +kernel
noncomputable def f_X8_timesOf_b105 (N : Nat) (σ : yS) (s0 : Int) : Option (Int × yS) :=
  some (s0, σ)
noncomputable def f_X8_timesOf_b100 (N : Nat) (σ : yS) : Option (Int × yS) :=
  f_X8_timesOf_b105 N σ 0
noncomputable def f_X8_timesOf_b51 (N : Nat) (k5 : yS → Int → Int → Int → Int → Option (Int × yS)) (σ : yS) (x1 : Int) (x2 : Int) (x4 : Int) (s0 : Int) (s1 : Int) : Option (Int × yS) :=
  match f_X8_flag N σ s0 with
  | none => none
  | some r4 => k5 r4.2 x1 x2 (yad s1 r4.1) (yad x4 1)
noncomputable def f_X8_timesOf_b5 (N : Nat) : Nat → yS → Int → Int → Int → Int → Option (Int × yS) := yfix (fun _ _ _ _ _ => none) (fun ih σ x1 x2 x3 x4 =>
    bif yin (yad 21 x1) 393 then
      match f_X8_fallsOf N σ (σ.1 1 (yad 21 x1).toNat) with
      | none => none
      | some r1 => bif ycP .ge x4 r1.1 then
          bif ycP .eq (r1.2.1 1 (yad 21 x1).toNat) 4 then
            f_X8_timesOf_b100 N r1.2
          else
            bif yin (yad 14 x2) 393 then
              bif ycP .eq (r1.2.1 1 (yad 14 x2).toNat) 1 then
                f_X8_timesOf_b100 N r1.2
              else
                bif yin (yad 35 x1) 393 then
                  bif ycP .ne (r1.2.1 1 (yad 35 x1).toNat) 0 then
                    f_X8_timesOf_b105 N r1.2 x3
                  else
                    f_X8_timesOf_b100 N r1.2
                else none
            else none
        else
          match f_X8_byOf N r1.2 (r1.2.1 1 (yad 21 x1).toNat) x4 with
          | none => none
          | some r2 => match f_X8_off N r2.2 x1 r2.1 with
            | none => none
            | some r3 => bif ycP .ne r3.1 x2 then
                f_X8_timesOf_b51 N ih r3.2 x1 x2 x4 0 x3
              else
                f_X8_timesOf_b51 N ih r3.2 x1 x2 x4 1 x3
    else none)
theorem q_X8_timesOf_b5 (N : Nat) (n : Nat) (σ : yS) (x1 : Int) (x2 : Int) (x3 : Int) (x4 : Int) : f_X8_timesOf_b5 N (n + 1) σ x1 x2 x3 x4 =
    (bif yin (yad 21 x1) 393 then
      match f_X8_fallsOf N σ (σ.1 1 (yad 21 x1).toNat) with
      | none => none
      | some r1 => bif ycP .ge x4 r1.1 then
          bif ycP .eq (r1.2.1 1 (yad 21 x1).toNat) 4 then
            f_X8_timesOf_b100 N r1.2
          else
            bif yin (yad 14 x2) 393 then
              bif ycP .eq (r1.2.1 1 (yad 14 x2).toNat) 1 then
                f_X8_timesOf_b100 N r1.2
              else
                bif yin (yad 35 x1) 393 then
                  bif ycP .ne (r1.2.1 1 (yad 35 x1).toNat) 0 then
                    f_X8_timesOf_b105 N r1.2 x3
                  else
                    f_X8_timesOf_b100 N r1.2
                else none
            else none
        else
          match f_X8_byOf N r1.2 (r1.2.1 1 (yad 21 x1).toNat) x4 with
          | none => none
          | some r2 => match f_X8_off N r2.2 x1 r2.1 with
            | none => none
            | some r3 => bif ycP .ne r3.1 x2 then
                f_X8_timesOf_b51 N (f_X8_timesOf_b5 N n) r3.2 x1 x2 x4 0 x3
              else
                f_X8_timesOf_b51 N (f_X8_timesOf_b5 N n) r3.2 x1 x2 x4 1 x3
    else none) := rfl
noncomputable def f_X8_timesOf (N : Nat) (σ : yS) (x1 : Int) (x2 : Int) : Option (Int × yS) :=
  f_X8_timesOf_b5 N N σ x1 x2 0 0
noncomputable def F_X8_timesOf (N : Nat) : yF := fun as σ => match as with
  | [.inr (.inl 8, 0), .inl (.inl x1), .inl (.inl x2)] => (f_X8_timesOf N σ x1 x2).map (fun r => (some (.inl (.inl r.1)), r.2))
  | _ => none
theorem e_X8_timesOf {N : Nat} {σ : yS} {x1 : Int} {x2 : Int} {r : Int × yS} (h : f_X8_timesOf N σ x1 x2 = some r) : F_X8_timesOf N [.inr (.inl 8, 0), .inl (.inl x1), .inl (.inl x2)] σ = some (some (.inl (.inl r.1)), r.2) := by
  show (f_X8_timesOf N σ x1 x2).map (fun r => ((some (.inl (.inl r.1)), r.2) : yR)) = _
  rw [h]
  rfl
noncomputable def tb_X8_timesOf (N : Nat) : yTb := ([(7, 8, 0, 3)], [], [], [(255, 3, 8, F_X8_off N)], [(197, 1, F_X8_flag N), (249, 1, F_X8_fallsOf N), (252, 2, F_X8_byOf N)], [], [])
abbrev G_X8_timesOf (N : Nat) (X : zXT) (sh : List yH) (l : Launch) (rm : Room) : yC → yR → Prop := yGoes X vwCl yct sh l rm cX8_timesOf 5 wsX8_timesOf RX8 (tb_X8_timesOf N) pr_X8_timesOf 1
set_option maxRecDepth 100000 in
set_option maxHeartbeats 4000000 in
theorem t_X8_timesOf_b105 {N : Nat} {X : zXT} {sh : List yH} {l : Launch} {rm : Room} (σ : yS) (s0 : Int) (res : Int × yS) (h : f_X8_timesOf_b105 N σ s0 = some res) : G_X8_timesOf N X sh l rm (105, [], [.inl (.inl s0)], σ) (some (.inl (.inl res.1)), res.2) := by
  unfold f_X8_timesOf_b105 at h
  have h := Option.some.inj h
  subst h
  dsimp only
  exact yG_r rfl rfl
set_option maxRecDepth 100000 in
set_option maxHeartbeats 4000000 in
theorem t_X8_timesOf_b100 {N : Nat} {X : zXT} {sh : List yH} {l : Launch} {rm : Room} (σ : yS) (res : Int × yS) (h : f_X8_timesOf_b100 N σ = some res) : G_X8_timesOf N X sh l rm (100, [], [], σ) (some (.inl (.inl res.1)), res.2) := by
  unfold f_X8_timesOf_b100 at h
  refine yG_n (n := 2) (C' := (105, [], [.inl (.inl 0)], σ)) rfl ?_
  exact t_X8_timesOf_b105 σ 0 res h
set_option maxRecDepth 100000 in
set_option maxHeartbeats 4000000 in
theorem t_X8_timesOf_b51 {N : Nat} {X : zXT} {sh : List yH} {l : Launch} {rm : Room} (k5 : yS → Int → Int → Int → Int → Option (Int × yS)) (hk5 : ∀ (σ : yS) (x1 : Int) (x2 : Int) (x3 : Int) (x4 : Int) (res : Int × yS), k5 σ x1 x2 x3 x4 = some res → G_X8_timesOf N X sh l rm (5, [(0, .inr (.inl 8, 0)), (1, .inl (.inl x1)), (2, .inl (.inl x2)), (3, .inl (.inl x3)), (4, .inl (.inl x4))], [], σ) (some (.inl (.inl res.1)), res.2)) (σ : yS) (x1 : Int) (x2 : Int) (x4 : Int) (s0 : Int) (s1 : Int) (res : Int × yS) (h : f_X8_timesOf_b51 N k5 σ x1 x2 x4 s0 s1 = some res) : G_X8_timesOf N X sh l rm (51, [(0, .inr (.inl 8, 0)), (1, .inl (.inl x1)), (2, .inl (.inl x2)), (4, .inl (.inl x4))], [.inl (.inl s0), .inl (.inl s1)], σ) (some (.inl (.inl res.1)), res.2) := by
  unfold f_X8_timesOf_b51 at h
  cases hr1 : f_X8_flag N σ s0 with
  | none => rw [hr1] at h; dsimp only at h; cases h
  | some r4 =>
    rw [hr1] at h
    dsimp only at h
    refine yG_c (C1 := (54, [(0, .inr (.inl 8, 0)), (1, .inl (.inl x1)), (2, .inl (.inl x2)), (4, .inl (.inl x4))], [.inl (.inl r4.1), .inl (.inl s1)], r4.2)) rfl (e_X8_flag hr1) rfl ?_
    refine yG_n (n := 4) (C' := (5, [(4, .inl (.inl (yad x4 1))), (3, .inl (.inl (yad s1 r4.1))), (0, .inr (.inl 8, 0)), (1, .inl (.inl x1)), (2, .inl (.inl x2))], [], r4.2)) rfl ?_
    exact yG_w [2, 3, 4, 1, 0] rfl (hk5 r4.2 x1 x2 (yad s1 r4.1) (yad x4 1) res h)
set_option maxRecDepth 100000 in
set_option maxHeartbeats 4000000 in
theorem t_X8_timesOf_b5 {N : Nat} {X : zXT} {sh : List yH} {l : Launch} {rm : Room} : ∀ (n : Nat) (σ : yS) (x1 : Int) (x2 : Int) (x3 : Int) (x4 : Int) (res : Int × yS), f_X8_timesOf_b5 N n σ x1 x2 x3 x4 = some res → G_X8_timesOf N X sh l rm (5, [(0, .inr (.inl 8, 0)), (1, .inl (.inl x1)), (2, .inl (.inl x2)), (3, .inl (.inl x3)), (4, .inl (.inl x4))], [], σ) (some (.inl (.inl res.1)), res.2) := by
  intro n
  induction n with
  | zero => intro σ x1 x2 x3 x4 res h; exact (yno h).elim
  | succ n ih =>
    intro σ x1 x2 x3 x4 res h
    rw [q_X8_timesOf_b5] at h
    refine yG_n (n := 6) (C' := (15, [(0, .inr (.inl 8, 0)), (1, .inl (.inl x1)), (2, .inl (.inl x2)), (3, .inl (.inl x3)), (4, .inl (.inl x4))], [.inl (.inl (yad 21 x1)), .inr (.inr (0, 393), 1), .inl (.inl x4)], σ)) rfl ?_
    cases hg2 : yin (yad 21 x1) 393 with
    | false => rw [hg2] at h; dsimp only [cond] at h; cases h
    | true =>
      rw [hg2] at h
      dsimp only [cond] at h
      refine yG_t (C' := (16, [(0, .inr (.inl 8, 0)), (1, .inl (.inl x1)), (2, .inl (.inl x2)), (3, .inl (.inl x3)), (4, .inl (.inl x4))], [.inl (.inl (σ.1 1 (yad 21 x1).toNat)), .inl (.inl x4)], σ)) rfl hg2 ?_
      cases hr3 : f_X8_fallsOf N σ (σ.1 1 (yad 21 x1).toNat) with
      | none => rw [hr3] at h; dsimp only at h; cases h
      | some r1 =>
        rw [hr3] at h
        dsimp only at h
        refine yG_c (C1 := (19, [(0, .inr (.inl 8, 0)), (1, .inl (.inl x1)), (2, .inl (.inl x2)), (3, .inl (.inl x3)), (4, .inl (.inl x4))], [.inl (.inl r1.1), .inl (.inl x4)], r1.2)) rfl (e_X8_fallsOf hr3) rfl ?_
        cases hg4 : ycP .ge x4 r1.1 with
        | true =>
          rw [hg4] at h
          dsimp only [cond] at h
          refine yG_t (C' := (62, [(0, .inr (.inl 8, 0)), (1, .inl (.inl x1)), (2, .inl (.inl x2)), (3, .inl (.inl x3)), (4, .inl (.inl x4))], [], r1.2)) rfl hg4 ?_
          refine yG_n (n := 5) (C' := (70, [(0, .inr (.inl 8, 0)), (1, .inl (.inl x1)), (2, .inl (.inl x2)), (3, .inl (.inl x3)), (4, .inl (.inl x4))], [.inl (.inl (yad 21 x1)), .inr (.inr (0, 393), 1)], r1.2)) rfl ?_
          refine yG_t (C' := (71, [(0, .inr (.inl 8, 0)), (1, .inl (.inl x1)), (2, .inl (.inl x2)), (3, .inl (.inl x3)), (4, .inl (.inl x4))], [.inl (.inl (r1.2.1 1 (yad 21 x1).toNat))], r1.2)) rfl hg2 ?_
          refine yG_n (n := 1) (C' := (72, [(0, .inr (.inl 8, 0)), (1, .inl (.inl x1)), (2, .inl (.inl x2)), (3, .inl (.inl x3)), (4, .inl (.inl x4))], [.inl (.inl 4), .inl (.inl (r1.2.1 1 (yad 21 x1).toNat))], r1.2)) rfl ?_
          cases hg5 : ycP .eq (r1.2.1 1 (yad 21 x1).toNat) 4 with
          | true =>
            rw [hg5] at h
            dsimp only [cond] at h
            refine yG_t (C' := (100, [(0, .inr (.inl 8, 0)), (1, .inl (.inl x1)), (2, .inl (.inl x2)), (3, .inl (.inl x3)), (4, .inl (.inl x4))], [], r1.2)) rfl hg5 ?_
            exact yG_w [] rfl (t_X8_timesOf_b100 r1.2 res h)
          | false =>
            rw [hg5] at h
            dsimp only [cond] at h
            refine yG_f (C' := (75, [(0, .inr (.inl 8, 0)), (1, .inl (.inl x1)), (2, .inl (.inl x2)), (3, .inl (.inl x3)), (4, .inl (.inl x4))], [], r1.2)) rfl hg5 ?_
            refine yG_n (n := 5) (C' := (83, [(0, .inr (.inl 8, 0)), (1, .inl (.inl x1)), (2, .inl (.inl x2)), (3, .inl (.inl x3)), (4, .inl (.inl x4))], [.inl (.inl (yad 14 x2)), .inr (.inr (0, 393), 1)], r1.2)) rfl ?_
            cases hg6 : yin (yad 14 x2) 393 with
            | false => rw [hg6] at h; dsimp only [cond] at h; cases h
            | true =>
              rw [hg6] at h
              dsimp only [cond] at h
              refine yG_t (C' := (84, [(0, .inr (.inl 8, 0)), (1, .inl (.inl x1)), (2, .inl (.inl x2)), (3, .inl (.inl x3)), (4, .inl (.inl x4))], [.inl (.inl (r1.2.1 1 (yad 14 x2).toNat))], r1.2)) rfl hg6 ?_
              refine yG_n (n := 1) (C' := (85, [(0, .inr (.inl 8, 0)), (1, .inl (.inl x1)), (2, .inl (.inl x2)), (3, .inl (.inl x3)), (4, .inl (.inl x4))], [.inl (.inl 1), .inl (.inl (r1.2.1 1 (yad 14 x2).toNat))], r1.2)) rfl ?_
              cases hg7 : ycP .eq (r1.2.1 1 (yad 14 x2).toNat) 1 with
              | true =>
                rw [hg7] at h
                dsimp only [cond] at h
                refine yG_t (C' := (100, [(0, .inr (.inl 8, 0)), (1, .inl (.inl x1)), (2, .inl (.inl x2)), (3, .inl (.inl x3)), (4, .inl (.inl x4))], [], r1.2)) rfl hg7 ?_
                exact yG_w [] rfl (t_X8_timesOf_b100 r1.2 res h)
              | false =>
                rw [hg7] at h
                dsimp only [cond] at h
                refine yG_f (C' := (88, [(0, .inr (.inl 8, 0)), (1, .inl (.inl x1)), (2, .inl (.inl x2)), (3, .inl (.inl x3)), (4, .inl (.inl x4))], [], r1.2)) rfl hg7 ?_
                refine yG_n (n := 5) (C' := (96, [(0, .inr (.inl 8, 0)), (1, .inl (.inl x1)), (2, .inl (.inl x2)), (3, .inl (.inl x3)), (4, .inl (.inl x4))], [.inl (.inl (yad 35 x1)), .inr (.inr (0, 393), 1)], r1.2)) rfl ?_
                cases hg8 : yin (yad 35 x1) 393 with
                | false => rw [hg8] at h; dsimp only [cond] at h; cases h
                | true =>
                  rw [hg8] at h
                  dsimp only [cond] at h
                  refine yG_t (C' := (97, [(0, .inr (.inl 8, 0)), (1, .inl (.inl x1)), (2, .inl (.inl x2)), (3, .inl (.inl x3)), (4, .inl (.inl x4))], [.inl (.inl (r1.2.1 1 (yad 35 x1).toNat))], r1.2)) rfl hg8 ?_
                  cases hg9 : ycP .ne (r1.2.1 1 (yad 35 x1).toNat) 0 with
                  | true =>
                    rw [hg9] at h
                    dsimp only [cond] at h
                    refine yG_t (C' := (104, [(0, .inr (.inl 8, 0)), (1, .inl (.inl x1)), (2, .inl (.inl x2)), (3, .inl (.inl x3)), (4, .inl (.inl x4))], [], r1.2)) rfl hg9 ?_
                    refine yG_n (n := 1) (C' := (105, [(0, .inr (.inl 8, 0)), (1, .inl (.inl x1)), (2, .inl (.inl x2)), (3, .inl (.inl x3)), (4, .inl (.inl x4))], [.inl (.inl x3)], r1.2)) rfl ?_
                    exact yG_w [] rfl (t_X8_timesOf_b105 r1.2 x3 res h)
                  | false =>
                    rw [hg9] at h
                    dsimp only [cond] at h
                    refine yG_f (C' := (100, [(0, .inr (.inl 8, 0)), (1, .inl (.inl x1)), (2, .inl (.inl x2)), (3, .inl (.inl x3)), (4, .inl (.inl x4))], [], r1.2)) rfl hg9 ?_
                    exact yG_w [] rfl (t_X8_timesOf_b100 r1.2 res h)
        | false =>
          rw [hg4] at h
          dsimp only [cond] at h
          refine yG_f (C' := (22, [(0, .inr (.inl 8, 0)), (1, .inl (.inl x1)), (2, .inl (.inl x2)), (3, .inl (.inl x3)), (4, .inl (.inl x4))], [], r1.2)) rfl hg4 ?_
          refine yG_n (n := 8) (C' := (33, [(0, .inr (.inl 8, 0)), (1, .inl (.inl x1)), (2, .inl (.inl x2)), (3, .inl (.inl x3)), (4, .inl (.inl x4))], [.inl (.inl (yad 21 x1)), .inr (.inr (0, 393), 1), .inl (.inl x1), .inr (.inl 8, 0), .inl (.inl x3)], r1.2)) rfl ?_
          refine yG_t (C' := (34, [(0, .inr (.inl 8, 0)), (1, .inl (.inl x1)), (2, .inl (.inl x2)), (3, .inl (.inl x3)), (4, .inl (.inl x4))], [.inl (.inl (r1.2.1 1 (yad 21 x1).toNat)), .inl (.inl x1), .inr (.inl 8, 0), .inl (.inl x3)], r1.2)) rfl hg2 ?_
          refine yG_n (n := 1) (C' := (36, [(0, .inr (.inl 8, 0)), (1, .inl (.inl x1)), (2, .inl (.inl x2)), (3, .inl (.inl x3)), (4, .inl (.inl x4))], [.inl (.inl x4), .inl (.inl (r1.2.1 1 (yad 21 x1).toNat)), .inl (.inl x1), .inr (.inl 8, 0), .inl (.inl x3)], r1.2)) rfl ?_
          cases hr10 : f_X8_byOf N r1.2 (r1.2.1 1 (yad 21 x1).toNat) x4 with
          | none => rw [hr10] at h; dsimp only at h; cases h
          | some r2 =>
            rw [hr10] at h
            dsimp only at h
            refine yG_c (C1 := (39, [(0, .inr (.inl 8, 0)), (1, .inl (.inl x1)), (2, .inl (.inl x2)), (3, .inl (.inl x3)), (4, .inl (.inl x4))], [.inl (.inl r2.1), .inl (.inl x1), .inr (.inl 8, 0), .inl (.inl x3)], r2.2)) rfl (e_X8_byOf hr10) rfl ?_
            cases hr11 : f_X8_off N r2.2 x1 r2.1 with
            | none => rw [hr11] at h; dsimp only at h; cases h
            | some r3 =>
              rw [hr11] at h
              dsimp only at h
              refine yG_c (C1 := (42, [(0, .inr (.inl 8, 0)), (1, .inl (.inl x1)), (2, .inl (.inl x2)), (3, .inl (.inl x3)), (4, .inl (.inl x4))], [.inl (.inl r3.1), .inl (.inl x3)], r3.2)) rfl (e_X8_off hr11) rfl ?_
              refine yG_n (n := 1) (C' := (43, [(0, .inr (.inl 8, 0)), (1, .inl (.inl x1)), (2, .inl (.inl x2)), (3, .inl (.inl x3)), (4, .inl (.inl x4))], [.inl (.inl x2), .inl (.inl r3.1), .inl (.inl x3)], r3.2)) rfl ?_
              cases hg12 : ycP .ne r3.1 x2 with
              | true =>
                rw [hg12] at h
                dsimp only [cond] at h
                refine yG_t (C' := (50, [(0, .inr (.inl 8, 0)), (1, .inl (.inl x1)), (2, .inl (.inl x2)), (3, .inl (.inl x3)), (4, .inl (.inl x4))], [.inl (.inl x3)], r3.2)) rfl hg12 ?_
                refine yG_n (n := 1) (C' := (51, [(0, .inr (.inl 8, 0)), (1, .inl (.inl x1)), (2, .inl (.inl x2)), (3, .inl (.inl x3)), (4, .inl (.inl x4))], [.inl (.inl 0), .inl (.inl x3)], r3.2)) rfl ?_
                exact yG_w [0, 1, 2, 4] rfl (t_X8_timesOf_b51 (f_X8_timesOf_b5 N n) ih r3.2 x1 x2 x4 0 x3 res h)
              | false =>
                rw [hg12] at h
                dsimp only [cond] at h
                refine yG_f (C' := (46, [(0, .inr (.inl 8, 0)), (1, .inl (.inl x1)), (2, .inl (.inl x2)), (3, .inl (.inl x3)), (4, .inl (.inl x4))], [.inl (.inl x3)], r3.2)) rfl hg12 ?_
                refine yG_n (n := 2) (C' := (51, [(0, .inr (.inl 8, 0)), (1, .inl (.inl x1)), (2, .inl (.inl x2)), (3, .inl (.inl x3)), (4, .inl (.inl x4))], [.inl (.inl 1), .inl (.inl x3)], r3.2)) rfl ?_
                exact yG_w [0, 1, 2, 4] rfl (t_X8_timesOf_b51 (f_X8_timesOf_b5 N n) ih r3.2 x1 x2 x4 1 x3 res h)
set_option maxRecDepth 100000 in
set_option maxHeartbeats 4000000 in
theorem t_X8_timesOf {N : Nat} {X : zXT} {sh : List yH} {l : Launch} {rm : Room} (σ : yS) (x1 : Int) (x2 : Int) (res : Int × yS) (h : f_X8_timesOf N σ x1 x2 = some res) : G_X8_timesOf N X sh l rm (0, [(0, .inr (.inl 8, 0)), (1, .inl (.inl x1)), (2, .inl (.inl x2))], [], σ) (some (.inl (.inl res.1)), res.2) := by
  unfold f_X8_timesOf at h
  refine yG_n (n := 4) (C' := (5, [(4, .inl (.inl 0)), (3, .inl (.inl 0)), (0, .inr (.inl 8, 0)), (1, .inl (.inl x1)), (2, .inl (.inl x2))], [], σ)) rfl ?_
  exact yG_w [2, 3, 4, 1, 0] rfl (t_X8_timesOf_b5 N σ x1 x2 0 0 res h)
set_option maxRecDepth 100000 in
set_option maxHeartbeats 4000000 in
theorem m_X8_timesOf {N : Nat} {X : zXT} (hX : zXok X) (hN : zXn X) (l : Launch) {sh : List yH} : yMet X vwCl yct sh l yX8_timesOf wsX8_timesOf { frames := 3, cells := 0, slots := 0, locals := 112 } (F_X8_timesOf N) :=
  ymeth (tb := tb_X8_timesOf N) (pr := pr_X8_timesOf) (rt := 1) (own := RX8) hX (by decide +kernel) rfl rfl ⟨Nat.le_of_ble_eq_true rfl, Nat.le_of_ble_eq_true rfl⟩
    (zfl_all (List.forall_mem_cons.mpr ⟨zfl_X8 (fun w h => List.mem_cons_of_mem _ (List.mem_append_right _ h)) (List.mem_of_getElem? (i := 1) rfl) (by decide) (by decide), fun _ h => absurd h List.not_mem_nil⟩))
    (zco_all (fun _ h => absurd h List.not_mem_nil)) (zlc_all (fun _ h => absurd h List.not_mem_nil))
    (List.forall_mem_cons.mpr ⟨ycal_V hX (m_X8_off hX hN l) rfl (fun s args hts => cwV 2 hts gX8_timesOf_X8_off rfl rfl rfl (by decide +kernel) ⟨Nat.le_of_ble_eq_true rfl, Nat.le_of_ble_eq_true rfl⟩), fun _ h => absurd h List.not_mem_nil⟩)
    (List.forall_mem_cons.mpr ⟨ycal_S hX (m_X8_flag hX hN l) (fun s args hts => va_cwS 1 hts gX8_timesOf_X8_flag rfl rfl rfl (by decide +kernel) ⟨Nat.le_of_ble_eq_true rfl, Nat.le_of_ble_eq_true rfl⟩), List.forall_mem_cons.mpr ⟨ycal_S hX (m_X8_fallsOf hX hN l) (fun s args hts => va_cwS 1 hts gX8_timesOf_X8_fallsOf rfl rfl rfl (by decide +kernel) ⟨Nat.le_of_ble_eq_true rfl, Nat.le_of_ble_eq_true rfl⟩), List.forall_mem_cons.mpr ⟨ycal_S hX (m_X8_byOf hX hN l) (fun s args hts => va_cwS 2 hts gX8_timesOf_X8_byOf rfl rfl rfl (by decide +kernel) ⟨Nat.le_of_ble_eq_true rfl, Nat.le_of_ble_eq_true rfl⟩), fun _ h => absurd h List.not_mem_nil⟩⟩⟩)
    (zmm_all (fun _ h => absurd h List.not_mem_nil)) (fun _ h => absurd h List.not_mem_nil) (zpr_all hp_X8_timesOf) (fun as σ res h => by
      unfold F_X8_timesOf at h
      split at h
      · rename_i x1 x2
        cases hr : f_X8_timesOf N σ x1 x2 with
        | none => rw [hr] at h; cases h
        | some r =>
          rw [hr] at h
          cases h
          exact ⟨Nat.le_of_ble_eq_true rfl, t_X8_timesOf σ x1 x2 r hr⟩
      · cases h)
noncomputable def pr_X8_told : List (Nat × Instr × Nat) := [(0, .lload_n 2, 1), (1, .lload_n 0, 1), (2, .invokestatic 304, 3), (5, .lstore 5, 2), (7, .iload 4, 2), (9, .ifCond .ne 10, 3), (12, .lload_n 0, 1), (13, .lload 5, 2), (15, .ldiv, 1), (16, .goto 7, 3), (19, .lload_n 2, 1), (20, .lload 5, 2), (22, .ldiv, 1), (23, .lreturn, 1)]
set_option maxRecDepth 100000 in
theorem hp_X8_told : pr_X8_told.all (fun x => decide (decode cX8_told x.1 = .ok x.2)) = true := by decide +kernel
noncomputable def f_X8_told_b23 (N : Nat) (σ : yS) (s0 : Int) : Option (Int × yS) :=
  some (s0, σ)
noncomputable def f_X8_told (N : Nat) (σ : yS) (x0 : Int) (x2 : Int) (x4 : Int) : Option (Int × yS) :=
  match f_X8_common N σ x2 x0 with
  | none => none
  | some r1 => bif ycP .ne x4 0 then
      bif ynz r1.1 then
        f_X8_told_b23 N r1.2 (ydvL x2 r1.1)
      else none
    else
      bif ynz r1.1 then
        f_X8_told_b23 N r1.2 (ydvL x0 r1.1)
      else none
noncomputable def F_X8_told (N : Nat) : yF := fun as σ => match as with
  | [.inl (.inr x0), .inl (.inr x2), .inl (.inl x4)] => (f_X8_told N σ x0 x2 x4).map (fun r => (some (.inl (.inr r.1)), r.2))
  | _ => none
theorem e_X8_told {N : Nat} {σ : yS} {x0 : Int} {x2 : Int} {x4 : Int} {r : Int × yS} (h : f_X8_told N σ x0 x2 x4 = some r) : F_X8_told N [.inl (.inr x0), .inl (.inr x2), .inl (.inl x4)] σ = some (some (.inl (.inr r.1)), r.2) := by
  show (f_X8_told N σ x0 x2 x4).map (fun r => ((some (.inl (.inr r.1)), r.2) : yR)) = _
  rw [h]
  rfl
noncomputable def tb_X8_told (N : Nat) : yTb := ([], [], [], [], [(304, 2, F_X8_common N)], [], [])
abbrev G_X8_told (N : Nat) (X : zXT) (sh : List yH) (l : Launch) (rm : Room) : yC → yR → Prop := yGoes X vwCl yct sh l rm cX8_told 7 wsX8_told RX8 (tb_X8_told N) pr_X8_told 3
set_option maxRecDepth 100000 in
set_option maxHeartbeats 4000000 in
theorem t_X8_told_b23 {N : Nat} {X : zXT} {sh : List yH} {l : Launch} {rm : Room} (σ : yS) (s0 : Int) (res : Int × yS) (h : f_X8_told_b23 N σ s0 = some res) : G_X8_told N X sh l rm (23, [], [.inl (.inr s0)], σ) (some (.inl (.inr res.1)), res.2) := by
  unfold f_X8_told_b23 at h
  have h := Option.some.inj h
  subst h
  dsimp only
  exact yG_r rfl rfl
set_option maxRecDepth 100000 in
set_option maxHeartbeats 4000000 in
theorem t_X8_told {N : Nat} {X : zXT} {sh : List yH} {l : Launch} {rm : Room} (σ : yS) (x0 : Int) (x2 : Int) (x4 : Int) (res : Int × yS) (h : f_X8_told N σ x0 x2 x4 = some res) : G_X8_told N X sh l rm (0, [(0, .inl (.inr x0)), (2, .inl (.inr x2)), (4, .inl (.inl x4))], [], σ) (some (.inl (.inr res.1)), res.2) := by
  unfold f_X8_told at h
  refine yG_n (n := 2) (C' := (2, [(0, .inl (.inr x0)), (2, .inl (.inr x2)), (4, .inl (.inl x4))], [.inl (.inr x0), .inl (.inr x2)], σ)) rfl ?_
  cases hr1 : f_X8_common N σ x2 x0 with
  | none => rw [hr1] at h; dsimp only at h; cases h
  | some r1 =>
    rw [hr1] at h
    dsimp only at h
    refine yG_c (C1 := (5, [(0, .inl (.inr x0)), (2, .inl (.inr x2)), (4, .inl (.inl x4))], [.inl (.inr r1.1)], r1.2)) rfl (e_X8_common hr1) rfl ?_
    refine yG_n (n := 2) (C' := (9, [(5, .inl (.inr r1.1)), (0, .inl (.inr x0)), (2, .inl (.inr x2)), (4, .inl (.inl x4))], [.inl (.inl x4)], r1.2)) rfl ?_
    cases hg2 : ycP .ne x4 0 with
    | true =>
      rw [hg2] at h
      dsimp only [cond] at h
      refine yG_t (C' := (19, [(5, .inl (.inr r1.1)), (0, .inl (.inr x0)), (2, .inl (.inr x2)), (4, .inl (.inl x4))], [], r1.2)) rfl hg2 ?_
      refine yG_n (n := 2) (C' := (22, [(5, .inl (.inr r1.1)), (0, .inl (.inr x0)), (2, .inl (.inr x2)), (4, .inl (.inl x4))], [.inl (.inr r1.1), .inl (.inr x2)], r1.2)) rfl ?_
      cases hg3 : ynz r1.1 with
      | false => rw [hg3] at h; dsimp only [cond] at h; cases h
      | true =>
        rw [hg3] at h
        dsimp only [cond] at h
        refine yG_t (C' := (23, [(5, .inl (.inr r1.1)), (0, .inl (.inr x0)), (2, .inl (.inr x2)), (4, .inl (.inl x4))], [.inl (.inr (ydvL x2 r1.1))], r1.2)) rfl hg3 ?_
        exact yG_w [] rfl (t_X8_told_b23 r1.2 (ydvL x2 r1.1) res h)
    | false =>
      rw [hg2] at h
      dsimp only [cond] at h
      refine yG_f (C' := (12, [(5, .inl (.inr r1.1)), (0, .inl (.inr x0)), (2, .inl (.inr x2)), (4, .inl (.inl x4))], [], r1.2)) rfl hg2 ?_
      refine yG_n (n := 2) (C' := (15, [(5, .inl (.inr r1.1)), (0, .inl (.inr x0)), (2, .inl (.inr x2)), (4, .inl (.inl x4))], [.inl (.inr r1.1), .inl (.inr x0)], r1.2)) rfl ?_
      cases hg4 : ynz r1.1 with
      | false => rw [hg4] at h; dsimp only [cond] at h; cases h
      | true =>
        rw [hg4] at h
        dsimp only [cond] at h
        refine yG_t (C' := (16, [(5, .inl (.inr r1.1)), (0, .inl (.inr x0)), (2, .inl (.inr x2)), (4, .inl (.inl x4))], [.inl (.inr (ydvL x0 r1.1))], r1.2)) rfl hg4 ?_
        refine yG_n (n := 1) (C' := (23, [(5, .inl (.inr r1.1)), (0, .inl (.inr x0)), (2, .inl (.inr x2)), (4, .inl (.inl x4))], [.inl (.inr (ydvL x0 r1.1))], r1.2)) rfl ?_
        exact yG_w [] rfl (t_X8_told_b23 r1.2 (ydvL x0 r1.1) res h)
set_option maxRecDepth 100000 in
set_option maxHeartbeats 4000000 in
theorem m_X8_told {N : Nat} {X : zXT} (hX : zXok X) (hN : zXn X) (l : Launch) {sh : List yH} : yMet X vwCl yct sh l yX8_told wsX8_told { frames := 2, cells := 0, slots := 0, locals := 93 } (F_X8_told N) :=
  ymeth (tb := tb_X8_told N) (pr := pr_X8_told) (rt := 3) (own := RX8) hX (by decide +kernel) rfl rfl ⟨Nat.le_of_ble_eq_true rfl, Nat.le_of_ble_eq_true rfl⟩
    (zfl_all (fun _ h => absurd h List.not_mem_nil))
    (zco_all (fun _ h => absurd h List.not_mem_nil)) (zlc_all (fun _ h => absurd h List.not_mem_nil))
    (fun _ h => absurd h List.not_mem_nil)
    (List.forall_mem_cons.mpr ⟨ycal_S hX (m_X8_common hX hN l) (fun s args hts => va_cwS 2 hts gX8_told_X8_common rfl rfl rfl (by decide +kernel) ⟨Nat.le_of_ble_eq_true rfl, Nat.le_of_ble_eq_true rfl⟩), fun _ h => absurd h List.not_mem_nil⟩)
    (zmm_all (fun _ h => absurd h List.not_mem_nil)) (fun _ h => absurd h List.not_mem_nil) (zpr_all hp_X8_told) (fun as σ res h => by
      unfold F_X8_told at h
      split at h
      · rename_i x0 x2 x4
        cases hr : f_X8_told N σ x0 x2 x4 with
        | none => rw [hr] at h; cases h
        | some r =>
          rw [hr] at h
          cases h
          exact ⟨Nat.le_of_ble_eq_true rfl, t_X8_told σ x0 x2 x4 r hr⟩
      · cases h)
noncomputable def pr_X8_luck : List (Nat × Instr × Nat) := [(0, .aload_n 0, 1), (1, .iload_n 1, 1), (2, .invokevirtual 205, 3), (5, .ifCond .eq 13, 3), (8, .iload_n 2, 1), (9, .i2l, 1), (10, .lconst 0, 1), (11, .lconst 1, 1), (12, .invokestatic 90, 3), (15, .ifCond .ne 7, 3), (18, .ldc2_w 308, 3), (21, .lreturn, 1), (22, .lconst 0, 1), (23, .lstore_n 3, 1), (24, .lconst 1, 1), (25, .lstore 5, 2), (27, .iconst 0, 1), (28, .istore 7, 2), (30, .iload 7, 2), (32, .aload_n 0, 1), (33, .getfield 79, 3), (36, .if_icmp .ge 17, 3), (39, .lload 5, 2), (41, .ldc2_w 220, 3), (44, .lmul, 1), (45, .lstore 5, 2), (47, .iinc 7 1, 3), (50, .goto (-20), 3), (53, .iconst 0, 1), (54, .istore 7, 2), (56, .iload 7, 2), (58, .iconst 1, 1), (59, .aload_n 0, 1), (60, .getfield 79, 3), (63, .ishl, 1), (64, .if_icmp .ge 212, 3), (67, .lconst 1, 1), (68, .lstore 8, 2), (70, .iconst 0, 1), (71, .istore 10, 2), (73, .iconst 1, 1), (74, .istore 11, 2), (76, .iconst 0, 1), (77, .istore 12, 2), (79, .iload 12, 2), (81, .aload_n 0, 1), (82, .getfield 79, 3), (85, .if_icmp .ge 158, 3), (88, .iload 7, 2), (90, .iload 12, 2), (92, .ishr, 1), (93, .iconst 1, 1), (94, .iand, 1), (95, .iconst 1, 1), (96, .if_icmp .ne 7, 3), (99, .iconst 1, 1), (100, .goto 4, 3), (103, .iconst 0, 1), (104, .istore 13, 2), (106, .lload 8, 2), (108, .iload 13, 2), (110, .ifCond .eq 17, 3), (113, .aload_n 0, 1), (114, .getfield 7, 3), (117, .bipush 35, 2), (119, .iload 12, 2), (121, .iadd, 1), (122, .iaload, 1), (123, .i2l, 1), (124, .goto 17, 3), (127, .bipush 10, 2), (129, .aload_n 0, 1), (130, .getfield 7, 3), (133, .bipush 35, 2), (135, .iload 12, 2), (137, .iadd, 1), (138, .iaload, 1), (139, .isub, 1), (140, .i2l, 1), (141, .lmul, 1), (142, .lstore 8, 2), (144, .iload 13, 2), (146, .ifCond .eq 13, 3), (149, .aload_n 0, 1), (150, .iload 12, 2), (152, .iload_n 1, 1), (153, .invokevirtual 310, 3), (156, .goto 4, 3), (159, .iconst 0, 1), (160, .istore 14, 2), (162, .iload 10, 2), (164, .iload 14, 2), (166, .ifCond .ne 7, 3), (169, .iconst 0, 1), (170, .goto 21, 3), (173, .iload 14, 2), (175, .aload_n 0, 1), (176, .getfield 20, 3), (179, .aload_n 0, 1), (180, .getfield 7, 3), (183, .bipush 28, 2), (185, .iload 12, 2), (187, .iadd, 1), (188, .iaload, 1), (189, .iaload, 1), (190, .imul, 1), (191, .iadd, 1), (192, .istore 10, 2), (194, .iload 11, 2), (196, .ifCond .eq 38, 3), (199, .iload 14, 2), (201, .ifCond .eq 29, 3), (204, .aload_n 0, 1), (205, .getfield 7, 3), (208, .bipush 7, 2), (210, .iload_n 1, 1), (211, .iadd, 1), (212, .iaload, 1), (213, .aload_n 0, 1), (214, .getfield 7, 3), (217, .bipush 28, 2), (219, .iload 12, 2), (221, .iadd, 1), (222, .iaload, 1), (223, .ishr, 1), (224, .iconst 1, 1), (225, .iand, 1), (226, .iconst 1, 1), (227, .if_icmp .ne 7, 3), (230, .iconst 1, 1), (231, .goto 4, 3), (234, .iconst 0, 1), (235, .istore 11, 2), (237, .iinc 12 1, 3), (240, .goto (-161), 3), (243, .lload_n 3, 1), (244, .iload 11, 2), (246, .ifCond .eq 21, 3), (249, .iload 10, 2), (251, .aload_n 0, 1), (252, .getfield 7, 3), (255, .iconst 0, 1), (256, .iload_n 1, 1), (257, .iadd, 1), (258, .iaload, 1), (259, .if_icmp .gt 8, 3), (262, .lload 8, 2), (264, .goto 4, 3), (267, .lconst 0, 1), (268, .ladd, 1), (269, .lstore_n 3, 1), (270, .iinc 7 1, 3), (273, .goto (-217), 3), (276, .lload_n 3, 1), (277, .lload 5, 2), (279, .iload_n 2, 1), (280, .invokestatic 313, 3), (283, .lreturn, 1)]
set_option maxRecDepth 100000 in
theorem hp_X8_luck : pr_X8_luck.all (fun x => decide (decode cX8_luck x.1 = .ok x.2)) = true := by decide +kernel
noncomputable def f_X8_luck_b18 (N : Nat) (σ : yS) : Option (Int × yS) :=
  some ((-1), σ)
noncomputable def f_X8_luck_b268 (N : Nat) (k56 : yS → Int → Int → Int → Int → Int → Option (Int × yS)) (σ : yS) (x1 : Int) (x2 : Int) (x5 : Int) (x7 : Int) (s0 : Int) (s1 : Int) : Option (Int × yS) :=
  k56 σ x1 x2 (yadL s1 s0) x5 (yad x7 1)
noncomputable def f_X8_luck_b267 (N : Nat) (k56 : yS → Int → Int → Int → Int → Int → Option (Int × yS)) (σ : yS) (x1 : Int) (x2 : Int) (x5 : Int) (x7 : Int) (s0 : Int) : Option (Int × yS) :=
  f_X8_luck_b268 N k56 σ x1 x2 x5 x7 0 s0
noncomputable def f_X8_luck_b235 (N : Nat) (k56 : yS → Int → Int → Int → Int → Int → Option (Int × yS)) (k79 : yS → Int → Int → Int → Int → Int → Int → Int → Int → Int → Option (Int × yS)) (σ : yS) (x1 : Int) (x2 : Int) (x3 : Int) (x5 : Int) (x7 : Int) (x8 : Int) (x10 : Int) (x12 : Int) (s0 : Int) : Option (Int × yS) :=
  k79 σ x1 x2 x3 x5 x7 x8 x10 s0 (yad x12 1)
noncomputable def f_X8_luck_b234 (N : Nat) (k56 : yS → Int → Int → Int → Int → Int → Option (Int × yS)) (k79 : yS → Int → Int → Int → Int → Int → Int → Int → Int → Int → Option (Int × yS)) (σ : yS) (x1 : Int) (x2 : Int) (x3 : Int) (x5 : Int) (x7 : Int) (x8 : Int) (x10 : Int) (x12 : Int) : Option (Int × yS) :=
  f_X8_luck_b235 N k56 k79 σ x1 x2 x3 x5 x7 x8 x10 x12 0
noncomputable def f_X8_luck_b230 (N : Nat) (k56 : yS → Int → Int → Int → Int → Int → Option (Int × yS)) (k79 : yS → Int → Int → Int → Int → Int → Int → Int → Int → Int → Option (Int × yS)) (σ : yS) (x1 : Int) (x2 : Int) (x3 : Int) (x5 : Int) (x7 : Int) (x8 : Int) (x10 : Int) (x12 : Int) : Option (Int × yS) :=
  f_X8_luck_b235 N k56 k79 σ x1 x2 x3 x5 x7 x8 x10 x12 1
noncomputable def f_X8_luck_b191 (N : Nat) (k56 : yS → Int → Int → Int → Int → Int → Option (Int × yS)) (k79 : yS → Int → Int → Int → Int → Int → Int → Int → Int → Int → Option (Int × yS)) (σ : yS) (x1 : Int) (x2 : Int) (x3 : Int) (x5 : Int) (x7 : Int) (x8 : Int) (x11 : Int) (x12 : Int) (x14 : Int) (s0 : Int) (s1 : Int) : Option (Int × yS) :=
  bif ycP .eq x11 0 then
    f_X8_luck_b234 N k56 k79 σ x1 x2 x3 x5 x7 x8 (yad s1 s0) x12
  else
    bif ycP .eq x14 0 then
      f_X8_luck_b230 N k56 k79 σ x1 x2 x3 x5 x7 x8 (yad s1 s0) x12
    else
      bif yin (yad 7 x1) 393 then
        bif yin (yad 28 x12) 393 then
          bif ycP .ne (yan (ysr (σ.1 1 (yad 7 x1).toNat) (σ.1 1 (yad 28 x12).toNat)) 1) 1 then
            f_X8_luck_b234 N k56 k79 σ x1 x2 x3 x5 x7 x8 (yad s1 s0) x12
          else
            f_X8_luck_b230 N k56 k79 σ x1 x2 x3 x5 x7 x8 (yad s1 s0) x12
        else none
      else none
noncomputable def f_X8_luck_b160 (N : Nat) (k56 : yS → Int → Int → Int → Int → Int → Option (Int × yS)) (k79 : yS → Int → Int → Int → Int → Int → Int → Int → Int → Int → Option (Int × yS)) (σ : yS) (x1 : Int) (x2 : Int) (x3 : Int) (x5 : Int) (x7 : Int) (x8 : Int) (x10 : Int) (x11 : Int) (x12 : Int) (s0 : Int) : Option (Int × yS) :=
  bif ycP .ne s0 0 then
    bif yin (yad 28 x12) 393 then
      bif yin (σ.1 1 (yad 28 x12).toNat) 5 then
        f_X8_luck_b191 N k56 k79 σ x1 x2 x3 x5 x7 x8 x11 x12 s0 (ymu s0 (σ.1 4 (σ.1 1 (yad 28 x12).toNat).toNat)) x10
      else none
    else none
  else
    f_X8_luck_b191 N k56 k79 σ x1 x2 x3 x5 x7 x8 x11 x12 s0 0 x10
noncomputable def f_X8_luck_b141 (N : Nat) (k56 : yS → Int → Int → Int → Int → Int → Option (Int × yS)) (k79 : yS → Int → Int → Int → Int → Int → Int → Int → Int → Int → Option (Int × yS)) (σ : yS) (x1 : Int) (x2 : Int) (x3 : Int) (x5 : Int) (x7 : Int) (x10 : Int) (x11 : Int) (x12 : Int) (x13 : Int) (s0 : Int) (s1 : Int) : Option (Int × yS) :=
  bif ycP .eq x13 0 then
    f_X8_luck_b160 N k56 k79 σ x1 x2 x3 x5 x7 (ymuL s1 s0) x10 x11 x12 0
  else
    match f_X8_timesOf N σ x12 x1 with
    | none => none
    | some r4 => f_X8_luck_b160 N k56 k79 r4.2 x1 x2 x3 x5 x7 (ymuL s1 s0) x10 x11 x12 r4.1
noncomputable def f_X8_luck_b104 (N : Nat) (k56 : yS → Int → Int → Int → Int → Int → Option (Int × yS)) (k79 : yS → Int → Int → Int → Int → Int → Int → Int → Int → Int → Option (Int × yS)) (σ : yS) (x1 : Int) (x2 : Int) (x3 : Int) (x5 : Int) (x7 : Int) (x8 : Int) (x10 : Int) (x11 : Int) (x12 : Int) (s0 : Int) : Option (Int × yS) :=
  bif ycP .eq s0 0 then
    bif yin (yad 35 x12) 393 then
      f_X8_luck_b141 N k56 k79 σ x1 x2 x3 x5 x7 x10 x11 x12 s0 (ysu 10 (σ.1 1 (yad 35 x12).toNat)) x8
    else none
  else
    bif yin (yad 35 x12) 393 then
      f_X8_luck_b141 N k56 k79 σ x1 x2 x3 x5 x7 x10 x11 x12 s0 (σ.1 1 (yad 35 x12).toNat) x8
    else none
noncomputable def f_X8_luck_b79 (N : Nat) (k56 : yS → Int → Int → Int → Int → Int → Option (Int × yS)) : Nat → yS → Int → Int → Int → Int → Int → Int → Int → Int → Int → Option (Int × yS) := yfix (fun _ _ _ _ _ _ _ _ _ _ => none) (fun ih σ x1 x2 x3 x5 x7 x8 x10 x11 x12 =>
    bif ycP .ge x12 (σ.1 0 3) then
      bif ycP .eq x11 0 then
        f_X8_luck_b267 N k56 σ x1 x2 x5 x7 x3
      else
        bif yin (yad 0 x1) 393 then
          bif ycP .gt x10 (σ.1 1 (yad 0 x1).toNat) then
            f_X8_luck_b267 N k56 σ x1 x2 x5 x7 x3
          else
            f_X8_luck_b268 N k56 σ x1 x2 x5 x7 x8 x3
        else none
    else
      bif ycP .ne (yan (ysr x7 x12) 1) 1 then
        f_X8_luck_b104 N k56 ih σ x1 x2 x3 x5 x7 x8 x10 x11 x12 0
      else
        f_X8_luck_b104 N k56 ih σ x1 x2 x3 x5 x7 x8 x10 x11 x12 1)
theorem q_X8_luck_b79 (N : Nat) (k56 : yS → Int → Int → Int → Int → Int → Option (Int × yS)) (n : Nat) (σ : yS) (x1 : Int) (x2 : Int) (x3 : Int) (x5 : Int) (x7 : Int) (x8 : Int) (x10 : Int) (x11 : Int) (x12 : Int) : f_X8_luck_b79 N k56 (n + 1) σ x1 x2 x3 x5 x7 x8 x10 x11 x12 =
    (bif ycP .ge x12 (σ.1 0 3) then
      bif ycP .eq x11 0 then
        f_X8_luck_b267 N k56 σ x1 x2 x5 x7 x3
      else
        bif yin (yad 0 x1) 393 then
          bif ycP .gt x10 (σ.1 1 (yad 0 x1).toNat) then
            f_X8_luck_b267 N k56 σ x1 x2 x5 x7 x3
          else
            f_X8_luck_b268 N k56 σ x1 x2 x5 x7 x8 x3
        else none
    else
      bif ycP .ne (yan (ysr x7 x12) 1) 1 then
        f_X8_luck_b104 N k56 (f_X8_luck_b79 N k56 n) σ x1 x2 x3 x5 x7 x8 x10 x11 x12 0
      else
        f_X8_luck_b104 N k56 (f_X8_luck_b79 N k56 n) σ x1 x2 x3 x5 x7 x8 x10 x11 x12 1) := rfl
noncomputable def f_X8_luck_b56 (N : Nat) : Nat → yS → Int → Int → Int → Int → Int → Option (Int × yS) := yfix (fun _ _ _ _ _ _ => none) (fun ih σ x1 x2 x3 x5 x7 =>
    bif ycP .ge x7 (ysl 1 (σ.1 0 3)) then
      match f_X8_told N σ x3 x5 x2 with
      | none => none
      | some r3 => some (r3.1, r3.2)
    else
      f_X8_luck_b79 N ih N σ x1 x2 x3 x5 x7 1 0 1 0)
theorem q_X8_luck_b56 (N : Nat) (n : Nat) (σ : yS) (x1 : Int) (x2 : Int) (x3 : Int) (x5 : Int) (x7 : Int) : f_X8_luck_b56 N (n + 1) σ x1 x2 x3 x5 x7 =
    (bif ycP .ge x7 (ysl 1 (σ.1 0 3)) then
      match f_X8_told N σ x3 x5 x2 with
      | none => none
      | some r3 => some (r3.1, r3.2)
    else
      f_X8_luck_b79 N (f_X8_luck_b56 N n) N σ x1 x2 x3 x5 x7 1 0 1 0) := rfl
noncomputable def f_X8_luck_b30 (N : Nat) : Nat → yS → Int → Int → Int → Int → Int → Option (Int × yS) := yfix (fun _ _ _ _ _ _ => none) (fun ih σ x1 x2 x3 x5 x7 =>
    bif ycP .ge x7 (σ.1 0 3) then
      f_X8_luck_b56 N N σ x1 x2 x3 x5 0
    else
      ih σ x1 x2 x3 (ymuL x5 10) (yad x7 1))
theorem q_X8_luck_b30 (N : Nat) (n : Nat) (σ : yS) (x1 : Int) (x2 : Int) (x3 : Int) (x5 : Int) (x7 : Int) : f_X8_luck_b30 N (n + 1) σ x1 x2 x3 x5 x7 =
    (bif ycP .ge x7 (σ.1 0 3) then
      f_X8_luck_b56 N N σ x1 x2 x3 x5 0
    else
      (f_X8_luck_b30 N n) σ x1 x2 x3 (ymuL x5 10) (yad x7 1)) := rfl
noncomputable def f_X8_luck (N : Nat) (σ : yS) (x1 : Int) (x2 : Int) : Option (Int × yS) :=
  match f_X8_isHouse N σ x1 with
  | none => none
  | some r1 => bif ycP .eq r1.1 0 then
      f_X8_luck_b18 N r1.2
    else
      match f_X8_in N r1.2 x2 0 1 with
      | none => none
      | some r2 => bif ycP .ne r2.1 0 then
          f_X8_luck_b30 N N r2.2 x1 x2 0 1 0
        else
          f_X8_luck_b18 N r2.2
noncomputable def F_X8_luck (N : Nat) : yF := fun as σ => match as with
  | [.inr (.inl 8, 0), .inl (.inl x1), .inl (.inl x2)] => (f_X8_luck N σ x1 x2).map (fun r => (some (.inl (.inr r.1)), r.2))
  | _ => none
theorem e_X8_luck {N : Nat} {σ : yS} {x1 : Int} {x2 : Int} {r : Int × yS} (h : f_X8_luck N σ x1 x2 = some r) : F_X8_luck N [.inr (.inl 8, 0), .inl (.inl x1), .inl (.inl x2)] σ = some (some (.inl (.inr r.1)), r.2) := by
  show (f_X8_luck N σ x1 x2).map (fun r => ((some (.inl (.inr r.1)), r.2) : yR)) = _
  rw [h]
  rfl
noncomputable def tb_X8_luck (N : Nat) : yTb := ([(7, 8, 0, 3), (20, 8, 6, 3), (79, 8, 3, 0)], [], [(220, 10), (308, (-1))], [(205, 2, 8, F_X8_isHouse N), (310, 3, 8, F_X8_timesOf N)], [(90, 3, F_X8_in N), (313, 3, F_X8_told N)], [], [])
abbrev G_X8_luck (N : Nat) (X : zXT) (sh : List yH) (l : Launch) (rm : Room) : yC → yR → Prop := yGoes X vwCl yct sh l rm cX8_luck 15 wsX8_luck RX8 (tb_X8_luck N) pr_X8_luck 3
set_option maxRecDepth 100000 in
set_option maxHeartbeats 4000000 in
theorem t_X8_luck_b18 {N : Nat} {X : zXT} {sh : List yH} {l : Launch} {rm : Room} (σ : yS) (res : Int × yS) (h : f_X8_luck_b18 N σ = some res) : G_X8_luck N X sh l rm (18, [], [], σ) (some (.inl (.inr res.1)), res.2) := by
  unfold f_X8_luck_b18 at h
  refine yG_n (n := 1) (C' := (21, [], [.inl (.inr ((-1)))], σ)) rfl ?_
  have h := Option.some.inj h
  subst h
  dsimp only
  exact yG_r rfl rfl
set_option maxRecDepth 100000 in
set_option maxHeartbeats 4000000 in
theorem t_X8_luck_b268 {N : Nat} {X : zXT} {sh : List yH} {l : Launch} {rm : Room} (k56 : yS → Int → Int → Int → Int → Int → Option (Int × yS)) (hk56 : ∀ (σ : yS) (x1 : Int) (x2 : Int) (x3 : Int) (x5 : Int) (x7 : Int) (res : Int × yS), k56 σ x1 x2 x3 x5 x7 = some res → G_X8_luck N X sh l rm (56, [(0, .inr (.inl 8, 0)), (1, .inl (.inl x1)), (2, .inl (.inl x2)), (3, .inl (.inr x3)), (5, .inl (.inr x5)), (7, .inl (.inl x7))], [], σ) (some (.inl (.inr res.1)), res.2)) (σ : yS) (x1 : Int) (x2 : Int) (x5 : Int) (x7 : Int) (s0 : Int) (s1 : Int) (res : Int × yS) (h : f_X8_luck_b268 N k56 σ x1 x2 x5 x7 s0 s1 = some res) : G_X8_luck N X sh l rm (268, [(0, .inr (.inl 8, 0)), (1, .inl (.inl x1)), (2, .inl (.inl x2)), (5, .inl (.inr x5)), (7, .inl (.inl x7))], [.inl (.inr s0), .inl (.inr s1)], σ) (some (.inl (.inr res.1)), res.2) := by
  unfold f_X8_luck_b268 at h
  refine yG_n (n := 4) (C' := (56, [(7, .inl (.inl (yad x7 1))), (3, .inl (.inr (yadL s1 s0))), (0, .inr (.inl 8, 0)), (1, .inl (.inl x1)), (2, .inl (.inl x2)), (5, .inl (.inr x5))], [], σ)) rfl ?_
  exact yG_w [2, 3, 4, 1, 5, 0] rfl (hk56 σ x1 x2 (yadL s1 s0) x5 (yad x7 1) res h)
set_option maxRecDepth 100000 in
set_option maxHeartbeats 4000000 in
theorem t_X8_luck_b267 {N : Nat} {X : zXT} {sh : List yH} {l : Launch} {rm : Room} (k56 : yS → Int → Int → Int → Int → Int → Option (Int × yS)) (hk56 : ∀ (σ : yS) (x1 : Int) (x2 : Int) (x3 : Int) (x5 : Int) (x7 : Int) (res : Int × yS), k56 σ x1 x2 x3 x5 x7 = some res → G_X8_luck N X sh l rm (56, [(0, .inr (.inl 8, 0)), (1, .inl (.inl x1)), (2, .inl (.inl x2)), (3, .inl (.inr x3)), (5, .inl (.inr x5)), (7, .inl (.inl x7))], [], σ) (some (.inl (.inr res.1)), res.2)) (σ : yS) (x1 : Int) (x2 : Int) (x5 : Int) (x7 : Int) (s0 : Int) (res : Int × yS) (h : f_X8_luck_b267 N k56 σ x1 x2 x5 x7 s0 = some res) : G_X8_luck N X sh l rm (267, [(0, .inr (.inl 8, 0)), (1, .inl (.inl x1)), (2, .inl (.inl x2)), (5, .inl (.inr x5)), (7, .inl (.inl x7))], [.inl (.inr s0)], σ) (some (.inl (.inr res.1)), res.2) := by
  unfold f_X8_luck_b267 at h
  refine yG_n (n := 1) (C' := (268, [(0, .inr (.inl 8, 0)), (1, .inl (.inl x1)), (2, .inl (.inl x2)), (5, .inl (.inr x5)), (7, .inl (.inl x7))], [.inl (.inr 0), .inl (.inr s0)], σ)) rfl ?_
  exact t_X8_luck_b268 k56 hk56 σ x1 x2 x5 x7 0 s0 res h
set_option maxRecDepth 100000 in
set_option maxHeartbeats 4000000 in
theorem t_X8_luck_b235 {N : Nat} {X : zXT} {sh : List yH} {l : Launch} {rm : Room} (k56 : yS → Int → Int → Int → Int → Int → Option (Int × yS)) (hk56 : ∀ (σ : yS) (x1 : Int) (x2 : Int) (x3 : Int) (x5 : Int) (x7 : Int) (res : Int × yS), k56 σ x1 x2 x3 x5 x7 = some res → G_X8_luck N X sh l rm (56, [(0, .inr (.inl 8, 0)), (1, .inl (.inl x1)), (2, .inl (.inl x2)), (3, .inl (.inr x3)), (5, .inl (.inr x5)), (7, .inl (.inl x7))], [], σ) (some (.inl (.inr res.1)), res.2)) (k79 : yS → Int → Int → Int → Int → Int → Int → Int → Int → Int → Option (Int × yS)) (hk79 : ∀ (σ : yS) (x1 : Int) (x2 : Int) (x3 : Int) (x5 : Int) (x7 : Int) (x8 : Int) (x10 : Int) (x11 : Int) (x12 : Int) (res : Int × yS), k79 σ x1 x2 x3 x5 x7 x8 x10 x11 x12 = some res → G_X8_luck N X sh l rm (79, [(0, .inr (.inl 8, 0)), (1, .inl (.inl x1)), (2, .inl (.inl x2)), (3, .inl (.inr x3)), (5, .inl (.inr x5)), (7, .inl (.inl x7)), (8, .inl (.inr x8)), (10, .inl (.inl x10)), (11, .inl (.inl x11)), (12, .inl (.inl x12))], [], σ) (some (.inl (.inr res.1)), res.2)) (σ : yS) (x1 : Int) (x2 : Int) (x3 : Int) (x5 : Int) (x7 : Int) (x8 : Int) (x10 : Int) (x12 : Int) (s0 : Int) (res : Int × yS) (h : f_X8_luck_b235 N k56 k79 σ x1 x2 x3 x5 x7 x8 x10 x12 s0 = some res) : G_X8_luck N X sh l rm (235, [(0, .inr (.inl 8, 0)), (1, .inl (.inl x1)), (2, .inl (.inl x2)), (3, .inl (.inr x3)), (5, .inl (.inr x5)), (7, .inl (.inl x7)), (8, .inl (.inr x8)), (10, .inl (.inl x10)), (12, .inl (.inl x12))], [.inl (.inl s0)], σ) (some (.inl (.inr res.1)), res.2) := by
  unfold f_X8_luck_b235 at h
  refine yG_n (n := 3) (C' := (79, [(12, .inl (.inl (yad x12 1))), (11, .inl (.inl s0)), (0, .inr (.inl 8, 0)), (1, .inl (.inl x1)), (2, .inl (.inl x2)), (3, .inl (.inr x3)), (5, .inl (.inr x5)), (7, .inl (.inl x7)), (8, .inl (.inr x8)), (10, .inl (.inl x10))], [], σ)) rfl ?_
  exact yG_w [2, 3, 4, 5, 6, 7, 8, 9, 1, 0] rfl (hk79 σ x1 x2 x3 x5 x7 x8 x10 s0 (yad x12 1) res h)
set_option maxRecDepth 100000 in
set_option maxHeartbeats 4000000 in
theorem t_X8_luck_b234 {N : Nat} {X : zXT} {sh : List yH} {l : Launch} {rm : Room} (k56 : yS → Int → Int → Int → Int → Int → Option (Int × yS)) (hk56 : ∀ (σ : yS) (x1 : Int) (x2 : Int) (x3 : Int) (x5 : Int) (x7 : Int) (res : Int × yS), k56 σ x1 x2 x3 x5 x7 = some res → G_X8_luck N X sh l rm (56, [(0, .inr (.inl 8, 0)), (1, .inl (.inl x1)), (2, .inl (.inl x2)), (3, .inl (.inr x3)), (5, .inl (.inr x5)), (7, .inl (.inl x7))], [], σ) (some (.inl (.inr res.1)), res.2)) (k79 : yS → Int → Int → Int → Int → Int → Int → Int → Int → Int → Option (Int × yS)) (hk79 : ∀ (σ : yS) (x1 : Int) (x2 : Int) (x3 : Int) (x5 : Int) (x7 : Int) (x8 : Int) (x10 : Int) (x11 : Int) (x12 : Int) (res : Int × yS), k79 σ x1 x2 x3 x5 x7 x8 x10 x11 x12 = some res → G_X8_luck N X sh l rm (79, [(0, .inr (.inl 8, 0)), (1, .inl (.inl x1)), (2, .inl (.inl x2)), (3, .inl (.inr x3)), (5, .inl (.inr x5)), (7, .inl (.inl x7)), (8, .inl (.inr x8)), (10, .inl (.inl x10)), (11, .inl (.inl x11)), (12, .inl (.inl x12))], [], σ) (some (.inl (.inr res.1)), res.2)) (σ : yS) (x1 : Int) (x2 : Int) (x3 : Int) (x5 : Int) (x7 : Int) (x8 : Int) (x10 : Int) (x12 : Int) (res : Int × yS) (h : f_X8_luck_b234 N k56 k79 σ x1 x2 x3 x5 x7 x8 x10 x12 = some res) : G_X8_luck N X sh l rm (234, [(0, .inr (.inl 8, 0)), (1, .inl (.inl x1)), (2, .inl (.inl x2)), (3, .inl (.inr x3)), (5, .inl (.inr x5)), (7, .inl (.inl x7)), (8, .inl (.inr x8)), (10, .inl (.inl x10)), (12, .inl (.inl x12))], [], σ) (some (.inl (.inr res.1)), res.2) := by
  unfold f_X8_luck_b234 at h
  refine yG_n (n := 1) (C' := (235, [(0, .inr (.inl 8, 0)), (1, .inl (.inl x1)), (2, .inl (.inl x2)), (3, .inl (.inr x3)), (5, .inl (.inr x5)), (7, .inl (.inl x7)), (8, .inl (.inr x8)), (10, .inl (.inl x10)), (12, .inl (.inl x12))], [.inl (.inl 0)], σ)) rfl ?_
  exact t_X8_luck_b235 k56 hk56 k79 hk79 σ x1 x2 x3 x5 x7 x8 x10 x12 0 res h
set_option maxRecDepth 100000 in
set_option maxHeartbeats 4000000 in
theorem t_X8_luck_b230 {N : Nat} {X : zXT} {sh : List yH} {l : Launch} {rm : Room} (k56 : yS → Int → Int → Int → Int → Int → Option (Int × yS)) (hk56 : ∀ (σ : yS) (x1 : Int) (x2 : Int) (x3 : Int) (x5 : Int) (x7 : Int) (res : Int × yS), k56 σ x1 x2 x3 x5 x7 = some res → G_X8_luck N X sh l rm (56, [(0, .inr (.inl 8, 0)), (1, .inl (.inl x1)), (2, .inl (.inl x2)), (3, .inl (.inr x3)), (5, .inl (.inr x5)), (7, .inl (.inl x7))], [], σ) (some (.inl (.inr res.1)), res.2)) (k79 : yS → Int → Int → Int → Int → Int → Int → Int → Int → Int → Option (Int × yS)) (hk79 : ∀ (σ : yS) (x1 : Int) (x2 : Int) (x3 : Int) (x5 : Int) (x7 : Int) (x8 : Int) (x10 : Int) (x11 : Int) (x12 : Int) (res : Int × yS), k79 σ x1 x2 x3 x5 x7 x8 x10 x11 x12 = some res → G_X8_luck N X sh l rm (79, [(0, .inr (.inl 8, 0)), (1, .inl (.inl x1)), (2, .inl (.inl x2)), (3, .inl (.inr x3)), (5, .inl (.inr x5)), (7, .inl (.inl x7)), (8, .inl (.inr x8)), (10, .inl (.inl x10)), (11, .inl (.inl x11)), (12, .inl (.inl x12))], [], σ) (some (.inl (.inr res.1)), res.2)) (σ : yS) (x1 : Int) (x2 : Int) (x3 : Int) (x5 : Int) (x7 : Int) (x8 : Int) (x10 : Int) (x12 : Int) (res : Int × yS) (h : f_X8_luck_b230 N k56 k79 σ x1 x2 x3 x5 x7 x8 x10 x12 = some res) : G_X8_luck N X sh l rm (230, [(0, .inr (.inl 8, 0)), (1, .inl (.inl x1)), (2, .inl (.inl x2)), (3, .inl (.inr x3)), (5, .inl (.inr x5)), (7, .inl (.inl x7)), (8, .inl (.inr x8)), (10, .inl (.inl x10)), (12, .inl (.inl x12))], [], σ) (some (.inl (.inr res.1)), res.2) := by
  unfold f_X8_luck_b230 at h
  refine yG_n (n := 2) (C' := (235, [(0, .inr (.inl 8, 0)), (1, .inl (.inl x1)), (2, .inl (.inl x2)), (3, .inl (.inr x3)), (5, .inl (.inr x5)), (7, .inl (.inl x7)), (8, .inl (.inr x8)), (10, .inl (.inl x10)), (12, .inl (.inl x12))], [.inl (.inl 1)], σ)) rfl ?_
  exact t_X8_luck_b235 k56 hk56 k79 hk79 σ x1 x2 x3 x5 x7 x8 x10 x12 1 res h
set_option maxRecDepth 100000 in
set_option maxHeartbeats 4000000 in
theorem t_X8_luck_b191 {N : Nat} {X : zXT} {sh : List yH} {l : Launch} {rm : Room} (k56 : yS → Int → Int → Int → Int → Int → Option (Int × yS)) (hk56 : ∀ (σ : yS) (x1 : Int) (x2 : Int) (x3 : Int) (x5 : Int) (x7 : Int) (res : Int × yS), k56 σ x1 x2 x3 x5 x7 = some res → G_X8_luck N X sh l rm (56, [(0, .inr (.inl 8, 0)), (1, .inl (.inl x1)), (2, .inl (.inl x2)), (3, .inl (.inr x3)), (5, .inl (.inr x5)), (7, .inl (.inl x7))], [], σ) (some (.inl (.inr res.1)), res.2)) (k79 : yS → Int → Int → Int → Int → Int → Int → Int → Int → Int → Option (Int × yS)) (hk79 : ∀ (σ : yS) (x1 : Int) (x2 : Int) (x3 : Int) (x5 : Int) (x7 : Int) (x8 : Int) (x10 : Int) (x11 : Int) (x12 : Int) (res : Int × yS), k79 σ x1 x2 x3 x5 x7 x8 x10 x11 x12 = some res → G_X8_luck N X sh l rm (79, [(0, .inr (.inl 8, 0)), (1, .inl (.inl x1)), (2, .inl (.inl x2)), (3, .inl (.inr x3)), (5, .inl (.inr x5)), (7, .inl (.inl x7)), (8, .inl (.inr x8)), (10, .inl (.inl x10)), (11, .inl (.inl x11)), (12, .inl (.inl x12))], [], σ) (some (.inl (.inr res.1)), res.2)) (σ : yS) (x1 : Int) (x2 : Int) (x3 : Int) (x5 : Int) (x7 : Int) (x8 : Int) (x11 : Int) (x12 : Int) (x14 : Int) (s0 : Int) (s1 : Int) (res : Int × yS) (h : f_X8_luck_b191 N k56 k79 σ x1 x2 x3 x5 x7 x8 x11 x12 x14 s0 s1 = some res) : G_X8_luck N X sh l rm (191, [(0, .inr (.inl 8, 0)), (1, .inl (.inl x1)), (2, .inl (.inl x2)), (3, .inl (.inr x3)), (5, .inl (.inr x5)), (7, .inl (.inl x7)), (8, .inl (.inr x8)), (11, .inl (.inl x11)), (12, .inl (.inl x12)), (14, .inl (.inl x14))], [.inl (.inl s0), .inl (.inl s1)], σ) (some (.inl (.inr res.1)), res.2) := by
  unfold f_X8_luck_b191 at h
  refine yG_n (n := 3) (C' := (196, [(10, .inl (.inl (yad s1 s0))), (0, .inr (.inl 8, 0)), (1, .inl (.inl x1)), (2, .inl (.inl x2)), (3, .inl (.inr x3)), (5, .inl (.inr x5)), (7, .inl (.inl x7)), (8, .inl (.inr x8)), (11, .inl (.inl x11)), (12, .inl (.inl x12)), (14, .inl (.inl x14))], [.inl (.inl x11)], σ)) rfl ?_
  cases hg1 : ycP .eq x11 0 with
  | true =>
    rw [hg1] at h
    dsimp only [cond] at h
    refine yG_t (C' := (234, [(10, .inl (.inl (yad s1 s0))), (0, .inr (.inl 8, 0)), (1, .inl (.inl x1)), (2, .inl (.inl x2)), (3, .inl (.inr x3)), (5, .inl (.inr x5)), (7, .inl (.inl x7)), (8, .inl (.inr x8)), (11, .inl (.inl x11)), (12, .inl (.inl x12)), (14, .inl (.inl x14))], [], σ)) rfl hg1 ?_
    exact yG_w [1, 2, 3, 4, 5, 6, 7, 0, 9] rfl (t_X8_luck_b234 k56 hk56 k79 hk79 σ x1 x2 x3 x5 x7 x8 (yad s1 s0) x12 res h)
  | false =>
    rw [hg1] at h
    dsimp only [cond] at h
    refine yG_f (C' := (199, [(10, .inl (.inl (yad s1 s0))), (0, .inr (.inl 8, 0)), (1, .inl (.inl x1)), (2, .inl (.inl x2)), (3, .inl (.inr x3)), (5, .inl (.inr x5)), (7, .inl (.inl x7)), (8, .inl (.inr x8)), (11, .inl (.inl x11)), (12, .inl (.inl x12)), (14, .inl (.inl x14))], [], σ)) rfl hg1 ?_
    refine yG_n (n := 1) (C' := (201, [(10, .inl (.inl (yad s1 s0))), (0, .inr (.inl 8, 0)), (1, .inl (.inl x1)), (2, .inl (.inl x2)), (3, .inl (.inr x3)), (5, .inl (.inr x5)), (7, .inl (.inl x7)), (8, .inl (.inr x8)), (11, .inl (.inl x11)), (12, .inl (.inl x12)), (14, .inl (.inl x14))], [.inl (.inl x14)], σ)) rfl ?_
    cases hg2 : ycP .eq x14 0 with
    | true =>
      rw [hg2] at h
      dsimp only [cond] at h
      refine yG_t (C' := (230, [(10, .inl (.inl (yad s1 s0))), (0, .inr (.inl 8, 0)), (1, .inl (.inl x1)), (2, .inl (.inl x2)), (3, .inl (.inr x3)), (5, .inl (.inr x5)), (7, .inl (.inl x7)), (8, .inl (.inr x8)), (11, .inl (.inl x11)), (12, .inl (.inl x12)), (14, .inl (.inl x14))], [], σ)) rfl hg2 ?_
      exact yG_w [1, 2, 3, 4, 5, 6, 7, 0, 9] rfl (t_X8_luck_b230 k56 hk56 k79 hk79 σ x1 x2 x3 x5 x7 x8 (yad s1 s0) x12 res h)
    | false =>
      rw [hg2] at h
      dsimp only [cond] at h
      refine yG_f (C' := (204, [(10, .inl (.inl (yad s1 s0))), (0, .inr (.inl 8, 0)), (1, .inl (.inl x1)), (2, .inl (.inl x2)), (3, .inl (.inr x3)), (5, .inl (.inr x5)), (7, .inl (.inl x7)), (8, .inl (.inr x8)), (11, .inl (.inl x11)), (12, .inl (.inl x12)), (14, .inl (.inl x14))], [], σ)) rfl hg2 ?_
      refine yG_n (n := 5) (C' := (212, [(10, .inl (.inl (yad s1 s0))), (0, .inr (.inl 8, 0)), (1, .inl (.inl x1)), (2, .inl (.inl x2)), (3, .inl (.inr x3)), (5, .inl (.inr x5)), (7, .inl (.inl x7)), (8, .inl (.inr x8)), (11, .inl (.inl x11)), (12, .inl (.inl x12)), (14, .inl (.inl x14))], [.inl (.inl (yad 7 x1)), .inr (.inr (0, 393), 1)], σ)) rfl ?_
      cases hg3 : yin (yad 7 x1) 393 with
      | false => rw [hg3] at h; dsimp only [cond] at h; cases h
      | true =>
        rw [hg3] at h
        dsimp only [cond] at h
        refine yG_t (C' := (213, [(10, .inl (.inl (yad s1 s0))), (0, .inr (.inl 8, 0)), (1, .inl (.inl x1)), (2, .inl (.inl x2)), (3, .inl (.inr x3)), (5, .inl (.inr x5)), (7, .inl (.inl x7)), (8, .inl (.inr x8)), (11, .inl (.inl x11)), (12, .inl (.inl x12)), (14, .inl (.inl x14))], [.inl (.inl (σ.1 1 (yad 7 x1).toNat))], σ)) rfl hg3 ?_
        refine yG_n (n := 5) (C' := (222, [(10, .inl (.inl (yad s1 s0))), (0, .inr (.inl 8, 0)), (1, .inl (.inl x1)), (2, .inl (.inl x2)), (3, .inl (.inr x3)), (5, .inl (.inr x5)), (7, .inl (.inl x7)), (8, .inl (.inr x8)), (11, .inl (.inl x11)), (12, .inl (.inl x12)), (14, .inl (.inl x14))], [.inl (.inl (yad 28 x12)), .inr (.inr (0, 393), 1), .inl (.inl (σ.1 1 (yad 7 x1).toNat))], σ)) rfl ?_
        cases hg4 : yin (yad 28 x12) 393 with
        | false => rw [hg4] at h; dsimp only [cond] at h; cases h
        | true =>
          rw [hg4] at h
          dsimp only [cond] at h
          refine yG_t (C' := (223, [(10, .inl (.inl (yad s1 s0))), (0, .inr (.inl 8, 0)), (1, .inl (.inl x1)), (2, .inl (.inl x2)), (3, .inl (.inr x3)), (5, .inl (.inr x5)), (7, .inl (.inl x7)), (8, .inl (.inr x8)), (11, .inl (.inl x11)), (12, .inl (.inl x12)), (14, .inl (.inl x14))], [.inl (.inl (σ.1 1 (yad 28 x12).toNat)), .inl (.inl (σ.1 1 (yad 7 x1).toNat))], σ)) rfl hg4 ?_
          refine yG_n (n := 4) (C' := (227, [(10, .inl (.inl (yad s1 s0))), (0, .inr (.inl 8, 0)), (1, .inl (.inl x1)), (2, .inl (.inl x2)), (3, .inl (.inr x3)), (5, .inl (.inr x5)), (7, .inl (.inl x7)), (8, .inl (.inr x8)), (11, .inl (.inl x11)), (12, .inl (.inl x12)), (14, .inl (.inl x14))], [.inl (.inl 1), .inl (.inl (yan (ysr (σ.1 1 (yad 7 x1).toNat) (σ.1 1 (yad 28 x12).toNat)) 1))], σ)) rfl ?_
          cases hg5 : ycP .ne (yan (ysr (σ.1 1 (yad 7 x1).toNat) (σ.1 1 (yad 28 x12).toNat)) 1) 1 with
          | true =>
            rw [hg5] at h
            dsimp only [cond] at h
            refine yG_t (C' := (234, [(10, .inl (.inl (yad s1 s0))), (0, .inr (.inl 8, 0)), (1, .inl (.inl x1)), (2, .inl (.inl x2)), (3, .inl (.inr x3)), (5, .inl (.inr x5)), (7, .inl (.inl x7)), (8, .inl (.inr x8)), (11, .inl (.inl x11)), (12, .inl (.inl x12)), (14, .inl (.inl x14))], [], σ)) rfl hg5 ?_
            exact yG_w [1, 2, 3, 4, 5, 6, 7, 0, 9] rfl (t_X8_luck_b234 k56 hk56 k79 hk79 σ x1 x2 x3 x5 x7 x8 (yad s1 s0) x12 res h)
          | false =>
            rw [hg5] at h
            dsimp only [cond] at h
            refine yG_f (C' := (230, [(10, .inl (.inl (yad s1 s0))), (0, .inr (.inl 8, 0)), (1, .inl (.inl x1)), (2, .inl (.inl x2)), (3, .inl (.inr x3)), (5, .inl (.inr x5)), (7, .inl (.inl x7)), (8, .inl (.inr x8)), (11, .inl (.inl x11)), (12, .inl (.inl x12)), (14, .inl (.inl x14))], [], σ)) rfl hg5 ?_
            exact yG_w [1, 2, 3, 4, 5, 6, 7, 0, 9] rfl (t_X8_luck_b230 k56 hk56 k79 hk79 σ x1 x2 x3 x5 x7 x8 (yad s1 s0) x12 res h)
set_option maxRecDepth 100000 in
set_option maxHeartbeats 4000000 in
theorem t_X8_luck_b160 {N : Nat} {X : zXT} {sh : List yH} {l : Launch} {rm : Room} (k56 : yS → Int → Int → Int → Int → Int → Option (Int × yS)) (hk56 : ∀ (σ : yS) (x1 : Int) (x2 : Int) (x3 : Int) (x5 : Int) (x7 : Int) (res : Int × yS), k56 σ x1 x2 x3 x5 x7 = some res → G_X8_luck N X sh l rm (56, [(0, .inr (.inl 8, 0)), (1, .inl (.inl x1)), (2, .inl (.inl x2)), (3, .inl (.inr x3)), (5, .inl (.inr x5)), (7, .inl (.inl x7))], [], σ) (some (.inl (.inr res.1)), res.2)) (k79 : yS → Int → Int → Int → Int → Int → Int → Int → Int → Int → Option (Int × yS)) (hk79 : ∀ (σ : yS) (x1 : Int) (x2 : Int) (x3 : Int) (x5 : Int) (x7 : Int) (x8 : Int) (x10 : Int) (x11 : Int) (x12 : Int) (res : Int × yS), k79 σ x1 x2 x3 x5 x7 x8 x10 x11 x12 = some res → G_X8_luck N X sh l rm (79, [(0, .inr (.inl 8, 0)), (1, .inl (.inl x1)), (2, .inl (.inl x2)), (3, .inl (.inr x3)), (5, .inl (.inr x5)), (7, .inl (.inl x7)), (8, .inl (.inr x8)), (10, .inl (.inl x10)), (11, .inl (.inl x11)), (12, .inl (.inl x12))], [], σ) (some (.inl (.inr res.1)), res.2)) (σ : yS) (x1 : Int) (x2 : Int) (x3 : Int) (x5 : Int) (x7 : Int) (x8 : Int) (x10 : Int) (x11 : Int) (x12 : Int) (s0 : Int) (res : Int × yS) (h : f_X8_luck_b160 N k56 k79 σ x1 x2 x3 x5 x7 x8 x10 x11 x12 s0 = some res) : G_X8_luck N X sh l rm (160, [(0, .inr (.inl 8, 0)), (1, .inl (.inl x1)), (2, .inl (.inl x2)), (3, .inl (.inr x3)), (5, .inl (.inr x5)), (7, .inl (.inl x7)), (8, .inl (.inr x8)), (10, .inl (.inl x10)), (11, .inl (.inl x11)), (12, .inl (.inl x12))], [.inl (.inl s0)], σ) (some (.inl (.inr res.1)), res.2) := by
  unfold f_X8_luck_b160 at h
  refine yG_n (n := 3) (C' := (166, [(14, .inl (.inl s0)), (0, .inr (.inl 8, 0)), (1, .inl (.inl x1)), (2, .inl (.inl x2)), (3, .inl (.inr x3)), (5, .inl (.inr x5)), (7, .inl (.inl x7)), (8, .inl (.inr x8)), (10, .inl (.inl x10)), (11, .inl (.inl x11)), (12, .inl (.inl x12))], [.inl (.inl s0), .inl (.inl x10)], σ)) rfl ?_
  cases hg6 : ycP .ne s0 0 with
  | true =>
    rw [hg6] at h
    dsimp only [cond] at h
    refine yG_t (C' := (173, [(14, .inl (.inl s0)), (0, .inr (.inl 8, 0)), (1, .inl (.inl x1)), (2, .inl (.inl x2)), (3, .inl (.inr x3)), (5, .inl (.inr x5)), (7, .inl (.inl x7)), (8, .inl (.inr x8)), (10, .inl (.inl x10)), (11, .inl (.inl x11)), (12, .inl (.inl x12))], [.inl (.inl x10)], σ)) rfl hg6 ?_
    refine yG_n (n := 8) (C' := (188, [(14, .inl (.inl s0)), (0, .inr (.inl 8, 0)), (1, .inl (.inl x1)), (2, .inl (.inl x2)), (3, .inl (.inr x3)), (5, .inl (.inr x5)), (7, .inl (.inl x7)), (8, .inl (.inr x8)), (10, .inl (.inl x10)), (11, .inl (.inl x11)), (12, .inl (.inl x12))], [.inl (.inl (yad 28 x12)), .inr (.inr (0, 393), 1), .inr (.inr (0, 5), 4), .inl (.inl s0), .inl (.inl x10)], σ)) rfl ?_
    cases hg7 : yin (yad 28 x12) 393 with
    | false => rw [hg7] at h; dsimp only [cond] at h; cases h
    | true =>
      rw [hg7] at h
      dsimp only [cond] at h
      refine yG_t (C' := (189, [(14, .inl (.inl s0)), (0, .inr (.inl 8, 0)), (1, .inl (.inl x1)), (2, .inl (.inl x2)), (3, .inl (.inr x3)), (5, .inl (.inr x5)), (7, .inl (.inl x7)), (8, .inl (.inr x8)), (10, .inl (.inl x10)), (11, .inl (.inl x11)), (12, .inl (.inl x12))], [.inl (.inl (σ.1 1 (yad 28 x12).toNat)), .inr (.inr (0, 5), 4), .inl (.inl s0), .inl (.inl x10)], σ)) rfl hg7 ?_
      cases hg8 : yin (σ.1 1 (yad 28 x12).toNat) 5 with
      | false => rw [hg8] at h; dsimp only [cond] at h; cases h
      | true =>
        rw [hg8] at h
        dsimp only [cond] at h
        refine yG_t (C' := (190, [(14, .inl (.inl s0)), (0, .inr (.inl 8, 0)), (1, .inl (.inl x1)), (2, .inl (.inl x2)), (3, .inl (.inr x3)), (5, .inl (.inr x5)), (7, .inl (.inl x7)), (8, .inl (.inr x8)), (10, .inl (.inl x10)), (11, .inl (.inl x11)), (12, .inl (.inl x12))], [.inl (.inl (σ.1 4 (σ.1 1 (yad 28 x12).toNat).toNat)), .inl (.inl s0), .inl (.inl x10)], σ)) rfl hg8 ?_
        refine yG_n (n := 1) (C' := (191, [(14, .inl (.inl s0)), (0, .inr (.inl 8, 0)), (1, .inl (.inl x1)), (2, .inl (.inl x2)), (3, .inl (.inr x3)), (5, .inl (.inr x5)), (7, .inl (.inl x7)), (8, .inl (.inr x8)), (10, .inl (.inl x10)), (11, .inl (.inl x11)), (12, .inl (.inl x12))], [.inl (.inl (ymu s0 (σ.1 4 (σ.1 1 (yad 28 x12).toNat).toNat))), .inl (.inl x10)], σ)) rfl ?_
        exact yG_w [1, 2, 3, 4, 5, 6, 7, 9, 10, 0] rfl (t_X8_luck_b191 k56 hk56 k79 hk79 σ x1 x2 x3 x5 x7 x8 x11 x12 s0 (ymu s0 (σ.1 4 (σ.1 1 (yad 28 x12).toNat).toNat)) x10 res h)
  | false =>
    rw [hg6] at h
    dsimp only [cond] at h
    refine yG_f (C' := (169, [(14, .inl (.inl s0)), (0, .inr (.inl 8, 0)), (1, .inl (.inl x1)), (2, .inl (.inl x2)), (3, .inl (.inr x3)), (5, .inl (.inr x5)), (7, .inl (.inl x7)), (8, .inl (.inr x8)), (10, .inl (.inl x10)), (11, .inl (.inl x11)), (12, .inl (.inl x12))], [.inl (.inl x10)], σ)) rfl hg6 ?_
    refine yG_n (n := 2) (C' := (191, [(14, .inl (.inl s0)), (0, .inr (.inl 8, 0)), (1, .inl (.inl x1)), (2, .inl (.inl x2)), (3, .inl (.inr x3)), (5, .inl (.inr x5)), (7, .inl (.inl x7)), (8, .inl (.inr x8)), (10, .inl (.inl x10)), (11, .inl (.inl x11)), (12, .inl (.inl x12))], [.inl (.inl 0), .inl (.inl x10)], σ)) rfl ?_
    exact yG_w [1, 2, 3, 4, 5, 6, 7, 9, 10, 0] rfl (t_X8_luck_b191 k56 hk56 k79 hk79 σ x1 x2 x3 x5 x7 x8 x11 x12 s0 0 x10 res h)
set_option maxRecDepth 100000 in
set_option maxHeartbeats 4000000 in
theorem t_X8_luck_b141 {N : Nat} {X : zXT} {sh : List yH} {l : Launch} {rm : Room} (k56 : yS → Int → Int → Int → Int → Int → Option (Int × yS)) (hk56 : ∀ (σ : yS) (x1 : Int) (x2 : Int) (x3 : Int) (x5 : Int) (x7 : Int) (res : Int × yS), k56 σ x1 x2 x3 x5 x7 = some res → G_X8_luck N X sh l rm (56, [(0, .inr (.inl 8, 0)), (1, .inl (.inl x1)), (2, .inl (.inl x2)), (3, .inl (.inr x3)), (5, .inl (.inr x5)), (7, .inl (.inl x7))], [], σ) (some (.inl (.inr res.1)), res.2)) (k79 : yS → Int → Int → Int → Int → Int → Int → Int → Int → Int → Option (Int × yS)) (hk79 : ∀ (σ : yS) (x1 : Int) (x2 : Int) (x3 : Int) (x5 : Int) (x7 : Int) (x8 : Int) (x10 : Int) (x11 : Int) (x12 : Int) (res : Int × yS), k79 σ x1 x2 x3 x5 x7 x8 x10 x11 x12 = some res → G_X8_luck N X sh l rm (79, [(0, .inr (.inl 8, 0)), (1, .inl (.inl x1)), (2, .inl (.inl x2)), (3, .inl (.inr x3)), (5, .inl (.inr x5)), (7, .inl (.inl x7)), (8, .inl (.inr x8)), (10, .inl (.inl x10)), (11, .inl (.inl x11)), (12, .inl (.inl x12))], [], σ) (some (.inl (.inr res.1)), res.2)) (σ : yS) (x1 : Int) (x2 : Int) (x3 : Int) (x5 : Int) (x7 : Int) (x10 : Int) (x11 : Int) (x12 : Int) (x13 : Int) (s0 : Int) (s1 : Int) (res : Int × yS) (h : f_X8_luck_b141 N k56 k79 σ x1 x2 x3 x5 x7 x10 x11 x12 x13 s0 s1 = some res) : G_X8_luck N X sh l rm (141, [(0, .inr (.inl 8, 0)), (1, .inl (.inl x1)), (2, .inl (.inl x2)), (3, .inl (.inr x3)), (5, .inl (.inr x5)), (7, .inl (.inl x7)), (10, .inl (.inl x10)), (11, .inl (.inl x11)), (12, .inl (.inl x12)), (13, .inl (.inl x13))], [.inl (.inr s0), .inl (.inr s1)], σ) (some (.inl (.inr res.1)), res.2) := by
  unfold f_X8_luck_b141 at h
  refine yG_n (n := 3) (C' := (146, [(8, .inl (.inr (ymuL s1 s0))), (0, .inr (.inl 8, 0)), (1, .inl (.inl x1)), (2, .inl (.inl x2)), (3, .inl (.inr x3)), (5, .inl (.inr x5)), (7, .inl (.inl x7)), (10, .inl (.inl x10)), (11, .inl (.inl x11)), (12, .inl (.inl x12)), (13, .inl (.inl x13))], [.inl (.inl x13)], σ)) rfl ?_
  cases hg9 : ycP .eq x13 0 with
  | true =>
    rw [hg9] at h
    dsimp only [cond] at h
    refine yG_t (C' := (159, [(8, .inl (.inr (ymuL s1 s0))), (0, .inr (.inl 8, 0)), (1, .inl (.inl x1)), (2, .inl (.inl x2)), (3, .inl (.inr x3)), (5, .inl (.inr x5)), (7, .inl (.inl x7)), (10, .inl (.inl x10)), (11, .inl (.inl x11)), (12, .inl (.inl x12)), (13, .inl (.inl x13))], [], σ)) rfl hg9 ?_
    refine yG_n (n := 1) (C' := (160, [(8, .inl (.inr (ymuL s1 s0))), (0, .inr (.inl 8, 0)), (1, .inl (.inl x1)), (2, .inl (.inl x2)), (3, .inl (.inr x3)), (5, .inl (.inr x5)), (7, .inl (.inl x7)), (10, .inl (.inl x10)), (11, .inl (.inl x11)), (12, .inl (.inl x12)), (13, .inl (.inl x13))], [.inl (.inl 0)], σ)) rfl ?_
    exact yG_w [1, 2, 3, 4, 5, 6, 0, 7, 8, 9] rfl (t_X8_luck_b160 k56 hk56 k79 hk79 σ x1 x2 x3 x5 x7 (ymuL s1 s0) x10 x11 x12 0 res h)
  | false =>
    rw [hg9] at h
    dsimp only [cond] at h
    refine yG_f (C' := (149, [(8, .inl (.inr (ymuL s1 s0))), (0, .inr (.inl 8, 0)), (1, .inl (.inl x1)), (2, .inl (.inl x2)), (3, .inl (.inr x3)), (5, .inl (.inr x5)), (7, .inl (.inl x7)), (10, .inl (.inl x10)), (11, .inl (.inl x11)), (12, .inl (.inl x12)), (13, .inl (.inl x13))], [], σ)) rfl hg9 ?_
    refine yG_n (n := 3) (C' := (153, [(8, .inl (.inr (ymuL s1 s0))), (0, .inr (.inl 8, 0)), (1, .inl (.inl x1)), (2, .inl (.inl x2)), (3, .inl (.inr x3)), (5, .inl (.inr x5)), (7, .inl (.inl x7)), (10, .inl (.inl x10)), (11, .inl (.inl x11)), (12, .inl (.inl x12)), (13, .inl (.inl x13))], [.inl (.inl x1), .inl (.inl x12), .inr (.inl 8, 0)], σ)) rfl ?_
    cases hr10 : f_X8_timesOf N σ x12 x1 with
    | none => rw [hr10] at h; dsimp only at h; cases h
    | some r4 =>
      rw [hr10] at h
      dsimp only at h
      refine yG_c (C1 := (156, [(8, .inl (.inr (ymuL s1 s0))), (0, .inr (.inl 8, 0)), (1, .inl (.inl x1)), (2, .inl (.inl x2)), (3, .inl (.inr x3)), (5, .inl (.inr x5)), (7, .inl (.inl x7)), (10, .inl (.inl x10)), (11, .inl (.inl x11)), (12, .inl (.inl x12)), (13, .inl (.inl x13))], [.inl (.inl r4.1)], r4.2)) rfl (e_X8_timesOf hr10) rfl ?_
      refine yG_n (n := 1) (C' := (160, [(8, .inl (.inr (ymuL s1 s0))), (0, .inr (.inl 8, 0)), (1, .inl (.inl x1)), (2, .inl (.inl x2)), (3, .inl (.inr x3)), (5, .inl (.inr x5)), (7, .inl (.inl x7)), (10, .inl (.inl x10)), (11, .inl (.inl x11)), (12, .inl (.inl x12)), (13, .inl (.inl x13))], [.inl (.inl r4.1)], r4.2)) rfl ?_
      exact yG_w [1, 2, 3, 4, 5, 6, 0, 7, 8, 9] rfl (t_X8_luck_b160 k56 hk56 k79 hk79 r4.2 x1 x2 x3 x5 x7 (ymuL s1 s0) x10 x11 x12 r4.1 res h)
set_option maxRecDepth 100000 in
set_option maxHeartbeats 4000000 in
theorem t_X8_luck_b104 {N : Nat} {X : zXT} {sh : List yH} {l : Launch} {rm : Room} (k56 : yS → Int → Int → Int → Int → Int → Option (Int × yS)) (hk56 : ∀ (σ : yS) (x1 : Int) (x2 : Int) (x3 : Int) (x5 : Int) (x7 : Int) (res : Int × yS), k56 σ x1 x2 x3 x5 x7 = some res → G_X8_luck N X sh l rm (56, [(0, .inr (.inl 8, 0)), (1, .inl (.inl x1)), (2, .inl (.inl x2)), (3, .inl (.inr x3)), (5, .inl (.inr x5)), (7, .inl (.inl x7))], [], σ) (some (.inl (.inr res.1)), res.2)) (k79 : yS → Int → Int → Int → Int → Int → Int → Int → Int → Int → Option (Int × yS)) (hk79 : ∀ (σ : yS) (x1 : Int) (x2 : Int) (x3 : Int) (x5 : Int) (x7 : Int) (x8 : Int) (x10 : Int) (x11 : Int) (x12 : Int) (res : Int × yS), k79 σ x1 x2 x3 x5 x7 x8 x10 x11 x12 = some res → G_X8_luck N X sh l rm (79, [(0, .inr (.inl 8, 0)), (1, .inl (.inl x1)), (2, .inl (.inl x2)), (3, .inl (.inr x3)), (5, .inl (.inr x5)), (7, .inl (.inl x7)), (8, .inl (.inr x8)), (10, .inl (.inl x10)), (11, .inl (.inl x11)), (12, .inl (.inl x12))], [], σ) (some (.inl (.inr res.1)), res.2)) (σ : yS) (x1 : Int) (x2 : Int) (x3 : Int) (x5 : Int) (x7 : Int) (x8 : Int) (x10 : Int) (x11 : Int) (x12 : Int) (s0 : Int) (res : Int × yS) (h : f_X8_luck_b104 N k56 k79 σ x1 x2 x3 x5 x7 x8 x10 x11 x12 s0 = some res) : G_X8_luck N X sh l rm (104, [(0, .inr (.inl 8, 0)), (1, .inl (.inl x1)), (2, .inl (.inl x2)), (3, .inl (.inr x3)), (5, .inl (.inr x5)), (7, .inl (.inl x7)), (8, .inl (.inr x8)), (10, .inl (.inl x10)), (11, .inl (.inl x11)), (12, .inl (.inl x12))], [.inl (.inl s0)], σ) (some (.inl (.inr res.1)), res.2) := by
  unfold f_X8_luck_b104 at h
  refine yG_n (n := 3) (C' := (110, [(13, .inl (.inl s0)), (0, .inr (.inl 8, 0)), (1, .inl (.inl x1)), (2, .inl (.inl x2)), (3, .inl (.inr x3)), (5, .inl (.inr x5)), (7, .inl (.inl x7)), (8, .inl (.inr x8)), (10, .inl (.inl x10)), (11, .inl (.inl x11)), (12, .inl (.inl x12))], [.inl (.inl s0), .inl (.inr x8)], σ)) rfl ?_
  cases hg11 : ycP .eq s0 0 with
  | true =>
    rw [hg11] at h
    dsimp only [cond] at h
    refine yG_t (C' := (127, [(13, .inl (.inl s0)), (0, .inr (.inl 8, 0)), (1, .inl (.inl x1)), (2, .inl (.inl x2)), (3, .inl (.inr x3)), (5, .inl (.inr x5)), (7, .inl (.inl x7)), (8, .inl (.inr x8)), (10, .inl (.inl x10)), (11, .inl (.inl x11)), (12, .inl (.inl x12))], [.inl (.inr x8)], σ)) rfl hg11 ?_
    refine yG_n (n := 6) (C' := (138, [(13, .inl (.inl s0)), (0, .inr (.inl 8, 0)), (1, .inl (.inl x1)), (2, .inl (.inl x2)), (3, .inl (.inr x3)), (5, .inl (.inr x5)), (7, .inl (.inl x7)), (8, .inl (.inr x8)), (10, .inl (.inl x10)), (11, .inl (.inl x11)), (12, .inl (.inl x12))], [.inl (.inl (yad 35 x12)), .inr (.inr (0, 393), 1), .inl (.inl 10), .inl (.inr x8)], σ)) rfl ?_
    cases hg12 : yin (yad 35 x12) 393 with
    | false => rw [hg12] at h; dsimp only [cond] at h; cases h
    | true =>
      rw [hg12] at h
      dsimp only [cond] at h
      refine yG_t (C' := (139, [(13, .inl (.inl s0)), (0, .inr (.inl 8, 0)), (1, .inl (.inl x1)), (2, .inl (.inl x2)), (3, .inl (.inr x3)), (5, .inl (.inr x5)), (7, .inl (.inl x7)), (8, .inl (.inr x8)), (10, .inl (.inl x10)), (11, .inl (.inl x11)), (12, .inl (.inl x12))], [.inl (.inl (σ.1 1 (yad 35 x12).toNat)), .inl (.inl 10), .inl (.inr x8)], σ)) rfl hg12 ?_
      refine yG_n (n := 2) (C' := (141, [(13, .inl (.inl s0)), (0, .inr (.inl 8, 0)), (1, .inl (.inl x1)), (2, .inl (.inl x2)), (3, .inl (.inr x3)), (5, .inl (.inr x5)), (7, .inl (.inl x7)), (8, .inl (.inr x8)), (10, .inl (.inl x10)), (11, .inl (.inl x11)), (12, .inl (.inl x12))], [.inl (.inr (ysu 10 (σ.1 1 (yad 35 x12).toNat))), .inl (.inr x8)], σ)) rfl ?_
      exact yG_w [1, 2, 3, 4, 5, 6, 8, 9, 10, 0] rfl (t_X8_luck_b141 k56 hk56 k79 hk79 σ x1 x2 x3 x5 x7 x10 x11 x12 s0 (ysu 10 (σ.1 1 (yad 35 x12).toNat)) x8 res h)
  | false =>
    rw [hg11] at h
    dsimp only [cond] at h
    refine yG_f (C' := (113, [(13, .inl (.inl s0)), (0, .inr (.inl 8, 0)), (1, .inl (.inl x1)), (2, .inl (.inl x2)), (3, .inl (.inr x3)), (5, .inl (.inr x5)), (7, .inl (.inl x7)), (8, .inl (.inr x8)), (10, .inl (.inl x10)), (11, .inl (.inl x11)), (12, .inl (.inl x12))], [.inl (.inr x8)], σ)) rfl hg11 ?_
    refine yG_n (n := 5) (C' := (122, [(13, .inl (.inl s0)), (0, .inr (.inl 8, 0)), (1, .inl (.inl x1)), (2, .inl (.inl x2)), (3, .inl (.inr x3)), (5, .inl (.inr x5)), (7, .inl (.inl x7)), (8, .inl (.inr x8)), (10, .inl (.inl x10)), (11, .inl (.inl x11)), (12, .inl (.inl x12))], [.inl (.inl (yad 35 x12)), .inr (.inr (0, 393), 1), .inl (.inr x8)], σ)) rfl ?_
    cases hg13 : yin (yad 35 x12) 393 with
    | false => rw [hg13] at h; dsimp only [cond] at h; cases h
    | true =>
      rw [hg13] at h
      dsimp only [cond] at h
      refine yG_t (C' := (123, [(13, .inl (.inl s0)), (0, .inr (.inl 8, 0)), (1, .inl (.inl x1)), (2, .inl (.inl x2)), (3, .inl (.inr x3)), (5, .inl (.inr x5)), (7, .inl (.inl x7)), (8, .inl (.inr x8)), (10, .inl (.inl x10)), (11, .inl (.inl x11)), (12, .inl (.inl x12))], [.inl (.inl (σ.1 1 (yad 35 x12).toNat)), .inl (.inr x8)], σ)) rfl hg13 ?_
      refine yG_n (n := 2) (C' := (141, [(13, .inl (.inl s0)), (0, .inr (.inl 8, 0)), (1, .inl (.inl x1)), (2, .inl (.inl x2)), (3, .inl (.inr x3)), (5, .inl (.inr x5)), (7, .inl (.inl x7)), (8, .inl (.inr x8)), (10, .inl (.inl x10)), (11, .inl (.inl x11)), (12, .inl (.inl x12))], [.inl (.inr (σ.1 1 (yad 35 x12).toNat)), .inl (.inr x8)], σ)) rfl ?_
      exact yG_w [1, 2, 3, 4, 5, 6, 8, 9, 10, 0] rfl (t_X8_luck_b141 k56 hk56 k79 hk79 σ x1 x2 x3 x5 x7 x10 x11 x12 s0 (σ.1 1 (yad 35 x12).toNat) x8 res h)
set_option maxRecDepth 100000 in
set_option maxHeartbeats 4000000 in
theorem t_X8_luck_b79 {N : Nat} {X : zXT} {sh : List yH} {l : Launch} {rm : Room} (k56 : yS → Int → Int → Int → Int → Int → Option (Int × yS)) (hk56 : ∀ (σ : yS) (x1 : Int) (x2 : Int) (x3 : Int) (x5 : Int) (x7 : Int) (res : Int × yS), k56 σ x1 x2 x3 x5 x7 = some res → G_X8_luck N X sh l rm (56, [(0, .inr (.inl 8, 0)), (1, .inl (.inl x1)), (2, .inl (.inl x2)), (3, .inl (.inr x3)), (5, .inl (.inr x5)), (7, .inl (.inl x7))], [], σ) (some (.inl (.inr res.1)), res.2)) : ∀ (n : Nat) (σ : yS) (x1 : Int) (x2 : Int) (x3 : Int) (x5 : Int) (x7 : Int) (x8 : Int) (x10 : Int) (x11 : Int) (x12 : Int) (res : Int × yS), f_X8_luck_b79 N k56 n σ x1 x2 x3 x5 x7 x8 x10 x11 x12 = some res → G_X8_luck N X sh l rm (79, [(0, .inr (.inl 8, 0)), (1, .inl (.inl x1)), (2, .inl (.inl x2)), (3, .inl (.inr x3)), (5, .inl (.inr x5)), (7, .inl (.inl x7)), (8, .inl (.inr x8)), (10, .inl (.inl x10)), (11, .inl (.inl x11)), (12, .inl (.inl x12))], [], σ) (some (.inl (.inr res.1)), res.2) := by
  intro n
  induction n with
  | zero => intro σ x1 x2 x3 x5 x7 x8 x10 x11 x12 res h; exact (yno h).elim
  | succ n ih =>
    intro σ x1 x2 x3 x5 x7 x8 x10 x11 x12 res h
    rw [q_X8_luck_b79] at h
    refine yG_n (n := 3) (C' := (85, [(0, .inr (.inl 8, 0)), (1, .inl (.inl x1)), (2, .inl (.inl x2)), (3, .inl (.inr x3)), (5, .inl (.inr x5)), (7, .inl (.inl x7)), (8, .inl (.inr x8)), (10, .inl (.inl x10)), (11, .inl (.inl x11)), (12, .inl (.inl x12))], [.inl (.inl (σ.1 0 3)), .inl (.inl x12)], σ)) rfl ?_
    cases hg14 : ycP .ge x12 (σ.1 0 3) with
    | true =>
      rw [hg14] at h
      dsimp only [cond] at h
      refine yG_t (C' := (243, [(0, .inr (.inl 8, 0)), (1, .inl (.inl x1)), (2, .inl (.inl x2)), (3, .inl (.inr x3)), (5, .inl (.inr x5)), (7, .inl (.inl x7)), (8, .inl (.inr x8)), (10, .inl (.inl x10)), (11, .inl (.inl x11)), (12, .inl (.inl x12))], [], σ)) rfl hg14 ?_
      refine yG_n (n := 2) (C' := (246, [(0, .inr (.inl 8, 0)), (1, .inl (.inl x1)), (2, .inl (.inl x2)), (3, .inl (.inr x3)), (5, .inl (.inr x5)), (7, .inl (.inl x7)), (8, .inl (.inr x8)), (10, .inl (.inl x10)), (11, .inl (.inl x11)), (12, .inl (.inl x12))], [.inl (.inl x11), .inl (.inr x3)], σ)) rfl ?_
      cases hg15 : ycP .eq x11 0 with
      | true =>
        rw [hg15] at h
        dsimp only [cond] at h
        refine yG_t (C' := (267, [(0, .inr (.inl 8, 0)), (1, .inl (.inl x1)), (2, .inl (.inl x2)), (3, .inl (.inr x3)), (5, .inl (.inr x5)), (7, .inl (.inl x7)), (8, .inl (.inr x8)), (10, .inl (.inl x10)), (11, .inl (.inl x11)), (12, .inl (.inl x12))], [.inl (.inr x3)], σ)) rfl hg15 ?_
        exact yG_w [0, 1, 2, 4, 5] rfl (t_X8_luck_b267 k56 hk56 σ x1 x2 x5 x7 x3 res h)
      | false =>
        rw [hg15] at h
        dsimp only [cond] at h
        refine yG_f (C' := (249, [(0, .inr (.inl 8, 0)), (1, .inl (.inl x1)), (2, .inl (.inl x2)), (3, .inl (.inr x3)), (5, .inl (.inr x5)), (7, .inl (.inl x7)), (8, .inl (.inr x8)), (10, .inl (.inl x10)), (11, .inl (.inl x11)), (12, .inl (.inl x12))], [.inl (.inr x3)], σ)) rfl hg15 ?_
        refine yG_n (n := 6) (C' := (258, [(0, .inr (.inl 8, 0)), (1, .inl (.inl x1)), (2, .inl (.inl x2)), (3, .inl (.inr x3)), (5, .inl (.inr x5)), (7, .inl (.inl x7)), (8, .inl (.inr x8)), (10, .inl (.inl x10)), (11, .inl (.inl x11)), (12, .inl (.inl x12))], [.inl (.inl (yad 0 x1)), .inr (.inr (0, 393), 1), .inl (.inl x10), .inl (.inr x3)], σ)) rfl ?_
        cases hg16 : yin (yad 0 x1) 393 with
        | false => rw [hg16] at h; dsimp only [cond] at h; cases h
        | true =>
          rw [hg16] at h
          dsimp only [cond] at h
          refine yG_t (C' := (259, [(0, .inr (.inl 8, 0)), (1, .inl (.inl x1)), (2, .inl (.inl x2)), (3, .inl (.inr x3)), (5, .inl (.inr x5)), (7, .inl (.inl x7)), (8, .inl (.inr x8)), (10, .inl (.inl x10)), (11, .inl (.inl x11)), (12, .inl (.inl x12))], [.inl (.inl (σ.1 1 (yad 0 x1).toNat)), .inl (.inl x10), .inl (.inr x3)], σ)) rfl hg16 ?_
          cases hg17 : ycP .gt x10 (σ.1 1 (yad 0 x1).toNat) with
          | true =>
            rw [hg17] at h
            dsimp only [cond] at h
            refine yG_t (C' := (267, [(0, .inr (.inl 8, 0)), (1, .inl (.inl x1)), (2, .inl (.inl x2)), (3, .inl (.inr x3)), (5, .inl (.inr x5)), (7, .inl (.inl x7)), (8, .inl (.inr x8)), (10, .inl (.inl x10)), (11, .inl (.inl x11)), (12, .inl (.inl x12))], [.inl (.inr x3)], σ)) rfl hg17 ?_
            exact yG_w [0, 1, 2, 4, 5] rfl (t_X8_luck_b267 k56 hk56 σ x1 x2 x5 x7 x3 res h)
          | false =>
            rw [hg17] at h
            dsimp only [cond] at h
            refine yG_f (C' := (262, [(0, .inr (.inl 8, 0)), (1, .inl (.inl x1)), (2, .inl (.inl x2)), (3, .inl (.inr x3)), (5, .inl (.inr x5)), (7, .inl (.inl x7)), (8, .inl (.inr x8)), (10, .inl (.inl x10)), (11, .inl (.inl x11)), (12, .inl (.inl x12))], [.inl (.inr x3)], σ)) rfl hg17 ?_
            refine yG_n (n := 2) (C' := (268, [(0, .inr (.inl 8, 0)), (1, .inl (.inl x1)), (2, .inl (.inl x2)), (3, .inl (.inr x3)), (5, .inl (.inr x5)), (7, .inl (.inl x7)), (8, .inl (.inr x8)), (10, .inl (.inl x10)), (11, .inl (.inl x11)), (12, .inl (.inl x12))], [.inl (.inr x8), .inl (.inr x3)], σ)) rfl ?_
            exact yG_w [0, 1, 2, 4, 5] rfl (t_X8_luck_b268 k56 hk56 σ x1 x2 x5 x7 x8 x3 res h)
    | false =>
      rw [hg14] at h
      dsimp only [cond] at h
      refine yG_f (C' := (88, [(0, .inr (.inl 8, 0)), (1, .inl (.inl x1)), (2, .inl (.inl x2)), (3, .inl (.inr x3)), (5, .inl (.inr x5)), (7, .inl (.inl x7)), (8, .inl (.inr x8)), (10, .inl (.inl x10)), (11, .inl (.inl x11)), (12, .inl (.inl x12))], [], σ)) rfl hg14 ?_
      refine yG_n (n := 6) (C' := (96, [(0, .inr (.inl 8, 0)), (1, .inl (.inl x1)), (2, .inl (.inl x2)), (3, .inl (.inr x3)), (5, .inl (.inr x5)), (7, .inl (.inl x7)), (8, .inl (.inr x8)), (10, .inl (.inl x10)), (11, .inl (.inl x11)), (12, .inl (.inl x12))], [.inl (.inl 1), .inl (.inl (yan (ysr x7 x12) 1))], σ)) rfl ?_
      cases hg18 : ycP .ne (yan (ysr x7 x12) 1) 1 with
      | true =>
        rw [hg18] at h
        dsimp only [cond] at h
        refine yG_t (C' := (103, [(0, .inr (.inl 8, 0)), (1, .inl (.inl x1)), (2, .inl (.inl x2)), (3, .inl (.inr x3)), (5, .inl (.inr x5)), (7, .inl (.inl x7)), (8, .inl (.inr x8)), (10, .inl (.inl x10)), (11, .inl (.inl x11)), (12, .inl (.inl x12))], [], σ)) rfl hg18 ?_
        refine yG_n (n := 1) (C' := (104, [(0, .inr (.inl 8, 0)), (1, .inl (.inl x1)), (2, .inl (.inl x2)), (3, .inl (.inr x3)), (5, .inl (.inr x5)), (7, .inl (.inl x7)), (8, .inl (.inr x8)), (10, .inl (.inl x10)), (11, .inl (.inl x11)), (12, .inl (.inl x12))], [.inl (.inl 0)], σ)) rfl ?_
        exact t_X8_luck_b104 k56 hk56 (f_X8_luck_b79 N k56 n) ih σ x1 x2 x3 x5 x7 x8 x10 x11 x12 0 res h
      | false =>
        rw [hg18] at h
        dsimp only [cond] at h
        refine yG_f (C' := (99, [(0, .inr (.inl 8, 0)), (1, .inl (.inl x1)), (2, .inl (.inl x2)), (3, .inl (.inr x3)), (5, .inl (.inr x5)), (7, .inl (.inl x7)), (8, .inl (.inr x8)), (10, .inl (.inl x10)), (11, .inl (.inl x11)), (12, .inl (.inl x12))], [], σ)) rfl hg18 ?_
        refine yG_n (n := 2) (C' := (104, [(0, .inr (.inl 8, 0)), (1, .inl (.inl x1)), (2, .inl (.inl x2)), (3, .inl (.inr x3)), (5, .inl (.inr x5)), (7, .inl (.inl x7)), (8, .inl (.inr x8)), (10, .inl (.inl x10)), (11, .inl (.inl x11)), (12, .inl (.inl x12))], [.inl (.inl 1)], σ)) rfl ?_
        exact t_X8_luck_b104 k56 hk56 (f_X8_luck_b79 N k56 n) ih σ x1 x2 x3 x5 x7 x8 x10 x11 x12 1 res h
set_option maxRecDepth 100000 in
set_option maxHeartbeats 4000000 in
theorem t_X8_luck_b56 {N : Nat} {X : zXT} {sh : List yH} {l : Launch} {rm : Room} : ∀ (n : Nat) (σ : yS) (x1 : Int) (x2 : Int) (x3 : Int) (x5 : Int) (x7 : Int) (res : Int × yS), f_X8_luck_b56 N n σ x1 x2 x3 x5 x7 = some res → G_X8_luck N X sh l rm (56, [(0, .inr (.inl 8, 0)), (1, .inl (.inl x1)), (2, .inl (.inl x2)), (3, .inl (.inr x3)), (5, .inl (.inr x5)), (7, .inl (.inl x7))], [], σ) (some (.inl (.inr res.1)), res.2) := by
  intro n
  induction n with
  | zero => intro σ x1 x2 x3 x5 x7 res h; exact (yno h).elim
  | succ n ih =>
    intro σ x1 x2 x3 x5 x7 res h
    rw [q_X8_luck_b56] at h
    refine yG_n (n := 5) (C' := (64, [(0, .inr (.inl 8, 0)), (1, .inl (.inl x1)), (2, .inl (.inl x2)), (3, .inl (.inr x3)), (5, .inl (.inr x5)), (7, .inl (.inl x7))], [.inl (.inl (ysl 1 (σ.1 0 3))), .inl (.inl x7)], σ)) rfl ?_
    cases hg19 : ycP .ge x7 (ysl 1 (σ.1 0 3)) with
    | true =>
      rw [hg19] at h
      dsimp only [cond] at h
      refine yG_t (C' := (276, [(0, .inr (.inl 8, 0)), (1, .inl (.inl x1)), (2, .inl (.inl x2)), (3, .inl (.inr x3)), (5, .inl (.inr x5)), (7, .inl (.inl x7))], [], σ)) rfl hg19 ?_
      refine yG_n (n := 3) (C' := (280, [(0, .inr (.inl 8, 0)), (1, .inl (.inl x1)), (2, .inl (.inl x2)), (3, .inl (.inr x3)), (5, .inl (.inr x5)), (7, .inl (.inl x7))], [.inl (.inl x2), .inl (.inr x5), .inl (.inr x3)], σ)) rfl ?_
      cases hr20 : f_X8_told N σ x3 x5 x2 with
      | none => rw [hr20] at h; dsimp only at h; cases h
      | some r3 =>
        rw [hr20] at h
        dsimp only at h
        refine yG_c (C1 := (283, [(0, .inr (.inl 8, 0)), (1, .inl (.inl x1)), (2, .inl (.inl x2)), (3, .inl (.inr x3)), (5, .inl (.inr x5)), (7, .inl (.inl x7))], [.inl (.inr r3.1)], r3.2)) rfl (e_X8_told hr20) rfl ?_
        have h := Option.some.inj h
        subst h
        dsimp only
        exact yG_r rfl rfl
    | false =>
      rw [hg19] at h
      dsimp only [cond] at h
      refine yG_f (C' := (67, [(0, .inr (.inl 8, 0)), (1, .inl (.inl x1)), (2, .inl (.inl x2)), (3, .inl (.inr x3)), (5, .inl (.inr x5)), (7, .inl (.inl x7))], [], σ)) rfl hg19 ?_
      refine yG_n (n := 8) (C' := (79, [(12, .inl (.inl 0)), (11, .inl (.inl 1)), (10, .inl (.inl 0)), (8, .inl (.inr 1)), (0, .inr (.inl 8, 0)), (1, .inl (.inl x1)), (2, .inl (.inl x2)), (3, .inl (.inr x3)), (5, .inl (.inr x5)), (7, .inl (.inl x7))], [], σ)) rfl ?_
      exact yG_w [4, 5, 6, 7, 8, 9, 3, 2, 1, 0] rfl (t_X8_luck_b79 (f_X8_luck_b56 N n) ih N σ x1 x2 x3 x5 x7 1 0 1 0 res h)
set_option maxRecDepth 100000 in
set_option maxHeartbeats 4000000 in
theorem t_X8_luck_b30 {N : Nat} {X : zXT} {sh : List yH} {l : Launch} {rm : Room} : ∀ (n : Nat) (σ : yS) (x1 : Int) (x2 : Int) (x3 : Int) (x5 : Int) (x7 : Int) (res : Int × yS), f_X8_luck_b30 N n σ x1 x2 x3 x5 x7 = some res → G_X8_luck N X sh l rm (30, [(0, .inr (.inl 8, 0)), (1, .inl (.inl x1)), (2, .inl (.inl x2)), (3, .inl (.inr x3)), (5, .inl (.inr x5)), (7, .inl (.inl x7))], [], σ) (some (.inl (.inr res.1)), res.2) := by
  intro n
  induction n with
  | zero => intro σ x1 x2 x3 x5 x7 res h; exact (yno h).elim
  | succ n ih =>
    intro σ x1 x2 x3 x5 x7 res h
    rw [q_X8_luck_b30] at h
    refine yG_n (n := 3) (C' := (36, [(0, .inr (.inl 8, 0)), (1, .inl (.inl x1)), (2, .inl (.inl x2)), (3, .inl (.inr x3)), (5, .inl (.inr x5)), (7, .inl (.inl x7))], [.inl (.inl (σ.1 0 3)), .inl (.inl x7)], σ)) rfl ?_
    cases hg21 : ycP .ge x7 (σ.1 0 3) with
    | true =>
      rw [hg21] at h
      dsimp only [cond] at h
      refine yG_t (C' := (53, [(0, .inr (.inl 8, 0)), (1, .inl (.inl x1)), (2, .inl (.inl x2)), (3, .inl (.inr x3)), (5, .inl (.inr x5)), (7, .inl (.inl x7))], [], σ)) rfl hg21 ?_
      refine yG_n (n := 2) (C' := (56, [(7, .inl (.inl 0)), (0, .inr (.inl 8, 0)), (1, .inl (.inl x1)), (2, .inl (.inl x2)), (3, .inl (.inr x3)), (5, .inl (.inr x5))], [], σ)) rfl ?_
      exact yG_w [1, 2, 3, 4, 5, 0] rfl (t_X8_luck_b56 N σ x1 x2 x3 x5 0 res h)
    | false =>
      rw [hg21] at h
      dsimp only [cond] at h
      refine yG_f (C' := (39, [(0, .inr (.inl 8, 0)), (1, .inl (.inl x1)), (2, .inl (.inl x2)), (3, .inl (.inr x3)), (5, .inl (.inr x5)), (7, .inl (.inl x7))], [], σ)) rfl hg21 ?_
      refine yG_n (n := 6) (C' := (30, [(7, .inl (.inl (yad x7 1))), (5, .inl (.inr (ymuL x5 10))), (0, .inr (.inl 8, 0)), (1, .inl (.inl x1)), (2, .inl (.inl x2)), (3, .inl (.inr x3))], [], σ)) rfl ?_
      exact yG_w [2, 3, 4, 5, 1, 0] rfl (ih σ x1 x2 x3 (ymuL x5 10) (yad x7 1) res h)
set_option maxRecDepth 100000 in
set_option maxHeartbeats 4000000 in
theorem t_X8_luck {N : Nat} {X : zXT} {sh : List yH} {l : Launch} {rm : Room} (σ : yS) (x1 : Int) (x2 : Int) (res : Int × yS) (h : f_X8_luck N σ x1 x2 = some res) : G_X8_luck N X sh l rm (0, [(0, .inr (.inl 8, 0)), (1, .inl (.inl x1)), (2, .inl (.inl x2))], [], σ) (some (.inl (.inr res.1)), res.2) := by
  unfold f_X8_luck at h
  refine yG_n (n := 2) (C' := (2, [(0, .inr (.inl 8, 0)), (1, .inl (.inl x1)), (2, .inl (.inl x2))], [.inl (.inl x1), .inr (.inl 8, 0)], σ)) rfl ?_
  cases hr22 : f_X8_isHouse N σ x1 with
  | none => rw [hr22] at h; dsimp only at h; cases h
  | some r1 =>
    rw [hr22] at h
    dsimp only at h
    refine yG_c (C1 := (5, [(0, .inr (.inl 8, 0)), (1, .inl (.inl x1)), (2, .inl (.inl x2))], [.inl (.inl r1.1)], r1.2)) rfl (e_X8_isHouse hr22) rfl ?_
    cases hg23 : ycP .eq r1.1 0 with
    | true =>
      rw [hg23] at h
      dsimp only [cond] at h
      refine yG_t (C' := (18, [(0, .inr (.inl 8, 0)), (1, .inl (.inl x1)), (2, .inl (.inl x2))], [], r1.2)) rfl hg23 ?_
      exact yG_w [] rfl (t_X8_luck_b18 r1.2 res h)
    | false =>
      rw [hg23] at h
      dsimp only [cond] at h
      refine yG_f (C' := (8, [(0, .inr (.inl 8, 0)), (1, .inl (.inl x1)), (2, .inl (.inl x2))], [], r1.2)) rfl hg23 ?_
      refine yG_n (n := 4) (C' := (12, [(0, .inr (.inl 8, 0)), (1, .inl (.inl x1)), (2, .inl (.inl x2))], [.inl (.inr 1), .inl (.inr 0), .inl (.inr x2)], r1.2)) rfl ?_
      cases hr24 : f_X8_in N r1.2 x2 0 1 with
      | none => rw [hr24] at h; dsimp only at h; cases h
      | some r2 =>
        rw [hr24] at h
        dsimp only at h
        refine yG_c (C1 := (15, [(0, .inr (.inl 8, 0)), (1, .inl (.inl x1)), (2, .inl (.inl x2))], [.inl (.inl r2.1)], r2.2)) rfl (e_X8_in hr24) rfl ?_
        cases hg25 : ycP .ne r2.1 0 with
        | true =>
          rw [hg25] at h
          dsimp only [cond] at h
          refine yG_t (C' := (22, [(0, .inr (.inl 8, 0)), (1, .inl (.inl x1)), (2, .inl (.inl x2))], [], r2.2)) rfl hg25 ?_
          refine yG_n (n := 6) (C' := (30, [(7, .inl (.inl 0)), (5, .inl (.inr 1)), (3, .inl (.inr 0)), (0, .inr (.inl 8, 0)), (1, .inl (.inl x1)), (2, .inl (.inl x2))], [], r2.2)) rfl ?_
          exact yG_w [3, 4, 5, 2, 1, 0] rfl (t_X8_luck_b30 N r2.2 x1 x2 0 1 0 res h)
        | false =>
          rw [hg25] at h
          dsimp only [cond] at h
          refine yG_f (C' := (18, [(0, .inr (.inl 8, 0)), (1, .inl (.inl x1)), (2, .inl (.inl x2))], [], r2.2)) rfl hg25 ?_
          exact yG_w [] rfl (t_X8_luck_b18 r2.2 res h)
set_option maxRecDepth 100000 in
set_option maxHeartbeats 4000000 in
theorem m_X8_luck {N : Nat} {X : zXT} (hX : zXok X) (hN : zXn X) (l : Launch) {sh : List yH} : yMet X vwCl yct sh l yX8_luck wsX8_luck { frames := 4, cells := 0, slots := 0, locals := 136 } (F_X8_luck N) :=
  ymeth (tb := tb_X8_luck N) (pr := pr_X8_luck) (rt := 3) (own := RX8) hX (by decide +kernel) rfl rfl ⟨Nat.le_of_ble_eq_true rfl, Nat.le_of_ble_eq_true rfl⟩
    (zfl_all (List.forall_mem_cons.mpr ⟨zfl_X8 (fun w h => List.mem_cons_of_mem _ (List.mem_append_right _ h)) (List.mem_of_getElem? (i := 4) rfl) (by decide) (by decide), List.forall_mem_cons.mpr ⟨zfl_X8 (fun w h => List.mem_cons_of_mem _ (List.mem_append_right _ h)) (List.mem_of_getElem? (i := 5) rfl) (by decide) (by decide), List.forall_mem_cons.mpr ⟨zfl_X8 (fun w h => List.mem_cons_of_mem _ (List.mem_append_right _ h)) (List.mem_of_getElem? (i := 2) rfl) (by decide) (by decide), fun _ h => absurd h List.not_mem_nil⟩⟩⟩))
    (zco_all (fun _ h => absurd h List.not_mem_nil)) (zlc_all (List.forall_mem_cons.mpr ⟨(List.mem_of_getElem? (i := 3) rfl), List.forall_mem_cons.mpr ⟨(List.mem_of_getElem? (i := 1) rfl), fun _ h => absurd h List.not_mem_nil⟩⟩))
    (List.forall_mem_cons.mpr ⟨ycal_V hX (m_X8_isHouse hX hN l) rfl (fun s args hts => cwV 1 hts gX8_luck_X8_isHouse rfl rfl rfl (by decide +kernel) ⟨Nat.le_of_ble_eq_true rfl, Nat.le_of_ble_eq_true rfl⟩), List.forall_mem_cons.mpr ⟨ycal_V hX (m_X8_timesOf hX hN l) rfl (fun s args hts => cwV 2 hts gX8_luck_X8_timesOf rfl rfl rfl (by decide +kernel) ⟨Nat.le_of_ble_eq_true rfl, Nat.le_of_ble_eq_true rfl⟩), fun _ h => absurd h List.not_mem_nil⟩⟩)
    (List.forall_mem_cons.mpr ⟨ycal_S hX (m_X8_in hX hN l) (fun s args hts => va_cwS 3 hts gX8_luck_X8_in rfl rfl rfl (by decide +kernel) ⟨Nat.le_of_ble_eq_true rfl, Nat.le_of_ble_eq_true rfl⟩), List.forall_mem_cons.mpr ⟨ycal_S hX (m_X8_told hX hN l) (fun s args hts => va_cwS 3 hts gX8_luck_X8_told rfl rfl rfl (by decide +kernel) ⟨Nat.le_of_ble_eq_true rfl, Nat.le_of_ble_eq_true rfl⟩), fun _ h => absurd h List.not_mem_nil⟩⟩)
    (zmm_all (fun _ h => absurd h List.not_mem_nil)) (fun _ h => absurd h List.not_mem_nil) (zpr_all hp_X8_luck) (fun as σ res h => by
      unfold F_X8_luck at h
      split at h
      · rename_i x1 x2
        cases hr : f_X8_luck N σ x1 x2 with
        | none => rw [hr] at h; cases h
        | some r =>
          rw [hr] at h
          cases h
          exact ⟨Nat.le_of_ble_eq_true rfl, t_X8_luck σ x1 x2 r hr⟩
      · cases h)
