section
noncomputable def pr_X8_common : List (Nat × Instr × Nat) := [(0, .lload_n 0, 1), (1, .lstore 4, 2), (3, .lload_n 2, 1), (4, .lstore 6, 2), (6, .lload 6, 2), (8, .lconst 0, 1), (9, .lcmp, 1), (10, .ifCond .eq 21, 3), (13, .lload 4, 2), (15, .lload 6, 2), (17, .lrem, 1), (18, .lstore 8, 2), (20, .lload 6, 2), (22, .lstore 4, 2), (24, .lload 8, 2), (26, .lstore 6, 2), (28, .goto (-22), 3), (31, .lload 4, 2), (33, .lreturn, 1)]
set_option maxRecDepth 100000 in
theorem hp_X8_common : pr_X8_common.all (fun x => decide (decode cX8_common x.1 = .ok x.2)) = true := by decide +kernel
noncomputable def f_X8_common_b6 (N : Nat) : Nat → yS → Int → Int → Option (Int × yS) := yfix (fun _ _ _ => none) (fun ih σ x4 x6 =>
    bif ycP .eq x6 0 then
      some (x4, σ)
    else
      bif ynz x6 then
        ih σ x6 (yrmL x4 x6)
      else none)
theorem q_X8_common_b6 (N : Nat) (n : Nat) (σ : yS) (x4 : Int) (x6 : Int) : f_X8_common_b6 N (n + 1) σ x4 x6 =
    (bif ycP .eq x6 0 then
      some (x4, σ)
    else
      bif ynz x6 then
        (f_X8_common_b6 N n) σ x6 (yrmL x4 x6)
      else none) := rfl
noncomputable def f_X8_common (N : Nat) (σ : yS) (x0 : Int) (x2 : Int) : Option (Int × yS) :=
  f_X8_common_b6 N N σ x0 x2
noncomputable def F_X8_common (N : Nat) : yF := fun as σ => match as with
  | [.inl (.inr x0), .inl (.inr x2)] => (f_X8_common N σ x0 x2).map (fun r => (some (.inl (.inr r.1)), r.2))
  | _ => none
theorem e_X8_common {N : Nat} {σ : yS} {x0 : Int} {x2 : Int} {r : Int × yS} (h : f_X8_common N σ x0 x2 = some r) : F_X8_common N [.inl (.inr x0), .inl (.inr x2)] σ = some (some (.inl (.inr r.1)), r.2) := by
  show (f_X8_common N σ x0 x2).map (fun r => ((some (.inl (.inr r.1)), r.2) : yR)) = _
  rw [h]
  rfl
noncomputable def tb_X8_common (N : Nat) : yTb := ([], [], [], [], [], [], [])
abbrev G_X8_common (N : Nat) (X : zXT) (sh : List yH) (l : Launch) (rm : Room) : yC → yR → Prop := yGoes X vwCl yct sh l rm cX8_common 10 wsX8_common RX8 (tb_X8_common N) pr_X8_common 3
set_option maxRecDepth 100000 in
set_option maxHeartbeats 4000000 in
theorem t_X8_common_b6 {N : Nat} {X : zXT} {sh : List yH} {l : Launch} {rm : Room} : ∀ (n : Nat) (σ : yS) (x4 : Int) (x6 : Int) (res : Int × yS), f_X8_common_b6 N n σ x4 x6 = some res → G_X8_common N X sh l rm (6, [(4, .inl (.inr x4)), (6, .inl (.inr x6))], [], σ) (some (.inl (.inr res.1)), res.2) := by
  intro n
  induction n with
  | zero => intro σ x4 x6 res h; exact (yno h).elim
  | succ n ih =>
    intro σ x4 x6 res h
    rw [q_X8_common_b6] at h
    refine yG_n (n := 2) (C' := (9, [(4, .inl (.inr x4)), (6, .inl (.inr x6))], [.inl (.inr 0), .inl (.inr x6)], σ)) rfl ?_
    cases hg1 : ycP .eq x6 0 with
    | true =>
      rw [hg1] at h
      dsimp only [cond] at h
      refine yG_t (C' := (31, [(4, .inl (.inr x4)), (6, .inl (.inr x6))], [], σ)) rfl hg1 ?_
      refine yG_n (n := 1) (C' := (33, [(4, .inl (.inr x4)), (6, .inl (.inr x6))], [.inl (.inr x4)], σ)) rfl ?_
      have h := Option.some.inj h
      subst h
      dsimp only
      exact yG_r rfl rfl
    | false =>
      rw [hg1] at h
      dsimp only [cond] at h
      refine yG_f (C' := (13, [(4, .inl (.inr x4)), (6, .inl (.inr x6))], [], σ)) rfl hg1 ?_
      refine yG_n (n := 2) (C' := (17, [(4, .inl (.inr x4)), (6, .inl (.inr x6))], [.inl (.inr x6), .inl (.inr x4)], σ)) rfl ?_
      cases hg2 : ynz x6 with
      | false => rw [hg2] at h; dsimp only [cond] at h; cases h
      | true =>
        rw [hg2] at h
        dsimp only [cond] at h
        refine yG_t (C' := (18, [(4, .inl (.inr x4)), (6, .inl (.inr x6))], [.inl (.inr (yrmL x4 x6))], σ)) rfl hg2 ?_
        refine yG_n (n := 6) (C' := (6, [(6, .inl (.inr (yrmL x4 x6))), (4, .inl (.inr x6)), (8, .inl (.inr (yrmL x4 x6)))], [], σ)) rfl ?_
        exact yG_w [1, 0] rfl (ih σ x6 (yrmL x4 x6) res h)
set_option maxRecDepth 100000 in
set_option maxHeartbeats 4000000 in
theorem t_X8_common {N : Nat} {X : zXT} {sh : List yH} {l : Launch} {rm : Room} (σ : yS) (x0 : Int) (x2 : Int) (res : Int × yS) (h : f_X8_common N σ x0 x2 = some res) : G_X8_common N X sh l rm (0, [(0, .inl (.inr x0)), (2, .inl (.inr x2))], [], σ) (some (.inl (.inr res.1)), res.2) := by
  unfold f_X8_common at h
  refine yG_n (n := 4) (C' := (6, [(6, .inl (.inr x2)), (4, .inl (.inr x0)), (0, .inl (.inr x0)), (2, .inl (.inr x2))], [], σ)) rfl ?_
  exact yG_w [1, 0] rfl (t_X8_common_b6 N σ x0 x2 res h)
set_option maxRecDepth 100000 in
set_option maxHeartbeats 4000000 in
theorem m_X8_common {N : Nat} {X : zXT} (hX : zXok X) (hN : zXn X) (l : Launch) {sh : List yH} : yMet X vwCl yct sh l yX8_common wsX8_common { frames := 1, cells := 0, slots := 0, locals := 64 } (F_X8_common N) :=
  ymeth (tb := tb_X8_common N) (pr := pr_X8_common) (rt := 3) (own := RX8) hX (by decide +kernel) rfl rfl ⟨Nat.le_of_ble_eq_true rfl, Nat.le_of_ble_eq_true rfl⟩
    (zfl_all (fun _ h => absurd h List.not_mem_nil))
    (zco_all (fun _ h => absurd h List.not_mem_nil)) (zlc_all (fun _ h => absurd h List.not_mem_nil))
    (fun _ h => absurd h List.not_mem_nil)
    (fun _ h => absurd h List.not_mem_nil)
    (zmm_all (fun _ h => absurd h List.not_mem_nil)) (fun _ h => absurd h List.not_mem_nil) (zpr_all hp_X8_common) (fun as σ res h => by
      unfold F_X8_common at h
      split at h
      · rename_i x0 x2
        cases hr : f_X8_common N σ x0 x2 with
        | none => rw [hr] at h; cases h
        | some r =>
          rw [hr] at h
          cases h
          exact ⟨Nat.le_of_ble_eq_true rfl, t_X8_common σ x0 x2 r hr⟩
      · cases h)
noncomputable def pr_X8_cost : List (Nat × Instr × Nat) := [(0, .aload_n 0, 1), (1, .iload_n 1, 1), (2, .invokevirtual 209, 3), (5, .ifCond .eq 12, 3), (8, .aload_n 0, 1), (9, .getfield 20, 3), (12, .iload_n 1, 1), (13, .iaload, 1), (14, .goto 4, 3), (17, .iconst (-1), 1), (18, .ireturn, 1)]
set_option maxRecDepth 100000 in
theorem hp_X8_cost : pr_X8_cost.all (fun x => decide (decode cX8_cost x.1 = .ok x.2)) = true := by decide +kernel
noncomputable def f_X8_cost_b18 (N : Nat) (σ : yS) (s0 : Int) : Option (Int × yS) :=
  some (s0, σ)
noncomputable def f_X8_cost (N : Nat) (σ : yS) (x1 : Int) : Option (Int × yS) :=
  match f_X8_isDeed N σ x1 with
  | none => none
  | some r1 => bif ycP .eq r1.1 0 then
      f_X8_cost_b18 N r1.2 ((-1))
    else
      bif yin x1 5 then
        f_X8_cost_b18 N r1.2 (r1.2.1 4 x1.toNat)
      else none
noncomputable def F_X8_cost (N : Nat) : yF := fun as σ => match as with
  | [.inr (.inl 8, 0), .inl (.inl x1)] => (f_X8_cost N σ x1).map (fun r => (some (.inl (.inl r.1)), r.2))
  | _ => none
theorem e_X8_cost {N : Nat} {σ : yS} {x1 : Int} {r : Int × yS} (h : f_X8_cost N σ x1 = some r) : F_X8_cost N [.inr (.inl 8, 0), .inl (.inl x1)] σ = some (some (.inl (.inl r.1)), r.2) := by
  show (f_X8_cost N σ x1).map (fun r => ((some (.inl (.inl r.1)), r.2) : yR)) = _
  rw [h]
  rfl
noncomputable def tb_X8_cost (N : Nat) : yTb := ([(20, 8, 6, 3)], [], [], [(209, 2, 8, F_X8_isDeed N)], [], [], [])
abbrev G_X8_cost (N : Nat) (X : zXT) (sh : List yH) (l : Launch) (rm : Room) : yC → yR → Prop := yGoes X vwCl yct sh l rm cX8_cost 2 wsX8_cost RX8 (tb_X8_cost N) pr_X8_cost 1
set_option maxRecDepth 100000 in
set_option maxHeartbeats 4000000 in
theorem t_X8_cost_b18 {N : Nat} {X : zXT} {sh : List yH} {l : Launch} {rm : Room} (σ : yS) (s0 : Int) (res : Int × yS) (h : f_X8_cost_b18 N σ s0 = some res) : G_X8_cost N X sh l rm (18, [], [.inl (.inl s0)], σ) (some (.inl (.inl res.1)), res.2) := by
  unfold f_X8_cost_b18 at h
  have h := Option.some.inj h
  subst h
  dsimp only
  exact yG_r rfl rfl
set_option maxRecDepth 100000 in
set_option maxHeartbeats 4000000 in
theorem t_X8_cost {N : Nat} {X : zXT} {sh : List yH} {l : Launch} {rm : Room} (σ : yS) (x1 : Int) (res : Int × yS) (h : f_X8_cost N σ x1 = some res) : G_X8_cost N X sh l rm (0, [(0, .inr (.inl 8, 0)), (1, .inl (.inl x1))], [], σ) (some (.inl (.inl res.1)), res.2) := by
  unfold f_X8_cost at h
  refine yG_n (n := 2) (C' := (2, [(0, .inr (.inl 8, 0)), (1, .inl (.inl x1))], [.inl (.inl x1), .inr (.inl 8, 0)], σ)) rfl ?_
  cases hr1 : f_X8_isDeed N σ x1 with
  | none => rw [hr1] at h; dsimp only at h; cases h
  | some r1 =>
    rw [hr1] at h
    dsimp only at h
    refine yG_c (C1 := (5, [(0, .inr (.inl 8, 0)), (1, .inl (.inl x1))], [.inl (.inl r1.1)], r1.2)) rfl (e_X8_isDeed hr1) rfl ?_
    cases hg2 : ycP .eq r1.1 0 with
    | true =>
      rw [hg2] at h
      dsimp only [cond] at h
      refine yG_t (C' := (17, [(0, .inr (.inl 8, 0)), (1, .inl (.inl x1))], [], r1.2)) rfl hg2 ?_
      refine yG_n (n := 1) (C' := (18, [(0, .inr (.inl 8, 0)), (1, .inl (.inl x1))], [.inl (.inl ((-1)))], r1.2)) rfl ?_
      exact yG_w [] rfl (t_X8_cost_b18 r1.2 ((-1)) res h)
    | false =>
      rw [hg2] at h
      dsimp only [cond] at h
      refine yG_f (C' := (8, [(0, .inr (.inl 8, 0)), (1, .inl (.inl x1))], [], r1.2)) rfl hg2 ?_
      refine yG_n (n := 3) (C' := (13, [(0, .inr (.inl 8, 0)), (1, .inl (.inl x1))], [.inl (.inl x1), .inr (.inr (0, 5), 4)], r1.2)) rfl ?_
      cases hg3 : yin x1 5 with
      | false => rw [hg3] at h; dsimp only [cond] at h; cases h
      | true =>
        rw [hg3] at h
        dsimp only [cond] at h
        refine yG_t (C' := (14, [(0, .inr (.inl 8, 0)), (1, .inl (.inl x1))], [.inl (.inl (r1.2.1 4 x1.toNat))], r1.2)) rfl hg3 ?_
        refine yG_n (n := 1) (C' := (18, [(0, .inr (.inl 8, 0)), (1, .inl (.inl x1))], [.inl (.inl (r1.2.1 4 x1.toNat))], r1.2)) rfl ?_
        exact yG_w [] rfl (t_X8_cost_b18 r1.2 (r1.2.1 4 x1.toNat) res h)
set_option maxRecDepth 100000 in
set_option maxHeartbeats 4000000 in
theorem m_X8_cost {N : Nat} {X : zXT} (hX : zXok X) (hN : zXn X) (l : Launch) {sh : List yH} : yMet X vwCl yct sh l yX8_cost wsX8_cost { frames := 3, cells := 0, slots := 0, locals := 110 } (F_X8_cost N) :=
  ymeth (tb := tb_X8_cost N) (pr := pr_X8_cost) (rt := 1) (own := RX8) hX (by decide +kernel) rfl rfl ⟨Nat.le_of_ble_eq_true rfl, Nat.le_of_ble_eq_true rfl⟩
    (zfl_all (List.forall_mem_cons.mpr ⟨zfl_X8 (fun w h => List.mem_cons_of_mem _ (List.mem_append_right _ h)) (List.mem_of_getElem? (i := 1) rfl) (by decide) (by decide), fun _ h => absurd h List.not_mem_nil⟩))
    (zco_all (fun _ h => absurd h List.not_mem_nil)) (zlc_all (fun _ h => absurd h List.not_mem_nil))
    (List.forall_mem_cons.mpr ⟨ycal_V hX (m_X8_isDeed hX hN l) rfl (fun s args hts => cwV 1 hts gX8_cost_X8_isDeed rfl rfl rfl (by decide +kernel) ⟨Nat.le_of_ble_eq_true rfl, Nat.le_of_ble_eq_true rfl⟩), fun _ h => absurd h List.not_mem_nil⟩)
    (fun _ h => absurd h List.not_mem_nil)
    (zmm_all (fun _ h => absurd h List.not_mem_nil)) (fun _ h => absurd h List.not_mem_nil) (zpr_all hp_X8_cost) (fun as σ res h => by
      unfold F_X8_cost at h
      split at h
      · rename_i x1
        cases hr : f_X8_cost N σ x1 with
        | none => rw [hr] at h; cases h
        | some r =>
          rw [hr] at h
          cases h
          exact ⟨Nat.le_of_ble_eq_true rfl, t_X8_cost σ x1 r hr⟩
      · cases h)
noncomputable def pr_X8_lawyersNow : List (Nat × Instr × Nat) := [(0, .iconst 0, 1), (1, .istore_n 1, 1), (2, .iconst 0, 1), (3, .istore_n 2, 1), (4, .iload_n 2, 1), (5, .aload_n 0, 1), (6, .getfield 79, 3), (9, .if_icmp .ge 23, 3), (12, .iload_n 1, 1), (13, .aload_n 0, 1), (14, .getfield 7, 3), (17, .bipush 14, 2), (19, .iload_n 2, 1), (20, .iadd, 1), (21, .iaload, 1), (22, .iload_n 2, 1), (23, .ishl, 1), (24, .ior, 1), (25, .istore_n 1, 1), (26, .iinc 2 1, 3), (29, .goto (-25), 3), (32, .iload_n 1, 1), (33, .ireturn, 1)]
set_option maxRecDepth 100000 in
theorem hp_X8_lawyersNow : pr_X8_lawyersNow.all (fun x => decide (decode cX8_lawyersNow x.1 = .ok x.2)) = true := by decide +kernel
noncomputable def f_X8_lawyersNow_b4 (N : Nat) : Nat → yS → Int → Int → Option (Int × yS) := yfix (fun _ _ _ => none) (fun ih σ x1 x2 =>
    bif ycP .ge x2 (σ.1 0 3) then
      some (x1, σ)
    else
      bif yin (yad 14 x2) 393 then
        ih σ (yor x1 (ysl (σ.1 1 (yad 14 x2).toNat) x2)) (yad x2 1)
      else none)
theorem q_X8_lawyersNow_b4 (N : Nat) (n : Nat) (σ : yS) (x1 : Int) (x2 : Int) : f_X8_lawyersNow_b4 N (n + 1) σ x1 x2 =
    (bif ycP .ge x2 (σ.1 0 3) then
      some (x1, σ)
    else
      bif yin (yad 14 x2) 393 then
        (f_X8_lawyersNow_b4 N n) σ (yor x1 (ysl (σ.1 1 (yad 14 x2).toNat) x2)) (yad x2 1)
      else none) := rfl
noncomputable def f_X8_lawyersNow (N : Nat) (σ : yS) : Option (Int × yS) :=
  f_X8_lawyersNow_b4 N N σ 0 0
noncomputable def F_X8_lawyersNow (N : Nat) : yF := fun as σ => match as with
  | [.inr (.inl 8, 0)] => (f_X8_lawyersNow N σ).map (fun r => (some (.inl (.inl r.1)), r.2))
  | _ => none
theorem e_X8_lawyersNow {N : Nat} {σ : yS} {r : Int × yS} (h : f_X8_lawyersNow N σ = some r) : F_X8_lawyersNow N [.inr (.inl 8, 0)] σ = some (some (.inl (.inl r.1)), r.2) := by
  show (f_X8_lawyersNow N σ).map (fun r => ((some (.inl (.inl r.1)), r.2) : yR)) = _
  rw [h]
  rfl
noncomputable def tb_X8_lawyersNow (N : Nat) : yTb := ([(7, 8, 0, 3), (79, 8, 3, 0)], [], [], [], [], [], [])
abbrev G_X8_lawyersNow (N : Nat) (X : zXT) (sh : List yH) (l : Launch) (rm : Room) : yC → yR → Prop := yGoes X vwCl yct sh l rm cX8_lawyersNow 3 wsX8_lawyersNow RX8 (tb_X8_lawyersNow N) pr_X8_lawyersNow 1
set_option maxRecDepth 100000 in
set_option maxHeartbeats 4000000 in
theorem t_X8_lawyersNow_b4 {N : Nat} {X : zXT} {sh : List yH} {l : Launch} {rm : Room} : ∀ (n : Nat) (σ : yS) (x1 : Int) (x2 : Int) (res : Int × yS), f_X8_lawyersNow_b4 N n σ x1 x2 = some res → G_X8_lawyersNow N X sh l rm (4, [(0, .inr (.inl 8, 0)), (1, .inl (.inl x1)), (2, .inl (.inl x2))], [], σ) (some (.inl (.inl res.1)), res.2) := by
  intro n
  induction n with
  | zero => intro σ x1 x2 res h; exact (yno h).elim
  | succ n ih =>
    intro σ x1 x2 res h
    rw [q_X8_lawyersNow_b4] at h
    refine yG_n (n := 3) (C' := (9, [(0, .inr (.inl 8, 0)), (1, .inl (.inl x1)), (2, .inl (.inl x2))], [.inl (.inl (σ.1 0 3)), .inl (.inl x2)], σ)) rfl ?_
    cases hg1 : ycP .ge x2 (σ.1 0 3) with
    | true =>
      rw [hg1] at h
      dsimp only [cond] at h
      refine yG_t (C' := (32, [(0, .inr (.inl 8, 0)), (1, .inl (.inl x1)), (2, .inl (.inl x2))], [], σ)) rfl hg1 ?_
      refine yG_n (n := 1) (C' := (33, [(0, .inr (.inl 8, 0)), (1, .inl (.inl x1)), (2, .inl (.inl x2))], [.inl (.inl x1)], σ)) rfl ?_
      have h := Option.some.inj h
      subst h
      dsimp only
      exact yG_r rfl rfl
    | false =>
      rw [hg1] at h
      dsimp only [cond] at h
      refine yG_f (C' := (12, [(0, .inr (.inl 8, 0)), (1, .inl (.inl x1)), (2, .inl (.inl x2))], [], σ)) rfl hg1 ?_
      refine yG_n (n := 6) (C' := (21, [(0, .inr (.inl 8, 0)), (1, .inl (.inl x1)), (2, .inl (.inl x2))], [.inl (.inl (yad 14 x2)), .inr (.inr (0, 393), 1), .inl (.inl x1)], σ)) rfl ?_
      cases hg2 : yin (yad 14 x2) 393 with
      | false => rw [hg2] at h; dsimp only [cond] at h; cases h
      | true =>
        rw [hg2] at h
        dsimp only [cond] at h
        refine yG_t (C' := (22, [(0, .inr (.inl 8, 0)), (1, .inl (.inl x1)), (2, .inl (.inl x2))], [.inl (.inl (σ.1 1 (yad 14 x2).toNat)), .inl (.inl x1)], σ)) rfl hg2 ?_
        refine yG_n (n := 6) (C' := (4, [(2, .inl (.inl (yad x2 1))), (1, .inl (.inl (yor x1 (ysl (σ.1 1 (yad 14 x2).toNat) x2)))), (0, .inr (.inl 8, 0))], [], σ)) rfl ?_
        exact yG_w [2, 1, 0] rfl (ih σ (yor x1 (ysl (σ.1 1 (yad 14 x2).toNat) x2)) (yad x2 1) res h)
set_option maxRecDepth 100000 in
set_option maxHeartbeats 4000000 in
theorem t_X8_lawyersNow {N : Nat} {X : zXT} {sh : List yH} {l : Launch} {rm : Room} (σ : yS) (res : Int × yS) (h : f_X8_lawyersNow N σ = some res) : G_X8_lawyersNow N X sh l rm (0, [(0, .inr (.inl 8, 0))], [], σ) (some (.inl (.inl res.1)), res.2) := by
  unfold f_X8_lawyersNow at h
  refine yG_n (n := 4) (C' := (4, [(2, .inl (.inl 0)), (1, .inl (.inl 0)), (0, .inr (.inl 8, 0))], [], σ)) rfl ?_
  exact yG_w [2, 1, 0] rfl (t_X8_lawyersNow_b4 N σ 0 0 res h)
set_option maxRecDepth 100000 in
set_option maxHeartbeats 4000000 in
theorem m_X8_lawyersNow {N : Nat} {X : zXT} (hX : zXok X) (hN : zXn X) (l : Launch) {sh : List yH} : yMet X vwCl yct sh l yX8_lawyersNow wsX8_lawyersNow { frames := 1, cells := 0, slots := 0, locals := 64 } (F_X8_lawyersNow N) :=
  ymeth (tb := tb_X8_lawyersNow N) (pr := pr_X8_lawyersNow) (rt := 1) (own := RX8) hX (by decide +kernel) rfl rfl ⟨Nat.le_of_ble_eq_true rfl, Nat.le_of_ble_eq_true rfl⟩
    (zfl_all (List.forall_mem_cons.mpr ⟨zfl_X8 (fun w h => List.mem_cons_of_mem _ (List.mem_append_right _ h)) (List.mem_of_getElem? (i := 2) rfl) (by decide) (by decide), List.forall_mem_cons.mpr ⟨zfl_X8 (fun w h => List.mem_cons_of_mem _ (List.mem_append_right _ h)) (List.mem_of_getElem? (i := 1) rfl) (by decide) (by decide), fun _ h => absurd h List.not_mem_nil⟩⟩))
    (zco_all (fun _ h => absurd h List.not_mem_nil)) (zlc_all (fun _ h => absurd h List.not_mem_nil))
    (fun _ h => absurd h List.not_mem_nil)
    (fun _ h => absurd h List.not_mem_nil)
    (zmm_all (fun _ h => absurd h List.not_mem_nil)) (fun _ h => absurd h List.not_mem_nil) (zpr_all hp_X8_lawyersNow) (fun as σ res h => by
      unfold F_X8_lawyersNow at h
      split at h
      · cases hr : f_X8_lawyersNow N σ with
        | none => rw [hr] at h; cases h
        | some r =>
          rw [hr] at h
          cases h
          exact ⟨Nat.le_of_ble_eq_true rfl, t_X8_lawyersNow σ r hr⟩
      · cases h)
noncomputable def pr_X8_count : List (Nat × Instr × Nat) := [(0, .iconst 0, 1), (1, .istore_n 2, 1), (2, .iconst 0, 1), (3, .istore_n 3, 1), (4, .iconst 0, 1), (5, .istore 4, 2), (7, .iconst 0, 1), (8, .istore 5, 2), (10, .iload 5, 2), (12, .bipush 35, 2), (14, .if_icmp .ge 22, 3), (17, .iload_n 2, 1), (18, .aload_n 0, 1), (19, .getfield 7, 3), (22, .bipush 42, 2), (24, .iload 5, 2), (26, .iadd, 1), (27, .iaload, 1), (28, .iadd, 1), (29, .istore_n 2, 1), (30, .iinc 5 1, 3), (33, .goto (-23), 3), (36, .iconst 0, 1), (37, .istore 5, 2), (39, .iload 5, 2), (41, .aload_n 0, 1), (42, .getfield 79, 3), (45, .if_icmp .ge 21, 3), (48, .iload_n 3, 1), (49, .aload_n 0, 1), (50, .getfield 7, 3), (53, .iconst 0, 1), (54, .iload 5, 2), (56, .iadd, 1), (57, .iaload, 1), (58, .iadd, 1), (59, .istore_n 3, 1), (60, .iinc 5 1, 3), (63, .goto (-24), 3), (66, .iconst 0, 1), (67, .istore 5, 2), (69, .iload 5, 2), (71, .aload_n 0, 1), (72, .getfield 7, 3), (75, .bipush 77, 2), (77, .iaload, 1), (78, .if_icmp .ge 41, 3), (81, .iload 4, 2), (83, .aload_n 0, 1), (84, .getfield 7, 3), (87, .bipush 78, 2), (89, .iconst 4, 1), (90, .iload 5, 2), (92, .imul, 1), (93, .iadd, 1), (94, .iconst 2, 1), (95, .iadd, 1), (96, .iaload, 1), (97, .bipush 9, 2), (99, .if_icmp .ne 7, 3), (102, .iconst 1, 1), (103, .goto 4, 3), (106, .iconst 0, 1), (107, .invokestatic 197, 3), (110, .iadd, 1), (111, .istore 4, 2), (113, .iinc 5 1, 3), (116, .goto (-47), 3), (119, .iload_n 1, 1), (120, .tableswitch 107 0 6 #[44, 46, 48, 56, 76, 81, 104], 44), (164, .iload_n 2, 1), (165, .ireturn, 1), (166, .iload_n 3, 1), (167, .ireturn, 1), (168, .aload_n 0, 1), (169, .invokevirtual 272, 3), (172, .invokestatic 233, 3), (175, .ireturn, 1), (176, .aload_n 0, 1), (177, .getfield 16, 3), (180, .iconst 0, 1), (181, .baload, 1), (182, .invokestatic 197, 3), (185, .aload_n 0, 1), (186, .getfield 16, 3), (189, .iconst 1, 1), (190, .baload, 1), (191, .invokestatic 197, 3), (194, .iadd, 1), (195, .ireturn, 1), (196, .aload_n 0, 1), (197, .getfield 94, 3), (200, .ireturn, 1), (201, .aload_n 0, 1), (202, .getfield 44, 3), (205, .iconst 0, 1), (206, .iaload, 1), (207, .bipush (-4), 2), (209, .if_icmp .ne 8, 3), (212, .bipush (-4), 2), (214, .goto 9, 3), (217, .aload_n 0, 1), (218, .getfield 47, 3), (221, .iconst 0, 1), (222, .iaload, 1), (223, .ireturn, 1), (224, .iload 4, 2), (226, .ireturn, 1), (227, .iconst (-1), 1), (228, .ireturn, 1)]
set_option maxRecDepth 100000 in
theorem hp_X8_count : pr_X8_count.all (fun x => decide (decode cX8_count x.1 = .ok x.2)) = true := by decide +kernel
noncomputable def f_X8_count_b223 (N : Nat) (σ : yS) (s0 : Int) : Option (Int × yS) :=
  some (s0, σ)
noncomputable def f_X8_count_b107 (N : Nat) (k69 : yS → Int → Int → Int → Int → Int → Option (Int × yS)) (σ : yS) (x1 : Int) (x2 : Int) (x3 : Int) (x5 : Int) (s0 : Int) (s1 : Int) : Option (Int × yS) :=
  match f_X8_flag N σ s0 with
  | none => none
  | some r5 => k69 r5.2 x1 x2 x3 (yad s1 r5.1) (yad x5 1)
noncomputable def f_X8_count_b69 (N : Nat) : Nat → yS → Int → Int → Int → Int → Int → Option (Int × yS) := yfix (fun _ _ _ _ _ _ => none) (fun ih σ x1 x2 x3 x4 x5 =>
    bif ycP .ge x5 (σ.1 1 77) then
      bif zle x1 0 && zle 0 x1 then
        some (x2, σ)
      else
        bif zle x1 1 && zle 1 x1 then
        some (x3, σ)
      else
        bif zle x1 2 && zle 2 x1 then
        match f_X8_lawyersNow N σ with
        | none => none
        | some r1 => match f_X8_bitsOf N r1.2 r1.1 with
          | none => none
          | some r2 => some (r2.1, r2.2)
      else
        bif zle x1 3 && zle 3 x1 then
        match f_X8_flag N σ (σ.1 3 0) with
        | none => none
        | some r3 => match f_X8_flag N r3.2 (r3.2.1 3 1) with
          | none => none
          | some r4 => some (yad r3.1 r4.1, r4.2)
      else
        bif zle x1 4 && zle 4 x1 then
        some (σ.1 0 17, σ)
      else
        bif zle x1 5 && zle 5 x1 then
        bif ycP .ne (σ.1 12 0) ((-4)) then
          f_X8_count_b223 N σ (σ.1 13 0)
        else
          f_X8_count_b223 N σ ((-4))
      else
        bif zle x1 6 && zle 6 x1 then
        some (x4, σ)
      else
        some ((-1), σ)
    else
      bif yin (yad (yad 78 (ymu 4 x5)) 2) 393 then
        bif ycP .ne (σ.1 1 (yad (yad 78 (ymu 4 x5)) 2).toNat) 9 then
          f_X8_count_b107 N ih σ x1 x2 x3 x5 0 x4
        else
          f_X8_count_b107 N ih σ x1 x2 x3 x5 1 x4
      else none)
theorem q_X8_count_b69 (N : Nat) (n : Nat) (σ : yS) (x1 : Int) (x2 : Int) (x3 : Int) (x4 : Int) (x5 : Int) : f_X8_count_b69 N (n + 1) σ x1 x2 x3 x4 x5 =
    (bif ycP .ge x5 (σ.1 1 77) then
      bif zle x1 0 && zle 0 x1 then
        some (x2, σ)
      else
        bif zle x1 1 && zle 1 x1 then
        some (x3, σ)
      else
        bif zle x1 2 && zle 2 x1 then
        match f_X8_lawyersNow N σ with
        | none => none
        | some r1 => match f_X8_bitsOf N r1.2 r1.1 with
          | none => none
          | some r2 => some (r2.1, r2.2)
      else
        bif zle x1 3 && zle 3 x1 then
        match f_X8_flag N σ (σ.1 3 0) with
        | none => none
        | some r3 => match f_X8_flag N r3.2 (r3.2.1 3 1) with
          | none => none
          | some r4 => some (yad r3.1 r4.1, r4.2)
      else
        bif zle x1 4 && zle 4 x1 then
        some (σ.1 0 17, σ)
      else
        bif zle x1 5 && zle 5 x1 then
        bif ycP .ne (σ.1 12 0) ((-4)) then
          f_X8_count_b223 N σ (σ.1 13 0)
        else
          f_X8_count_b223 N σ ((-4))
      else
        bif zle x1 6 && zle 6 x1 then
        some (x4, σ)
      else
        some ((-1), σ)
    else
      bif yin (yad (yad 78 (ymu 4 x5)) 2) 393 then
        bif ycP .ne (σ.1 1 (yad (yad 78 (ymu 4 x5)) 2).toNat) 9 then
          f_X8_count_b107 N (f_X8_count_b69 N n) σ x1 x2 x3 x5 0 x4
        else
          f_X8_count_b107 N (f_X8_count_b69 N n) σ x1 x2 x3 x5 1 x4
      else none) := rfl
noncomputable def f_X8_count_b39 (N : Nat) : Nat → yS → Int → Int → Int → Int → Int → Option (Int × yS) := yfix (fun _ _ _ _ _ _ => none) (fun ih σ x1 x2 x3 x4 x5 =>
    bif ycP .ge x5 (σ.1 0 3) then
      f_X8_count_b69 N N σ x1 x2 x3 x4 0
    else
      bif yin (yad 0 x5) 393 then
        ih σ x1 x2 (yad x3 (σ.1 1 (yad 0 x5).toNat)) x4 (yad x5 1)
      else none)
theorem q_X8_count_b39 (N : Nat) (n : Nat) (σ : yS) (x1 : Int) (x2 : Int) (x3 : Int) (x4 : Int) (x5 : Int) : f_X8_count_b39 N (n + 1) σ x1 x2 x3 x4 x5 =
    (bif ycP .ge x5 (σ.1 0 3) then
      f_X8_count_b69 N N σ x1 x2 x3 x4 0
    else
      bif yin (yad 0 x5) 393 then
        (f_X8_count_b39 N n) σ x1 x2 (yad x3 (σ.1 1 (yad 0 x5).toNat)) x4 (yad x5 1)
      else none) := rfl
noncomputable def f_X8_count_b10 (N : Nat) : Nat → yS → Int → Int → Int → Int → Int → Option (Int × yS) := yfix (fun _ _ _ _ _ _ => none) (fun ih σ x1 x2 x3 x4 x5 =>
    bif ycP .ge x5 35 then
      f_X8_count_b39 N N σ x1 x2 x3 x4 0
    else
      bif yin (yad 42 x5) 393 then
        ih σ x1 (yad x2 (σ.1 1 (yad 42 x5).toNat)) x3 x4 (yad x5 1)
      else none)
theorem q_X8_count_b10 (N : Nat) (n : Nat) (σ : yS) (x1 : Int) (x2 : Int) (x3 : Int) (x4 : Int) (x5 : Int) : f_X8_count_b10 N (n + 1) σ x1 x2 x3 x4 x5 =
    (bif ycP .ge x5 35 then
      f_X8_count_b39 N N σ x1 x2 x3 x4 0
    else
      bif yin (yad 42 x5) 393 then
        (f_X8_count_b10 N n) σ x1 (yad x2 (σ.1 1 (yad 42 x5).toNat)) x3 x4 (yad x5 1)
      else none) := rfl
noncomputable def f_X8_count (N : Nat) (σ : yS) (x1 : Int) : Option (Int × yS) :=
  f_X8_count_b10 N N σ x1 0 0 0 0
noncomputable def F_X8_count (N : Nat) : yF := fun as σ => match as with
  | [.inr (.inl 8, 0), .inl (.inl x1)] => (f_X8_count N σ x1).map (fun r => (some (.inl (.inl r.1)), r.2))
  | _ => none
theorem e_X8_count {N : Nat} {σ : yS} {x1 : Int} {r : Int × yS} (h : f_X8_count N σ x1 = some r) : F_X8_count N [.inr (.inl 8, 0), .inl (.inl x1)] σ = some (some (.inl (.inl r.1)), r.2) := by
  show (f_X8_count N σ x1).map (fun r => ((some (.inl (.inl r.1)), r.2) : yR)) = _
  rw [h]
  rfl
noncomputable def tb_X8_count (N : Nat) : yTb := ([(7, 8, 0, 3), (16, 8, 2, 3), (44, 8, 29, 3), (47, 8, 30, 3), (79, 8, 3, 0), (94, 8, 17, 0)], [], [], [(272, 1, 8, F_X8_lawyersNow N)], [(197, 1, F_X8_flag N), (233, 1, F_X8_bitsOf N)], [], [])
abbrev G_X8_count (N : Nat) (X : zXT) (sh : List yH) (l : Launch) (rm : Room) : yC → yR → Prop := yGoes X vwCl yct sh l rm cX8_count 6 wsX8_count RX8 (tb_X8_count N) pr_X8_count 1
set_option maxRecDepth 100000 in
set_option maxHeartbeats 4000000 in
theorem t_X8_count_b223 {N : Nat} {X : zXT} {sh : List yH} {l : Launch} {rm : Room} (σ : yS) (s0 : Int) (res : Int × yS) (h : f_X8_count_b223 N σ s0 = some res) : G_X8_count N X sh l rm (223, [], [.inl (.inl s0)], σ) (some (.inl (.inl res.1)), res.2) := by
  unfold f_X8_count_b223 at h
  have h := Option.some.inj h
  subst h
  dsimp only
  exact yG_r rfl rfl
set_option maxRecDepth 100000 in
set_option maxHeartbeats 4000000 in
theorem t_X8_count_b107 {N : Nat} {X : zXT} {sh : List yH} {l : Launch} {rm : Room} (k69 : yS → Int → Int → Int → Int → Int → Option (Int × yS)) (hk69 : ∀ (σ : yS) (x1 : Int) (x2 : Int) (x3 : Int) (x4 : Int) (x5 : Int) (res : Int × yS), k69 σ x1 x2 x3 x4 x5 = some res → G_X8_count N X sh l rm (69, [(0, .inr (.inl 8, 0)), (1, .inl (.inl x1)), (2, .inl (.inl x2)), (3, .inl (.inl x3)), (4, .inl (.inl x4)), (5, .inl (.inl x5))], [], σ) (some (.inl (.inl res.1)), res.2)) (σ : yS) (x1 : Int) (x2 : Int) (x3 : Int) (x5 : Int) (s0 : Int) (s1 : Int) (res : Int × yS) (h : f_X8_count_b107 N k69 σ x1 x2 x3 x5 s0 s1 = some res) : G_X8_count N X sh l rm (107, [(0, .inr (.inl 8, 0)), (1, .inl (.inl x1)), (2, .inl (.inl x2)), (3, .inl (.inl x3)), (5, .inl (.inl x5))], [.inl (.inl s0), .inl (.inl s1)], σ) (some (.inl (.inl res.1)), res.2) := by
  unfold f_X8_count_b107 at h
  cases hr1 : f_X8_flag N σ s0 with
  | none => rw [hr1] at h; dsimp only at h; cases h
  | some r5 =>
    rw [hr1] at h
    dsimp only at h
    refine yG_c (C1 := (110, [(0, .inr (.inl 8, 0)), (1, .inl (.inl x1)), (2, .inl (.inl x2)), (3, .inl (.inl x3)), (5, .inl (.inl x5))], [.inl (.inl r5.1), .inl (.inl s1)], r5.2)) rfl (e_X8_flag hr1) rfl ?_
    refine yG_n (n := 4) (C' := (69, [(5, .inl (.inl (yad x5 1))), (4, .inl (.inl (yad s1 r5.1))), (0, .inr (.inl 8, 0)), (1, .inl (.inl x1)), (2, .inl (.inl x2)), (3, .inl (.inl x3))], [], r5.2)) rfl ?_
    exact yG_w [2, 3, 4, 5, 1, 0] rfl (hk69 r5.2 x1 x2 x3 (yad s1 r5.1) (yad x5 1) res h)
set_option maxRecDepth 100000 in
set_option maxHeartbeats 4000000 in
theorem t_X8_count_b69 {N : Nat} {X : zXT} {sh : List yH} {l : Launch} {rm : Room} : ∀ (n : Nat) (σ : yS) (x1 : Int) (x2 : Int) (x3 : Int) (x4 : Int) (x5 : Int) (res : Int × yS), f_X8_count_b69 N n σ x1 x2 x3 x4 x5 = some res → G_X8_count N X sh l rm (69, [(0, .inr (.inl 8, 0)), (1, .inl (.inl x1)), (2, .inl (.inl x2)), (3, .inl (.inl x3)), (4, .inl (.inl x4)), (5, .inl (.inl x5))], [], σ) (some (.inl (.inl res.1)), res.2) := by
  intro n
  induction n with
  | zero => intro σ x1 x2 x3 x4 x5 res h; exact (yno h).elim
  | succ n ih =>
    intro σ x1 x2 x3 x4 x5 res h
    rw [q_X8_count_b69] at h
    refine yG_n (n := 5) (C' := (78, [(0, .inr (.inl 8, 0)), (1, .inl (.inl x1)), (2, .inl (.inl x2)), (3, .inl (.inl x3)), (4, .inl (.inl x4)), (5, .inl (.inl x5))], [.inl (.inl (σ.1 1 77)), .inl (.inl x5)], σ)) rfl ?_
    cases hg2 : ycP .ge x5 (σ.1 1 77) with
    | true =>
      rw [hg2] at h
      dsimp only [cond] at h
      refine yG_t (C' := (119, [(0, .inr (.inl 8, 0)), (1, .inl (.inl x1)), (2, .inl (.inl x2)), (3, .inl (.inl x3)), (4, .inl (.inl x4)), (5, .inl (.inl x5))], [], σ)) rfl hg2 ?_
      refine yG_n (n := 1) (C' := (120, [(0, .inr (.inl 8, 0)), (1, .inl (.inl x1)), (2, .inl (.inl x2)), (3, .inl (.inl x3)), (4, .inl (.inl x4)), (5, .inl (.inl x5))], [.inl (.inl x1)], σ)) rfl ?_
      refine yG_n (n := 1) (C' := ((bif zle x1 0 && zle 0 x1 then 164 else (bif zle x1 1 && zle 1 x1 then 166 else (bif zle x1 2 && zle 2 x1 then 168 else (bif zle x1 3 && zle 3 x1 then 176 else (bif zle x1 4 && zle 4 x1 then 196 else (bif zle x1 5 && zle 5 x1 then 201 else (bif zle x1 6 && zle 6 x1 then 224 else 227))))))), [(0, .inr (.inl 8, 0)), (1, .inl (.inl x1)), (2, .inl (.inl x2)), (3, .inl (.inl x3)), (4, .inl (.inl x4)), (5, .inl (.inl x5))], [], σ)) rfl ?_
      cases hg3 : (zle x1 0 && zle 0 x1) with
      | true =>
        rw [hg3] at h
        dsimp only [cond] at h
        show G_X8_count N X sh l rm (164, [(0, .inr (.inl 8, 0)), (1, .inl (.inl x1)), (2, .inl (.inl x2)), (3, .inl (.inl x3)), (4, .inl (.inl x4)), (5, .inl (.inl x5))], [], σ) ((some (.inl (.inl res.1)), res.2))
        refine yG_n (n := 1) (C' := (165, [(0, .inr (.inl 8, 0)), (1, .inl (.inl x1)), (2, .inl (.inl x2)), (3, .inl (.inl x3)), (4, .inl (.inl x4)), (5, .inl (.inl x5))], [.inl (.inl x2)], σ)) rfl ?_
        have h := Option.some.inj h
        subst h
        dsimp only
        exact yG_r rfl rfl
      | false =>
        rw [hg3] at h
        dsimp only [cond] at h
        show G_X8_count N X sh l rm ((bif zle x1 1 && zle 1 x1 then 166 else (bif zle x1 2 && zle 2 x1 then 168 else (bif zle x1 3 && zle 3 x1 then 176 else (bif zle x1 4 && zle 4 x1 then 196 else (bif zle x1 5 && zle 5 x1 then 201 else (bif zle x1 6 && zle 6 x1 then 224 else 227)))))), [(0, .inr (.inl 8, 0)), (1, .inl (.inl x1)), (2, .inl (.inl x2)), (3, .inl (.inl x3)), (4, .inl (.inl x4)), (5, .inl (.inl x5))], [], σ) (some (.inl (.inl res.1)), res.2)
        cases hg4 : (zle x1 1 && zle 1 x1) with
        | true =>
          rw [hg4] at h
          dsimp only [cond] at h
          show G_X8_count N X sh l rm (166, [(0, .inr (.inl 8, 0)), (1, .inl (.inl x1)), (2, .inl (.inl x2)), (3, .inl (.inl x3)), (4, .inl (.inl x4)), (5, .inl (.inl x5))], [], σ) ((some (.inl (.inl res.1)), res.2))
          refine yG_n (n := 1) (C' := (167, [(0, .inr (.inl 8, 0)), (1, .inl (.inl x1)), (2, .inl (.inl x2)), (3, .inl (.inl x3)), (4, .inl (.inl x4)), (5, .inl (.inl x5))], [.inl (.inl x3)], σ)) rfl ?_
          have h := Option.some.inj h
          subst h
          dsimp only
          exact yG_r rfl rfl
        | false =>
          rw [hg4] at h
          dsimp only [cond] at h
          show G_X8_count N X sh l rm ((bif zle x1 2 && zle 2 x1 then 168 else (bif zle x1 3 && zle 3 x1 then 176 else (bif zle x1 4 && zle 4 x1 then 196 else (bif zle x1 5 && zle 5 x1 then 201 else (bif zle x1 6 && zle 6 x1 then 224 else 227))))), [(0, .inr (.inl 8, 0)), (1, .inl (.inl x1)), (2, .inl (.inl x2)), (3, .inl (.inl x3)), (4, .inl (.inl x4)), (5, .inl (.inl x5))], [], σ) (some (.inl (.inl res.1)), res.2)
          cases hg5 : (zle x1 2 && zle 2 x1) with
          | true =>
            rw [hg5] at h
            dsimp only [cond] at h
            show G_X8_count N X sh l rm (168, [(0, .inr (.inl 8, 0)), (1, .inl (.inl x1)), (2, .inl (.inl x2)), (3, .inl (.inl x3)), (4, .inl (.inl x4)), (5, .inl (.inl x5))], [], σ) ((some (.inl (.inl res.1)), res.2))
            refine yG_n (n := 1) (C' := (169, [(0, .inr (.inl 8, 0)), (1, .inl (.inl x1)), (2, .inl (.inl x2)), (3, .inl (.inl x3)), (4, .inl (.inl x4)), (5, .inl (.inl x5))], [.inr (.inl 8, 0)], σ)) rfl ?_
            cases hr6 : f_X8_lawyersNow N σ with
            | none => rw [hr6] at h; dsimp only at h; cases h
            | some r1 =>
              rw [hr6] at h
              dsimp only at h
              refine yG_c (C1 := (172, [(0, .inr (.inl 8, 0)), (1, .inl (.inl x1)), (2, .inl (.inl x2)), (3, .inl (.inl x3)), (4, .inl (.inl x4)), (5, .inl (.inl x5))], [.inl (.inl r1.1)], r1.2)) rfl (e_X8_lawyersNow hr6) rfl ?_
              cases hr7 : f_X8_bitsOf N r1.2 r1.1 with
              | none => rw [hr7] at h; dsimp only at h; cases h
              | some r2 =>
                rw [hr7] at h
                dsimp only at h
                refine yG_c (C1 := (175, [(0, .inr (.inl 8, 0)), (1, .inl (.inl x1)), (2, .inl (.inl x2)), (3, .inl (.inl x3)), (4, .inl (.inl x4)), (5, .inl (.inl x5))], [.inl (.inl r2.1)], r2.2)) rfl (e_X8_bitsOf hr7) rfl ?_
                have h := Option.some.inj h
                subst h
                dsimp only
                exact yG_r rfl rfl
          | false =>
            rw [hg5] at h
            dsimp only [cond] at h
            show G_X8_count N X sh l rm ((bif zle x1 3 && zle 3 x1 then 176 else (bif zle x1 4 && zle 4 x1 then 196 else (bif zle x1 5 && zle 5 x1 then 201 else (bif zle x1 6 && zle 6 x1 then 224 else 227)))), [(0, .inr (.inl 8, 0)), (1, .inl (.inl x1)), (2, .inl (.inl x2)), (3, .inl (.inl x3)), (4, .inl (.inl x4)), (5, .inl (.inl x5))], [], σ) (some (.inl (.inl res.1)), res.2)
            cases hg8 : (zle x1 3 && zle 3 x1) with
            | true =>
              rw [hg8] at h
              dsimp only [cond] at h
              show G_X8_count N X sh l rm (176, [(0, .inr (.inl 8, 0)), (1, .inl (.inl x1)), (2, .inl (.inl x2)), (3, .inl (.inl x3)), (4, .inl (.inl x4)), (5, .inl (.inl x5))], [], σ) ((some (.inl (.inl res.1)), res.2))
              refine yG_n (n := 4) (C' := (182, [(0, .inr (.inl 8, 0)), (1, .inl (.inl x1)), (2, .inl (.inl x2)), (3, .inl (.inl x3)), (4, .inl (.inl x4)), (5, .inl (.inl x5))], [.inl (.inl (σ.1 3 0))], σ)) rfl ?_
              cases hr9 : f_X8_flag N σ (σ.1 3 0) with
              | none => rw [hr9] at h; dsimp only at h; cases h
              | some r3 =>
                rw [hr9] at h
                dsimp only at h
                refine yG_c (C1 := (185, [(0, .inr (.inl 8, 0)), (1, .inl (.inl x1)), (2, .inl (.inl x2)), (3, .inl (.inl x3)), (4, .inl (.inl x4)), (5, .inl (.inl x5))], [.inl (.inl r3.1)], r3.2)) rfl (e_X8_flag hr9) rfl ?_
                refine yG_n (n := 4) (C' := (191, [(0, .inr (.inl 8, 0)), (1, .inl (.inl x1)), (2, .inl (.inl x2)), (3, .inl (.inl x3)), (4, .inl (.inl x4)), (5, .inl (.inl x5))], [.inl (.inl (r3.2.1 3 1)), .inl (.inl r3.1)], r3.2)) rfl ?_
                cases hr10 : f_X8_flag N r3.2 (r3.2.1 3 1) with
                | none => rw [hr10] at h; dsimp only at h; cases h
                | some r4 =>
                  rw [hr10] at h
                  dsimp only at h
                  refine yG_c (C1 := (194, [(0, .inr (.inl 8, 0)), (1, .inl (.inl x1)), (2, .inl (.inl x2)), (3, .inl (.inl x3)), (4, .inl (.inl x4)), (5, .inl (.inl x5))], [.inl (.inl r4.1), .inl (.inl r3.1)], r4.2)) rfl (e_X8_flag hr10) rfl ?_
                  refine yG_n (n := 1) (C' := (195, [(0, .inr (.inl 8, 0)), (1, .inl (.inl x1)), (2, .inl (.inl x2)), (3, .inl (.inl x3)), (4, .inl (.inl x4)), (5, .inl (.inl x5))], [.inl (.inl (yad r3.1 r4.1))], r4.2)) rfl ?_
                  have h := Option.some.inj h
                  subst h
                  dsimp only
                  exact yG_r rfl rfl
            | false =>
              rw [hg8] at h
              dsimp only [cond] at h
              show G_X8_count N X sh l rm ((bif zle x1 4 && zle 4 x1 then 196 else (bif zle x1 5 && zle 5 x1 then 201 else (bif zle x1 6 && zle 6 x1 then 224 else 227))), [(0, .inr (.inl 8, 0)), (1, .inl (.inl x1)), (2, .inl (.inl x2)), (3, .inl (.inl x3)), (4, .inl (.inl x4)), (5, .inl (.inl x5))], [], σ) (some (.inl (.inl res.1)), res.2)
              cases hg11 : (zle x1 4 && zle 4 x1) with
              | true =>
                rw [hg11] at h
                dsimp only [cond] at h
                show G_X8_count N X sh l rm (196, [(0, .inr (.inl 8, 0)), (1, .inl (.inl x1)), (2, .inl (.inl x2)), (3, .inl (.inl x3)), (4, .inl (.inl x4)), (5, .inl (.inl x5))], [], σ) ((some (.inl (.inl res.1)), res.2))
                refine yG_n (n := 2) (C' := (200, [(0, .inr (.inl 8, 0)), (1, .inl (.inl x1)), (2, .inl (.inl x2)), (3, .inl (.inl x3)), (4, .inl (.inl x4)), (5, .inl (.inl x5))], [.inl (.inl (σ.1 0 17))], σ)) rfl ?_
                have h := Option.some.inj h
                subst h
                dsimp only
                exact yG_r rfl rfl
              | false =>
                rw [hg11] at h
                dsimp only [cond] at h
                show G_X8_count N X sh l rm ((bif zle x1 5 && zle 5 x1 then 201 else (bif zle x1 6 && zle 6 x1 then 224 else 227)), [(0, .inr (.inl 8, 0)), (1, .inl (.inl x1)), (2, .inl (.inl x2)), (3, .inl (.inl x3)), (4, .inl (.inl x4)), (5, .inl (.inl x5))], [], σ) (some (.inl (.inl res.1)), res.2)
                cases hg12 : (zle x1 5 && zle 5 x1) with
                | true =>
                  rw [hg12] at h
                  dsimp only [cond] at h
                  show G_X8_count N X sh l rm (201, [(0, .inr (.inl 8, 0)), (1, .inl (.inl x1)), (2, .inl (.inl x2)), (3, .inl (.inl x3)), (4, .inl (.inl x4)), (5, .inl (.inl x5))], [], σ) ((some (.inl (.inl res.1)), res.2))
                  refine yG_n (n := 5) (C' := (209, [(0, .inr (.inl 8, 0)), (1, .inl (.inl x1)), (2, .inl (.inl x2)), (3, .inl (.inl x3)), (4, .inl (.inl x4)), (5, .inl (.inl x5))], [.inl (.inl ((-4))), .inl (.inl (σ.1 12 0))], σ)) rfl ?_
                  cases hg13 : ycP .ne (σ.1 12 0) ((-4)) with
                  | true =>
                    rw [hg13] at h
                    dsimp only [cond] at h
                    refine yG_t (C' := (217, [(0, .inr (.inl 8, 0)), (1, .inl (.inl x1)), (2, .inl (.inl x2)), (3, .inl (.inl x3)), (4, .inl (.inl x4)), (5, .inl (.inl x5))], [], σ)) rfl hg13 ?_
                    refine yG_n (n := 4) (C' := (223, [(0, .inr (.inl 8, 0)), (1, .inl (.inl x1)), (2, .inl (.inl x2)), (3, .inl (.inl x3)), (4, .inl (.inl x4)), (5, .inl (.inl x5))], [.inl (.inl (σ.1 13 0))], σ)) rfl ?_
                    exact yG_w [] rfl (t_X8_count_b223 σ (σ.1 13 0) res h)
                  | false =>
                    rw [hg13] at h
                    dsimp only [cond] at h
                    refine yG_f (C' := (212, [(0, .inr (.inl 8, 0)), (1, .inl (.inl x1)), (2, .inl (.inl x2)), (3, .inl (.inl x3)), (4, .inl (.inl x4)), (5, .inl (.inl x5))], [], σ)) rfl hg13 ?_
                    refine yG_n (n := 2) (C' := (223, [(0, .inr (.inl 8, 0)), (1, .inl (.inl x1)), (2, .inl (.inl x2)), (3, .inl (.inl x3)), (4, .inl (.inl x4)), (5, .inl (.inl x5))], [.inl (.inl ((-4)))], σ)) rfl ?_
                    exact yG_w [] rfl (t_X8_count_b223 σ ((-4)) res h)
                | false =>
                  rw [hg12] at h
                  dsimp only [cond] at h
                  show G_X8_count N X sh l rm ((bif zle x1 6 && zle 6 x1 then 224 else 227), [(0, .inr (.inl 8, 0)), (1, .inl (.inl x1)), (2, .inl (.inl x2)), (3, .inl (.inl x3)), (4, .inl (.inl x4)), (5, .inl (.inl x5))], [], σ) (some (.inl (.inl res.1)), res.2)
                  cases hg14 : (zle x1 6 && zle 6 x1) with
                  | true =>
                    rw [hg14] at h
                    dsimp only [cond] at h
                    show G_X8_count N X sh l rm (224, [(0, .inr (.inl 8, 0)), (1, .inl (.inl x1)), (2, .inl (.inl x2)), (3, .inl (.inl x3)), (4, .inl (.inl x4)), (5, .inl (.inl x5))], [], σ) ((some (.inl (.inl res.1)), res.2))
                    refine yG_n (n := 1) (C' := (226, [(0, .inr (.inl 8, 0)), (1, .inl (.inl x1)), (2, .inl (.inl x2)), (3, .inl (.inl x3)), (4, .inl (.inl x4)), (5, .inl (.inl x5))], [.inl (.inl x4)], σ)) rfl ?_
                    have h := Option.some.inj h
                    subst h
                    dsimp only
                    exact yG_r rfl rfl
                  | false =>
                    rw [hg14] at h
                    dsimp only [cond] at h
                    show G_X8_count N X sh l rm (227, [(0, .inr (.inl 8, 0)), (1, .inl (.inl x1)), (2, .inl (.inl x2)), (3, .inl (.inl x3)), (4, .inl (.inl x4)), (5, .inl (.inl x5))], [], σ) (some (.inl (.inl res.1)), res.2)
                    refine yG_n (n := 1) (C' := (228, [(0, .inr (.inl 8, 0)), (1, .inl (.inl x1)), (2, .inl (.inl x2)), (3, .inl (.inl x3)), (4, .inl (.inl x4)), (5, .inl (.inl x5))], [.inl (.inl ((-1)))], σ)) rfl ?_
                    have h := Option.some.inj h
                    subst h
                    dsimp only
                    exact yG_r rfl rfl
    | false =>
      rw [hg2] at h
      dsimp only [cond] at h
      refine yG_f (C' := (81, [(0, .inr (.inl 8, 0)), (1, .inl (.inl x1)), (2, .inl (.inl x2)), (3, .inl (.inl x3)), (4, .inl (.inl x4)), (5, .inl (.inl x5))], [], σ)) rfl hg2 ?_
      refine yG_n (n := 10) (C' := (96, [(0, .inr (.inl 8, 0)), (1, .inl (.inl x1)), (2, .inl (.inl x2)), (3, .inl (.inl x3)), (4, .inl (.inl x4)), (5, .inl (.inl x5))], [.inl (.inl (yad (yad 78 (ymu 4 x5)) 2)), .inr (.inr (0, 393), 1), .inl (.inl x4)], σ)) rfl ?_
      cases hg15 : yin (yad (yad 78 (ymu 4 x5)) 2) 393 with
      | false => rw [hg15] at h; dsimp only [cond] at h; cases h
      | true =>
        rw [hg15] at h
        dsimp only [cond] at h
        refine yG_t (C' := (97, [(0, .inr (.inl 8, 0)), (1, .inl (.inl x1)), (2, .inl (.inl x2)), (3, .inl (.inl x3)), (4, .inl (.inl x4)), (5, .inl (.inl x5))], [.inl (.inl (σ.1 1 (yad (yad 78 (ymu 4 x5)) 2).toNat)), .inl (.inl x4)], σ)) rfl hg15 ?_
        refine yG_n (n := 1) (C' := (99, [(0, .inr (.inl 8, 0)), (1, .inl (.inl x1)), (2, .inl (.inl x2)), (3, .inl (.inl x3)), (4, .inl (.inl x4)), (5, .inl (.inl x5))], [.inl (.inl 9), .inl (.inl (σ.1 1 (yad (yad 78 (ymu 4 x5)) 2).toNat)), .inl (.inl x4)], σ)) rfl ?_
        cases hg16 : ycP .ne (σ.1 1 (yad (yad 78 (ymu 4 x5)) 2).toNat) 9 with
        | true =>
          rw [hg16] at h
          dsimp only [cond] at h
          refine yG_t (C' := (106, [(0, .inr (.inl 8, 0)), (1, .inl (.inl x1)), (2, .inl (.inl x2)), (3, .inl (.inl x3)), (4, .inl (.inl x4)), (5, .inl (.inl x5))], [.inl (.inl x4)], σ)) rfl hg16 ?_
          refine yG_n (n := 1) (C' := (107, [(0, .inr (.inl 8, 0)), (1, .inl (.inl x1)), (2, .inl (.inl x2)), (3, .inl (.inl x3)), (4, .inl (.inl x4)), (5, .inl (.inl x5))], [.inl (.inl 0), .inl (.inl x4)], σ)) rfl ?_
          exact yG_w [0, 1, 2, 3, 5] rfl (t_X8_count_b107 (f_X8_count_b69 N n) ih σ x1 x2 x3 x5 0 x4 res h)
        | false =>
          rw [hg16] at h
          dsimp only [cond] at h
          refine yG_f (C' := (102, [(0, .inr (.inl 8, 0)), (1, .inl (.inl x1)), (2, .inl (.inl x2)), (3, .inl (.inl x3)), (4, .inl (.inl x4)), (5, .inl (.inl x5))], [.inl (.inl x4)], σ)) rfl hg16 ?_
          refine yG_n (n := 2) (C' := (107, [(0, .inr (.inl 8, 0)), (1, .inl (.inl x1)), (2, .inl (.inl x2)), (3, .inl (.inl x3)), (4, .inl (.inl x4)), (5, .inl (.inl x5))], [.inl (.inl 1), .inl (.inl x4)], σ)) rfl ?_
          exact yG_w [0, 1, 2, 3, 5] rfl (t_X8_count_b107 (f_X8_count_b69 N n) ih σ x1 x2 x3 x5 1 x4 res h)
set_option maxRecDepth 100000 in
set_option maxHeartbeats 4000000 in
theorem t_X8_count_b39 {N : Nat} {X : zXT} {sh : List yH} {l : Launch} {rm : Room} : ∀ (n : Nat) (σ : yS) (x1 : Int) (x2 : Int) (x3 : Int) (x4 : Int) (x5 : Int) (res : Int × yS), f_X8_count_b39 N n σ x1 x2 x3 x4 x5 = some res → G_X8_count N X sh l rm (39, [(0, .inr (.inl 8, 0)), (1, .inl (.inl x1)), (2, .inl (.inl x2)), (3, .inl (.inl x3)), (4, .inl (.inl x4)), (5, .inl (.inl x5))], [], σ) (some (.inl (.inl res.1)), res.2) := by
  intro n
  induction n with
  | zero => intro σ x1 x2 x3 x4 x5 res h; exact (yno h).elim
  | succ n ih =>
    intro σ x1 x2 x3 x4 x5 res h
    rw [q_X8_count_b39] at h
    refine yG_n (n := 3) (C' := (45, [(0, .inr (.inl 8, 0)), (1, .inl (.inl x1)), (2, .inl (.inl x2)), (3, .inl (.inl x3)), (4, .inl (.inl x4)), (5, .inl (.inl x5))], [.inl (.inl (σ.1 0 3)), .inl (.inl x5)], σ)) rfl ?_
    cases hg17 : ycP .ge x5 (σ.1 0 3) with
    | true =>
      rw [hg17] at h
      dsimp only [cond] at h
      refine yG_t (C' := (66, [(0, .inr (.inl 8, 0)), (1, .inl (.inl x1)), (2, .inl (.inl x2)), (3, .inl (.inl x3)), (4, .inl (.inl x4)), (5, .inl (.inl x5))], [], σ)) rfl hg17 ?_
      refine yG_n (n := 2) (C' := (69, [(5, .inl (.inl 0)), (0, .inr (.inl 8, 0)), (1, .inl (.inl x1)), (2, .inl (.inl x2)), (3, .inl (.inl x3)), (4, .inl (.inl x4))], [], σ)) rfl ?_
      exact yG_w [1, 2, 3, 4, 5, 0] rfl (t_X8_count_b69 N σ x1 x2 x3 x4 0 res h)
    | false =>
      rw [hg17] at h
      dsimp only [cond] at h
      refine yG_f (C' := (48, [(0, .inr (.inl 8, 0)), (1, .inl (.inl x1)), (2, .inl (.inl x2)), (3, .inl (.inl x3)), (4, .inl (.inl x4)), (5, .inl (.inl x5))], [], σ)) rfl hg17 ?_
      refine yG_n (n := 6) (C' := (57, [(0, .inr (.inl 8, 0)), (1, .inl (.inl x1)), (2, .inl (.inl x2)), (3, .inl (.inl x3)), (4, .inl (.inl x4)), (5, .inl (.inl x5))], [.inl (.inl (yad 0 x5)), .inr (.inr (0, 393), 1), .inl (.inl x3)], σ)) rfl ?_
      cases hg18 : yin (yad 0 x5) 393 with
      | false => rw [hg18] at h; dsimp only [cond] at h; cases h
      | true =>
        rw [hg18] at h
        dsimp only [cond] at h
        refine yG_t (C' := (58, [(0, .inr (.inl 8, 0)), (1, .inl (.inl x1)), (2, .inl (.inl x2)), (3, .inl (.inl x3)), (4, .inl (.inl x4)), (5, .inl (.inl x5))], [.inl (.inl (σ.1 1 (yad 0 x5).toNat)), .inl (.inl x3)], σ)) rfl hg18 ?_
        refine yG_n (n := 4) (C' := (39, [(5, .inl (.inl (yad x5 1))), (3, .inl (.inl (yad x3 (σ.1 1 (yad 0 x5).toNat)))), (0, .inr (.inl 8, 0)), (1, .inl (.inl x1)), (2, .inl (.inl x2)), (4, .inl (.inl x4))], [], σ)) rfl ?_
        exact yG_w [2, 3, 4, 1, 5, 0] rfl (ih σ x1 x2 (yad x3 (σ.1 1 (yad 0 x5).toNat)) x4 (yad x5 1) res h)
set_option maxRecDepth 100000 in
set_option maxHeartbeats 4000000 in
theorem t_X8_count_b10 {N : Nat} {X : zXT} {sh : List yH} {l : Launch} {rm : Room} : ∀ (n : Nat) (σ : yS) (x1 : Int) (x2 : Int) (x3 : Int) (x4 : Int) (x5 : Int) (res : Int × yS), f_X8_count_b10 N n σ x1 x2 x3 x4 x5 = some res → G_X8_count N X sh l rm (10, [(0, .inr (.inl 8, 0)), (1, .inl (.inl x1)), (2, .inl (.inl x2)), (3, .inl (.inl x3)), (4, .inl (.inl x4)), (5, .inl (.inl x5))], [], σ) (some (.inl (.inl res.1)), res.2) := by
  intro n
  induction n with
  | zero => intro σ x1 x2 x3 x4 x5 res h; exact (yno h).elim
  | succ n ih =>
    intro σ x1 x2 x3 x4 x5 res h
    rw [q_X8_count_b10] at h
    refine yG_n (n := 2) (C' := (14, [(0, .inr (.inl 8, 0)), (1, .inl (.inl x1)), (2, .inl (.inl x2)), (3, .inl (.inl x3)), (4, .inl (.inl x4)), (5, .inl (.inl x5))], [.inl (.inl 35), .inl (.inl x5)], σ)) rfl ?_
    cases hg19 : ycP .ge x5 35 with
    | true =>
      rw [hg19] at h
      dsimp only [cond] at h
      refine yG_t (C' := (36, [(0, .inr (.inl 8, 0)), (1, .inl (.inl x1)), (2, .inl (.inl x2)), (3, .inl (.inl x3)), (4, .inl (.inl x4)), (5, .inl (.inl x5))], [], σ)) rfl hg19 ?_
      refine yG_n (n := 2) (C' := (39, [(5, .inl (.inl 0)), (0, .inr (.inl 8, 0)), (1, .inl (.inl x1)), (2, .inl (.inl x2)), (3, .inl (.inl x3)), (4, .inl (.inl x4))], [], σ)) rfl ?_
      exact yG_w [1, 2, 3, 4, 5, 0] rfl (t_X8_count_b39 N σ x1 x2 x3 x4 0 res h)
    | false =>
      rw [hg19] at h
      dsimp only [cond] at h
      refine yG_f (C' := (17, [(0, .inr (.inl 8, 0)), (1, .inl (.inl x1)), (2, .inl (.inl x2)), (3, .inl (.inl x3)), (4, .inl (.inl x4)), (5, .inl (.inl x5))], [], σ)) rfl hg19 ?_
      refine yG_n (n := 6) (C' := (27, [(0, .inr (.inl 8, 0)), (1, .inl (.inl x1)), (2, .inl (.inl x2)), (3, .inl (.inl x3)), (4, .inl (.inl x4)), (5, .inl (.inl x5))], [.inl (.inl (yad 42 x5)), .inr (.inr (0, 393), 1), .inl (.inl x2)], σ)) rfl ?_
      cases hg20 : yin (yad 42 x5) 393 with
      | false => rw [hg20] at h; dsimp only [cond] at h; cases h
      | true =>
        rw [hg20] at h
        dsimp only [cond] at h
        refine yG_t (C' := (28, [(0, .inr (.inl 8, 0)), (1, .inl (.inl x1)), (2, .inl (.inl x2)), (3, .inl (.inl x3)), (4, .inl (.inl x4)), (5, .inl (.inl x5))], [.inl (.inl (σ.1 1 (yad 42 x5).toNat)), .inl (.inl x2)], σ)) rfl hg20 ?_
        refine yG_n (n := 4) (C' := (10, [(5, .inl (.inl (yad x5 1))), (2, .inl (.inl (yad x2 (σ.1 1 (yad 42 x5).toNat)))), (0, .inr (.inl 8, 0)), (1, .inl (.inl x1)), (3, .inl (.inl x3)), (4, .inl (.inl x4))], [], σ)) rfl ?_
        exact yG_w [2, 3, 1, 4, 5, 0] rfl (ih σ x1 (yad x2 (σ.1 1 (yad 42 x5).toNat)) x3 x4 (yad x5 1) res h)
set_option maxRecDepth 100000 in
set_option maxHeartbeats 4000000 in
theorem t_X8_count {N : Nat} {X : zXT} {sh : List yH} {l : Launch} {rm : Room} (σ : yS) (x1 : Int) (res : Int × yS) (h : f_X8_count N σ x1 = some res) : G_X8_count N X sh l rm (0, [(0, .inr (.inl 8, 0)), (1, .inl (.inl x1))], [], σ) (some (.inl (.inl res.1)), res.2) := by
  unfold f_X8_count at h
  refine yG_n (n := 8) (C' := (10, [(5, .inl (.inl 0)), (4, .inl (.inl 0)), (3, .inl (.inl 0)), (2, .inl (.inl 0)), (0, .inr (.inl 8, 0)), (1, .inl (.inl x1))], [], σ)) rfl ?_
  exact yG_w [4, 5, 3, 2, 1, 0] rfl (t_X8_count_b10 N σ x1 0 0 0 0 res h)
set_option maxRecDepth 100000 in
set_option maxHeartbeats 4000000 in
theorem m_X8_count {N : Nat} {X : zXT} (hX : zXok X) (hN : zXn X) (l : Launch) {sh : List yH} : yMet X vwCl yct sh l yX8_count wsX8_count { frames := 2, cells := 0, slots := 0, locals := 86 } (F_X8_count N) :=
  ymeth (tb := tb_X8_count N) (pr := pr_X8_count) (rt := 1) (own := RX8) hX (by decide +kernel) rfl rfl ⟨Nat.le_of_ble_eq_true rfl, Nat.le_of_ble_eq_true rfl⟩
    (zfl_all (List.forall_mem_cons.mpr ⟨zfl_X8 (fun w h => List.mem_cons_of_mem _ (List.mem_append_right _ h)) (List.mem_of_getElem? (i := 1) rfl) (by decide) (by decide), List.forall_mem_cons.mpr ⟨zfl_X8 (fun w h => List.mem_cons_of_mem _ (List.mem_append_right _ h)) (List.mem_of_getElem? (i := 3) rfl) (by decide) (by decide), List.forall_mem_cons.mpr ⟨zfl_X8 (fun w h => List.mem_cons_of_mem _ (List.mem_append_right _ h)) (List.mem_of_getElem? (i := 5) rfl) (by decide) (by decide), List.forall_mem_cons.mpr ⟨zfl_X8 (fun w h => List.mem_cons_of_mem _ (List.mem_append_right _ h)) (List.mem_of_getElem? (i := 6) rfl) (by decide) (by decide), List.forall_mem_cons.mpr ⟨zfl_X8 (fun w h => List.mem_cons_of_mem _ (List.mem_append_right _ h)) (List.mem_of_getElem? (i := 2) rfl) (by decide) (by decide), List.forall_mem_cons.mpr ⟨zfl_X8 (fun w h => List.mem_cons_of_mem _ (List.mem_append_right _ h)) (List.mem_of_getElem? (i := 4) rfl) (by decide) (by decide), fun _ h => absurd h List.not_mem_nil⟩⟩⟩⟩⟩⟩))
    (zco_all (fun _ h => absurd h List.not_mem_nil)) (zlc_all (fun _ h => absurd h List.not_mem_nil))
    (List.forall_mem_cons.mpr ⟨ycal_V hX (m_X8_lawyersNow hX hN l) rfl (fun s args hts => cwV 0 hts gX8_count_X8_lawyersNow rfl rfl rfl (by decide +kernel) ⟨Nat.le_of_ble_eq_true rfl, Nat.le_of_ble_eq_true rfl⟩), fun _ h => absurd h List.not_mem_nil⟩)
    (List.forall_mem_cons.mpr ⟨ycal_S hX (m_X8_flag hX hN l) (fun s args hts => va_cwS 1 hts gX8_count_X8_flag rfl rfl rfl (by decide +kernel) ⟨Nat.le_of_ble_eq_true rfl, Nat.le_of_ble_eq_true rfl⟩), List.forall_mem_cons.mpr ⟨ycal_S hX (m_X8_bitsOf hX hN l) (fun s args hts => va_cwS 1 hts gX8_count_X8_bitsOf rfl rfl rfl (by decide +kernel) ⟨Nat.le_of_ble_eq_true rfl, Nat.le_of_ble_eq_true rfl⟩), fun _ h => absurd h List.not_mem_nil⟩⟩)
    (zmm_all (fun _ h => absurd h List.not_mem_nil)) (fun _ h => absurd h List.not_mem_nil) (zpr_all hp_X8_count) (fun as σ res h => by
      unfold F_X8_count at h
      split at h
      · rename_i x1
        cases hr : f_X8_count N σ x1 with
        | none => rw [hr] at h; cases h
        | some r =>
          rw [hr] at h
          cases h
          exact ⟨Nat.le_of_ble_eq_true rfl, t_X8_count σ x1 r hr⟩
      · cases h)
noncomputable def pr_X8_fallen : List (Nat × Instr × Nat) := [(0, .iconst 0, 1), (1, .istore 4, 2), (3, .iconst 0, 1), (4, .istore 5, 2), (6, .iload 5, 2), (8, .aload_n 0, 1), (9, .getfield 79, 3), (12, .if_icmp .ge 94, 3), (15, .iconst 0, 1), (16, .istore 6, 2), (18, .iload 6, 2), (20, .iload_n 2, 1), (21, .invokestatic 249, 3), (24, .if_icmp .ge 76, 3), (27, .aload_n 0, 1), (28, .iload 5, 2), (30, .iload_n 2, 1), (31, .iload 6, 2), (33, .invokestatic 252, 3), (36, .invokevirtual 255, 3), (39, .istore 7, 2), (41, .iload 4, 2), (43, .iload_n 1, 1), (44, .iload 5, 2), (46, .ishr, 1), (47, .iconst 1, 1), (48, .iand, 1), (49, .iconst 1, 1), (50, .if_icmp .ne 23, 3), (53, .iload 7, 2), (55, .bipush (-4), 2), (57, .if_icmp .eq 16, 3), (60, .iload_n 3, 1), (61, .iload 7, 2), (63, .ishr, 1), (64, .iconst 1, 1), (65, .iand, 1), (66, .ifCond .ne 7, 3), (69, .iconst 1, 1), (70, .goto 4, 3), (73, .iconst 0, 1), (74, .invokestatic 197, 3), (77, .iload 7, 2), (79, .bipush (-4), 2), (81, .if_icmp .ne 7, 3), (84, .iconst 0, 1), (85, .goto 5, 3), (88, .iload 7, 2), (90, .ishl, 1), (91, .ior, 1), (92, .istore 4, 2), (94, .iinc 6 1, 3), (97, .goto (-79), 3), (100, .iinc 5 1, 3), (103, .goto (-97), 3), (106, .iload 4, 2), (108, .ireturn, 1)]
set_option maxRecDepth 100000 in
theorem hp_X8_fallen : pr_X8_fallen.all (fun x => decide (decode cX8_fallen x.1 = .ok x.2)) = true := by decide +kernel
noncomputable def f_X8_fallen_b90 (N : Nat) (k6 : yS → Int → Int → Int → Int → Int → Option (Int × yS)) (k18 : yS → Int → Int → Int → Int → Int → Int → Option (Int × yS)) (σ : yS) (x1 : Int) (x2 : Int) (x3 : Int) (x5 : Int) (x6 : Int) (s0 : Int) (s1 : Int) (s2 : Int) : Option (Int × yS) :=
  k18 σ x1 x2 x3 (yor s2 (ysl s1 s0)) x5 (yad x6 1)
noncomputable def f_X8_fallen_b74 (N : Nat) (k6 : yS → Int → Int → Int → Int → Int → Option (Int × yS)) (k18 : yS → Int → Int → Int → Int → Int → Int → Option (Int × yS)) (σ : yS) (x1 : Int) (x2 : Int) (x3 : Int) (x5 : Int) (x6 : Int) (x7 : Int) (s0 : Int) (s1 : Int) : Option (Int × yS) :=
  match f_X8_flag N σ s0 with
  | none => none
  | some r4 => bif ycP .ne x7 ((-4)) then
      f_X8_fallen_b90 N k6 k18 r4.2 x1 x2 x3 x5 x6 x7 r4.1 s1
    else
      f_X8_fallen_b90 N k6 k18 r4.2 x1 x2 x3 x5 x6 0 r4.1 s1
noncomputable def f_X8_fallen_b73 (N : Nat) (k6 : yS → Int → Int → Int → Int → Int → Option (Int × yS)) (k18 : yS → Int → Int → Int → Int → Int → Int → Option (Int × yS)) (σ : yS) (x1 : Int) (x2 : Int) (x3 : Int) (x5 : Int) (x6 : Int) (x7 : Int) (s0 : Int) : Option (Int × yS) :=
  f_X8_fallen_b74 N k6 k18 σ x1 x2 x3 x5 x6 x7 0 s0
noncomputable def f_X8_fallen_b18 (N : Nat) (k6 : yS → Int → Int → Int → Int → Int → Option (Int × yS)) : Nat → yS → Int → Int → Int → Int → Int → Int → Option (Int × yS) := yfix (fun _ _ _ _ _ _ _ => none) (fun ih σ x1 x2 x3 x4 x5 x6 =>
    match f_X8_fallsOf N σ x2 with
    | none => none
    | some r1 => bif ycP .ge x6 r1.1 then
        k6 r1.2 x1 x2 x3 x4 (yad x5 1)
      else
        match f_X8_byOf N r1.2 x2 x6 with
        | none => none
        | some r2 => match f_X8_off N r2.2 x5 r2.1 with
          | none => none
          | some r3 => bif ycP .ne (yan (ysr x1 x5) 1) 1 then
              f_X8_fallen_b73 N k6 ih r3.2 x1 x2 x3 x5 x6 r3.1 x4
            else
              bif ycP .eq r3.1 ((-4)) then
                f_X8_fallen_b73 N k6 ih r3.2 x1 x2 x3 x5 x6 r3.1 x4
              else
                bif ycP .ne (yan (ysr x3 r3.1) 1) 0 then
                  f_X8_fallen_b73 N k6 ih r3.2 x1 x2 x3 x5 x6 r3.1 x4
                else
                  f_X8_fallen_b74 N k6 ih r3.2 x1 x2 x3 x5 x6 r3.1 1 x4)
theorem q_X8_fallen_b18 (N : Nat) (k6 : yS → Int → Int → Int → Int → Int → Option (Int × yS)) (n : Nat) (σ : yS) (x1 : Int) (x2 : Int) (x3 : Int) (x4 : Int) (x5 : Int) (x6 : Int) : f_X8_fallen_b18 N k6 (n + 1) σ x1 x2 x3 x4 x5 x6 =
    (match f_X8_fallsOf N σ x2 with
    | none => none
    | some r1 => bif ycP .ge x6 r1.1 then
        k6 r1.2 x1 x2 x3 x4 (yad x5 1)
      else
        match f_X8_byOf N r1.2 x2 x6 with
        | none => none
        | some r2 => match f_X8_off N r2.2 x5 r2.1 with
          | none => none
          | some r3 => bif ycP .ne (yan (ysr x1 x5) 1) 1 then
              f_X8_fallen_b73 N k6 (f_X8_fallen_b18 N k6 n) r3.2 x1 x2 x3 x5 x6 r3.1 x4
            else
              bif ycP .eq r3.1 ((-4)) then
                f_X8_fallen_b73 N k6 (f_X8_fallen_b18 N k6 n) r3.2 x1 x2 x3 x5 x6 r3.1 x4
              else
                bif ycP .ne (yan (ysr x3 r3.1) 1) 0 then
                  f_X8_fallen_b73 N k6 (f_X8_fallen_b18 N k6 n) r3.2 x1 x2 x3 x5 x6 r3.1 x4
                else
                  f_X8_fallen_b74 N k6 (f_X8_fallen_b18 N k6 n) r3.2 x1 x2 x3 x5 x6 r3.1 1 x4) := rfl
noncomputable def f_X8_fallen_b6 (N : Nat) : Nat → yS → Int → Int → Int → Int → Int → Option (Int × yS) := yfix (fun _ _ _ _ _ _ => none) (fun ih σ x1 x2 x3 x4 x5 =>
    bif ycP .ge x5 (σ.1 0 3) then
      some (x4, σ)
    else
      f_X8_fallen_b18 N ih N σ x1 x2 x3 x4 x5 0)
theorem q_X8_fallen_b6 (N : Nat) (n : Nat) (σ : yS) (x1 : Int) (x2 : Int) (x3 : Int) (x4 : Int) (x5 : Int) : f_X8_fallen_b6 N (n + 1) σ x1 x2 x3 x4 x5 =
    (bif ycP .ge x5 (σ.1 0 3) then
      some (x4, σ)
    else
      f_X8_fallen_b18 N (f_X8_fallen_b6 N n) N σ x1 x2 x3 x4 x5 0) := rfl
noncomputable def f_X8_fallen (N : Nat) (σ : yS) (x1 : Int) (x2 : Int) (x3 : Int) : Option (Int × yS) :=
  f_X8_fallen_b6 N N σ x1 x2 x3 0 0
noncomputable def F_X8_fallen (N : Nat) : yF := fun as σ => match as with
  | [.inr (.inl 8, 0), .inl (.inl x1), .inl (.inl x2), .inl (.inl x3)] => (f_X8_fallen N σ x1 x2 x3).map (fun r => (some (.inl (.inl r.1)), r.2))
  | _ => none
theorem e_X8_fallen {N : Nat} {σ : yS} {x1 : Int} {x2 : Int} {x3 : Int} {r : Int × yS} (h : f_X8_fallen N σ x1 x2 x3 = some r) : F_X8_fallen N [.inr (.inl 8, 0), .inl (.inl x1), .inl (.inl x2), .inl (.inl x3)] σ = some (some (.inl (.inl r.1)), r.2) := by
  show (f_X8_fallen N σ x1 x2 x3).map (fun r => ((some (.inl (.inl r.1)), r.2) : yR)) = _
  rw [h]
  rfl
noncomputable def tb_X8_fallen (N : Nat) : yTb := ([(79, 8, 3, 0)], [], [], [(255, 3, 8, F_X8_off N)], [(197, 1, F_X8_flag N), (249, 1, F_X8_fallsOf N), (252, 2, F_X8_byOf N)], [], [])
abbrev G_X8_fallen (N : Nat) (X : zXT) (sh : List yH) (l : Launch) (rm : Room) : yC → yR → Prop := yGoes X vwCl yct sh l rm cX8_fallen 8 wsX8_fallen RX8 (tb_X8_fallen N) pr_X8_fallen 1
set_option maxRecDepth 100000 in
set_option maxHeartbeats 4000000 in
theorem t_X8_fallen_b90 {N : Nat} {X : zXT} {sh : List yH} {l : Launch} {rm : Room} (k6 : yS → Int → Int → Int → Int → Int → Option (Int × yS)) (hk6 : ∀ (σ : yS) (x1 : Int) (x2 : Int) (x3 : Int) (x4 : Int) (x5 : Int) (res : Int × yS), k6 σ x1 x2 x3 x4 x5 = some res → G_X8_fallen N X sh l rm (6, [(0, .inr (.inl 8, 0)), (1, .inl (.inl x1)), (2, .inl (.inl x2)), (3, .inl (.inl x3)), (4, .inl (.inl x4)), (5, .inl (.inl x5))], [], σ) (some (.inl (.inl res.1)), res.2)) (k18 : yS → Int → Int → Int → Int → Int → Int → Option (Int × yS)) (hk18 : ∀ (σ : yS) (x1 : Int) (x2 : Int) (x3 : Int) (x4 : Int) (x5 : Int) (x6 : Int) (res : Int × yS), k18 σ x1 x2 x3 x4 x5 x6 = some res → G_X8_fallen N X sh l rm (18, [(0, .inr (.inl 8, 0)), (1, .inl (.inl x1)), (2, .inl (.inl x2)), (3, .inl (.inl x3)), (4, .inl (.inl x4)), (5, .inl (.inl x5)), (6, .inl (.inl x6))], [], σ) (some (.inl (.inl res.1)), res.2)) (σ : yS) (x1 : Int) (x2 : Int) (x3 : Int) (x5 : Int) (x6 : Int) (s0 : Int) (s1 : Int) (s2 : Int) (res : Int × yS) (h : f_X8_fallen_b90 N k6 k18 σ x1 x2 x3 x5 x6 s0 s1 s2 = some res) : G_X8_fallen N X sh l rm (90, [(0, .inr (.inl 8, 0)), (1, .inl (.inl x1)), (2, .inl (.inl x2)), (3, .inl (.inl x3)), (5, .inl (.inl x5)), (6, .inl (.inl x6))], [.inl (.inl s0), .inl (.inl s1), .inl (.inl s2)], σ) (some (.inl (.inl res.1)), res.2) := by
  unfold f_X8_fallen_b90 at h
  refine yG_n (n := 5) (C' := (18, [(6, .inl (.inl (yad x6 1))), (4, .inl (.inl (yor s2 (ysl s1 s0)))), (0, .inr (.inl 8, 0)), (1, .inl (.inl x1)), (2, .inl (.inl x2)), (3, .inl (.inl x3)), (5, .inl (.inl x5))], [], σ)) rfl ?_
  exact yG_w [2, 3, 4, 5, 1, 6, 0] rfl (hk18 σ x1 x2 x3 (yor s2 (ysl s1 s0)) x5 (yad x6 1) res h)
set_option maxRecDepth 100000 in
set_option maxHeartbeats 4000000 in
theorem t_X8_fallen_b74 {N : Nat} {X : zXT} {sh : List yH} {l : Launch} {rm : Room} (k6 : yS → Int → Int → Int → Int → Int → Option (Int × yS)) (hk6 : ∀ (σ : yS) (x1 : Int) (x2 : Int) (x3 : Int) (x4 : Int) (x5 : Int) (res : Int × yS), k6 σ x1 x2 x3 x4 x5 = some res → G_X8_fallen N X sh l rm (6, [(0, .inr (.inl 8, 0)), (1, .inl (.inl x1)), (2, .inl (.inl x2)), (3, .inl (.inl x3)), (4, .inl (.inl x4)), (5, .inl (.inl x5))], [], σ) (some (.inl (.inl res.1)), res.2)) (k18 : yS → Int → Int → Int → Int → Int → Int → Option (Int × yS)) (hk18 : ∀ (σ : yS) (x1 : Int) (x2 : Int) (x3 : Int) (x4 : Int) (x5 : Int) (x6 : Int) (res : Int × yS), k18 σ x1 x2 x3 x4 x5 x6 = some res → G_X8_fallen N X sh l rm (18, [(0, .inr (.inl 8, 0)), (1, .inl (.inl x1)), (2, .inl (.inl x2)), (3, .inl (.inl x3)), (4, .inl (.inl x4)), (5, .inl (.inl x5)), (6, .inl (.inl x6))], [], σ) (some (.inl (.inl res.1)), res.2)) (σ : yS) (x1 : Int) (x2 : Int) (x3 : Int) (x5 : Int) (x6 : Int) (x7 : Int) (s0 : Int) (s1 : Int) (res : Int × yS) (h : f_X8_fallen_b74 N k6 k18 σ x1 x2 x3 x5 x6 x7 s0 s1 = some res) : G_X8_fallen N X sh l rm (74, [(0, .inr (.inl 8, 0)), (1, .inl (.inl x1)), (2, .inl (.inl x2)), (3, .inl (.inl x3)), (5, .inl (.inl x5)), (6, .inl (.inl x6)), (7, .inl (.inl x7))], [.inl (.inl s0), .inl (.inl s1)], σ) (some (.inl (.inl res.1)), res.2) := by
  unfold f_X8_fallen_b74 at h
  cases hr1 : f_X8_flag N σ s0 with
  | none => rw [hr1] at h; dsimp only at h; cases h
  | some r4 =>
    rw [hr1] at h
    dsimp only at h
    refine yG_c (C1 := (77, [(0, .inr (.inl 8, 0)), (1, .inl (.inl x1)), (2, .inl (.inl x2)), (3, .inl (.inl x3)), (5, .inl (.inl x5)), (6, .inl (.inl x6)), (7, .inl (.inl x7))], [.inl (.inl r4.1), .inl (.inl s1)], r4.2)) rfl (e_X8_flag hr1) rfl ?_
    refine yG_n (n := 2) (C' := (81, [(0, .inr (.inl 8, 0)), (1, .inl (.inl x1)), (2, .inl (.inl x2)), (3, .inl (.inl x3)), (5, .inl (.inl x5)), (6, .inl (.inl x6)), (7, .inl (.inl x7))], [.inl (.inl ((-4))), .inl (.inl x7), .inl (.inl r4.1), .inl (.inl s1)], r4.2)) rfl ?_
    cases hg2 : ycP .ne x7 ((-4)) with
    | true =>
      rw [hg2] at h
      dsimp only [cond] at h
      refine yG_t (C' := (88, [(0, .inr (.inl 8, 0)), (1, .inl (.inl x1)), (2, .inl (.inl x2)), (3, .inl (.inl x3)), (5, .inl (.inl x5)), (6, .inl (.inl x6)), (7, .inl (.inl x7))], [.inl (.inl r4.1), .inl (.inl s1)], r4.2)) rfl hg2 ?_
      refine yG_n (n := 1) (C' := (90, [(0, .inr (.inl 8, 0)), (1, .inl (.inl x1)), (2, .inl (.inl x2)), (3, .inl (.inl x3)), (5, .inl (.inl x5)), (6, .inl (.inl x6)), (7, .inl (.inl x7))], [.inl (.inl x7), .inl (.inl r4.1), .inl (.inl s1)], r4.2)) rfl ?_
      exact yG_w [0, 1, 2, 3, 4, 5] rfl (t_X8_fallen_b90 k6 hk6 k18 hk18 r4.2 x1 x2 x3 x5 x6 x7 r4.1 s1 res h)
    | false =>
      rw [hg2] at h
      dsimp only [cond] at h
      refine yG_f (C' := (84, [(0, .inr (.inl 8, 0)), (1, .inl (.inl x1)), (2, .inl (.inl x2)), (3, .inl (.inl x3)), (5, .inl (.inl x5)), (6, .inl (.inl x6)), (7, .inl (.inl x7))], [.inl (.inl r4.1), .inl (.inl s1)], r4.2)) rfl hg2 ?_
      refine yG_n (n := 2) (C' := (90, [(0, .inr (.inl 8, 0)), (1, .inl (.inl x1)), (2, .inl (.inl x2)), (3, .inl (.inl x3)), (5, .inl (.inl x5)), (6, .inl (.inl x6)), (7, .inl (.inl x7))], [.inl (.inl 0), .inl (.inl r4.1), .inl (.inl s1)], r4.2)) rfl ?_
      exact yG_w [0, 1, 2, 3, 4, 5] rfl (t_X8_fallen_b90 k6 hk6 k18 hk18 r4.2 x1 x2 x3 x5 x6 0 r4.1 s1 res h)
set_option maxRecDepth 100000 in
set_option maxHeartbeats 4000000 in
theorem t_X8_fallen_b73 {N : Nat} {X : zXT} {sh : List yH} {l : Launch} {rm : Room} (k6 : yS → Int → Int → Int → Int → Int → Option (Int × yS)) (hk6 : ∀ (σ : yS) (x1 : Int) (x2 : Int) (x3 : Int) (x4 : Int) (x5 : Int) (res : Int × yS), k6 σ x1 x2 x3 x4 x5 = some res → G_X8_fallen N X sh l rm (6, [(0, .inr (.inl 8, 0)), (1, .inl (.inl x1)), (2, .inl (.inl x2)), (3, .inl (.inl x3)), (4, .inl (.inl x4)), (5, .inl (.inl x5))], [], σ) (some (.inl (.inl res.1)), res.2)) (k18 : yS → Int → Int → Int → Int → Int → Int → Option (Int × yS)) (hk18 : ∀ (σ : yS) (x1 : Int) (x2 : Int) (x3 : Int) (x4 : Int) (x5 : Int) (x6 : Int) (res : Int × yS), k18 σ x1 x2 x3 x4 x5 x6 = some res → G_X8_fallen N X sh l rm (18, [(0, .inr (.inl 8, 0)), (1, .inl (.inl x1)), (2, .inl (.inl x2)), (3, .inl (.inl x3)), (4, .inl (.inl x4)), (5, .inl (.inl x5)), (6, .inl (.inl x6))], [], σ) (some (.inl (.inl res.1)), res.2)) (σ : yS) (x1 : Int) (x2 : Int) (x3 : Int) (x5 : Int) (x6 : Int) (x7 : Int) (s0 : Int) (res : Int × yS) (h : f_X8_fallen_b73 N k6 k18 σ x1 x2 x3 x5 x6 x7 s0 = some res) : G_X8_fallen N X sh l rm (73, [(0, .inr (.inl 8, 0)), (1, .inl (.inl x1)), (2, .inl (.inl x2)), (3, .inl (.inl x3)), (5, .inl (.inl x5)), (6, .inl (.inl x6)), (7, .inl (.inl x7))], [.inl (.inl s0)], σ) (some (.inl (.inl res.1)), res.2) := by
  unfold f_X8_fallen_b73 at h
  refine yG_n (n := 1) (C' := (74, [(0, .inr (.inl 8, 0)), (1, .inl (.inl x1)), (2, .inl (.inl x2)), (3, .inl (.inl x3)), (5, .inl (.inl x5)), (6, .inl (.inl x6)), (7, .inl (.inl x7))], [.inl (.inl 0), .inl (.inl s0)], σ)) rfl ?_
  exact t_X8_fallen_b74 k6 hk6 k18 hk18 σ x1 x2 x3 x5 x6 x7 0 s0 res h
set_option maxRecDepth 100000 in
set_option maxHeartbeats 4000000 in
theorem t_X8_fallen_b18 {N : Nat} {X : zXT} {sh : List yH} {l : Launch} {rm : Room} (k6 : yS → Int → Int → Int → Int → Int → Option (Int × yS)) (hk6 : ∀ (σ : yS) (x1 : Int) (x2 : Int) (x3 : Int) (x4 : Int) (x5 : Int) (res : Int × yS), k6 σ x1 x2 x3 x4 x5 = some res → G_X8_fallen N X sh l rm (6, [(0, .inr (.inl 8, 0)), (1, .inl (.inl x1)), (2, .inl (.inl x2)), (3, .inl (.inl x3)), (4, .inl (.inl x4)), (5, .inl (.inl x5))], [], σ) (some (.inl (.inl res.1)), res.2)) : ∀ (n : Nat) (σ : yS) (x1 : Int) (x2 : Int) (x3 : Int) (x4 : Int) (x5 : Int) (x6 : Int) (res : Int × yS), f_X8_fallen_b18 N k6 n σ x1 x2 x3 x4 x5 x6 = some res → G_X8_fallen N X sh l rm (18, [(0, .inr (.inl 8, 0)), (1, .inl (.inl x1)), (2, .inl (.inl x2)), (3, .inl (.inl x3)), (4, .inl (.inl x4)), (5, .inl (.inl x5)), (6, .inl (.inl x6))], [], σ) (some (.inl (.inl res.1)), res.2) := by
  intro n
  induction n with
  | zero => intro σ x1 x2 x3 x4 x5 x6 res h; exact (yno h).elim
  | succ n ih =>
    intro σ x1 x2 x3 x4 x5 x6 res h
    rw [q_X8_fallen_b18] at h
    refine yG_n (n := 2) (C' := (21, [(0, .inr (.inl 8, 0)), (1, .inl (.inl x1)), (2, .inl (.inl x2)), (3, .inl (.inl x3)), (4, .inl (.inl x4)), (5, .inl (.inl x5)), (6, .inl (.inl x6))], [.inl (.inl x2), .inl (.inl x6)], σ)) rfl ?_
    cases hr3 : f_X8_fallsOf N σ x2 with
    | none => rw [hr3] at h; dsimp only at h; cases h
    | some r1 =>
      rw [hr3] at h
      dsimp only at h
      refine yG_c (C1 := (24, [(0, .inr (.inl 8, 0)), (1, .inl (.inl x1)), (2, .inl (.inl x2)), (3, .inl (.inl x3)), (4, .inl (.inl x4)), (5, .inl (.inl x5)), (6, .inl (.inl x6))], [.inl (.inl r1.1), .inl (.inl x6)], r1.2)) rfl (e_X8_fallsOf hr3) rfl ?_
      cases hg4 : ycP .ge x6 r1.1 with
      | true =>
        rw [hg4] at h
        dsimp only [cond] at h
        refine yG_t (C' := (100, [(0, .inr (.inl 8, 0)), (1, .inl (.inl x1)), (2, .inl (.inl x2)), (3, .inl (.inl x3)), (4, .inl (.inl x4)), (5, .inl (.inl x5)), (6, .inl (.inl x6))], [], r1.2)) rfl hg4 ?_
        refine yG_n (n := 2) (C' := (6, [(5, .inl (.inl (yad x5 1))), (0, .inr (.inl 8, 0)), (1, .inl (.inl x1)), (2, .inl (.inl x2)), (3, .inl (.inl x3)), (4, .inl (.inl x4)), (6, .inl (.inl x6))], [], r1.2)) rfl ?_
        exact yG_w [1, 2, 3, 4, 5, 0] rfl (hk6 r1.2 x1 x2 x3 x4 (yad x5 1) res h)
      | false =>
        rw [hg4] at h
        dsimp only [cond] at h
        refine yG_f (C' := (27, [(0, .inr (.inl 8, 0)), (1, .inl (.inl x1)), (2, .inl (.inl x2)), (3, .inl (.inl x3)), (4, .inl (.inl x4)), (5, .inl (.inl x5)), (6, .inl (.inl x6))], [], r1.2)) rfl hg4 ?_
        refine yG_n (n := 4) (C' := (33, [(0, .inr (.inl 8, 0)), (1, .inl (.inl x1)), (2, .inl (.inl x2)), (3, .inl (.inl x3)), (4, .inl (.inl x4)), (5, .inl (.inl x5)), (6, .inl (.inl x6))], [.inl (.inl x6), .inl (.inl x2), .inl (.inl x5), .inr (.inl 8, 0)], r1.2)) rfl ?_
        cases hr5 : f_X8_byOf N r1.2 x2 x6 with
        | none => rw [hr5] at h; dsimp only at h; cases h
        | some r2 =>
          rw [hr5] at h
          dsimp only at h
          refine yG_c (C1 := (36, [(0, .inr (.inl 8, 0)), (1, .inl (.inl x1)), (2, .inl (.inl x2)), (3, .inl (.inl x3)), (4, .inl (.inl x4)), (5, .inl (.inl x5)), (6, .inl (.inl x6))], [.inl (.inl r2.1), .inl (.inl x5), .inr (.inl 8, 0)], r2.2)) rfl (e_X8_byOf hr5) rfl ?_
          cases hr6 : f_X8_off N r2.2 x5 r2.1 with
          | none => rw [hr6] at h; dsimp only at h; cases h
          | some r3 =>
            rw [hr6] at h
            dsimp only at h
            refine yG_c (C1 := (39, [(0, .inr (.inl 8, 0)), (1, .inl (.inl x1)), (2, .inl (.inl x2)), (3, .inl (.inl x3)), (4, .inl (.inl x4)), (5, .inl (.inl x5)), (6, .inl (.inl x6))], [.inl (.inl r3.1)], r3.2)) rfl (e_X8_off hr6) rfl ?_
            refine yG_n (n := 8) (C' := (50, [(7, .inl (.inl r3.1)), (0, .inr (.inl 8, 0)), (1, .inl (.inl x1)), (2, .inl (.inl x2)), (3, .inl (.inl x3)), (4, .inl (.inl x4)), (5, .inl (.inl x5)), (6, .inl (.inl x6))], [.inl (.inl 1), .inl (.inl (yan (ysr x1 x5) 1)), .inl (.inl x4)], r3.2)) rfl ?_
            cases hg7 : ycP .ne (yan (ysr x1 x5) 1) 1 with
            | true =>
              rw [hg7] at h
              dsimp only [cond] at h
              refine yG_t (C' := (73, [(7, .inl (.inl r3.1)), (0, .inr (.inl 8, 0)), (1, .inl (.inl x1)), (2, .inl (.inl x2)), (3, .inl (.inl x3)), (4, .inl (.inl x4)), (5, .inl (.inl x5)), (6, .inl (.inl x6))], [.inl (.inl x4)], r3.2)) rfl hg7 ?_
              exact yG_w [1, 2, 3, 4, 6, 7, 0] rfl (t_X8_fallen_b73 k6 hk6 (f_X8_fallen_b18 N k6 n) ih r3.2 x1 x2 x3 x5 x6 r3.1 x4 res h)
            | false =>
              rw [hg7] at h
              dsimp only [cond] at h
              refine yG_f (C' := (53, [(7, .inl (.inl r3.1)), (0, .inr (.inl 8, 0)), (1, .inl (.inl x1)), (2, .inl (.inl x2)), (3, .inl (.inl x3)), (4, .inl (.inl x4)), (5, .inl (.inl x5)), (6, .inl (.inl x6))], [.inl (.inl x4)], r3.2)) rfl hg7 ?_
              refine yG_n (n := 2) (C' := (57, [(7, .inl (.inl r3.1)), (0, .inr (.inl 8, 0)), (1, .inl (.inl x1)), (2, .inl (.inl x2)), (3, .inl (.inl x3)), (4, .inl (.inl x4)), (5, .inl (.inl x5)), (6, .inl (.inl x6))], [.inl (.inl ((-4))), .inl (.inl r3.1), .inl (.inl x4)], r3.2)) rfl ?_
              cases hg8 : ycP .eq r3.1 ((-4)) with
              | true =>
                rw [hg8] at h
                dsimp only [cond] at h
                refine yG_t (C' := (73, [(7, .inl (.inl r3.1)), (0, .inr (.inl 8, 0)), (1, .inl (.inl x1)), (2, .inl (.inl x2)), (3, .inl (.inl x3)), (4, .inl (.inl x4)), (5, .inl (.inl x5)), (6, .inl (.inl x6))], [.inl (.inl x4)], r3.2)) rfl hg8 ?_
                exact yG_w [1, 2, 3, 4, 6, 7, 0] rfl (t_X8_fallen_b73 k6 hk6 (f_X8_fallen_b18 N k6 n) ih r3.2 x1 x2 x3 x5 x6 r3.1 x4 res h)
              | false =>
                rw [hg8] at h
                dsimp only [cond] at h
                refine yG_f (C' := (60, [(7, .inl (.inl r3.1)), (0, .inr (.inl 8, 0)), (1, .inl (.inl x1)), (2, .inl (.inl x2)), (3, .inl (.inl x3)), (4, .inl (.inl x4)), (5, .inl (.inl x5)), (6, .inl (.inl x6))], [.inl (.inl x4)], r3.2)) rfl hg8 ?_
                refine yG_n (n := 5) (C' := (66, [(7, .inl (.inl r3.1)), (0, .inr (.inl 8, 0)), (1, .inl (.inl x1)), (2, .inl (.inl x2)), (3, .inl (.inl x3)), (4, .inl (.inl x4)), (5, .inl (.inl x5)), (6, .inl (.inl x6))], [.inl (.inl (yan (ysr x3 r3.1) 1)), .inl (.inl x4)], r3.2)) rfl ?_
                cases hg9 : ycP .ne (yan (ysr x3 r3.1) 1) 0 with
                | true =>
                  rw [hg9] at h
                  dsimp only [cond] at h
                  refine yG_t (C' := (73, [(7, .inl (.inl r3.1)), (0, .inr (.inl 8, 0)), (1, .inl (.inl x1)), (2, .inl (.inl x2)), (3, .inl (.inl x3)), (4, .inl (.inl x4)), (5, .inl (.inl x5)), (6, .inl (.inl x6))], [.inl (.inl x4)], r3.2)) rfl hg9 ?_
                  exact yG_w [1, 2, 3, 4, 6, 7, 0] rfl (t_X8_fallen_b73 k6 hk6 (f_X8_fallen_b18 N k6 n) ih r3.2 x1 x2 x3 x5 x6 r3.1 x4 res h)
                | false =>
                  rw [hg9] at h
                  dsimp only [cond] at h
                  refine yG_f (C' := (69, [(7, .inl (.inl r3.1)), (0, .inr (.inl 8, 0)), (1, .inl (.inl x1)), (2, .inl (.inl x2)), (3, .inl (.inl x3)), (4, .inl (.inl x4)), (5, .inl (.inl x5)), (6, .inl (.inl x6))], [.inl (.inl x4)], r3.2)) rfl hg9 ?_
                  refine yG_n (n := 2) (C' := (74, [(7, .inl (.inl r3.1)), (0, .inr (.inl 8, 0)), (1, .inl (.inl x1)), (2, .inl (.inl x2)), (3, .inl (.inl x3)), (4, .inl (.inl x4)), (5, .inl (.inl x5)), (6, .inl (.inl x6))], [.inl (.inl 1), .inl (.inl x4)], r3.2)) rfl ?_
                  exact yG_w [1, 2, 3, 4, 6, 7, 0] rfl (t_X8_fallen_b74 k6 hk6 (f_X8_fallen_b18 N k6 n) ih r3.2 x1 x2 x3 x5 x6 r3.1 1 x4 res h)
set_option maxRecDepth 100000 in
set_option maxHeartbeats 4000000 in
theorem t_X8_fallen_b6 {N : Nat} {X : zXT} {sh : List yH} {l : Launch} {rm : Room} : ∀ (n : Nat) (σ : yS) (x1 : Int) (x2 : Int) (x3 : Int) (x4 : Int) (x5 : Int) (res : Int × yS), f_X8_fallen_b6 N n σ x1 x2 x3 x4 x5 = some res → G_X8_fallen N X sh l rm (6, [(0, .inr (.inl 8, 0)), (1, .inl (.inl x1)), (2, .inl (.inl x2)), (3, .inl (.inl x3)), (4, .inl (.inl x4)), (5, .inl (.inl x5))], [], σ) (some (.inl (.inl res.1)), res.2) := by
  intro n
  induction n with
  | zero => intro σ x1 x2 x3 x4 x5 res h; exact (yno h).elim
  | succ n ih =>
    intro σ x1 x2 x3 x4 x5 res h
    rw [q_X8_fallen_b6] at h
    refine yG_n (n := 3) (C' := (12, [(0, .inr (.inl 8, 0)), (1, .inl (.inl x1)), (2, .inl (.inl x2)), (3, .inl (.inl x3)), (4, .inl (.inl x4)), (5, .inl (.inl x5))], [.inl (.inl (σ.1 0 3)), .inl (.inl x5)], σ)) rfl ?_
    cases hg10 : ycP .ge x5 (σ.1 0 3) with
    | true =>
      rw [hg10] at h
      dsimp only [cond] at h
      refine yG_t (C' := (106, [(0, .inr (.inl 8, 0)), (1, .inl (.inl x1)), (2, .inl (.inl x2)), (3, .inl (.inl x3)), (4, .inl (.inl x4)), (5, .inl (.inl x5))], [], σ)) rfl hg10 ?_
      refine yG_n (n := 1) (C' := (108, [(0, .inr (.inl 8, 0)), (1, .inl (.inl x1)), (2, .inl (.inl x2)), (3, .inl (.inl x3)), (4, .inl (.inl x4)), (5, .inl (.inl x5))], [.inl (.inl x4)], σ)) rfl ?_
      have h := Option.some.inj h
      subst h
      dsimp only
      exact yG_r rfl rfl
    | false =>
      rw [hg10] at h
      dsimp only [cond] at h
      refine yG_f (C' := (15, [(0, .inr (.inl 8, 0)), (1, .inl (.inl x1)), (2, .inl (.inl x2)), (3, .inl (.inl x3)), (4, .inl (.inl x4)), (5, .inl (.inl x5))], [], σ)) rfl hg10 ?_
      refine yG_n (n := 2) (C' := (18, [(6, .inl (.inl 0)), (0, .inr (.inl 8, 0)), (1, .inl (.inl x1)), (2, .inl (.inl x2)), (3, .inl (.inl x3)), (4, .inl (.inl x4)), (5, .inl (.inl x5))], [], σ)) rfl ?_
      exact yG_w [1, 2, 3, 4, 5, 6, 0] rfl (t_X8_fallen_b18 (f_X8_fallen_b6 N n) ih N σ x1 x2 x3 x4 x5 0 res h)
set_option maxRecDepth 100000 in
set_option maxHeartbeats 4000000 in
theorem t_X8_fallen {N : Nat} {X : zXT} {sh : List yH} {l : Launch} {rm : Room} (σ : yS) (x1 : Int) (x2 : Int) (x3 : Int) (res : Int × yS) (h : f_X8_fallen N σ x1 x2 x3 = some res) : G_X8_fallen N X sh l rm (0, [(0, .inr (.inl 8, 0)), (1, .inl (.inl x1)), (2, .inl (.inl x2)), (3, .inl (.inl x3))], [], σ) (some (.inl (.inl res.1)), res.2) := by
  unfold f_X8_fallen at h
  refine yG_n (n := 4) (C' := (6, [(5, .inl (.inl 0)), (4, .inl (.inl 0)), (0, .inr (.inl 8, 0)), (1, .inl (.inl x1)), (2, .inl (.inl x2)), (3, .inl (.inl x3))], [], σ)) rfl ?_
  exact yG_w [2, 3, 4, 5, 1, 0] rfl (t_X8_fallen_b6 N σ x1 x2 x3 0 0 res h)
set_option maxRecDepth 100000 in
set_option maxHeartbeats 4000000 in
theorem m_X8_fallen {N : Nat} {X : zXT} (hX : zXok X) (hN : zXn X) (l : Launch) {sh : List yH} : yMet X vwCl yct sh l yX8_fallen wsX8_fallen { frames := 3, cells := 0, slots := 0, locals := 112 } (F_X8_fallen N) :=
  ymeth (tb := tb_X8_fallen N) (pr := pr_X8_fallen) (rt := 1) (own := RX8) hX (by decide +kernel) rfl rfl ⟨Nat.le_of_ble_eq_true rfl, Nat.le_of_ble_eq_true rfl⟩
    (zfl_all (List.forall_mem_cons.mpr ⟨zfl_X8 (fun w h => List.mem_cons_of_mem _ (List.mem_append_right _ h)) (List.mem_of_getElem? (i := 1) rfl) (by decide) (by decide), fun _ h => absurd h List.not_mem_nil⟩))
    (zco_all (fun _ h => absurd h List.not_mem_nil)) (zlc_all (fun _ h => absurd h List.not_mem_nil))
    (List.forall_mem_cons.mpr ⟨ycal_V hX (m_X8_off hX hN l) rfl (fun s args hts => cwV 2 hts gX8_fallen_X8_off rfl rfl rfl (by decide +kernel) ⟨Nat.le_of_ble_eq_true rfl, Nat.le_of_ble_eq_true rfl⟩), fun _ h => absurd h List.not_mem_nil⟩)
    (List.forall_mem_cons.mpr ⟨ycal_S hX (m_X8_flag hX hN l) (fun s args hts => va_cwS 1 hts gX8_fallen_X8_flag rfl rfl rfl (by decide +kernel) ⟨Nat.le_of_ble_eq_true rfl, Nat.le_of_ble_eq_true rfl⟩), List.forall_mem_cons.mpr ⟨ycal_S hX (m_X8_fallsOf hX hN l) (fun s args hts => va_cwS 1 hts gX8_fallen_X8_fallsOf rfl rfl rfl (by decide +kernel) ⟨Nat.le_of_ble_eq_true rfl, Nat.le_of_ble_eq_true rfl⟩), List.forall_mem_cons.mpr ⟨ycal_S hX (m_X8_byOf hX hN l) (fun s args hts => va_cwS 2 hts gX8_fallen_X8_byOf rfl rfl rfl (by decide +kernel) ⟨Nat.le_of_ble_eq_true rfl, Nat.le_of_ble_eq_true rfl⟩), fun _ h => absurd h List.not_mem_nil⟩⟩⟩)
    (zmm_all (fun _ h => absurd h List.not_mem_nil)) (fun _ h => absurd h List.not_mem_nil) (zpr_all hp_X8_fallen) (fun as σ res h => by
      unfold F_X8_fallen at h
      split at h
      · rename_i x1 x2 x3
        cases hr : f_X8_fallen N σ x1 x2 x3 with
        | none => rw [hr] at h; cases h
        | some r =>
          rw [hr] at h
          cases h
          exact ⟨Nat.le_of_ble_eq_true rfl, t_X8_fallen σ x1 x2 x3 r hr⟩
      · cases h)
noncomputable def pr_X8_endsAt : List (Nat × Instr × Nat) := [(0, .iconst 1, 1), (1, .iload_n 1, 1), (2, .ishl, 1), (3, .istore 4, 2), (5, .iconst 0, 1), (6, .istore 5, 2), (8, .iload 5, 2), (10, .iload_n 3, 1), (11, .if_icmp .gt 22, 3), (14, .aload_n 0, 1), (15, .iload 4, 2), (17, .iload_n 2, 1), (18, .aload_n 0, 1), (19, .invokevirtual 272, 3), (22, .invokevirtual 275, 3), (25, .istore 4, 2), (27, .iinc 5 1, 3), (30, .goto (-22), 3), (33, .iload 4, 2), (35, .ireturn, 1)]
set_option maxRecDepth 100000 in
theorem hp_X8_endsAt : pr_X8_endsAt.all (fun x => decide (decode cX8_endsAt x.1 = .ok x.2)) = true := by decide +kernel
noncomputable def f_X8_endsAt_b8 (N : Nat) : Nat → yS → Int → Int → Int → Int → Option (Int × yS) := yfix (fun _ _ _ _ _ => none) (fun ih σ x2 x3 x4 x5 =>
    bif ycP .gt x5 x3 then
      some (x4, σ)
    else
      match f_X8_lawyersNow N σ with
      | none => none
      | some r1 => match f_X8_fallen N r1.2 x4 x2 r1.1 with
        | none => none
        | some r2 => ih r2.2 x2 x3 r2.1 (yad x5 1))
theorem q_X8_endsAt_b8 (N : Nat) (n : Nat) (σ : yS) (x2 : Int) (x3 : Int) (x4 : Int) (x5 : Int) : f_X8_endsAt_b8 N (n + 1) σ x2 x3 x4 x5 =
    (bif ycP .gt x5 x3 then
      some (x4, σ)
    else
      match f_X8_lawyersNow N σ with
      | none => none
      | some r1 => match f_X8_fallen N r1.2 x4 x2 r1.1 with
        | none => none
        | some r2 => (f_X8_endsAt_b8 N n) r2.2 x2 x3 r2.1 (yad x5 1)) := rfl
noncomputable def f_X8_endsAt (N : Nat) (σ : yS) (x1 : Int) (x2 : Int) (x3 : Int) : Option (Int × yS) :=
  f_X8_endsAt_b8 N N σ x2 x3 (ysl 1 x1) 0
noncomputable def F_X8_endsAt (N : Nat) : yF := fun as σ => match as with
  | [.inr (.inl 8, 0), .inl (.inl x1), .inl (.inl x2), .inl (.inl x3)] => (f_X8_endsAt N σ x1 x2 x3).map (fun r => (some (.inl (.inl r.1)), r.2))
  | _ => none
theorem e_X8_endsAt {N : Nat} {σ : yS} {x1 : Int} {x2 : Int} {x3 : Int} {r : Int × yS} (h : f_X8_endsAt N σ x1 x2 x3 = some r) : F_X8_endsAt N [.inr (.inl 8, 0), .inl (.inl x1), .inl (.inl x2), .inl (.inl x3)] σ = some (some (.inl (.inl r.1)), r.2) := by
  show (f_X8_endsAt N σ x1 x2 x3).map (fun r => ((some (.inl (.inl r.1)), r.2) : yR)) = _
  rw [h]
  rfl
noncomputable def tb_X8_endsAt (N : Nat) : yTb := ([], [], [], [(272, 1, 8, F_X8_lawyersNow N), (275, 4, 8, F_X8_fallen N)], [], [], [])
abbrev G_X8_endsAt (N : Nat) (X : zXT) (sh : List yH) (l : Launch) (rm : Room) : yC → yR → Prop := yGoes X vwCl yct sh l rm cX8_endsAt 6 wsX8_endsAt RX8 (tb_X8_endsAt N) pr_X8_endsAt 1
set_option maxRecDepth 100000 in
set_option maxHeartbeats 4000000 in
theorem t_X8_endsAt_b8 {N : Nat} {X : zXT} {sh : List yH} {l : Launch} {rm : Room} : ∀ (n : Nat) (σ : yS) (x2 : Int) (x3 : Int) (x4 : Int) (x5 : Int) (res : Int × yS), f_X8_endsAt_b8 N n σ x2 x3 x4 x5 = some res → G_X8_endsAt N X sh l rm (8, [(0, .inr (.inl 8, 0)), (2, .inl (.inl x2)), (3, .inl (.inl x3)), (4, .inl (.inl x4)), (5, .inl (.inl x5))], [], σ) (some (.inl (.inl res.1)), res.2) := by
  intro n
  induction n with
  | zero => intro σ x2 x3 x4 x5 res h; exact (yno h).elim
  | succ n ih =>
    intro σ x2 x3 x4 x5 res h
    rw [q_X8_endsAt_b8] at h
    refine yG_n (n := 2) (C' := (11, [(0, .inr (.inl 8, 0)), (2, .inl (.inl x2)), (3, .inl (.inl x3)), (4, .inl (.inl x4)), (5, .inl (.inl x5))], [.inl (.inl x3), .inl (.inl x5)], σ)) rfl ?_
    cases hg1 : ycP .gt x5 x3 with
    | true =>
      rw [hg1] at h
      dsimp only [cond] at h
      refine yG_t (C' := (33, [(0, .inr (.inl 8, 0)), (2, .inl (.inl x2)), (3, .inl (.inl x3)), (4, .inl (.inl x4)), (5, .inl (.inl x5))], [], σ)) rfl hg1 ?_
      refine yG_n (n := 1) (C' := (35, [(0, .inr (.inl 8, 0)), (2, .inl (.inl x2)), (3, .inl (.inl x3)), (4, .inl (.inl x4)), (5, .inl (.inl x5))], [.inl (.inl x4)], σ)) rfl ?_
      have h := Option.some.inj h
      subst h
      dsimp only
      exact yG_r rfl rfl
    | false =>
      rw [hg1] at h
      dsimp only [cond] at h
      refine yG_f (C' := (14, [(0, .inr (.inl 8, 0)), (2, .inl (.inl x2)), (3, .inl (.inl x3)), (4, .inl (.inl x4)), (5, .inl (.inl x5))], [], σ)) rfl hg1 ?_
      refine yG_n (n := 4) (C' := (19, [(0, .inr (.inl 8, 0)), (2, .inl (.inl x2)), (3, .inl (.inl x3)), (4, .inl (.inl x4)), (5, .inl (.inl x5))], [.inr (.inl 8, 0), .inl (.inl x2), .inl (.inl x4), .inr (.inl 8, 0)], σ)) rfl ?_
      cases hr2 : f_X8_lawyersNow N σ with
      | none => rw [hr2] at h; dsimp only at h; cases h
      | some r1 =>
        rw [hr2] at h
        dsimp only at h
        refine yG_c (C1 := (22, [(0, .inr (.inl 8, 0)), (2, .inl (.inl x2)), (3, .inl (.inl x3)), (4, .inl (.inl x4)), (5, .inl (.inl x5))], [.inl (.inl r1.1), .inl (.inl x2), .inl (.inl x4), .inr (.inl 8, 0)], r1.2)) rfl (e_X8_lawyersNow hr2) rfl ?_
        cases hr3 : f_X8_fallen N r1.2 x4 x2 r1.1 with
        | none => rw [hr3] at h; dsimp only at h; cases h
        | some r2 =>
          rw [hr3] at h
          dsimp only at h
          refine yG_c (C1 := (25, [(0, .inr (.inl 8, 0)), (2, .inl (.inl x2)), (3, .inl (.inl x3)), (4, .inl (.inl x4)), (5, .inl (.inl x5))], [.inl (.inl r2.1)], r2.2)) rfl (e_X8_fallen hr3) rfl ?_
          refine yG_n (n := 3) (C' := (8, [(5, .inl (.inl (yad x5 1))), (4, .inl (.inl r2.1)), (0, .inr (.inl 8, 0)), (2, .inl (.inl x2)), (3, .inl (.inl x3))], [], r2.2)) rfl ?_
          exact yG_w [2, 3, 4, 1, 0] rfl (ih r2.2 x2 x3 r2.1 (yad x5 1) res h)
set_option maxRecDepth 100000 in
set_option maxHeartbeats 4000000 in
theorem t_X8_endsAt {N : Nat} {X : zXT} {sh : List yH} {l : Launch} {rm : Room} (σ : yS) (x1 : Int) (x2 : Int) (x3 : Int) (res : Int × yS) (h : f_X8_endsAt N σ x1 x2 x3 = some res) : G_X8_endsAt N X sh l rm (0, [(0, .inr (.inl 8, 0)), (1, .inl (.inl x1)), (2, .inl (.inl x2)), (3, .inl (.inl x3))], [], σ) (some (.inl (.inl res.1)), res.2) := by
  unfold f_X8_endsAt at h
  refine yG_n (n := 6) (C' := (8, [(5, .inl (.inl 0)), (4, .inl (.inl (ysl 1 x1))), (0, .inr (.inl 8, 0)), (1, .inl (.inl x1)), (2, .inl (.inl x2)), (3, .inl (.inl x3))], [], σ)) rfl ?_
  exact yG_w [2, 4, 5, 1, 0] rfl (t_X8_endsAt_b8 N σ x2 x3 (ysl 1 x1) 0 res h)
set_option maxRecDepth 100000 in
set_option maxHeartbeats 4000000 in
theorem m_X8_endsAt {N : Nat} {X : zXT} (hX : zXok X) (hN : zXn X) (l : Launch) {sh : List yH} : yMet X vwCl yct sh l yX8_endsAt wsX8_endsAt { frames := 4, cells := 0, slots := 0, locals := 139 } (F_X8_endsAt N) :=
  ymeth (tb := tb_X8_endsAt N) (pr := pr_X8_endsAt) (rt := 1) (own := RX8) hX (by decide +kernel) rfl rfl ⟨Nat.le_of_ble_eq_true rfl, Nat.le_of_ble_eq_true rfl⟩
    (zfl_all (fun _ h => absurd h List.not_mem_nil))
    (zco_all (fun _ h => absurd h List.not_mem_nil)) (zlc_all (fun _ h => absurd h List.not_mem_nil))
    (List.forall_mem_cons.mpr ⟨ycal_V hX (m_X8_lawyersNow hX hN l) rfl (fun s args hts => cwV 0 hts gX8_endsAt_X8_lawyersNow rfl rfl rfl (by decide +kernel) ⟨Nat.le_of_ble_eq_true rfl, Nat.le_of_ble_eq_true rfl⟩), List.forall_mem_cons.mpr ⟨ycal_V hX (m_X8_fallen hX hN l) rfl (fun s args hts => cwV 3 hts gX8_endsAt_X8_fallen rfl rfl rfl (by decide +kernel) ⟨Nat.le_of_ble_eq_true rfl, Nat.le_of_ble_eq_true rfl⟩), fun _ h => absurd h List.not_mem_nil⟩⟩)
    (fun _ h => absurd h List.not_mem_nil)
    (zmm_all (fun _ h => absurd h List.not_mem_nil)) (fun _ h => absurd h List.not_mem_nil) (zpr_all hp_X8_endsAt) (fun as σ res h => by
      unfold F_X8_endsAt at h
      split at h
      · rename_i x1 x2 x3
        cases hr : f_X8_endsAt N σ x1 x2 x3 with
        | none => rw [hr] at h; cases h
        | some r =>
          rw [hr] at h
          cases h
          exact ⟨Nat.le_of_ble_eq_true rfl, t_X8_endsAt σ x1 x2 x3 r hr⟩
      · cases h)
noncomputable def pr_X8_doesBring : List (Nat × Instr × Nat) := [(0, .iload_n 2, 1), (1, .iconst 4, 1), (2, .if_icmp .eq 42, 3), (5, .aload_n 0, 1), (6, .getfield 7, 3), (9, .bipush 7, 2), (11, .iload 4, 2), (13, .iadd, 1), (14, .iaload, 1), (15, .iload 5, 2), (17, .ishr, 1), (18, .iconst 1, 1), (19, .iand, 1), (20, .iconst 1, 1), (21, .if_icmp .ne 23, 3), (24, .aload_n 0, 1), (25, .iload_n 1, 1), (26, .iload_n 2, 1), (27, .iload_n 3, 1), (28, .invokevirtual 279, 3), (31, .iload 4, 2), (33, .ishr, 1), (34, .iconst 1, 1), (35, .iand, 1), (36, .iconst 1, 1), (37, .if_icmp .ne 7, 3), (40, .iconst 1, 1), (41, .goto 4, 3), (44, .iconst 0, 1), (45, .ireturn, 1)]
set_option maxRecDepth 100000 in
theorem hp_X8_doesBring : pr_X8_doesBring.all (fun x => decide (decode cX8_doesBring x.1 = .ok x.2)) = true := by decide +kernel
noncomputable def f_X8_doesBring_b45 (N : Nat) (σ : yS) (s0 : Int) : Option (Int × yS) :=
  bif yb1 s0 then some (s0, σ) else none
noncomputable def f_X8_doesBring_b44 (N : Nat) (σ : yS) : Option (Int × yS) :=
  f_X8_doesBring_b45 N σ 0
noncomputable def f_X8_doesBring (N : Nat) (σ : yS) (x1 : Int) (x2 : Int) (x3 : Int) (x4 : Int) (x5 : Int) : Option (Int × yS) :=
  bif ycP .eq x2 4 then
    f_X8_doesBring_b44 N σ
  else
    bif yin (yad 7 x4) 393 then
      bif ycP .ne (yan (ysr (σ.1 1 (yad 7 x4).toNat) x5) 1) 1 then
        f_X8_doesBring_b44 N σ
      else
        match f_X8_endsAt N σ x1 x2 x3 with
        | none => none
        | some r1 => bif ycP .ne (yan (ysr r1.1 x4) 1) 1 then
            f_X8_doesBring_b44 N r1.2
          else
            f_X8_doesBring_b45 N r1.2 1
    else none
noncomputable def F_X8_doesBring (N : Nat) : yF := fun as σ => match as with
  | [.inr (.inl 8, 0), .inl (.inl x1), .inl (.inl x2), .inl (.inl x3), .inl (.inl x4), .inl (.inl x5)] => (f_X8_doesBring N σ x1 x2 x3 x4 x5).map (fun r => (some (.inl (.inl r.1)), r.2))
  | _ => none
theorem e_X8_doesBring {N : Nat} {σ : yS} {x1 : Int} {x2 : Int} {x3 : Int} {x4 : Int} {x5 : Int} {r : Int × yS} (h : f_X8_doesBring N σ x1 x2 x3 x4 x5 = some r) : F_X8_doesBring N [.inr (.inl 8, 0), .inl (.inl x1), .inl (.inl x2), .inl (.inl x3), .inl (.inl x4), .inl (.inl x5)] σ = some (some (.inl (.inl r.1)), r.2) := by
  show (f_X8_doesBring N σ x1 x2 x3 x4 x5).map (fun r => ((some (.inl (.inl r.1)), r.2) : yR)) = _
  rw [h]
  rfl
noncomputable def tb_X8_doesBring (N : Nat) : yTb := ([(7, 8, 0, 3)], [], [], [(279, 4, 8, F_X8_endsAt N)], [], [], [])
abbrev G_X8_doesBring (N : Nat) (X : zXT) (sh : List yH) (l : Launch) (rm : Room) : yC → yR → Prop := yGoes X vwCl yct sh l rm cX8_doesBring 6 wsX8_doesBring RX8 (tb_X8_doesBring N) pr_X8_doesBring 2
set_option maxRecDepth 100000 in
set_option maxHeartbeats 4000000 in
theorem t_X8_doesBring_b45 {N : Nat} {X : zXT} {sh : List yH} {l : Launch} {rm : Room} (σ : yS) (s0 : Int) (res : Int × yS) (h : f_X8_doesBring_b45 N σ s0 = some res) : G_X8_doesBring N X sh l rm (45, [], [.inl (.inl s0)], σ) (some (.inl (.inl res.1)), res.2) := by
  unfold f_X8_doesBring_b45 at h
  cases hg1 : yb1 s0 with
  | false => rw [hg1] at h; dsimp only [cond] at h; cases h
  | true =>
    rw [hg1] at h
    dsimp only [cond] at h
    have h := Option.some.inj h
    subst h
    dsimp only
    exact yG_r rfl hg1
set_option maxRecDepth 100000 in
set_option maxHeartbeats 4000000 in
theorem t_X8_doesBring_b44 {N : Nat} {X : zXT} {sh : List yH} {l : Launch} {rm : Room} (σ : yS) (res : Int × yS) (h : f_X8_doesBring_b44 N σ = some res) : G_X8_doesBring N X sh l rm (44, [], [], σ) (some (.inl (.inl res.1)), res.2) := by
  unfold f_X8_doesBring_b44 at h
  refine yG_n (n := 1) (C' := (45, [], [.inl (.inl 0)], σ)) rfl ?_
  exact t_X8_doesBring_b45 σ 0 res h
set_option maxRecDepth 100000 in
set_option maxHeartbeats 4000000 in
theorem t_X8_doesBring {N : Nat} {X : zXT} {sh : List yH} {l : Launch} {rm : Room} (σ : yS) (x1 : Int) (x2 : Int) (x3 : Int) (x4 : Int) (x5 : Int) (res : Int × yS) (h : f_X8_doesBring N σ x1 x2 x3 x4 x5 = some res) : G_X8_doesBring N X sh l rm (0, [(0, .inr (.inl 8, 0)), (1, .inl (.inl x1)), (2, .inl (.inl x2)), (3, .inl (.inl x3)), (4, .inl (.inl x4)), (5, .inl (.inl x5))], [], σ) (some (.inl (.inl res.1)), res.2) := by
  unfold f_X8_doesBring at h
  refine yG_n (n := 2) (C' := (2, [(0, .inr (.inl 8, 0)), (1, .inl (.inl x1)), (2, .inl (.inl x2)), (3, .inl (.inl x3)), (4, .inl (.inl x4)), (5, .inl (.inl x5))], [.inl (.inl 4), .inl (.inl x2)], σ)) rfl ?_
  cases hg2 : ycP .eq x2 4 with
  | true =>
    rw [hg2] at h
    dsimp only [cond] at h
    refine yG_t (C' := (44, [(0, .inr (.inl 8, 0)), (1, .inl (.inl x1)), (2, .inl (.inl x2)), (3, .inl (.inl x3)), (4, .inl (.inl x4)), (5, .inl (.inl x5))], [], σ)) rfl hg2 ?_
    exact yG_w [] rfl (t_X8_doesBring_b44 σ res h)
  | false =>
    rw [hg2] at h
    dsimp only [cond] at h
    refine yG_f (C' := (5, [(0, .inr (.inl 8, 0)), (1, .inl (.inl x1)), (2, .inl (.inl x2)), (3, .inl (.inl x3)), (4, .inl (.inl x4)), (5, .inl (.inl x5))], [], σ)) rfl hg2 ?_
    refine yG_n (n := 5) (C' := (14, [(0, .inr (.inl 8, 0)), (1, .inl (.inl x1)), (2, .inl (.inl x2)), (3, .inl (.inl x3)), (4, .inl (.inl x4)), (5, .inl (.inl x5))], [.inl (.inl (yad 7 x4)), .inr (.inr (0, 393), 1)], σ)) rfl ?_
    cases hg3 : yin (yad 7 x4) 393 with
    | false => rw [hg3] at h; dsimp only [cond] at h; cases h
    | true =>
      rw [hg3] at h
      dsimp only [cond] at h
      refine yG_t (C' := (15, [(0, .inr (.inl 8, 0)), (1, .inl (.inl x1)), (2, .inl (.inl x2)), (3, .inl (.inl x3)), (4, .inl (.inl x4)), (5, .inl (.inl x5))], [.inl (.inl (σ.1 1 (yad 7 x4).toNat))], σ)) rfl hg3 ?_
      refine yG_n (n := 5) (C' := (21, [(0, .inr (.inl 8, 0)), (1, .inl (.inl x1)), (2, .inl (.inl x2)), (3, .inl (.inl x3)), (4, .inl (.inl x4)), (5, .inl (.inl x5))], [.inl (.inl 1), .inl (.inl (yan (ysr (σ.1 1 (yad 7 x4).toNat) x5) 1))], σ)) rfl ?_
      cases hg4 : ycP .ne (yan (ysr (σ.1 1 (yad 7 x4).toNat) x5) 1) 1 with
      | true =>
        rw [hg4] at h
        dsimp only [cond] at h
        refine yG_t (C' := (44, [(0, .inr (.inl 8, 0)), (1, .inl (.inl x1)), (2, .inl (.inl x2)), (3, .inl (.inl x3)), (4, .inl (.inl x4)), (5, .inl (.inl x5))], [], σ)) rfl hg4 ?_
        exact yG_w [] rfl (t_X8_doesBring_b44 σ res h)
      | false =>
        rw [hg4] at h
        dsimp only [cond] at h
        refine yG_f (C' := (24, [(0, .inr (.inl 8, 0)), (1, .inl (.inl x1)), (2, .inl (.inl x2)), (3, .inl (.inl x3)), (4, .inl (.inl x4)), (5, .inl (.inl x5))], [], σ)) rfl hg4 ?_
        refine yG_n (n := 4) (C' := (28, [(0, .inr (.inl 8, 0)), (1, .inl (.inl x1)), (2, .inl (.inl x2)), (3, .inl (.inl x3)), (4, .inl (.inl x4)), (5, .inl (.inl x5))], [.inl (.inl x3), .inl (.inl x2), .inl (.inl x1), .inr (.inl 8, 0)], σ)) rfl ?_
        cases hr5 : f_X8_endsAt N σ x1 x2 x3 with
        | none => rw [hr5] at h; dsimp only at h; cases h
        | some r1 =>
          rw [hr5] at h
          dsimp only at h
          refine yG_c (C1 := (31, [(0, .inr (.inl 8, 0)), (1, .inl (.inl x1)), (2, .inl (.inl x2)), (3, .inl (.inl x3)), (4, .inl (.inl x4)), (5, .inl (.inl x5))], [.inl (.inl r1.1)], r1.2)) rfl (e_X8_endsAt hr5) rfl ?_
          refine yG_n (n := 5) (C' := (37, [(0, .inr (.inl 8, 0)), (1, .inl (.inl x1)), (2, .inl (.inl x2)), (3, .inl (.inl x3)), (4, .inl (.inl x4)), (5, .inl (.inl x5))], [.inl (.inl 1), .inl (.inl (yan (ysr r1.1 x4) 1))], r1.2)) rfl ?_
          cases hg6 : ycP .ne (yan (ysr r1.1 x4) 1) 1 with
          | true =>
            rw [hg6] at h
            dsimp only [cond] at h
            refine yG_t (C' := (44, [(0, .inr (.inl 8, 0)), (1, .inl (.inl x1)), (2, .inl (.inl x2)), (3, .inl (.inl x3)), (4, .inl (.inl x4)), (5, .inl (.inl x5))], [], r1.2)) rfl hg6 ?_
            exact yG_w [] rfl (t_X8_doesBring_b44 r1.2 res h)
          | false =>
            rw [hg6] at h
            dsimp only [cond] at h
            refine yG_f (C' := (40, [(0, .inr (.inl 8, 0)), (1, .inl (.inl x1)), (2, .inl (.inl x2)), (3, .inl (.inl x3)), (4, .inl (.inl x4)), (5, .inl (.inl x5))], [], r1.2)) rfl hg6 ?_
            refine yG_n (n := 2) (C' := (45, [(0, .inr (.inl 8, 0)), (1, .inl (.inl x1)), (2, .inl (.inl x2)), (3, .inl (.inl x3)), (4, .inl (.inl x4)), (5, .inl (.inl x5))], [.inl (.inl 1)], r1.2)) rfl ?_
            exact yG_w [] rfl (t_X8_doesBring_b45 r1.2 1 res h)
set_option maxRecDepth 100000 in
set_option maxHeartbeats 4000000 in
theorem m_X8_doesBring {N : Nat} {X : zXT} (hX : zXok X) (hN : zXn X) (l : Launch) {sh : List yH} : yMet X vwCl yct sh l yX8_doesBring wsX8_doesBring { frames := 5, cells := 0, slots := 0, locals := 164 } (F_X8_doesBring N) :=
  ymeth (tb := tb_X8_doesBring N) (pr := pr_X8_doesBring) (rt := 2) (own := RX8) hX (by decide +kernel) rfl rfl ⟨Nat.le_of_ble_eq_true rfl, Nat.le_of_ble_eq_true rfl⟩
    (zfl_all (List.forall_mem_cons.mpr ⟨zfl_X8 (fun w h => List.mem_cons_of_mem _ (List.mem_append_right _ h)) (List.mem_of_getElem? (i := 1) rfl) (by decide) (by decide), fun _ h => absurd h List.not_mem_nil⟩))
    (zco_all (fun _ h => absurd h List.not_mem_nil)) (zlc_all (fun _ h => absurd h List.not_mem_nil))
    (List.forall_mem_cons.mpr ⟨ycal_V hX (m_X8_endsAt hX hN l) rfl (fun s args hts => cwV 3 hts gX8_doesBring_X8_endsAt rfl rfl rfl (by decide +kernel) ⟨Nat.le_of_ble_eq_true rfl, Nat.le_of_ble_eq_true rfl⟩), fun _ h => absurd h List.not_mem_nil⟩)
    (fun _ h => absurd h List.not_mem_nil)
    (zmm_all (fun _ h => absurd h List.not_mem_nil)) (fun _ h => absurd h List.not_mem_nil) (zpr_all hp_X8_doesBring) (fun as σ res h => by
      unfold F_X8_doesBring at h
      split at h
      · rename_i x1 x2 x3 x4 x5
        cases hr : f_X8_doesBring N σ x1 x2 x3 x4 x5 with
        | none => rw [hr] at h; cases h
        | some r =>
          rw [hr] at h
          cases h
          exact ⟨Nat.le_of_ble_eq_true rfl, t_X8_doesBring σ x1 x2 x3 x4 x5 r hr⟩
      · cases h)
end
section
noncomputable def pr_X8_drop : List (Nat × Instr × Nat) := [(0, .iload_n 1, 1), (1, .ifCond .ne 8, 3), (4, .bipush 77, 2), (6, .goto 5, 3), (9, .bipush 118, 2), (11, .istore_n 3, 1), (12, .iload_n 1, 1), (13, .i2l, 1), (14, .lconst 0, 1), (15, .lconst 1, 1), (16, .invokestatic 90, 3), (19, .ifCond .eq 28, 3), (22, .iload_n 2, 1), (23, .i2l, 1), (24, .lconst 0, 1), (25, .aload_n 0, 1), (26, .getfield 7, 3), (29, .iload_n 3, 1), (30, .iaload, 1), (31, .i2l, 1), (32, .invokestatic 90, 3), (35, .ifCond .eq 12, 3), (38, .aload_n 0, 1), (39, .iload_n 3, 1), (40, .iload_n 2, 1), (41, .invokevirtual 214, 3), (44, .goto 4, 3), (47, .iconst (-1), 1), (48, .ireturn, 1)]
set_option maxRecDepth 100000 in
theorem hp_X8_drop : pr_X8_drop.all (fun x => decide (decode cX8_drop x.1 = .ok x.2)) = true := by decide +kernel
noncomputable def f_X8_drop_b48 (N : Nat) (σ : yS) (s0 : Int) : Option (Int × yS) :=
  some (s0, σ)
noncomputable def f_X8_drop_b47 (N : Nat) (σ : yS) : Option (Int × yS) :=
  f_X8_drop_b48 N σ ((-1))
noncomputable def f_X8_drop_b11 (N : Nat) (σ : yS) (x1 : Int) (x2 : Int) (s0 : Int) : Option (Int × yS) :=
  match f_X8_in N σ x1 0 1 with
  | none => none
  | some r1 => bif ycP .eq r1.1 0 then
      f_X8_drop_b47 N r1.2
    else
      bif yin s0 393 then
        match f_X8_in N r1.2 x2 0 (r1.2.1 1 s0.toNat) with
        | none => none
        | some r2 => bif ycP .eq r2.1 0 then
            f_X8_drop_b47 N r2.2
          else
            match f_X8_becomes N r2.2 s0 x2 with
            | none => none
            | some r3 => f_X8_drop_b48 N r3.2 r3.1
      else none
noncomputable def f_X8_drop (N : Nat) (σ : yS) (x1 : Int) (x2 : Int) : Option (Int × yS) :=
  bif ycP .ne x1 0 then
    f_X8_drop_b11 N σ x1 x2 118
  else
    f_X8_drop_b11 N σ x1 x2 77
noncomputable def F_X8_drop (N : Nat) : yF := fun as σ => match as with
  | [.inr (.inl 8, 0), .inl (.inl x1), .inl (.inl x2)] => (f_X8_drop N σ x1 x2).map (fun r => (some (.inl (.inl r.1)), r.2))
  | _ => none
theorem e_X8_drop {N : Nat} {σ : yS} {x1 : Int} {x2 : Int} {r : Int × yS} (h : f_X8_drop N σ x1 x2 = some r) : F_X8_drop N [.inr (.inl 8, 0), .inl (.inl x1), .inl (.inl x2)] σ = some (some (.inl (.inl r.1)), r.2) := by
  show (f_X8_drop N σ x1 x2).map (fun r => ((some (.inl (.inl r.1)), r.2) : yR)) = _
  rw [h]
  rfl
noncomputable def tb_X8_drop (N : Nat) : yTb := ([(7, 8, 0, 3)], [], [], [(214, 3, 8, F_X8_becomes N)], [(90, 3, F_X8_in N)], [], [])
abbrev G_X8_drop (N : Nat) (X : zXT) (sh : List yH) (l : Launch) (rm : Room) : yC → yR → Prop := yGoes X vwCl yct sh l rm cX8_drop 4 wsX8_drop RX8 (tb_X8_drop N) pr_X8_drop 1
set_option maxRecDepth 100000 in
set_option maxHeartbeats 4000000 in
theorem t_X8_drop_b48 {N : Nat} {X : zXT} {sh : List yH} {l : Launch} {rm : Room} (σ : yS) (s0 : Int) (res : Int × yS) (h : f_X8_drop_b48 N σ s0 = some res) : G_X8_drop N X sh l rm (48, [], [.inl (.inl s0)], σ) (some (.inl (.inl res.1)), res.2) := by
  unfold f_X8_drop_b48 at h
  have h := Option.some.inj h
  subst h
  dsimp only
  exact yG_r rfl rfl
set_option maxRecDepth 100000 in
set_option maxHeartbeats 4000000 in
theorem t_X8_drop_b47 {N : Nat} {X : zXT} {sh : List yH} {l : Launch} {rm : Room} (σ : yS) (res : Int × yS) (h : f_X8_drop_b47 N σ = some res) : G_X8_drop N X sh l rm (47, [], [], σ) (some (.inl (.inl res.1)), res.2) := by
  unfold f_X8_drop_b47 at h
  refine yG_n (n := 1) (C' := (48, [], [.inl (.inl ((-1)))], σ)) rfl ?_
  exact t_X8_drop_b48 σ ((-1)) res h
set_option maxRecDepth 100000 in
set_option maxHeartbeats 4000000 in
theorem t_X8_drop_b11 {N : Nat} {X : zXT} {sh : List yH} {l : Launch} {rm : Room} (σ : yS) (x1 : Int) (x2 : Int) (s0 : Int) (res : Int × yS) (h : f_X8_drop_b11 N σ x1 x2 s0 = some res) : G_X8_drop N X sh l rm (11, [(0, .inr (.inl 8, 0)), (1, .inl (.inl x1)), (2, .inl (.inl x2))], [.inl (.inl s0)], σ) (some (.inl (.inl res.1)), res.2) := by
  unfold f_X8_drop_b11 at h
  refine yG_n (n := 5) (C' := (16, [(3, .inl (.inl s0)), (0, .inr (.inl 8, 0)), (1, .inl (.inl x1)), (2, .inl (.inl x2))], [.inl (.inr 1), .inl (.inr 0), .inl (.inr x1)], σ)) rfl ?_
  cases hr1 : f_X8_in N σ x1 0 1 with
  | none => rw [hr1] at h; dsimp only at h; cases h
  | some r1 =>
    rw [hr1] at h
    dsimp only at h
    refine yG_c (C1 := (19, [(3, .inl (.inl s0)), (0, .inr (.inl 8, 0)), (1, .inl (.inl x1)), (2, .inl (.inl x2))], [.inl (.inl r1.1)], r1.2)) rfl (e_X8_in hr1) rfl ?_
    cases hg2 : ycP .eq r1.1 0 with
    | true =>
      rw [hg2] at h
      dsimp only [cond] at h
      refine yG_t (C' := (47, [(3, .inl (.inl s0)), (0, .inr (.inl 8, 0)), (1, .inl (.inl x1)), (2, .inl (.inl x2))], [], r1.2)) rfl hg2 ?_
      exact yG_w [] rfl (t_X8_drop_b47 r1.2 res h)
    | false =>
      rw [hg2] at h
      dsimp only [cond] at h
      refine yG_f (C' := (22, [(3, .inl (.inl s0)), (0, .inr (.inl 8, 0)), (1, .inl (.inl x1)), (2, .inl (.inl x2))], [], r1.2)) rfl hg2 ?_
      refine yG_n (n := 6) (C' := (30, [(3, .inl (.inl s0)), (0, .inr (.inl 8, 0)), (1, .inl (.inl x1)), (2, .inl (.inl x2))], [.inl (.inl s0), .inr (.inr (0, 393), 1), .inl (.inr 0), .inl (.inr x2)], r1.2)) rfl ?_
      cases hg3 : yin s0 393 with
      | false => rw [hg3] at h; dsimp only [cond] at h; cases h
      | true =>
        rw [hg3] at h
        dsimp only [cond] at h
        refine yG_t (C' := (31, [(3, .inl (.inl s0)), (0, .inr (.inl 8, 0)), (1, .inl (.inl x1)), (2, .inl (.inl x2))], [.inl (.inl (r1.2.1 1 s0.toNat)), .inl (.inr 0), .inl (.inr x2)], r1.2)) rfl hg3 ?_
        refine yG_n (n := 1) (C' := (32, [(3, .inl (.inl s0)), (0, .inr (.inl 8, 0)), (1, .inl (.inl x1)), (2, .inl (.inl x2))], [.inl (.inr (r1.2.1 1 s0.toNat)), .inl (.inr 0), .inl (.inr x2)], r1.2)) rfl ?_
        cases hr4 : f_X8_in N r1.2 x2 0 (r1.2.1 1 s0.toNat) with
        | none => rw [hr4] at h; dsimp only at h; cases h
        | some r2 =>
          rw [hr4] at h
          dsimp only at h
          refine yG_c (C1 := (35, [(3, .inl (.inl s0)), (0, .inr (.inl 8, 0)), (1, .inl (.inl x1)), (2, .inl (.inl x2))], [.inl (.inl r2.1)], r2.2)) rfl (e_X8_in hr4) rfl ?_
          cases hg5 : ycP .eq r2.1 0 with
          | true =>
            rw [hg5] at h
            dsimp only [cond] at h
            refine yG_t (C' := (47, [(3, .inl (.inl s0)), (0, .inr (.inl 8, 0)), (1, .inl (.inl x1)), (2, .inl (.inl x2))], [], r2.2)) rfl hg5 ?_
            exact yG_w [] rfl (t_X8_drop_b47 r2.2 res h)
          | false =>
            rw [hg5] at h
            dsimp only [cond] at h
            refine yG_f (C' := (38, [(3, .inl (.inl s0)), (0, .inr (.inl 8, 0)), (1, .inl (.inl x1)), (2, .inl (.inl x2))], [], r2.2)) rfl hg5 ?_
            refine yG_n (n := 3) (C' := (41, [(3, .inl (.inl s0)), (0, .inr (.inl 8, 0)), (1, .inl (.inl x1)), (2, .inl (.inl x2))], [.inl (.inl x2), .inl (.inl s0), .inr (.inl 8, 0)], r2.2)) rfl ?_
            cases hr6 : f_X8_becomes N r2.2 s0 x2 with
            | none => rw [hr6] at h; dsimp only at h; cases h
            | some r3 =>
              rw [hr6] at h
              dsimp only at h
              refine yG_c (C1 := (44, [(3, .inl (.inl s0)), (0, .inr (.inl 8, 0)), (1, .inl (.inl x1)), (2, .inl (.inl x2))], [.inl (.inl r3.1)], r3.2)) rfl (e_X8_becomes hr6) rfl ?_
              refine yG_n (n := 1) (C' := (48, [(3, .inl (.inl s0)), (0, .inr (.inl 8, 0)), (1, .inl (.inl x1)), (2, .inl (.inl x2))], [.inl (.inl r3.1)], r3.2)) rfl ?_
              exact yG_w [] rfl (t_X8_drop_b48 r3.2 r3.1 res h)
set_option maxRecDepth 100000 in
set_option maxHeartbeats 4000000 in
theorem t_X8_drop {N : Nat} {X : zXT} {sh : List yH} {l : Launch} {rm : Room} (σ : yS) (x1 : Int) (x2 : Int) (res : Int × yS) (h : f_X8_drop N σ x1 x2 = some res) : G_X8_drop N X sh l rm (0, [(0, .inr (.inl 8, 0)), (1, .inl (.inl x1)), (2, .inl (.inl x2))], [], σ) (some (.inl (.inl res.1)), res.2) := by
  unfold f_X8_drop at h
  refine yG_n (n := 1) (C' := (1, [(0, .inr (.inl 8, 0)), (1, .inl (.inl x1)), (2, .inl (.inl x2))], [.inl (.inl x1)], σ)) rfl ?_
  cases hg7 : ycP .ne x1 0 with
  | true =>
    rw [hg7] at h
    dsimp only [cond] at h
    refine yG_t (C' := (9, [(0, .inr (.inl 8, 0)), (1, .inl (.inl x1)), (2, .inl (.inl x2))], [], σ)) rfl hg7 ?_
    refine yG_n (n := 1) (C' := (11, [(0, .inr (.inl 8, 0)), (1, .inl (.inl x1)), (2, .inl (.inl x2))], [.inl (.inl 118)], σ)) rfl ?_
    exact t_X8_drop_b11 σ x1 x2 118 res h
  | false =>
    rw [hg7] at h
    dsimp only [cond] at h
    refine yG_f (C' := (4, [(0, .inr (.inl 8, 0)), (1, .inl (.inl x1)), (2, .inl (.inl x2))], [], σ)) rfl hg7 ?_
    refine yG_n (n := 2) (C' := (11, [(0, .inr (.inl 8, 0)), (1, .inl (.inl x1)), (2, .inl (.inl x2))], [.inl (.inl 77)], σ)) rfl ?_
    exact t_X8_drop_b11 σ x1 x2 77 res h
set_option maxRecDepth 100000 in
set_option maxHeartbeats 4000000 in
theorem m_X8_drop {N : Nat} {X : zXT} (hX : zXok X) (hN : zXn X) (l : Launch) {sh : List yH} : yMet X vwCl yct sh l yX8_drop wsX8_drop { frames := 2, cells := 0, slots := 0, locals := 89 } (F_X8_drop N) :=
  ymeth (tb := tb_X8_drop N) (pr := pr_X8_drop) (rt := 1) (own := RX8) hX (by decide +kernel) rfl rfl ⟨Nat.le_of_ble_eq_true rfl, Nat.le_of_ble_eq_true rfl⟩
    (zfl_all (List.forall_mem_cons.mpr ⟨zfl_X8 (fun w h => List.mem_cons_of_mem _ (List.mem_append_right _ h)) (List.mem_of_getElem? (i := 1) rfl) (by decide) (by decide), fun _ h => absurd h List.not_mem_nil⟩))
    (zco_all (fun _ h => absurd h List.not_mem_nil)) (zlc_all (fun _ h => absurd h List.not_mem_nil))
    (List.forall_mem_cons.mpr ⟨ycal_V hX (m_X8_becomes hX hN l) rfl (fun s args hts => cwV 2 hts gX8_drop_X8_becomes rfl rfl rfl (by decide +kernel) ⟨Nat.le_of_ble_eq_true rfl, Nat.le_of_ble_eq_true rfl⟩), fun _ h => absurd h List.not_mem_nil⟩)
    (List.forall_mem_cons.mpr ⟨ycal_S hX (m_X8_in hX hN l) (fun s args hts => va_cwS 3 hts gX8_drop_X8_in rfl rfl rfl (by decide +kernel) ⟨Nat.le_of_ble_eq_true rfl, Nat.le_of_ble_eq_true rfl⟩), fun _ h => absurd h List.not_mem_nil⟩)
    (zmm_all (fun _ h => absurd h List.not_mem_nil)) (fun _ h => absurd h List.not_mem_nil) (zpr_all hp_X8_drop) (fun as σ res h => by
      unfold F_X8_drop at h
      split at h
      · rename_i x1 x2
        cases hr : f_X8_drop N σ x1 x2 with
        | none => rw [hr] at h; cases h
        | some r =>
          rw [hr] at h
          cases h
          exact ⟨Nat.le_of_ble_eq_true rfl, t_X8_drop σ x1 x2 r hr⟩
      · cases h)
noncomputable def pr_X8_end : List (Nat × Instr × Nat) := [(0, .iload_n 1, 1), (1, .i2l, 1), (2, .lconst 0, 1), (3, .aload_n 0, 1), (4, .getfield 94, 3), (7, .i2l, 1), (8, .invokestatic 90, 3), (11, .ifCond .ne 5, 3), (14, .iconst (-1), 1), (15, .ireturn, 1), (16, .aload_n 0, 1), (17, .getfield 94, 3), (20, .istore_n 2, 1), (21, .aload_n 0, 1), (22, .iload_n 1, 1), (23, .putfield 94, 3), (26, .iload_n 2, 1), (27, .ireturn, 1)]
set_option maxRecDepth 100000 in
theorem hp_X8_end : pr_X8_end.all (fun x => decide (decode cX8_end x.1 = .ok x.2)) = true := by decide +kernel
noncomputable def f_X8_end (N : Nat) (σ : yS) (x1 : Int) : Option (Int × yS) :=
  match f_X8_in N σ x1 0 (σ.1 0 17) with
  | none => none
  | some r1 => bif ycP .ne r1.1 0 then
      some (r1.2.1 0 17, yw r1.2 0 17 x1)
    else
      some ((-1), r1.2)
noncomputable def F_X8_end (N : Nat) : yF := fun as σ => match as with
  | [.inr (.inl 8, 0), .inl (.inl x1)] => (f_X8_end N σ x1).map (fun r => (some (.inl (.inl r.1)), r.2))
  | _ => none
theorem e_X8_end {N : Nat} {σ : yS} {x1 : Int} {r : Int × yS} (h : f_X8_end N σ x1 = some r) : F_X8_end N [.inr (.inl 8, 0), .inl (.inl x1)] σ = some (some (.inl (.inl r.1)), r.2) := by
  show (f_X8_end N σ x1).map (fun r => ((some (.inl (.inl r.1)), r.2) : yR)) = _
  rw [h]
  rfl
noncomputable def tb_X8_end (N : Nat) : yTb := ([(94, 8, 17, 0)], [], [], [], [(90, 3, F_X8_in N)], [], [])
abbrev G_X8_end (N : Nat) (X : zXT) (sh : List yH) (l : Launch) (rm : Room) : yC → yR → Prop := yGoes X vwCl yct sh l rm cX8_end 3 wsX8_end RX8 (tb_X8_end N) pr_X8_end 1
set_option maxRecDepth 100000 in
set_option maxHeartbeats 4000000 in
theorem t_X8_end {N : Nat} {X : zXT} {sh : List yH} {l : Launch} {rm : Room} (σ : yS) (x1 : Int) (res : Int × yS) (h : f_X8_end N σ x1 = some res) : G_X8_end N X sh l rm (0, [(0, .inr (.inl 8, 0)), (1, .inl (.inl x1))], [], σ) (some (.inl (.inl res.1)), res.2) := by
  unfold f_X8_end at h
  refine yG_n (n := 6) (C' := (8, [(0, .inr (.inl 8, 0)), (1, .inl (.inl x1))], [.inl (.inr (σ.1 0 17)), .inl (.inr 0), .inl (.inr x1)], σ)) rfl ?_
  cases hr1 : f_X8_in N σ x1 0 (σ.1 0 17) with
  | none => rw [hr1] at h; dsimp only at h; cases h
  | some r1 =>
    rw [hr1] at h
    dsimp only at h
    refine yG_c (C1 := (11, [(0, .inr (.inl 8, 0)), (1, .inl (.inl x1))], [.inl (.inl r1.1)], r1.2)) rfl (e_X8_in hr1) rfl ?_
    cases hg2 : ycP .ne r1.1 0 with
    | true =>
      rw [hg2] at h
      dsimp only [cond] at h
      refine yG_t (C' := (16, [(0, .inr (.inl 8, 0)), (1, .inl (.inl x1))], [], r1.2)) rfl hg2 ?_
      refine yG_n (n := 7) (C' := (27, [(2, .inl (.inl (r1.2.1 0 17))), (0, .inr (.inl 8, 0)), (1, .inl (.inl x1))], [.inl (.inl (r1.2.1 0 17))], yw r1.2 0 17 x1)) rfl ?_
      have h := Option.some.inj h
      subst h
      dsimp only
      exact yG_r rfl rfl
    | false =>
      rw [hg2] at h
      dsimp only [cond] at h
      refine yG_f (C' := (14, [(0, .inr (.inl 8, 0)), (1, .inl (.inl x1))], [], r1.2)) rfl hg2 ?_
      refine yG_n (n := 1) (C' := (15, [(0, .inr (.inl 8, 0)), (1, .inl (.inl x1))], [.inl (.inl ((-1)))], r1.2)) rfl ?_
      have h := Option.some.inj h
      subst h
      dsimp only
      exact yG_r rfl rfl
set_option maxRecDepth 100000 in
set_option maxHeartbeats 4000000 in
theorem m_X8_end {N : Nat} {X : zXT} (hX : zXok X) (hN : zXn X) (l : Launch) {sh : List yH} : yMet X vwCl yct sh l yX8_end wsX8_end { frames := 2, cells := 0, slots := 0, locals := 89 } (F_X8_end N) :=
  ymeth (tb := tb_X8_end N) (pr := pr_X8_end) (rt := 1) (own := RX8) hX (by decide +kernel) rfl rfl ⟨Nat.le_of_ble_eq_true rfl, Nat.le_of_ble_eq_true rfl⟩
    (zfl_all (List.forall_mem_cons.mpr ⟨zfl_X8 (fun w h => List.mem_cons_of_mem _ (List.mem_append_right _ h)) (List.mem_of_getElem? (i := 1) rfl) (by decide) (by decide), fun _ h => absurd h List.not_mem_nil⟩))
    (zco_all (fun _ h => absurd h List.not_mem_nil)) (zlc_all (fun _ h => absurd h List.not_mem_nil))
    (fun _ h => absurd h List.not_mem_nil)
    (List.forall_mem_cons.mpr ⟨ycal_S hX (m_X8_in hX hN l) (fun s args hts => va_cwS 3 hts gX8_end_X8_in rfl rfl rfl (by decide +kernel) ⟨Nat.le_of_ble_eq_true rfl, Nat.le_of_ble_eq_true rfl⟩), fun _ h => absurd h List.not_mem_nil⟩)
    (zmm_all (fun _ h => absurd h List.not_mem_nil)) (fun _ h => absurd h List.not_mem_nil) (zpr_all hp_X8_end) (fun as σ res h => by
      unfold F_X8_end at h
      split at h
      · rename_i x1
        cases hr : f_X8_end N σ x1 with
        | none => rw [hr] at h; cases h
        | some r =>
          rw [hr] at h
          cases h
          exact ⟨Nat.le_of_ble_eq_true rfl, t_X8_end σ x1 r hr⟩
      · cases h)
noncomputable def pr_X8_isEndless : List (Nat × Instr × Nat) := [(0, .iconst 1, 1), (1, .aload_n 0, 1), (2, .getfield 7, 3), (5, .bipush 78, 2), (7, .iconst 4, 1), (8, .iload_n 1, 1), (9, .imul, 1), (10, .iadd, 1), (11, .iaload, 1), (12, .ishl, 1), (13, .istore_n 3, 1), (14, .iconst 0, 1), (15, .istore 4, 2), (17, .iload 4, 2), (19, .sipush 128, 3), (22, .if_icmp .gt 29, 3), (25, .aload_n 0, 1), (26, .iload_n 3, 1), (27, .aload_n 0, 1), (28, .getfield 7, 3), (31, .bipush 78, 2), (33, .iconst 4, 1), (34, .iload_n 1, 1), (35, .imul, 1), (36, .iadd, 1), (37, .iconst 1, 1), (38, .iadd, 1), (39, .iaload, 1), (40, .iload_n 2, 1), (41, .invokevirtual 275, 3), (44, .istore_n 3, 1), (45, .iinc 4 1, 3), (48, .goto (-31), 3), (51, .aload_n 0, 1), (52, .getfield 7, 3), (55, .bipush 78, 2), (57, .iconst 4, 1), (58, .iload_n 1, 1), (59, .imul, 1), (60, .iadd, 1), (61, .iconst 2, 1), (62, .iadd, 1), (63, .iaload, 1), (64, .bipush 9, 2), (66, .if_icmp .ne 11, 3), (69, .iload_n 3, 1), (70, .ifCond .eq 7, 3), (73, .iconst 1, 1), (74, .goto 4, 3), (77, .iconst 0, 1), (78, .ireturn, 1)]
set_option maxRecDepth 100000 in
theorem hp_X8_isEndless : pr_X8_isEndless.all (fun x => decide (decode cX8_isEndless x.1 = .ok x.2)) = true := by decide +kernel
noncomputable def f_X8_isEndless_b78 (N : Nat) (σ : yS) (s0 : Int) : Option (Int × yS) :=
  bif yb1 s0 then some (s0, σ) else none
noncomputable def f_X8_isEndless_b77 (N : Nat) (σ : yS) : Option (Int × yS) :=
  f_X8_isEndless_b78 N σ 0
noncomputable def f_X8_isEndless_b17 (N : Nat) : Nat → yS → Int → Int → Int → Int → Option (Int × yS) := yfix (fun _ _ _ _ _ => none) (fun ih σ x1 x2 x3 x4 =>
    bif ycP .gt x4 128 then
      bif yin (yad (yad 78 (ymu 4 x1)) 2) 393 then
        bif ycP .ne (σ.1 1 (yad (yad 78 (ymu 4 x1)) 2).toNat) 9 then
          f_X8_isEndless_b77 N σ
        else
          bif ycP .eq x3 0 then
            f_X8_isEndless_b77 N σ
          else
            f_X8_isEndless_b78 N σ 1
      else none
    else
      bif yin (yad (yad 78 (ymu 4 x1)) 1) 393 then
        match f_X8_fallen N σ x3 (σ.1 1 (yad (yad 78 (ymu 4 x1)) 1).toNat) x2 with
        | none => none
        | some r1 => ih r1.2 x1 x2 r1.1 (yad x4 1)
      else none)
theorem q_X8_isEndless_b17 (N : Nat) (n : Nat) (σ : yS) (x1 : Int) (x2 : Int) (x3 : Int) (x4 : Int) : f_X8_isEndless_b17 N (n + 1) σ x1 x2 x3 x4 =
    (bif ycP .gt x4 128 then
      bif yin (yad (yad 78 (ymu 4 x1)) 2) 393 then
        bif ycP .ne (σ.1 1 (yad (yad 78 (ymu 4 x1)) 2).toNat) 9 then
          f_X8_isEndless_b77 N σ
        else
          bif ycP .eq x3 0 then
            f_X8_isEndless_b77 N σ
          else
            f_X8_isEndless_b78 N σ 1
      else none
    else
      bif yin (yad (yad 78 (ymu 4 x1)) 1) 393 then
        match f_X8_fallen N σ x3 (σ.1 1 (yad (yad 78 (ymu 4 x1)) 1).toNat) x2 with
        | none => none
        | some r1 => (f_X8_isEndless_b17 N n) r1.2 x1 x2 r1.1 (yad x4 1)
      else none) := rfl
noncomputable def f_X8_isEndless (N : Nat) (σ : yS) (x1 : Int) (x2 : Int) : Option (Int × yS) :=
  bif yin (yad 78 (ymu 4 x1)) 393 then
    f_X8_isEndless_b17 N N σ x1 x2 (ysl 1 (σ.1 1 (yad 78 (ymu 4 x1)).toNat)) 0
  else none
noncomputable def F_X8_isEndless (N : Nat) : yF := fun as σ => match as with
  | [.inr (.inl 8, 0), .inl (.inl x1), .inl (.inl x2)] => (f_X8_isEndless N σ x1 x2).map (fun r => (some (.inl (.inl r.1)), r.2))
  | _ => none
theorem e_X8_isEndless {N : Nat} {σ : yS} {x1 : Int} {x2 : Int} {r : Int × yS} (h : f_X8_isEndless N σ x1 x2 = some r) : F_X8_isEndless N [.inr (.inl 8, 0), .inl (.inl x1), .inl (.inl x2)] σ = some (some (.inl (.inl r.1)), r.2) := by
  show (f_X8_isEndless N σ x1 x2).map (fun r => ((some (.inl (.inl r.1)), r.2) : yR)) = _
  rw [h]
  rfl
noncomputable def tb_X8_isEndless (N : Nat) : yTb := ([(7, 8, 0, 3)], [], [], [(275, 4, 8, F_X8_fallen N)], [], [], [])
abbrev G_X8_isEndless (N : Nat) (X : zXT) (sh : List yH) (l : Launch) (rm : Room) : yC → yR → Prop := yGoes X vwCl yct sh l rm cX8_isEndless 5 wsX8_isEndless RX8 (tb_X8_isEndless N) pr_X8_isEndless 2
set_option maxRecDepth 100000 in
set_option maxHeartbeats 4000000 in
theorem t_X8_isEndless_b78 {N : Nat} {X : zXT} {sh : List yH} {l : Launch} {rm : Room} (σ : yS) (s0 : Int) (res : Int × yS) (h : f_X8_isEndless_b78 N σ s0 = some res) : G_X8_isEndless N X sh l rm (78, [], [.inl (.inl s0)], σ) (some (.inl (.inl res.1)), res.2) := by
  unfold f_X8_isEndless_b78 at h
  cases hg1 : yb1 s0 with
  | false => rw [hg1] at h; dsimp only [cond] at h; cases h
  | true =>
    rw [hg1] at h
    dsimp only [cond] at h
    have h := Option.some.inj h
    subst h
    dsimp only
    exact yG_r rfl hg1
set_option maxRecDepth 100000 in
set_option maxHeartbeats 4000000 in
theorem t_X8_isEndless_b77 {N : Nat} {X : zXT} {sh : List yH} {l : Launch} {rm : Room} (σ : yS) (res : Int × yS) (h : f_X8_isEndless_b77 N σ = some res) : G_X8_isEndless N X sh l rm (77, [], [], σ) (some (.inl (.inl res.1)), res.2) := by
  unfold f_X8_isEndless_b77 at h
  refine yG_n (n := 1) (C' := (78, [], [.inl (.inl 0)], σ)) rfl ?_
  exact t_X8_isEndless_b78 σ 0 res h
set_option maxRecDepth 100000 in
set_option maxHeartbeats 4000000 in
theorem t_X8_isEndless_b17 {N : Nat} {X : zXT} {sh : List yH} {l : Launch} {rm : Room} : ∀ (n : Nat) (σ : yS) (x1 : Int) (x2 : Int) (x3 : Int) (x4 : Int) (res : Int × yS), f_X8_isEndless_b17 N n σ x1 x2 x3 x4 = some res → G_X8_isEndless N X sh l rm (17, [(0, .inr (.inl 8, 0)), (1, .inl (.inl x1)), (2, .inl (.inl x2)), (3, .inl (.inl x3)), (4, .inl (.inl x4))], [], σ) (some (.inl (.inl res.1)), res.2) := by
  intro n
  induction n with
  | zero => intro σ x1 x2 x3 x4 res h; exact (yno h).elim
  | succ n ih =>
    intro σ x1 x2 x3 x4 res h
    rw [q_X8_isEndless_b17] at h
    refine yG_n (n := 2) (C' := (22, [(0, .inr (.inl 8, 0)), (1, .inl (.inl x1)), (2, .inl (.inl x2)), (3, .inl (.inl x3)), (4, .inl (.inl x4))], [.inl (.inl 128), .inl (.inl x4)], σ)) rfl ?_
    cases hg2 : ycP .gt x4 128 with
    | true =>
      rw [hg2] at h
      dsimp only [cond] at h
      refine yG_t (C' := (51, [(0, .inr (.inl 8, 0)), (1, .inl (.inl x1)), (2, .inl (.inl x2)), (3, .inl (.inl x3)), (4, .inl (.inl x4))], [], σ)) rfl hg2 ?_
      refine yG_n (n := 9) (C' := (63, [(0, .inr (.inl 8, 0)), (1, .inl (.inl x1)), (2, .inl (.inl x2)), (3, .inl (.inl x3)), (4, .inl (.inl x4))], [.inl (.inl (yad (yad 78 (ymu 4 x1)) 2)), .inr (.inr (0, 393), 1)], σ)) rfl ?_
      cases hg3 : yin (yad (yad 78 (ymu 4 x1)) 2) 393 with
      | false => rw [hg3] at h; dsimp only [cond] at h; cases h
      | true =>
        rw [hg3] at h
        dsimp only [cond] at h
        refine yG_t (C' := (64, [(0, .inr (.inl 8, 0)), (1, .inl (.inl x1)), (2, .inl (.inl x2)), (3, .inl (.inl x3)), (4, .inl (.inl x4))], [.inl (.inl (σ.1 1 (yad (yad 78 (ymu 4 x1)) 2).toNat))], σ)) rfl hg3 ?_
        refine yG_n (n := 1) (C' := (66, [(0, .inr (.inl 8, 0)), (1, .inl (.inl x1)), (2, .inl (.inl x2)), (3, .inl (.inl x3)), (4, .inl (.inl x4))], [.inl (.inl 9), .inl (.inl (σ.1 1 (yad (yad 78 (ymu 4 x1)) 2).toNat))], σ)) rfl ?_
        cases hg4 : ycP .ne (σ.1 1 (yad (yad 78 (ymu 4 x1)) 2).toNat) 9 with
        | true =>
          rw [hg4] at h
          dsimp only [cond] at h
          refine yG_t (C' := (77, [(0, .inr (.inl 8, 0)), (1, .inl (.inl x1)), (2, .inl (.inl x2)), (3, .inl (.inl x3)), (4, .inl (.inl x4))], [], σ)) rfl hg4 ?_
          exact yG_w [] rfl (t_X8_isEndless_b77 σ res h)
        | false =>
          rw [hg4] at h
          dsimp only [cond] at h
          refine yG_f (C' := (69, [(0, .inr (.inl 8, 0)), (1, .inl (.inl x1)), (2, .inl (.inl x2)), (3, .inl (.inl x3)), (4, .inl (.inl x4))], [], σ)) rfl hg4 ?_
          refine yG_n (n := 1) (C' := (70, [(0, .inr (.inl 8, 0)), (1, .inl (.inl x1)), (2, .inl (.inl x2)), (3, .inl (.inl x3)), (4, .inl (.inl x4))], [.inl (.inl x3)], σ)) rfl ?_
          cases hg5 : ycP .eq x3 0 with
          | true =>
            rw [hg5] at h
            dsimp only [cond] at h
            refine yG_t (C' := (77, [(0, .inr (.inl 8, 0)), (1, .inl (.inl x1)), (2, .inl (.inl x2)), (3, .inl (.inl x3)), (4, .inl (.inl x4))], [], σ)) rfl hg5 ?_
            exact yG_w [] rfl (t_X8_isEndless_b77 σ res h)
          | false =>
            rw [hg5] at h
            dsimp only [cond] at h
            refine yG_f (C' := (73, [(0, .inr (.inl 8, 0)), (1, .inl (.inl x1)), (2, .inl (.inl x2)), (3, .inl (.inl x3)), (4, .inl (.inl x4))], [], σ)) rfl hg5 ?_
            refine yG_n (n := 2) (C' := (78, [(0, .inr (.inl 8, 0)), (1, .inl (.inl x1)), (2, .inl (.inl x2)), (3, .inl (.inl x3)), (4, .inl (.inl x4))], [.inl (.inl 1)], σ)) rfl ?_
            exact yG_w [] rfl (t_X8_isEndless_b78 σ 1 res h)
    | false =>
      rw [hg2] at h
      dsimp only [cond] at h
      refine yG_f (C' := (25, [(0, .inr (.inl 8, 0)), (1, .inl (.inl x1)), (2, .inl (.inl x2)), (3, .inl (.inl x3)), (4, .inl (.inl x4))], [], σ)) rfl hg2 ?_
      refine yG_n (n := 11) (C' := (39, [(0, .inr (.inl 8, 0)), (1, .inl (.inl x1)), (2, .inl (.inl x2)), (3, .inl (.inl x3)), (4, .inl (.inl x4))], [.inl (.inl (yad (yad 78 (ymu 4 x1)) 1)), .inr (.inr (0, 393), 1), .inl (.inl x3), .inr (.inl 8, 0)], σ)) rfl ?_
      cases hg6 : yin (yad (yad 78 (ymu 4 x1)) 1) 393 with
      | false => rw [hg6] at h; dsimp only [cond] at h; cases h
      | true =>
        rw [hg6] at h
        dsimp only [cond] at h
        refine yG_t (C' := (40, [(0, .inr (.inl 8, 0)), (1, .inl (.inl x1)), (2, .inl (.inl x2)), (3, .inl (.inl x3)), (4, .inl (.inl x4))], [.inl (.inl (σ.1 1 (yad (yad 78 (ymu 4 x1)) 1).toNat)), .inl (.inl x3), .inr (.inl 8, 0)], σ)) rfl hg6 ?_
        refine yG_n (n := 1) (C' := (41, [(0, .inr (.inl 8, 0)), (1, .inl (.inl x1)), (2, .inl (.inl x2)), (3, .inl (.inl x3)), (4, .inl (.inl x4))], [.inl (.inl x2), .inl (.inl (σ.1 1 (yad (yad 78 (ymu 4 x1)) 1).toNat)), .inl (.inl x3), .inr (.inl 8, 0)], σ)) rfl ?_
        cases hr7 : f_X8_fallen N σ x3 (σ.1 1 (yad (yad 78 (ymu 4 x1)) 1).toNat) x2 with
        | none => rw [hr7] at h; dsimp only at h; cases h
        | some r1 =>
          rw [hr7] at h
          dsimp only at h
          refine yG_c (C1 := (44, [(0, .inr (.inl 8, 0)), (1, .inl (.inl x1)), (2, .inl (.inl x2)), (3, .inl (.inl x3)), (4, .inl (.inl x4))], [.inl (.inl r1.1)], r1.2)) rfl (e_X8_fallen hr7) rfl ?_
          refine yG_n (n := 3) (C' := (17, [(4, .inl (.inl (yad x4 1))), (3, .inl (.inl r1.1)), (0, .inr (.inl 8, 0)), (1, .inl (.inl x1)), (2, .inl (.inl x2))], [], r1.2)) rfl ?_
          exact yG_w [2, 3, 4, 1, 0] rfl (ih r1.2 x1 x2 r1.1 (yad x4 1) res h)
set_option maxRecDepth 100000 in
set_option maxHeartbeats 4000000 in
theorem t_X8_isEndless {N : Nat} {X : zXT} {sh : List yH} {l : Launch} {rm : Room} (σ : yS) (x1 : Int) (x2 : Int) (res : Int × yS) (h : f_X8_isEndless N σ x1 x2 = some res) : G_X8_isEndless N X sh l rm (0, [(0, .inr (.inl 8, 0)), (1, .inl (.inl x1)), (2, .inl (.inl x2))], [], σ) (some (.inl (.inl res.1)), res.2) := by
  unfold f_X8_isEndless at h
  refine yG_n (n := 8) (C' := (11, [(0, .inr (.inl 8, 0)), (1, .inl (.inl x1)), (2, .inl (.inl x2))], [.inl (.inl (yad 78 (ymu 4 x1))), .inr (.inr (0, 393), 1), .inl (.inl 1)], σ)) rfl ?_
  cases hg8 : yin (yad 78 (ymu 4 x1)) 393 with
  | false => rw [hg8] at h; dsimp only [cond] at h; cases h
  | true =>
    rw [hg8] at h
    dsimp only [cond] at h
    refine yG_t (C' := (12, [(0, .inr (.inl 8, 0)), (1, .inl (.inl x1)), (2, .inl (.inl x2))], [.inl (.inl (σ.1 1 (yad 78 (ymu 4 x1)).toNat)), .inl (.inl 1)], σ)) rfl hg8 ?_
    refine yG_n (n := 4) (C' := (17, [(4, .inl (.inl 0)), (3, .inl (.inl (ysl 1 (σ.1 1 (yad 78 (ymu 4 x1)).toNat)))), (0, .inr (.inl 8, 0)), (1, .inl (.inl x1)), (2, .inl (.inl x2))], [], σ)) rfl ?_
    exact yG_w [2, 3, 4, 1, 0] rfl (t_X8_isEndless_b17 N σ x1 x2 (ysl 1 (σ.1 1 (yad 78 (ymu 4 x1)).toNat)) 0 res h)
set_option maxRecDepth 100000 in
set_option maxHeartbeats 4000000 in
theorem m_X8_isEndless {N : Nat} {X : zXT} (hX : zXok X) (hN : zXn X) (l : Launch) {sh : List yH} : yMet X vwCl yct sh l yX8_isEndless wsX8_isEndless { frames := 4, cells := 0, slots := 0, locals := 139 } (F_X8_isEndless N) :=
  ymeth (tb := tb_X8_isEndless N) (pr := pr_X8_isEndless) (rt := 2) (own := RX8) hX (by decide +kernel) rfl rfl ⟨Nat.le_of_ble_eq_true rfl, Nat.le_of_ble_eq_true rfl⟩
    (zfl_all (List.forall_mem_cons.mpr ⟨zfl_X8 (fun w h => List.mem_cons_of_mem _ (List.mem_append_right _ h)) (List.mem_of_getElem? (i := 1) rfl) (by decide) (by decide), fun _ h => absurd h List.not_mem_nil⟩))
    (zco_all (fun _ h => absurd h List.not_mem_nil)) (zlc_all (fun _ h => absurd h List.not_mem_nil))
    (List.forall_mem_cons.mpr ⟨ycal_V hX (m_X8_fallen hX hN l) rfl (fun s args hts => cwV 3 hts gX8_isEndless_X8_fallen rfl rfl rfl (by decide +kernel) ⟨Nat.le_of_ble_eq_true rfl, Nat.le_of_ble_eq_true rfl⟩), fun _ h => absurd h List.not_mem_nil⟩)
    (fun _ h => absurd h List.not_mem_nil)
    (zmm_all (fun _ h => absurd h List.not_mem_nil)) (fun _ h => absurd h List.not_mem_nil) (zpr_all hp_X8_isEndless) (fun as σ res h => by
      unfold F_X8_isEndless at h
      split at h
      · rename_i x1 x2
        cases hr : f_X8_isEndless N σ x1 x2 with
        | none => rw [hr] at h; cases h
        | some r =>
          rw [hr] at h
          cases h
          exact ⟨Nat.le_of_ble_eq_true rfl, t_X8_isEndless σ x1 x2 r hr⟩
      · cases h)
noncomputable def pr_X8_endless : List (Nat × Instr × Nat) := [(0, .iconst 0, 1), (1, .istore_n 2, 1), (2, .iconst 0, 1), (3, .istore_n 3, 1), (4, .iload_n 3, 1), (5, .aload_n 0, 1), (6, .getfield 7, 3), (9, .bipush 77, 2), (11, .iaload, 1), (12, .if_icmp .ge 23, 3), (15, .iload_n 2, 1), (16, .aload_n 0, 1), (17, .iload_n 3, 1), (18, .iload_n 1, 1), (19, .invokevirtual 295, 3), (22, .invokestatic 197, 3), (25, .iload_n 3, 1), (26, .ishl, 1), (27, .ior, 1), (28, .istore_n 2, 1), (29, .iinc 3 1, 3), (32, .goto (-28), 3), (35, .iload_n 2, 1), (36, .ireturn, 1)]
set_option maxRecDepth 100000 in
theorem hp_X8_endless : pr_X8_endless.all (fun x => decide (decode cX8_endless x.1 = .ok x.2)) = true := by decide +kernel
noncomputable def f_X8_endless_b4 (N : Nat) : Nat → yS → Int → Int → Int → Option (Int × yS) := yfix (fun _ _ _ _ => none) (fun ih σ x1 x2 x3 =>
    bif ycP .ge x3 (σ.1 1 77) then
      some (x2, σ)
    else
      match f_X8_isEndless N σ x3 x1 with
      | none => none
      | some r1 => match f_X8_flag N r1.2 r1.1 with
        | none => none
        | some r2 => ih r2.2 x1 (yor x2 (ysl r2.1 x3)) (yad x3 1))
theorem q_X8_endless_b4 (N : Nat) (n : Nat) (σ : yS) (x1 : Int) (x2 : Int) (x3 : Int) : f_X8_endless_b4 N (n + 1) σ x1 x2 x3 =
    (bif ycP .ge x3 (σ.1 1 77) then
      some (x2, σ)
    else
      match f_X8_isEndless N σ x3 x1 with
      | none => none
      | some r1 => match f_X8_flag N r1.2 r1.1 with
        | none => none
        | some r2 => (f_X8_endless_b4 N n) r2.2 x1 (yor x2 (ysl r2.1 x3)) (yad x3 1)) := rfl
noncomputable def f_X8_endless (N : Nat) (σ : yS) (x1 : Int) : Option (Int × yS) :=
  f_X8_endless_b4 N N σ x1 0 0
noncomputable def F_X8_endless (N : Nat) : yF := fun as σ => match as with
  | [.inr (.inl 8, 0), .inl (.inl x1)] => (f_X8_endless N σ x1).map (fun r => (some (.inl (.inl r.1)), r.2))
  | _ => none
theorem e_X8_endless {N : Nat} {σ : yS} {x1 : Int} {r : Int × yS} (h : f_X8_endless N σ x1 = some r) : F_X8_endless N [.inr (.inl 8, 0), .inl (.inl x1)] σ = some (some (.inl (.inl r.1)), r.2) := by
  show (f_X8_endless N σ x1).map (fun r => ((some (.inl (.inl r.1)), r.2) : yR)) = _
  rw [h]
  rfl
noncomputable def tb_X8_endless (N : Nat) : yTb := ([(7, 8, 0, 3)], [], [], [(295, 3, 8, F_X8_isEndless N)], [(197, 1, F_X8_flag N)], [], [])
abbrev G_X8_endless (N : Nat) (X : zXT) (sh : List yH) (l : Launch) (rm : Room) : yC → yR → Prop := yGoes X vwCl yct sh l rm cX8_endless 4 wsX8_endless RX8 (tb_X8_endless N) pr_X8_endless 1
set_option maxRecDepth 100000 in
set_option maxHeartbeats 4000000 in
theorem t_X8_endless_b4 {N : Nat} {X : zXT} {sh : List yH} {l : Launch} {rm : Room} : ∀ (n : Nat) (σ : yS) (x1 : Int) (x2 : Int) (x3 : Int) (res : Int × yS), f_X8_endless_b4 N n σ x1 x2 x3 = some res → G_X8_endless N X sh l rm (4, [(0, .inr (.inl 8, 0)), (1, .inl (.inl x1)), (2, .inl (.inl x2)), (3, .inl (.inl x3))], [], σ) (some (.inl (.inl res.1)), res.2) := by
  intro n
  induction n with
  | zero => intro σ x1 x2 x3 res h; exact (yno h).elim
  | succ n ih =>
    intro σ x1 x2 x3 res h
    rw [q_X8_endless_b4] at h
    refine yG_n (n := 5) (C' := (12, [(0, .inr (.inl 8, 0)), (1, .inl (.inl x1)), (2, .inl (.inl x2)), (3, .inl (.inl x3))], [.inl (.inl (σ.1 1 77)), .inl (.inl x3)], σ)) rfl ?_
    cases hg1 : ycP .ge x3 (σ.1 1 77) with
    | true =>
      rw [hg1] at h
      dsimp only [cond] at h
      refine yG_t (C' := (35, [(0, .inr (.inl 8, 0)), (1, .inl (.inl x1)), (2, .inl (.inl x2)), (3, .inl (.inl x3))], [], σ)) rfl hg1 ?_
      refine yG_n (n := 1) (C' := (36, [(0, .inr (.inl 8, 0)), (1, .inl (.inl x1)), (2, .inl (.inl x2)), (3, .inl (.inl x3))], [.inl (.inl x2)], σ)) rfl ?_
      have h := Option.some.inj h
      subst h
      dsimp only
      exact yG_r rfl rfl
    | false =>
      rw [hg1] at h
      dsimp only [cond] at h
      refine yG_f (C' := (15, [(0, .inr (.inl 8, 0)), (1, .inl (.inl x1)), (2, .inl (.inl x2)), (3, .inl (.inl x3))], [], σ)) rfl hg1 ?_
      refine yG_n (n := 4) (C' := (19, [(0, .inr (.inl 8, 0)), (1, .inl (.inl x1)), (2, .inl (.inl x2)), (3, .inl (.inl x3))], [.inl (.inl x1), .inl (.inl x3), .inr (.inl 8, 0), .inl (.inl x2)], σ)) rfl ?_
      cases hr2 : f_X8_isEndless N σ x3 x1 with
      | none => rw [hr2] at h; dsimp only at h; cases h
      | some r1 =>
        rw [hr2] at h
        dsimp only at h
        refine yG_c (C1 := (22, [(0, .inr (.inl 8, 0)), (1, .inl (.inl x1)), (2, .inl (.inl x2)), (3, .inl (.inl x3))], [.inl (.inl r1.1), .inl (.inl x2)], r1.2)) rfl (e_X8_isEndless hr2) rfl ?_
        cases hr3 : f_X8_flag N r1.2 r1.1 with
        | none => rw [hr3] at h; dsimp only at h; cases h
        | some r2 =>
          rw [hr3] at h
          dsimp only at h
          refine yG_c (C1 := (25, [(0, .inr (.inl 8, 0)), (1, .inl (.inl x1)), (2, .inl (.inl x2)), (3, .inl (.inl x3))], [.inl (.inl r2.1), .inl (.inl x2)], r2.2)) rfl (e_X8_flag hr3) rfl ?_
          refine yG_n (n := 6) (C' := (4, [(3, .inl (.inl (yad x3 1))), (2, .inl (.inl (yor x2 (ysl r2.1 x3)))), (0, .inr (.inl 8, 0)), (1, .inl (.inl x1))], [], r2.2)) rfl ?_
          exact yG_w [2, 3, 1, 0] rfl (ih r2.2 x1 (yor x2 (ysl r2.1 x3)) (yad x3 1) res h)
set_option maxRecDepth 100000 in
set_option maxHeartbeats 4000000 in
theorem t_X8_endless {N : Nat} {X : zXT} {sh : List yH} {l : Launch} {rm : Room} (σ : yS) (x1 : Int) (res : Int × yS) (h : f_X8_endless N σ x1 = some res) : G_X8_endless N X sh l rm (0, [(0, .inr (.inl 8, 0)), (1, .inl (.inl x1))], [], σ) (some (.inl (.inl res.1)), res.2) := by
  unfold f_X8_endless at h
  refine yG_n (n := 4) (C' := (4, [(3, .inl (.inl 0)), (2, .inl (.inl 0)), (0, .inr (.inl 8, 0)), (1, .inl (.inl x1))], [], σ)) rfl ?_
  exact yG_w [2, 3, 1, 0] rfl (t_X8_endless_b4 N σ x1 0 0 res h)
set_option maxRecDepth 100000 in
set_option maxHeartbeats 4000000 in
theorem m_X8_endless {N : Nat} {X : zXT} (hX : zXok X) (hN : zXn X) (l : Launch) {sh : List yH} : yMet X vwCl yct sh l yX8_endless wsX8_endless { frames := 5, cells := 0, slots := 0, locals := 163 } (F_X8_endless N) :=
  ymeth (tb := tb_X8_endless N) (pr := pr_X8_endless) (rt := 1) (own := RX8) hX (by decide +kernel) rfl rfl ⟨Nat.le_of_ble_eq_true rfl, Nat.le_of_ble_eq_true rfl⟩
    (zfl_all (List.forall_mem_cons.mpr ⟨zfl_X8 (fun w h => List.mem_cons_of_mem _ (List.mem_append_right _ h)) (List.mem_of_getElem? (i := 1) rfl) (by decide) (by decide), fun _ h => absurd h List.not_mem_nil⟩))
    (zco_all (fun _ h => absurd h List.not_mem_nil)) (zlc_all (fun _ h => absurd h List.not_mem_nil))
    (List.forall_mem_cons.mpr ⟨ycal_V hX (m_X8_isEndless hX hN l) rfl (fun s args hts => cwV 2 hts gX8_endless_X8_isEndless rfl rfl rfl (by decide +kernel) ⟨Nat.le_of_ble_eq_true rfl, Nat.le_of_ble_eq_true rfl⟩), fun _ h => absurd h List.not_mem_nil⟩)
    (List.forall_mem_cons.mpr ⟨ycal_S hX (m_X8_flag hX hN l) (fun s args hts => va_cwS 1 hts gX8_endless_X8_flag rfl rfl rfl (by decide +kernel) ⟨Nat.le_of_ble_eq_true rfl, Nat.le_of_ble_eq_true rfl⟩), fun _ h => absurd h List.not_mem_nil⟩)
    (zmm_all (fun _ h => absurd h List.not_mem_nil)) (fun _ h => absurd h List.not_mem_nil) (zpr_all hp_X8_endless) (fun as σ res h => by
      unfold F_X8_endless at h
      split at h
      · rename_i x1
        cases hr : f_X8_endless N σ x1 with
        | none => rw [hr] at h; cases h
        | some r =>
          rw [hr] at h
          cases h
          exact ⟨Nat.le_of_ble_eq_true rfl, t_X8_endless σ x1 r hr⟩
      · cases h)
noncomputable def pr_X8_look : List (Nat × Instr × Nat) := [(0, .iload_n 1, 1), (1, .aload_n 0, 1), (2, .getfield 94, 3), (5, .if_icmp .ge 12, 3), (8, .aload_n 0, 1), (9, .getfield 32, 3), (12, .iload_n 1, 1), (13, .iaload, 1), (14, .goto 4, 3), (17, .iconst (-1), 1), (18, .ireturn, 1)]
set_option maxRecDepth 100000 in
theorem hp_X8_look : pr_X8_look.all (fun x => decide (decode cX8_look x.1 = .ok x.2)) = true := by decide +kernel
noncomputable def f_X8_look_b18 (N : Nat) (σ : yS) (s0 : Int) : Option (Int × yS) :=
  some (s0, σ)
noncomputable def f_X8_look (N : Nat) (σ : yS) (x1 : Int) : Option (Int × yS) :=
  bif ycP .ge x1 (σ.1 0 17) then
    f_X8_look_b18 N σ ((-1))
  else
    bif yin x1 160 then
      f_X8_look_b18 N σ (σ.1 8 x1.toNat)
    else none
noncomputable def F_X8_look (N : Nat) : yF := fun as σ => match as with
  | [.inr (.inl 8, 0), .inl (.inl x1)] => (f_X8_look N σ x1).map (fun r => (some (.inl (.inl r.1)), r.2))
  | _ => none
theorem e_X8_look {N : Nat} {σ : yS} {x1 : Int} {r : Int × yS} (h : f_X8_look N σ x1 = some r) : F_X8_look N [.inr (.inl 8, 0), .inl (.inl x1)] σ = some (some (.inl (.inl r.1)), r.2) := by
  show (f_X8_look N σ x1).map (fun r => ((some (.inl (.inl r.1)), r.2) : yR)) = _
  rw [h]
  rfl
noncomputable def tb_X8_look (N : Nat) : yTb := ([(32, 8, 16, 3), (94, 8, 17, 0)], [], [], [], [], [], [])
abbrev G_X8_look (N : Nat) (X : zXT) (sh : List yH) (l : Launch) (rm : Room) : yC → yR → Prop := yGoes X vwCl yct sh l rm cX8_look 2 wsX8_look RX8 (tb_X8_look N) pr_X8_look 1
set_option maxRecDepth 100000 in
set_option maxHeartbeats 4000000 in
theorem t_X8_look_b18 {N : Nat} {X : zXT} {sh : List yH} {l : Launch} {rm : Room} (σ : yS) (s0 : Int) (res : Int × yS) (h : f_X8_look_b18 N σ s0 = some res) : G_X8_look N X sh l rm (18, [], [.inl (.inl s0)], σ) (some (.inl (.inl res.1)), res.2) := by
  unfold f_X8_look_b18 at h
  have h := Option.some.inj h
  subst h
  dsimp only
  exact yG_r rfl rfl
set_option maxRecDepth 100000 in
set_option maxHeartbeats 4000000 in
theorem t_X8_look {N : Nat} {X : zXT} {sh : List yH} {l : Launch} {rm : Room} (σ : yS) (x1 : Int) (res : Int × yS) (h : f_X8_look N σ x1 = some res) : G_X8_look N X sh l rm (0, [(0, .inr (.inl 8, 0)), (1, .inl (.inl x1))], [], σ) (some (.inl (.inl res.1)), res.2) := by
  unfold f_X8_look at h
  refine yG_n (n := 3) (C' := (5, [(0, .inr (.inl 8, 0)), (1, .inl (.inl x1))], [.inl (.inl (σ.1 0 17)), .inl (.inl x1)], σ)) rfl ?_
  cases hg1 : ycP .ge x1 (σ.1 0 17) with
  | true =>
    rw [hg1] at h
    dsimp only [cond] at h
    refine yG_t (C' := (17, [(0, .inr (.inl 8, 0)), (1, .inl (.inl x1))], [], σ)) rfl hg1 ?_
    refine yG_n (n := 1) (C' := (18, [(0, .inr (.inl 8, 0)), (1, .inl (.inl x1))], [.inl (.inl ((-1)))], σ)) rfl ?_
    exact yG_w [] rfl (t_X8_look_b18 σ ((-1)) res h)
  | false =>
    rw [hg1] at h
    dsimp only [cond] at h
    refine yG_f (C' := (8, [(0, .inr (.inl 8, 0)), (1, .inl (.inl x1))], [], σ)) rfl hg1 ?_
    refine yG_n (n := 3) (C' := (13, [(0, .inr (.inl 8, 0)), (1, .inl (.inl x1))], [.inl (.inl x1), .inr (.inr (0, 160), 8)], σ)) rfl ?_
    cases hg2 : yin x1 160 with
    | false => rw [hg2] at h; dsimp only [cond] at h; cases h
    | true =>
      rw [hg2] at h
      dsimp only [cond] at h
      refine yG_t (C' := (14, [(0, .inr (.inl 8, 0)), (1, .inl (.inl x1))], [.inl (.inl (σ.1 8 x1.toNat))], σ)) rfl hg2 ?_
      refine yG_n (n := 1) (C' := (18, [(0, .inr (.inl 8, 0)), (1, .inl (.inl x1))], [.inl (.inl (σ.1 8 x1.toNat))], σ)) rfl ?_
      exact yG_w [] rfl (t_X8_look_b18 σ (σ.1 8 x1.toNat) res h)
set_option maxRecDepth 100000 in
set_option maxHeartbeats 4000000 in
theorem m_X8_look {N : Nat} {X : zXT} (hX : zXok X) (hN : zXn X) (l : Launch) {sh : List yH} : yMet X vwCl yct sh l yX8_look wsX8_look { frames := 1, cells := 0, slots := 0, locals := 64 } (F_X8_look N) :=
  ymeth (tb := tb_X8_look N) (pr := pr_X8_look) (rt := 1) (own := RX8) hX (by decide +kernel) rfl rfl ⟨Nat.le_of_ble_eq_true rfl, Nat.le_of_ble_eq_true rfl⟩
    (zfl_all (List.forall_mem_cons.mpr ⟨zfl_X8 (fun w h => List.mem_cons_of_mem _ (List.mem_append_right _ h)) (List.mem_of_getElem? (i := 2) rfl) (by decide) (by decide), List.forall_mem_cons.mpr ⟨zfl_X8 (fun w h => List.mem_cons_of_mem _ (List.mem_append_right _ h)) (List.mem_of_getElem? (i := 1) rfl) (by decide) (by decide), fun _ h => absurd h List.not_mem_nil⟩⟩))
    (zco_all (fun _ h => absurd h List.not_mem_nil)) (zlc_all (fun _ h => absurd h List.not_mem_nil))
    (fun _ h => absurd h List.not_mem_nil)
    (fun _ h => absurd h List.not_mem_nil)
    (zmm_all (fun _ h => absurd h List.not_mem_nil)) (fun _ h => absurd h List.not_mem_nil) (zpr_all hp_X8_look) (fun as σ res h => by
      unfold F_X8_look at h
      split at h
      · rename_i x1
        cases hr : f_X8_look N σ x1 with
        | none => rw [hr] at h; cases h
        | some r =>
          rw [hr] at h
          cases h
          exact ⟨Nat.le_of_ble_eq_true rfl, t_X8_look σ x1 r hr⟩
      · cases h)
noncomputable def pr_X8_ends : List (Nat × Instr × Nat) := [(0, .aload_n 0, 1), (1, .aload_n 0, 1), (2, .getfield 100, 3), (5, .iconst 3, 1), (6, .iadd, 1), (7, .invokevirtual 109, 3), (10, .iload_n 1, 1), (11, .if_icmp .ne 43, 3), (14, .iload_n 2, 1), (15, .ifCond .eq 17, 3), (18, .aload_n 0, 1), (19, .aload_n 0, 1), (20, .getfield 100, 3), (23, .iconst 4, 1), (24, .iadd, 1), (25, .invokevirtual 109, 3), (28, .iload_n 2, 1), (29, .if_icmp .ne 25, 3), (32, .iload_n 3, 1), (33, .ifCond .eq 17, 3), (36, .aload_n 0, 1), (37, .aload_n 0, 1), (38, .getfield 100, 3), (41, .iconst 5, 1), (42, .iadd, 1), (43, .invokevirtual 109, 3), (46, .iload_n 3, 1), (47, .if_icmp .ne 7, 3), (50, .iconst 1, 1), (51, .goto 4, 3), (54, .iconst 0, 1), (55, .ireturn, 1)]
set_option maxRecDepth 100000 in
theorem hp_X8_ends : pr_X8_ends.all (fun x => decide (decode cX8_ends x.1 = .ok x.2)) = true := by decide +kernel
noncomputable def f_X8_ends_b55 (N : Nat) (σ : yS) (s0 : Int) : Option (Int × yS) :=
  bif yb1 s0 then some (s0, σ) else none
noncomputable def f_X8_ends_b54 (N : Nat) (σ : yS) : Option (Int × yS) :=
  f_X8_ends_b55 N σ 0
noncomputable def f_X8_ends_b50 (N : Nat) (σ : yS) : Option (Int × yS) :=
  f_X8_ends_b55 N σ 1
noncomputable def f_X8_ends_b32 (N : Nat) (σ : yS) (x3 : Int) : Option (Int × yS) :=
  bif ycP .eq x3 0 then
    f_X8_ends_b50 N σ
  else
    match f_X8_look N σ (yad (σ.1 0 19) 5) with
    | none => none
    | some r2 => bif ycP .ne r2.1 x3 then
        f_X8_ends_b54 N r2.2
      else
        f_X8_ends_b50 N r2.2
noncomputable def f_X8_ends (N : Nat) (σ : yS) (x1 : Int) (x2 : Int) (x3 : Int) : Option (Int × yS) :=
  match f_X8_look N σ (yad (σ.1 0 19) 3) with
  | none => none
  | some r1 => bif ycP .ne r1.1 x1 then
      f_X8_ends_b54 N r1.2
    else
      bif ycP .eq x2 0 then
        f_X8_ends_b32 N r1.2 x3
      else
        match f_X8_look N r1.2 (yad (r1.2.1 0 19) 4) with
        | none => none
        | some r3 => bif ycP .ne r3.1 x2 then
            f_X8_ends_b54 N r3.2
          else
            f_X8_ends_b32 N r3.2 x3
noncomputable def F_X8_ends (N : Nat) : yF := fun as σ => match as with
  | [.inr (.inl 8, 0), .inl (.inl x1), .inl (.inl x2), .inl (.inl x3)] => (f_X8_ends N σ x1 x2 x3).map (fun r => (some (.inl (.inl r.1)), r.2))
  | _ => none
theorem e_X8_ends {N : Nat} {σ : yS} {x1 : Int} {x2 : Int} {x3 : Int} {r : Int × yS} (h : f_X8_ends N σ x1 x2 x3 = some r) : F_X8_ends N [.inr (.inl 8, 0), .inl (.inl x1), .inl (.inl x2), .inl (.inl x3)] σ = some (some (.inl (.inl r.1)), r.2) := by
  show (f_X8_ends N σ x1 x2 x3).map (fun r => ((some (.inl (.inl r.1)), r.2) : yR)) = _
  rw [h]
  rfl
noncomputable def tb_X8_ends (N : Nat) : yTb := ([(100, 8, 19, 0)], [], [], [(109, 2, 8, F_X8_look N)], [], [], [])
abbrev G_X8_ends (N : Nat) (X : zXT) (sh : List yH) (l : Launch) (rm : Room) : yC → yR → Prop := yGoes X vwCl yct sh l rm cX8_ends 4 wsX8_ends RX8 (tb_X8_ends N) pr_X8_ends 2
set_option maxRecDepth 100000 in
set_option maxHeartbeats 4000000 in
theorem t_X8_ends_b55 {N : Nat} {X : zXT} {sh : List yH} {l : Launch} {rm : Room} (σ : yS) (s0 : Int) (res : Int × yS) (h : f_X8_ends_b55 N σ s0 = some res) : G_X8_ends N X sh l rm (55, [], [.inl (.inl s0)], σ) (some (.inl (.inl res.1)), res.2) := by
  unfold f_X8_ends_b55 at h
  cases hg1 : yb1 s0 with
  | false => rw [hg1] at h; dsimp only [cond] at h; cases h
  | true =>
    rw [hg1] at h
    dsimp only [cond] at h
    have h := Option.some.inj h
    subst h
    dsimp only
    exact yG_r rfl hg1
set_option maxRecDepth 100000 in
set_option maxHeartbeats 4000000 in
theorem t_X8_ends_b54 {N : Nat} {X : zXT} {sh : List yH} {l : Launch} {rm : Room} (σ : yS) (res : Int × yS) (h : f_X8_ends_b54 N σ = some res) : G_X8_ends N X sh l rm (54, [], [], σ) (some (.inl (.inl res.1)), res.2) := by
  unfold f_X8_ends_b54 at h
  refine yG_n (n := 1) (C' := (55, [], [.inl (.inl 0)], σ)) rfl ?_
  exact t_X8_ends_b55 σ 0 res h
set_option maxRecDepth 100000 in
set_option maxHeartbeats 4000000 in
theorem t_X8_ends_b50 {N : Nat} {X : zXT} {sh : List yH} {l : Launch} {rm : Room} (σ : yS) (res : Int × yS) (h : f_X8_ends_b50 N σ = some res) : G_X8_ends N X sh l rm (50, [], [], σ) (some (.inl (.inl res.1)), res.2) := by
  unfold f_X8_ends_b50 at h
  refine yG_n (n := 2) (C' := (55, [], [.inl (.inl 1)], σ)) rfl ?_
  exact t_X8_ends_b55 σ 1 res h
set_option maxRecDepth 100000 in
set_option maxHeartbeats 4000000 in
theorem t_X8_ends_b32 {N : Nat} {X : zXT} {sh : List yH} {l : Launch} {rm : Room} (σ : yS) (x3 : Int) (res : Int × yS) (h : f_X8_ends_b32 N σ x3 = some res) : G_X8_ends N X sh l rm (32, [(0, .inr (.inl 8, 0)), (3, .inl (.inl x3))], [], σ) (some (.inl (.inl res.1)), res.2) := by
  unfold f_X8_ends_b32 at h
  refine yG_n (n := 1) (C' := (33, [(0, .inr (.inl 8, 0)), (3, .inl (.inl x3))], [.inl (.inl x3)], σ)) rfl ?_
  cases hg2 : ycP .eq x3 0 with
  | true =>
    rw [hg2] at h
    dsimp only [cond] at h
    refine yG_t (C' := (50, [(0, .inr (.inl 8, 0)), (3, .inl (.inl x3))], [], σ)) rfl hg2 ?_
    exact yG_w [] rfl (t_X8_ends_b50 σ res h)
  | false =>
    rw [hg2] at h
    dsimp only [cond] at h
    refine yG_f (C' := (36, [(0, .inr (.inl 8, 0)), (3, .inl (.inl x3))], [], σ)) rfl hg2 ?_
    refine yG_n (n := 5) (C' := (43, [(0, .inr (.inl 8, 0)), (3, .inl (.inl x3))], [.inl (.inl (yad (σ.1 0 19) 5)), .inr (.inl 8, 0)], σ)) rfl ?_
    cases hr3 : f_X8_look N σ (yad (σ.1 0 19) 5) with
    | none => rw [hr3] at h; dsimp only at h; cases h
    | some r2 =>
      rw [hr3] at h
      dsimp only at h
      refine yG_c (C1 := (46, [(0, .inr (.inl 8, 0)), (3, .inl (.inl x3))], [.inl (.inl r2.1)], r2.2)) rfl (e_X8_look hr3) rfl ?_
      refine yG_n (n := 1) (C' := (47, [(0, .inr (.inl 8, 0)), (3, .inl (.inl x3))], [.inl (.inl x3), .inl (.inl r2.1)], r2.2)) rfl ?_
      cases hg4 : ycP .ne r2.1 x3 with
      | true =>
        rw [hg4] at h
        dsimp only [cond] at h
        refine yG_t (C' := (54, [(0, .inr (.inl 8, 0)), (3, .inl (.inl x3))], [], r2.2)) rfl hg4 ?_
        exact yG_w [] rfl (t_X8_ends_b54 r2.2 res h)
      | false =>
        rw [hg4] at h
        dsimp only [cond] at h
        refine yG_f (C' := (50, [(0, .inr (.inl 8, 0)), (3, .inl (.inl x3))], [], r2.2)) rfl hg4 ?_
        exact yG_w [] rfl (t_X8_ends_b50 r2.2 res h)
set_option maxRecDepth 100000 in
set_option maxHeartbeats 4000000 in
theorem t_X8_ends {N : Nat} {X : zXT} {sh : List yH} {l : Launch} {rm : Room} (σ : yS) (x1 : Int) (x2 : Int) (x3 : Int) (res : Int × yS) (h : f_X8_ends N σ x1 x2 x3 = some res) : G_X8_ends N X sh l rm (0, [(0, .inr (.inl 8, 0)), (1, .inl (.inl x1)), (2, .inl (.inl x2)), (3, .inl (.inl x3))], [], σ) (some (.inl (.inl res.1)), res.2) := by
  unfold f_X8_ends at h
  refine yG_n (n := 5) (C' := (7, [(0, .inr (.inl 8, 0)), (1, .inl (.inl x1)), (2, .inl (.inl x2)), (3, .inl (.inl x3))], [.inl (.inl (yad (σ.1 0 19) 3)), .inr (.inl 8, 0)], σ)) rfl ?_
  cases hr5 : f_X8_look N σ (yad (σ.1 0 19) 3) with
  | none => rw [hr5] at h; dsimp only at h; cases h
  | some r1 =>
    rw [hr5] at h
    dsimp only at h
    refine yG_c (C1 := (10, [(0, .inr (.inl 8, 0)), (1, .inl (.inl x1)), (2, .inl (.inl x2)), (3, .inl (.inl x3))], [.inl (.inl r1.1)], r1.2)) rfl (e_X8_look hr5) rfl ?_
    refine yG_n (n := 1) (C' := (11, [(0, .inr (.inl 8, 0)), (1, .inl (.inl x1)), (2, .inl (.inl x2)), (3, .inl (.inl x3))], [.inl (.inl x1), .inl (.inl r1.1)], r1.2)) rfl ?_
    cases hg6 : ycP .ne r1.1 x1 with
    | true =>
      rw [hg6] at h
      dsimp only [cond] at h
      refine yG_t (C' := (54, [(0, .inr (.inl 8, 0)), (1, .inl (.inl x1)), (2, .inl (.inl x2)), (3, .inl (.inl x3))], [], r1.2)) rfl hg6 ?_
      exact yG_w [] rfl (t_X8_ends_b54 r1.2 res h)
    | false =>
      rw [hg6] at h
      dsimp only [cond] at h
      refine yG_f (C' := (14, [(0, .inr (.inl 8, 0)), (1, .inl (.inl x1)), (2, .inl (.inl x2)), (3, .inl (.inl x3))], [], r1.2)) rfl hg6 ?_
      refine yG_n (n := 1) (C' := (15, [(0, .inr (.inl 8, 0)), (1, .inl (.inl x1)), (2, .inl (.inl x2)), (3, .inl (.inl x3))], [.inl (.inl x2)], r1.2)) rfl ?_
      cases hg7 : ycP .eq x2 0 with
      | true =>
        rw [hg7] at h
        dsimp only [cond] at h
        refine yG_t (C' := (32, [(0, .inr (.inl 8, 0)), (1, .inl (.inl x1)), (2, .inl (.inl x2)), (3, .inl (.inl x3))], [], r1.2)) rfl hg7 ?_
        exact yG_w [0, 3] rfl (t_X8_ends_b32 r1.2 x3 res h)
      | false =>
        rw [hg7] at h
        dsimp only [cond] at h
        refine yG_f (C' := (18, [(0, .inr (.inl 8, 0)), (1, .inl (.inl x1)), (2, .inl (.inl x2)), (3, .inl (.inl x3))], [], r1.2)) rfl hg7 ?_
        refine yG_n (n := 5) (C' := (25, [(0, .inr (.inl 8, 0)), (1, .inl (.inl x1)), (2, .inl (.inl x2)), (3, .inl (.inl x3))], [.inl (.inl (yad (r1.2.1 0 19) 4)), .inr (.inl 8, 0)], r1.2)) rfl ?_
        cases hr8 : f_X8_look N r1.2 (yad (r1.2.1 0 19) 4) with
        | none => rw [hr8] at h; dsimp only at h; cases h
        | some r3 =>
          rw [hr8] at h
          dsimp only at h
          refine yG_c (C1 := (28, [(0, .inr (.inl 8, 0)), (1, .inl (.inl x1)), (2, .inl (.inl x2)), (3, .inl (.inl x3))], [.inl (.inl r3.1)], r3.2)) rfl (e_X8_look hr8) rfl ?_
          refine yG_n (n := 1) (C' := (29, [(0, .inr (.inl 8, 0)), (1, .inl (.inl x1)), (2, .inl (.inl x2)), (3, .inl (.inl x3))], [.inl (.inl x2), .inl (.inl r3.1)], r3.2)) rfl ?_
          cases hg9 : ycP .ne r3.1 x2 with
          | true =>
            rw [hg9] at h
            dsimp only [cond] at h
            refine yG_t (C' := (54, [(0, .inr (.inl 8, 0)), (1, .inl (.inl x1)), (2, .inl (.inl x2)), (3, .inl (.inl x3))], [], r3.2)) rfl hg9 ?_
            exact yG_w [] rfl (t_X8_ends_b54 r3.2 res h)
          | false =>
            rw [hg9] at h
            dsimp only [cond] at h
            refine yG_f (C' := (32, [(0, .inr (.inl 8, 0)), (1, .inl (.inl x1)), (2, .inl (.inl x2)), (3, .inl (.inl x3))], [], r3.2)) rfl hg9 ?_
            exact yG_w [0, 3] rfl (t_X8_ends_b32 r3.2 x3 res h)
set_option maxRecDepth 100000 in
set_option maxHeartbeats 4000000 in
theorem m_X8_ends {N : Nat} {X : zXT} (hX : zXok X) (hN : zXn X) (l : Launch) {sh : List yH} : yMet X vwCl yct sh l yX8_ends wsX8_ends { frames := 2, cells := 0, slots := 0, locals := 85 } (F_X8_ends N) :=
  ymeth (tb := tb_X8_ends N) (pr := pr_X8_ends) (rt := 2) (own := RX8) hX (by decide +kernel) rfl rfl ⟨Nat.le_of_ble_eq_true rfl, Nat.le_of_ble_eq_true rfl⟩
    (zfl_all (List.forall_mem_cons.mpr ⟨zfl_X8 (fun w h => List.mem_cons_of_mem _ (List.mem_append_right _ h)) (List.mem_of_getElem? (i := 1) rfl) (by decide) (by decide), fun _ h => absurd h List.not_mem_nil⟩))
    (zco_all (fun _ h => absurd h List.not_mem_nil)) (zlc_all (fun _ h => absurd h List.not_mem_nil))
    (List.forall_mem_cons.mpr ⟨ycal_V hX (m_X8_look hX hN l) rfl (fun s args hts => cwV 1 hts gX8_ends_X8_look rfl rfl rfl (by decide +kernel) ⟨Nat.le_of_ble_eq_true rfl, Nat.le_of_ble_eq_true rfl⟩), fun _ h => absurd h List.not_mem_nil⟩)
    (fun _ h => absurd h List.not_mem_nil)
    (zmm_all (fun _ h => absurd h List.not_mem_nil)) (fun _ h => absurd h List.not_mem_nil) (zpr_all hp_X8_ends) (fun as σ res h => by
      unfold F_X8_ends at h
      split at h
      · rename_i x1 x2 x3
        cases hr : f_X8_ends N σ x1 x2 x3 with
        | none => rw [hr] at h; cases h
        | some r =>
          rw [hr] at h
          cases h
          exact ⟨Nat.le_of_ble_eq_true rfl, t_X8_ends σ x1 x2 x3 r hr⟩
      · cases h)
noncomputable def pr_X8_ever : List (Nat × Instr × Nat) := [(0, .aload_n 0, 1), (1, .aload_n 0, 1), (2, .invokevirtual 272, 3), (5, .invokevirtual 299, 3), (8, .ireturn, 1)]
set_option maxRecDepth 100000 in
theorem hp_X8_ever : pr_X8_ever.all (fun x => decide (decode cX8_ever x.1 = .ok x.2)) = true := by decide +kernel
noncomputable def f_X8_ever (N : Nat) (σ : yS) : Option (Int × yS) :=
  match f_X8_lawyersNow N σ with
  | none => none
  | some r1 => match f_X8_endless N r1.2 r1.1 with
    | none => none
    | some r2 => some (r2.1, r2.2)
noncomputable def F_X8_ever (N : Nat) : yF := fun as σ => match as with
  | [.inr (.inl 8, 0)] => (f_X8_ever N σ).map (fun r => (some (.inl (.inl r.1)), r.2))
  | _ => none
theorem e_X8_ever {N : Nat} {σ : yS} {r : Int × yS} (h : f_X8_ever N σ = some r) : F_X8_ever N [.inr (.inl 8, 0)] σ = some (some (.inl (.inl r.1)), r.2) := by
  show (f_X8_ever N σ).map (fun r => ((some (.inl (.inl r.1)), r.2) : yR)) = _
  rw [h]
  rfl
noncomputable def tb_X8_ever (N : Nat) : yTb := ([], [], [], [(272, 1, 8, F_X8_lawyersNow N), (299, 2, 8, F_X8_endless N)], [], [], [])
abbrev G_X8_ever (N : Nat) (X : zXT) (sh : List yH) (l : Launch) (rm : Room) : yC → yR → Prop := yGoes X vwCl yct sh l rm cX8_ever 1 wsX8_ever RX8 (tb_X8_ever N) pr_X8_ever 1
set_option maxRecDepth 100000 in
set_option maxHeartbeats 4000000 in
theorem t_X8_ever {N : Nat} {X : zXT} {sh : List yH} {l : Launch} {rm : Room} (σ : yS) (res : Int × yS) (h : f_X8_ever N σ = some res) : G_X8_ever N X sh l rm (0, [(0, .inr (.inl 8, 0))], [], σ) (some (.inl (.inl res.1)), res.2) := by
  unfold f_X8_ever at h
  refine yG_n (n := 2) (C' := (2, [(0, .inr (.inl 8, 0))], [.inr (.inl 8, 0), .inr (.inl 8, 0)], σ)) rfl ?_
  cases hr1 : f_X8_lawyersNow N σ with
  | none => rw [hr1] at h; dsimp only at h; cases h
  | some r1 =>
    rw [hr1] at h
    dsimp only at h
    refine yG_c (C1 := (5, [(0, .inr (.inl 8, 0))], [.inl (.inl r1.1), .inr (.inl 8, 0)], r1.2)) rfl (e_X8_lawyersNow hr1) rfl ?_
    cases hr2 : f_X8_endless N r1.2 r1.1 with
    | none => rw [hr2] at h; dsimp only at h; cases h
    | some r2 =>
      rw [hr2] at h
      dsimp only at h
      refine yG_c (C1 := (8, [(0, .inr (.inl 8, 0))], [.inl (.inl r2.1)], r2.2)) rfl (e_X8_endless hr2) rfl ?_
      have h := Option.some.inj h
      subst h
      dsimp only
      exact yG_r rfl rfl
set_option maxRecDepth 100000 in
set_option maxHeartbeats 4000000 in
theorem m_X8_ever {N : Nat} {X : zXT} (hX : zXok X) (hN : zXn X) (l : Launch) {sh : List yH} : yMet X vwCl yct sh l yX8_ever wsX8_ever { frames := 6, cells := 0, slots := 0, locals := 186 } (F_X8_ever N) :=
  ymeth (tb := tb_X8_ever N) (pr := pr_X8_ever) (rt := 1) (own := RX8) hX (by decide +kernel) rfl rfl ⟨Nat.le_of_ble_eq_true rfl, Nat.le_of_ble_eq_true rfl⟩
    (zfl_all (fun _ h => absurd h List.not_mem_nil))
    (zco_all (fun _ h => absurd h List.not_mem_nil)) (zlc_all (fun _ h => absurd h List.not_mem_nil))
    (List.forall_mem_cons.mpr ⟨ycal_V hX (m_X8_lawyersNow hX hN l) rfl (fun s args hts => cwV 0 hts gX8_ever_X8_lawyersNow rfl rfl rfl (by decide +kernel) ⟨Nat.le_of_ble_eq_true rfl, Nat.le_of_ble_eq_true rfl⟩), List.forall_mem_cons.mpr ⟨ycal_V hX (m_X8_endless hX hN l) rfl (fun s args hts => cwV 1 hts gX8_ever_X8_endless rfl rfl rfl (by decide +kernel) ⟨Nat.le_of_ble_eq_true rfl, Nat.le_of_ble_eq_true rfl⟩), fun _ h => absurd h List.not_mem_nil⟩⟩)
    (fun _ h => absurd h List.not_mem_nil)
    (zmm_all (fun _ h => absurd h List.not_mem_nil)) (fun _ h => absurd h List.not_mem_nil) (zpr_all hp_X8_ever) (fun as σ res h => by
      unfold F_X8_ever at h
      split at h
      · cases hr : f_X8_ever N σ with
        | none => rw [hr] at h; cases h
        | some r =>
          rw [hr] at h
          cases h
          exact ⟨Nat.le_of_ble_eq_true rfl, t_X8_ever σ r hr⟩
      · cases h)
noncomputable def pr_X8_fault : List (Nat × Instr × Nat) := [(0, .aload_n 0, 1), (1, .getfield 97, 3), (4, .ireturn, 1)]
set_option maxRecDepth 100000 in
theorem hp_X8_fault : pr_X8_fault.all (fun x => decide (decode cX8_fault x.1 = .ok x.2)) = true := by decide +kernel
noncomputable def f_X8_fault (N : Nat) (σ : yS) : Option (Int × yS) :=
  some (σ.1 0 22, σ)
noncomputable def F_X8_fault (N : Nat) : yF := fun as σ => match as with
  | [.inr (.inl 8, 0)] => (f_X8_fault N σ).map (fun r => (some (.inl (.inl r.1)), r.2))
  | _ => none
theorem e_X8_fault {N : Nat} {σ : yS} {r : Int × yS} (h : f_X8_fault N σ = some r) : F_X8_fault N [.inr (.inl 8, 0)] σ = some (some (.inl (.inl r.1)), r.2) := by
  show (f_X8_fault N σ).map (fun r => ((some (.inl (.inl r.1)), r.2) : yR)) = _
  rw [h]
  rfl
noncomputable def tb_X8_fault (N : Nat) : yTb := ([(97, 8, 22, 0)], [], [], [], [], [], [])
abbrev G_X8_fault (N : Nat) (X : zXT) (sh : List yH) (l : Launch) (rm : Room) : yC → yR → Prop := yGoes X vwCl yct sh l rm cX8_fault 1 wsX8_fault RX8 (tb_X8_fault N) pr_X8_fault 1
set_option maxRecDepth 100000 in
set_option maxHeartbeats 4000000 in
theorem t_X8_fault {N : Nat} {X : zXT} {sh : List yH} {l : Launch} {rm : Room} (σ : yS) (res : Int × yS) (h : f_X8_fault N σ = some res) : G_X8_fault N X sh l rm (0, [(0, .inr (.inl 8, 0))], [], σ) (some (.inl (.inl res.1)), res.2) := by
  unfold f_X8_fault at h
  refine yG_n (n := 2) (C' := (4, [(0, .inr (.inl 8, 0))], [.inl (.inl (σ.1 0 22))], σ)) rfl ?_
  have h := Option.some.inj h
  subst h
  dsimp only
  exact yG_r rfl rfl
set_option maxRecDepth 100000 in
set_option maxHeartbeats 4000000 in
theorem m_X8_fault {N : Nat} {X : zXT} (hX : zXok X) (hN : zXn X) (l : Launch) {sh : List yH} : yMet X vwCl yct sh l yX8_fault wsX8_fault { frames := 1, cells := 0, slots := 0, locals := 64 } (F_X8_fault N) :=
  ymeth (tb := tb_X8_fault N) (pr := pr_X8_fault) (rt := 1) (own := RX8) hX (by decide +kernel) rfl rfl ⟨Nat.le_of_ble_eq_true rfl, Nat.le_of_ble_eq_true rfl⟩
    (zfl_all (List.forall_mem_cons.mpr ⟨zfl_X8 (fun w h => List.mem_cons_of_mem _ (List.mem_append_right _ h)) (List.mem_of_getElem? (i := 1) rfl) (by decide) (by decide), fun _ h => absurd h List.not_mem_nil⟩))
    (zco_all (fun _ h => absurd h List.not_mem_nil)) (zlc_all (fun _ h => absurd h List.not_mem_nil))
    (fun _ h => absurd h List.not_mem_nil)
    (fun _ h => absurd h List.not_mem_nil)
    (zmm_all (fun _ h => absurd h List.not_mem_nil)) (fun _ h => absurd h List.not_mem_nil) (zpr_all hp_X8_fault) (fun as σ res h => by
      unfold F_X8_fault at h
      split at h
      · cases hr : f_X8_fault N σ with
        | none => rw [hr] at h; cases h
        | some r =>
          rw [hr] at h
          cases h
          exact ⟨Nat.le_of_ble_eq_true rfl, t_X8_fault σ r hr⟩
      · cases h)
noncomputable def pr_X8_feed : List (Nat × Instr × Nat) := [(0, .iload_n 1, 1), (1, .i2l, 1), (2, .lconst 0, 1), (3, .ldc2_w 88, 3), (6, .invokestatic 90, 3), (9, .ifCond .ne 5, 3), (12, .iconst (-1), 1), (13, .ireturn, 1), (14, .aload_n 0, 1), (15, .getfield 94, 3), (18, .sipush 160, 3), (21, .if_icmp .ne 6, 3), (24, .bipush (-3), 2), (26, .ireturn, 1), (27, .aload_n 0, 1), (28, .getfield 32, 3), (31, .aload_n 0, 1), (32, .getfield 94, 3), (35, .iload_n 1, 1), (36, .iastore, 1), (37, .aload_n 0, 1), (38, .dup, 1), (39, .getfield 94, 3), (42, .iconst 1, 1), (43, .iadd, 1), (44, .putfield 94, 3), (47, .aload_n 0, 1), (48, .getfield 94, 3), (51, .ireturn, 1)]
set_option maxRecDepth 100000 in
theorem hp_X8_feed : pr_X8_feed.all (fun x => decide (decode cX8_feed x.1 = .ok x.2)) = true := by decide +kernel
noncomputable def f_X8_feed_b48 (N : Nat) (σ : yS) : Option (Int × yS) :=
  some (σ.1 0 17, σ)
noncomputable def f_X8_feed_b39 (N : Nat) (σ : yS) : Option (Int × yS) :=
  f_X8_feed_b48 N (yw σ 0 17 (yad (σ.1 0 17) 1))
noncomputable def f_X8_feed (N : Nat) (σ : yS) (x1 : Int) : Option (Int × yS) :=
  match f_X8_in N σ x1 0 127 with
  | none => none
  | some r1 => bif ycP .ne r1.1 0 then
      bif ycP .ne (r1.2.1 0 17) 160 then
        bif yin (r1.2.1 0 17) 160 then
          f_X8_feed_b39 N (yw r1.2 8 (r1.2.1 0 17).toNat x1)
        else none
      else
        some ((-3), r1.2)
    else
      some ((-1), r1.2)
noncomputable def F_X8_feed (N : Nat) : yF := fun as σ => match as with
  | [.inr (.inl 8, 0), .inl (.inl x1)] => (f_X8_feed N σ x1).map (fun r => (some (.inl (.inl r.1)), r.2))
  | _ => none
theorem e_X8_feed {N : Nat} {σ : yS} {x1 : Int} {r : Int × yS} (h : f_X8_feed N σ x1 = some r) : F_X8_feed N [.inr (.inl 8, 0), .inl (.inl x1)] σ = some (some (.inl (.inl r.1)), r.2) := by
  show (f_X8_feed N σ x1).map (fun r => ((some (.inl (.inl r.1)), r.2) : yR)) = _
  rw [h]
  rfl
noncomputable def tb_X8_feed (N : Nat) : yTb := ([(32, 8, 16, 3), (94, 8, 17, 0)], [], [(88, 127)], [], [(90, 3, F_X8_in N)], [], [])
abbrev G_X8_feed (N : Nat) (X : zXT) (sh : List yH) (l : Launch) (rm : Room) : yC → yR → Prop := yGoes X vwCl yct sh l rm cX8_feed 2 wsX8_feed RX8 (tb_X8_feed N) pr_X8_feed 1
set_option maxRecDepth 100000 in
set_option maxHeartbeats 4000000 in
theorem t_X8_feed_b48 {N : Nat} {X : zXT} {sh : List yH} {l : Launch} {rm : Room} (σ : yS) (res : Int × yS) (h : f_X8_feed_b48 N σ = some res) : G_X8_feed N X sh l rm (48, [], [.inr (.inl 8, 0)], σ) (some (.inl (.inl res.1)), res.2) := by
  unfold f_X8_feed_b48 at h
  refine yG_n (n := 1) (C' := (51, [], [.inl (.inl (σ.1 0 17))], σ)) rfl ?_
  have h := Option.some.inj h
  subst h
  dsimp only
  exact yG_r rfl rfl
set_option maxRecDepth 100000 in
set_option maxHeartbeats 4000000 in
theorem t_X8_feed_b39 {N : Nat} {X : zXT} {sh : List yH} {l : Launch} {rm : Room} (σ : yS) (res : Int × yS) (h : f_X8_feed_b39 N σ = some res) : G_X8_feed N X sh l rm (39, [(0, .inr (.inl 8, 0))], [.inr (.inl 8, 0), .inr (.inl 8, 0)], σ) (some (.inl (.inl res.1)), res.2) := by
  unfold f_X8_feed_b39 at h
  refine yG_n (n := 5) (C' := (48, [(0, .inr (.inl 8, 0))], [.inr (.inl 8, 0)], yw σ 0 17 (yad (σ.1 0 17) 1))) rfl ?_
  exact yG_w [] rfl (t_X8_feed_b48 (yw σ 0 17 (yad (σ.1 0 17) 1)) res h)
set_option maxRecDepth 100000 in
set_option maxHeartbeats 4000000 in
theorem t_X8_feed {N : Nat} {X : zXT} {sh : List yH} {l : Launch} {rm : Room} (σ : yS) (x1 : Int) (res : Int × yS) (h : f_X8_feed N σ x1 = some res) : G_X8_feed N X sh l rm (0, [(0, .inr (.inl 8, 0)), (1, .inl (.inl x1))], [], σ) (some (.inl (.inl res.1)), res.2) := by
  unfold f_X8_feed at h
  refine yG_n (n := 4) (C' := (6, [(0, .inr (.inl 8, 0)), (1, .inl (.inl x1))], [.inl (.inr 127), .inl (.inr 0), .inl (.inr x1)], σ)) rfl ?_
  cases hr1 : f_X8_in N σ x1 0 127 with
  | none => rw [hr1] at h; dsimp only at h; cases h
  | some r1 =>
    rw [hr1] at h
    dsimp only at h
    refine yG_c (C1 := (9, [(0, .inr (.inl 8, 0)), (1, .inl (.inl x1))], [.inl (.inl r1.1)], r1.2)) rfl (e_X8_in hr1) rfl ?_
    cases hg2 : ycP .ne r1.1 0 with
    | true =>
      rw [hg2] at h
      dsimp only [cond] at h
      refine yG_t (C' := (14, [(0, .inr (.inl 8, 0)), (1, .inl (.inl x1))], [], r1.2)) rfl hg2 ?_
      refine yG_n (n := 3) (C' := (21, [(0, .inr (.inl 8, 0)), (1, .inl (.inl x1))], [.inl (.inl 160), .inl (.inl (r1.2.1 0 17))], r1.2)) rfl ?_
      cases hg3 : ycP .ne (r1.2.1 0 17) 160 with
      | true =>
        rw [hg3] at h
        dsimp only [cond] at h
        refine yG_t (C' := (27, [(0, .inr (.inl 8, 0)), (1, .inl (.inl x1))], [], r1.2)) rfl hg3 ?_
        refine yG_n (n := 5) (C' := (36, [(0, .inr (.inl 8, 0)), (1, .inl (.inl x1))], [.inl (.inl x1), .inl (.inl (r1.2.1 0 17)), .inr (.inr (0, 160), 8)], r1.2)) rfl ?_
        cases hg4 : yin (r1.2.1 0 17) 160 with
        | false => rw [hg4] at h; dsimp only [cond] at h; cases h
        | true =>
          rw [hg4] at h
          dsimp only [cond] at h
          refine yG_t (C' := (37, [(0, .inr (.inl 8, 0)), (1, .inl (.inl x1))], [], yw r1.2 8 (r1.2.1 0 17).toNat x1)) rfl hg4 ?_
          refine yG_n (n := 2) (C' := (39, [(0, .inr (.inl 8, 0)), (1, .inl (.inl x1))], [.inr (.inl 8, 0), .inr (.inl 8, 0)], yw r1.2 8 (r1.2.1 0 17).toNat x1)) rfl ?_
          exact yG_w [0] rfl (t_X8_feed_b39 (yw r1.2 8 (r1.2.1 0 17).toNat x1) res h)
      | false =>
        rw [hg3] at h
        dsimp only [cond] at h
        refine yG_f (C' := (24, [(0, .inr (.inl 8, 0)), (1, .inl (.inl x1))], [], r1.2)) rfl hg3 ?_
        refine yG_n (n := 1) (C' := (26, [(0, .inr (.inl 8, 0)), (1, .inl (.inl x1))], [.inl (.inl ((-3)))], r1.2)) rfl ?_
        have h := Option.some.inj h
        subst h
        dsimp only
        exact yG_r rfl rfl
    | false =>
      rw [hg2] at h
      dsimp only [cond] at h
      refine yG_f (C' := (12, [(0, .inr (.inl 8, 0)), (1, .inl (.inl x1))], [], r1.2)) rfl hg2 ?_
      refine yG_n (n := 1) (C' := (13, [(0, .inr (.inl 8, 0)), (1, .inl (.inl x1))], [.inl (.inl ((-1)))], r1.2)) rfl ?_
      have h := Option.some.inj h
      subst h
      dsimp only
      exact yG_r rfl rfl
set_option maxRecDepth 100000 in
set_option maxHeartbeats 4000000 in
theorem m_X8_feed {N : Nat} {X : zXT} (hX : zXok X) (hN : zXn X) (l : Launch) {sh : List yH} : yMet X vwCl yct sh l yX8_feed wsX8_feed { frames := 2, cells := 0, slots := 0, locals := 89 } (F_X8_feed N) :=
  ymeth (tb := tb_X8_feed N) (pr := pr_X8_feed) (rt := 1) (own := RX8) hX (by decide +kernel) rfl rfl ⟨Nat.le_of_ble_eq_true rfl, Nat.le_of_ble_eq_true rfl⟩
    (zfl_all (List.forall_mem_cons.mpr ⟨zfl_X8 (fun w h => List.mem_cons_of_mem _ (List.mem_append_right _ h)) (List.mem_of_getElem? (i := 3) rfl) (by decide) (by decide), List.forall_mem_cons.mpr ⟨zfl_X8 (fun w h => List.mem_cons_of_mem _ (List.mem_append_right _ h)) (List.mem_of_getElem? (i := 2) rfl) (by decide) (by decide), fun _ h => absurd h List.not_mem_nil⟩⟩))
    (zco_all (fun _ h => absurd h List.not_mem_nil)) (zlc_all (List.forall_mem_cons.mpr ⟨(List.mem_of_getElem? (i := 1) rfl), fun _ h => absurd h List.not_mem_nil⟩))
    (fun _ h => absurd h List.not_mem_nil)
    (List.forall_mem_cons.mpr ⟨ycal_S hX (m_X8_in hX hN l) (fun s args hts => va_cwS 3 hts gX8_feed_X8_in rfl rfl rfl (by decide +kernel) ⟨Nat.le_of_ble_eq_true rfl, Nat.le_of_ble_eq_true rfl⟩), fun _ h => absurd h List.not_mem_nil⟩)
    (zmm_all (fun _ h => absurd h List.not_mem_nil)) (fun _ h => absurd h List.not_mem_nil) (zpr_all hp_X8_feed) (fun as σ res h => by
      unfold F_X8_feed at h
      split at h
      · rename_i x1
        cases hr : f_X8_feed N σ x1 with
        | none => rw [hr] at h; cases h
        | some r =>
          rw [hr] at h
          cases h
          exact ⟨Nat.le_of_ble_eq_true rfl, t_X8_feed σ x1 r hr⟩
      · cases h)
noncomputable def pr_X8_findCovers : List (Nat × Instr × Nat) := [(0, .iconst 0, 1), (1, .istore_n 1, 1), (2, .iload_n 1, 1), (3, .sipush 700, 3), (6, .if_icmp .ge 136, 3), (9, .iload_n 1, 1), (10, .bipush 100, 2), (12, .idiv, 1), (13, .istore_n 2, 1), (14, .iload_n 1, 1), (15, .iconst 5, 1), (16, .irem, 1), (17, .istore_n 3, 1), (18, .aload_n 0, 1), (19, .getfield 38, 3), (22, .iload_n 1, 1), (23, .iconst 0, 1), (24, .iastore, 1), (25, .iconst 0, 1), (26, .istore 4, 2), (28, .iload 4, 2), (30, .aload_n 0, 1), (31, .getfield 7, 3), (34, .bipush 118, 2), (36, .iaload, 1), (37, .if_icmp .ge 99, 3), (40, .iload_n 2, 1), (41, .aload_n 0, 1), (42, .getfield 79, 3), (45, .if_icmp .ge 65, 3), (48, .iload_n 3, 1), (49, .aload_n 0, 1), (50, .getfield 85, 3), (53, .if_icmp .ge 57, 3), (56, .aload_n 0, 1), (57, .getfield 7, 3), (60, .bipush 119, 2), (62, .iconst 2, 1), (63, .iload 4, 2), (65, .imul, 1), (66, .iadd, 1), (67, .iconst 1, 1), (68, .iadd, 1), (69, .iaload, 1), (70, .iload_n 3, 1), (71, .if_icmp .ne 39, 3), (74, .aload_n 0, 1), (75, .iload_n 2, 1), (76, .iload_n 1, 1), (77, .bipush 20, 2), (79, .idiv, 1), (80, .iconst 5, 1), (81, .irem, 1), (82, .iload_n 1, 1), (83, .iconst 5, 1), (84, .idiv, 1), (85, .iconst 4, 1), (86, .irem, 1), (87, .aload_n 0, 1), (88, .getfield 7, 3), (91, .bipush 119, 2), (93, .iconst 2, 1), (94, .iload 4, 2), (96, .imul, 1), (97, .iadd, 1), (98, .iaload, 1), (99, .iload_n 3, 1), (100, .invokevirtual 282, 3), (103, .ifCond .eq 7, 3), (106, .iconst 1, 1), (107, .goto 4, 3), (110, .iconst 0, 1), (111, .istore 5, 2), (113, .aload_n 0, 1), (114, .getfield 38, 3), (117, .iload_n 1, 1), (118, .dup2, 1), (119, .iaload, 1), (120, .iload 5, 2), (122, .invokestatic 197, 3), (125, .iload 4, 2), (127, .ishl, 1), (128, .ior, 1), (129, .iastore, 1), (130, .iinc 4 1, 3), (133, .goto (-105), 3), (136, .iinc 1 1, 3), (139, .goto (-137), 3), (142, .return_, 1)]
set_option maxRecDepth 100000 in
theorem hp_X8_findCovers : pr_X8_findCovers.all (fun x => decide (decode cX8_findCovers x.1 = .ok x.2)) = true := by decide +kernel
noncomputable def f_X8_findCovers_b111 (N : Nat) (k2 : yS → Int → Option (Int × yS)) (k28 : yS → Int → Int → Int → Int → Option (Int × yS)) (σ : yS) (x1 : Int) (x2 : Int) (x3 : Int) (x4 : Int) (s0 : Int) : Option (Int × yS) :=
  bif yin x1 700 then
    match f_X8_flag N σ s0 with
    | none => none
    | some r1 => k28 (yw r1.2 10 x1.toNat (yor (σ.1 10 x1.toNat) (ysl r1.1 x4))) x1 x2 x3 (yad x4 1)
  else none
noncomputable def f_X8_findCovers_b110 (N : Nat) (k2 : yS → Int → Option (Int × yS)) (k28 : yS → Int → Int → Int → Int → Option (Int × yS)) (σ : yS) (x1 : Int) (x2 : Int) (x3 : Int) (x4 : Int) : Option (Int × yS) :=
  f_X8_findCovers_b111 N k2 k28 σ x1 x2 x3 x4 0
noncomputable def f_X8_findCovers_b28 (N : Nat) (k2 : yS → Int → Option (Int × yS)) : Nat → yS → Int → Int → Int → Int → Option (Int × yS) := yfix (fun _ _ _ _ _ => none) (fun ih σ x1 x2 x3 x4 =>
    bif ycP .ge x4 (σ.1 1 118) then
      k2 σ (yad x1 1)
    else
      bif ycP .ge x2 (σ.1 0 3) then
        f_X8_findCovers_b110 N k2 ih σ x1 x2 x3 x4
      else
        bif ycP .ge x3 (σ.1 0 5) then
          f_X8_findCovers_b110 N k2 ih σ x1 x2 x3 x4
        else
          bif yin (yad (yad 119 (ymu 2 x4)) 1) 393 then
            bif ycP .ne (σ.1 1 (yad (yad 119 (ymu 2 x4)) 1).toNat) x3 then
              f_X8_findCovers_b110 N k2 ih σ x1 x2 x3 x4
            else
              bif yin (yad 119 (ymu 2 x4)) 393 then
                match f_X8_doesBring N σ x2 (yrm (ydv x1 20) 5) (yrm (ydv x1 5) 4) (σ.1 1 (yad 119 (ymu 2 x4)).toNat) x3 with
                | none => none
                | some r2 => bif ycP .eq r2.1 0 then
                    f_X8_findCovers_b110 N k2 ih r2.2 x1 x2 x3 x4
                  else
                    f_X8_findCovers_b111 N k2 ih r2.2 x1 x2 x3 x4 1
              else none
          else none)
theorem q_X8_findCovers_b28 (N : Nat) (k2 : yS → Int → Option (Int × yS)) (n : Nat) (σ : yS) (x1 : Int) (x2 : Int) (x3 : Int) (x4 : Int) : f_X8_findCovers_b28 N k2 (n + 1) σ x1 x2 x3 x4 =
    (bif ycP .ge x4 (σ.1 1 118) then
      k2 σ (yad x1 1)
    else
      bif ycP .ge x2 (σ.1 0 3) then
        f_X8_findCovers_b110 N k2 (f_X8_findCovers_b28 N k2 n) σ x1 x2 x3 x4
      else
        bif ycP .ge x3 (σ.1 0 5) then
          f_X8_findCovers_b110 N k2 (f_X8_findCovers_b28 N k2 n) σ x1 x2 x3 x4
        else
          bif yin (yad (yad 119 (ymu 2 x4)) 1) 393 then
            bif ycP .ne (σ.1 1 (yad (yad 119 (ymu 2 x4)) 1).toNat) x3 then
              f_X8_findCovers_b110 N k2 (f_X8_findCovers_b28 N k2 n) σ x1 x2 x3 x4
            else
              bif yin (yad 119 (ymu 2 x4)) 393 then
                match f_X8_doesBring N σ x2 (yrm (ydv x1 20) 5) (yrm (ydv x1 5) 4) (σ.1 1 (yad 119 (ymu 2 x4)).toNat) x3 with
                | none => none
                | some r2 => bif ycP .eq r2.1 0 then
                    f_X8_findCovers_b110 N k2 (f_X8_findCovers_b28 N k2 n) r2.2 x1 x2 x3 x4
                  else
                    f_X8_findCovers_b111 N k2 (f_X8_findCovers_b28 N k2 n) r2.2 x1 x2 x3 x4 1
              else none
          else none) := rfl
noncomputable def f_X8_findCovers_b2 (N : Nat) : Nat → yS → Int → Option (Int × yS) := yfix (fun _ _ => none) (fun ih σ x1 =>
    bif ycP .ge x1 700 then
      some (0, σ)
    else
      bif yin x1 700 then
        f_X8_findCovers_b28 N ih N (yw σ 10 x1.toNat 0) x1 (ydv x1 100) (yrm x1 5) 0
      else none)
theorem q_X8_findCovers_b2 (N : Nat) (n : Nat) (σ : yS) (x1 : Int) : f_X8_findCovers_b2 N (n + 1) σ x1 =
    (bif ycP .ge x1 700 then
      some (0, σ)
    else
      bif yin x1 700 then
        f_X8_findCovers_b28 N (f_X8_findCovers_b2 N n) N (yw σ 10 x1.toNat 0) x1 (ydv x1 100) (yrm x1 5) 0
      else none) := rfl
noncomputable def f_X8_findCovers (N : Nat) (σ : yS) : Option (Int × yS) :=
  f_X8_findCovers_b2 N N σ 0
noncomputable def F_X8_findCovers (N : Nat) : yF := fun as σ => match as with
  | [.inr (.inl 8, 0)] => (f_X8_findCovers N σ).map (fun r => (none, r.2))
  | _ => none
theorem e_X8_findCovers {N : Nat} {σ : yS} {r : Int × yS} (h : f_X8_findCovers N σ = some r) : F_X8_findCovers N [.inr (.inl 8, 0)] σ = some (none, r.2) := by
  show (f_X8_findCovers N σ).map (fun r => ((none, r.2) : yR)) = _
  rw [h]
  rfl
noncomputable def tb_X8_findCovers (N : Nat) : yTb := ([(7, 8, 0, 3), (38, 8, 27, 3), (79, 8, 3, 0), (85, 8, 5, 0)], [], [], [(282, 6, 8, F_X8_doesBring N)], [(197, 1, F_X8_flag N)], [], [])
abbrev G_X8_findCovers (N : Nat) (X : zXT) (sh : List yH) (l : Launch) (rm : Room) : yC → yR → Prop := yGoes X vwCl yct sh l rm cX8_findCovers 6 wsX8_findCovers RX8 (tb_X8_findCovers N) pr_X8_findCovers 0
set_option maxRecDepth 100000 in
set_option maxHeartbeats 4000000 in
theorem t_X8_findCovers_b111 {N : Nat} {X : zXT} {sh : List yH} {l : Launch} {rm : Room} (k2 : yS → Int → Option (Int × yS)) (hk2 : ∀ (σ : yS) (x1 : Int) (res : Int × yS), k2 σ x1 = some res → G_X8_findCovers N X sh l rm (2, [(0, .inr (.inl 8, 0)), (1, .inl (.inl x1))], [], σ) (none, res.2)) (k28 : yS → Int → Int → Int → Int → Option (Int × yS)) (hk28 : ∀ (σ : yS) (x1 : Int) (x2 : Int) (x3 : Int) (x4 : Int) (res : Int × yS), k28 σ x1 x2 x3 x4 = some res → G_X8_findCovers N X sh l rm (28, [(0, .inr (.inl 8, 0)), (1, .inl (.inl x1)), (2, .inl (.inl x2)), (3, .inl (.inl x3)), (4, .inl (.inl x4))], [], σ) (none, res.2)) (σ : yS) (x1 : Int) (x2 : Int) (x3 : Int) (x4 : Int) (s0 : Int) (res : Int × yS) (h : f_X8_findCovers_b111 N k2 k28 σ x1 x2 x3 x4 s0 = some res) : G_X8_findCovers N X sh l rm (111, [(0, .inr (.inl 8, 0)), (1, .inl (.inl x1)), (2, .inl (.inl x2)), (3, .inl (.inl x3)), (4, .inl (.inl x4))], [.inl (.inl s0)], σ) (none, res.2) := by
  unfold f_X8_findCovers_b111 at h
  refine yG_n (n := 5) (C' := (119, [(5, .inl (.inl s0)), (0, .inr (.inl 8, 0)), (1, .inl (.inl x1)), (2, .inl (.inl x2)), (3, .inl (.inl x3)), (4, .inl (.inl x4))], [.inl (.inl x1), .inr (.inr (0, 700), 10), .inl (.inl x1), .inr (.inr (0, 700), 10)], σ)) rfl ?_
  cases hg1 : yin x1 700 with
  | false => rw [hg1] at h; dsimp only [cond] at h; cases h
  | true =>
    rw [hg1] at h
    dsimp only [cond] at h
    refine yG_t (C' := (120, [(5, .inl (.inl s0)), (0, .inr (.inl 8, 0)), (1, .inl (.inl x1)), (2, .inl (.inl x2)), (3, .inl (.inl x3)), (4, .inl (.inl x4))], [.inl (.inl (σ.1 10 x1.toNat)), .inl (.inl x1), .inr (.inr (0, 700), 10)], σ)) rfl hg1 ?_
    refine yG_n (n := 1) (C' := (122, [(5, .inl (.inl s0)), (0, .inr (.inl 8, 0)), (1, .inl (.inl x1)), (2, .inl (.inl x2)), (3, .inl (.inl x3)), (4, .inl (.inl x4))], [.inl (.inl s0), .inl (.inl (σ.1 10 x1.toNat)), .inl (.inl x1), .inr (.inr (0, 700), 10)], σ)) rfl ?_
    cases hr2 : f_X8_flag N σ s0 with
    | none => rw [hr2] at h; dsimp only at h; cases h
    | some r1 =>
      rw [hr2] at h
      dsimp only at h
      refine yG_c (C1 := (125, [(5, .inl (.inl s0)), (0, .inr (.inl 8, 0)), (1, .inl (.inl x1)), (2, .inl (.inl x2)), (3, .inl (.inl x3)), (4, .inl (.inl x4))], [.inl (.inl r1.1), .inl (.inl (σ.1 10 x1.toNat)), .inl (.inl x1), .inr (.inr (0, 700), 10)], r1.2)) rfl (e_X8_flag hr2) rfl ?_
      refine yG_n (n := 3) (C' := (129, [(5, .inl (.inl s0)), (0, .inr (.inl 8, 0)), (1, .inl (.inl x1)), (2, .inl (.inl x2)), (3, .inl (.inl x3)), (4, .inl (.inl x4))], [.inl (.inl (yor (σ.1 10 x1.toNat) (ysl r1.1 x4))), .inl (.inl x1), .inr (.inr (0, 700), 10)], r1.2)) rfl ?_
      refine yG_t (C' := (130, [(5, .inl (.inl s0)), (0, .inr (.inl 8, 0)), (1, .inl (.inl x1)), (2, .inl (.inl x2)), (3, .inl (.inl x3)), (4, .inl (.inl x4))], [], yw r1.2 10 x1.toNat (yor (σ.1 10 x1.toNat) (ysl r1.1 x4)))) rfl hg1 ?_
      refine yG_n (n := 2) (C' := (28, [(4, .inl (.inl (yad x4 1))), (5, .inl (.inl s0)), (0, .inr (.inl 8, 0)), (1, .inl (.inl x1)), (2, .inl (.inl x2)), (3, .inl (.inl x3))], [], yw r1.2 10 x1.toNat (yor (σ.1 10 x1.toNat) (ysl r1.1 x4)))) rfl ?_
      exact yG_w [2, 3, 4, 5, 0] rfl (hk28 (yw r1.2 10 x1.toNat (yor (σ.1 10 x1.toNat) (ysl r1.1 x4))) x1 x2 x3 (yad x4 1) res h)
set_option maxRecDepth 100000 in
set_option maxHeartbeats 4000000 in
theorem t_X8_findCovers_b110 {N : Nat} {X : zXT} {sh : List yH} {l : Launch} {rm : Room} (k2 : yS → Int → Option (Int × yS)) (hk2 : ∀ (σ : yS) (x1 : Int) (res : Int × yS), k2 σ x1 = some res → G_X8_findCovers N X sh l rm (2, [(0, .inr (.inl 8, 0)), (1, .inl (.inl x1))], [], σ) (none, res.2)) (k28 : yS → Int → Int → Int → Int → Option (Int × yS)) (hk28 : ∀ (σ : yS) (x1 : Int) (x2 : Int) (x3 : Int) (x4 : Int) (res : Int × yS), k28 σ x1 x2 x3 x4 = some res → G_X8_findCovers N X sh l rm (28, [(0, .inr (.inl 8, 0)), (1, .inl (.inl x1)), (2, .inl (.inl x2)), (3, .inl (.inl x3)), (4, .inl (.inl x4))], [], σ) (none, res.2)) (σ : yS) (x1 : Int) (x2 : Int) (x3 : Int) (x4 : Int) (res : Int × yS) (h : f_X8_findCovers_b110 N k2 k28 σ x1 x2 x3 x4 = some res) : G_X8_findCovers N X sh l rm (110, [(0, .inr (.inl 8, 0)), (1, .inl (.inl x1)), (2, .inl (.inl x2)), (3, .inl (.inl x3)), (4, .inl (.inl x4))], [], σ) (none, res.2) := by
  unfold f_X8_findCovers_b110 at h
  refine yG_n (n := 1) (C' := (111, [(0, .inr (.inl 8, 0)), (1, .inl (.inl x1)), (2, .inl (.inl x2)), (3, .inl (.inl x3)), (4, .inl (.inl x4))], [.inl (.inl 0)], σ)) rfl ?_
  exact t_X8_findCovers_b111 k2 hk2 k28 hk28 σ x1 x2 x3 x4 0 res h
set_option maxRecDepth 100000 in
set_option maxHeartbeats 4000000 in
theorem t_X8_findCovers_b28 {N : Nat} {X : zXT} {sh : List yH} {l : Launch} {rm : Room} (k2 : yS → Int → Option (Int × yS)) (hk2 : ∀ (σ : yS) (x1 : Int) (res : Int × yS), k2 σ x1 = some res → G_X8_findCovers N X sh l rm (2, [(0, .inr (.inl 8, 0)), (1, .inl (.inl x1))], [], σ) (none, res.2)) : ∀ (n : Nat) (σ : yS) (x1 : Int) (x2 : Int) (x3 : Int) (x4 : Int) (res : Int × yS), f_X8_findCovers_b28 N k2 n σ x1 x2 x3 x4 = some res → G_X8_findCovers N X sh l rm (28, [(0, .inr (.inl 8, 0)), (1, .inl (.inl x1)), (2, .inl (.inl x2)), (3, .inl (.inl x3)), (4, .inl (.inl x4))], [], σ) (none, res.2) := by
  intro n
  induction n with
  | zero => intro σ x1 x2 x3 x4 res h; exact (yno h).elim
  | succ n ih =>
    intro σ x1 x2 x3 x4 res h
    rw [q_X8_findCovers_b28] at h
    refine yG_n (n := 5) (C' := (37, [(0, .inr (.inl 8, 0)), (1, .inl (.inl x1)), (2, .inl (.inl x2)), (3, .inl (.inl x3)), (4, .inl (.inl x4))], [.inl (.inl (σ.1 1 118)), .inl (.inl x4)], σ)) rfl ?_
    cases hg3 : ycP .ge x4 (σ.1 1 118) with
    | true =>
      rw [hg3] at h
      dsimp only [cond] at h
      refine yG_t (C' := (136, [(0, .inr (.inl 8, 0)), (1, .inl (.inl x1)), (2, .inl (.inl x2)), (3, .inl (.inl x3)), (4, .inl (.inl x4))], [], σ)) rfl hg3 ?_
      refine yG_n (n := 2) (C' := (2, [(1, .inl (.inl (yad x1 1))), (0, .inr (.inl 8, 0)), (2, .inl (.inl x2)), (3, .inl (.inl x3)), (4, .inl (.inl x4))], [], σ)) rfl ?_
      exact yG_w [1, 0] rfl (hk2 σ (yad x1 1) res h)
    | false =>
      rw [hg3] at h
      dsimp only [cond] at h
      refine yG_f (C' := (40, [(0, .inr (.inl 8, 0)), (1, .inl (.inl x1)), (2, .inl (.inl x2)), (3, .inl (.inl x3)), (4, .inl (.inl x4))], [], σ)) rfl hg3 ?_
      refine yG_n (n := 3) (C' := (45, [(0, .inr (.inl 8, 0)), (1, .inl (.inl x1)), (2, .inl (.inl x2)), (3, .inl (.inl x3)), (4, .inl (.inl x4))], [.inl (.inl (σ.1 0 3)), .inl (.inl x2)], σ)) rfl ?_
      cases hg4 : ycP .ge x2 (σ.1 0 3) with
      | true =>
        rw [hg4] at h
        dsimp only [cond] at h
        refine yG_t (C' := (110, [(0, .inr (.inl 8, 0)), (1, .inl (.inl x1)), (2, .inl (.inl x2)), (3, .inl (.inl x3)), (4, .inl (.inl x4))], [], σ)) rfl hg4 ?_
        exact t_X8_findCovers_b110 k2 hk2 (f_X8_findCovers_b28 N k2 n) ih σ x1 x2 x3 x4 res h
      | false =>
        rw [hg4] at h
        dsimp only [cond] at h
        refine yG_f (C' := (48, [(0, .inr (.inl 8, 0)), (1, .inl (.inl x1)), (2, .inl (.inl x2)), (3, .inl (.inl x3)), (4, .inl (.inl x4))], [], σ)) rfl hg4 ?_
        refine yG_n (n := 3) (C' := (53, [(0, .inr (.inl 8, 0)), (1, .inl (.inl x1)), (2, .inl (.inl x2)), (3, .inl (.inl x3)), (4, .inl (.inl x4))], [.inl (.inl (σ.1 0 5)), .inl (.inl x3)], σ)) rfl ?_
        cases hg5 : ycP .ge x3 (σ.1 0 5) with
        | true =>
          rw [hg5] at h
          dsimp only [cond] at h
          refine yG_t (C' := (110, [(0, .inr (.inl 8, 0)), (1, .inl (.inl x1)), (2, .inl (.inl x2)), (3, .inl (.inl x3)), (4, .inl (.inl x4))], [], σ)) rfl hg5 ?_
          exact t_X8_findCovers_b110 k2 hk2 (f_X8_findCovers_b28 N k2 n) ih σ x1 x2 x3 x4 res h
        | false =>
          rw [hg5] at h
          dsimp only [cond] at h
          refine yG_f (C' := (56, [(0, .inr (.inl 8, 0)), (1, .inl (.inl x1)), (2, .inl (.inl x2)), (3, .inl (.inl x3)), (4, .inl (.inl x4))], [], σ)) rfl hg5 ?_
          refine yG_n (n := 9) (C' := (69, [(0, .inr (.inl 8, 0)), (1, .inl (.inl x1)), (2, .inl (.inl x2)), (3, .inl (.inl x3)), (4, .inl (.inl x4))], [.inl (.inl (yad (yad 119 (ymu 2 x4)) 1)), .inr (.inr (0, 393), 1)], σ)) rfl ?_
          cases hg6 : yin (yad (yad 119 (ymu 2 x4)) 1) 393 with
          | false => rw [hg6] at h; dsimp only [cond] at h; cases h
          | true =>
            rw [hg6] at h
            dsimp only [cond] at h
            refine yG_t (C' := (70, [(0, .inr (.inl 8, 0)), (1, .inl (.inl x1)), (2, .inl (.inl x2)), (3, .inl (.inl x3)), (4, .inl (.inl x4))], [.inl (.inl (σ.1 1 (yad (yad 119 (ymu 2 x4)) 1).toNat))], σ)) rfl hg6 ?_
            refine yG_n (n := 1) (C' := (71, [(0, .inr (.inl 8, 0)), (1, .inl (.inl x1)), (2, .inl (.inl x2)), (3, .inl (.inl x3)), (4, .inl (.inl x4))], [.inl (.inl x3), .inl (.inl (σ.1 1 (yad (yad 119 (ymu 2 x4)) 1).toNat))], σ)) rfl ?_
            cases hg7 : ycP .ne (σ.1 1 (yad (yad 119 (ymu 2 x4)) 1).toNat) x3 with
            | true =>
              rw [hg7] at h
              dsimp only [cond] at h
              refine yG_t (C' := (110, [(0, .inr (.inl 8, 0)), (1, .inl (.inl x1)), (2, .inl (.inl x2)), (3, .inl (.inl x3)), (4, .inl (.inl x4))], [], σ)) rfl hg7 ?_
              exact t_X8_findCovers_b110 k2 hk2 (f_X8_findCovers_b28 N k2 n) ih σ x1 x2 x3 x4 res h
            | false =>
              rw [hg7] at h
              dsimp only [cond] at h
              refine yG_f (C' := (74, [(0, .inr (.inl 8, 0)), (1, .inl (.inl x1)), (2, .inl (.inl x2)), (3, .inl (.inl x3)), (4, .inl (.inl x4))], [], σ)) rfl hg7 ?_
              refine yG_n (n := 19) (C' := (98, [(0, .inr (.inl 8, 0)), (1, .inl (.inl x1)), (2, .inl (.inl x2)), (3, .inl (.inl x3)), (4, .inl (.inl x4))], [.inl (.inl (yad 119 (ymu 2 x4))), .inr (.inr (0, 393), 1), .inl (.inl (yrm (ydv x1 5) 4)), .inl (.inl (yrm (ydv x1 20) 5)), .inl (.inl x2), .inr (.inl 8, 0)], σ)) rfl ?_
              cases hg8 : yin (yad 119 (ymu 2 x4)) 393 with
              | false => rw [hg8] at h; dsimp only [cond] at h; cases h
              | true =>
                rw [hg8] at h
                dsimp only [cond] at h
                refine yG_t (C' := (99, [(0, .inr (.inl 8, 0)), (1, .inl (.inl x1)), (2, .inl (.inl x2)), (3, .inl (.inl x3)), (4, .inl (.inl x4))], [.inl (.inl (σ.1 1 (yad 119 (ymu 2 x4)).toNat)), .inl (.inl (yrm (ydv x1 5) 4)), .inl (.inl (yrm (ydv x1 20) 5)), .inl (.inl x2), .inr (.inl 8, 0)], σ)) rfl hg8 ?_
                refine yG_n (n := 1) (C' := (100, [(0, .inr (.inl 8, 0)), (1, .inl (.inl x1)), (2, .inl (.inl x2)), (3, .inl (.inl x3)), (4, .inl (.inl x4))], [.inl (.inl x3), .inl (.inl (σ.1 1 (yad 119 (ymu 2 x4)).toNat)), .inl (.inl (yrm (ydv x1 5) 4)), .inl (.inl (yrm (ydv x1 20) 5)), .inl (.inl x2), .inr (.inl 8, 0)], σ)) rfl ?_
                cases hr9 : f_X8_doesBring N σ x2 (yrm (ydv x1 20) 5) (yrm (ydv x1 5) 4) (σ.1 1 (yad 119 (ymu 2 x4)).toNat) x3 with
                | none => rw [hr9] at h; dsimp only at h; cases h
                | some r2 =>
                  rw [hr9] at h
                  dsimp only at h
                  refine yG_c (C1 := (103, [(0, .inr (.inl 8, 0)), (1, .inl (.inl x1)), (2, .inl (.inl x2)), (3, .inl (.inl x3)), (4, .inl (.inl x4))], [.inl (.inl r2.1)], r2.2)) rfl (e_X8_doesBring hr9) rfl ?_
                  cases hg10 : ycP .eq r2.1 0 with
                  | true =>
                    rw [hg10] at h
                    dsimp only [cond] at h
                    refine yG_t (C' := (110, [(0, .inr (.inl 8, 0)), (1, .inl (.inl x1)), (2, .inl (.inl x2)), (3, .inl (.inl x3)), (4, .inl (.inl x4))], [], r2.2)) rfl hg10 ?_
                    exact t_X8_findCovers_b110 k2 hk2 (f_X8_findCovers_b28 N k2 n) ih r2.2 x1 x2 x3 x4 res h
                  | false =>
                    rw [hg10] at h
                    dsimp only [cond] at h
                    refine yG_f (C' := (106, [(0, .inr (.inl 8, 0)), (1, .inl (.inl x1)), (2, .inl (.inl x2)), (3, .inl (.inl x3)), (4, .inl (.inl x4))], [], r2.2)) rfl hg10 ?_
                    refine yG_n (n := 2) (C' := (111, [(0, .inr (.inl 8, 0)), (1, .inl (.inl x1)), (2, .inl (.inl x2)), (3, .inl (.inl x3)), (4, .inl (.inl x4))], [.inl (.inl 1)], r2.2)) rfl ?_
                    exact t_X8_findCovers_b111 k2 hk2 (f_X8_findCovers_b28 N k2 n) ih r2.2 x1 x2 x3 x4 1 res h
set_option maxRecDepth 100000 in
set_option maxHeartbeats 4000000 in
theorem t_X8_findCovers_b2 {N : Nat} {X : zXT} {sh : List yH} {l : Launch} {rm : Room} : ∀ (n : Nat) (σ : yS) (x1 : Int) (res : Int × yS), f_X8_findCovers_b2 N n σ x1 = some res → G_X8_findCovers N X sh l rm (2, [(0, .inr (.inl 8, 0)), (1, .inl (.inl x1))], [], σ) (none, res.2) := by
  intro n
  induction n with
  | zero => intro σ x1 res h; exact (yno h).elim
  | succ n ih =>
    intro σ x1 res h
    rw [q_X8_findCovers_b2] at h
    refine yG_n (n := 2) (C' := (6, [(0, .inr (.inl 8, 0)), (1, .inl (.inl x1))], [.inl (.inl 700), .inl (.inl x1)], σ)) rfl ?_
    cases hg11 : ycP .ge x1 700 with
    | true =>
      rw [hg11] at h
      dsimp only [cond] at h
      refine yG_t (C' := (142, [(0, .inr (.inl 8, 0)), (1, .inl (.inl x1))], [], σ)) rfl hg11 ?_
      have h := Option.some.inj h
      subst h
      dsimp only
      exact yG_r rfl rfl
    | false =>
      rw [hg11] at h
      dsimp only [cond] at h
      refine yG_f (C' := (9, [(0, .inr (.inl 8, 0)), (1, .inl (.inl x1))], [], σ)) rfl hg11 ?_
      refine yG_n (n := 12) (C' := (24, [(3, .inl (.inl (yrm x1 5))), (2, .inl (.inl (ydv x1 100))), (0, .inr (.inl 8, 0)), (1, .inl (.inl x1))], [.inl (.inl 0), .inl (.inl x1), .inr (.inr (0, 700), 10)], σ)) rfl ?_
      cases hg12 : yin x1 700 with
      | false => rw [hg12] at h; dsimp only [cond] at h; cases h
      | true =>
        rw [hg12] at h
        dsimp only [cond] at h
        refine yG_t (C' := (25, [(3, .inl (.inl (yrm x1 5))), (2, .inl (.inl (ydv x1 100))), (0, .inr (.inl 8, 0)), (1, .inl (.inl x1))], [], yw σ 10 x1.toNat 0)) rfl hg12 ?_
        refine yG_n (n := 2) (C' := (28, [(4, .inl (.inl 0)), (3, .inl (.inl (yrm x1 5))), (2, .inl (.inl (ydv x1 100))), (0, .inr (.inl 8, 0)), (1, .inl (.inl x1))], [], yw σ 10 x1.toNat 0)) rfl ?_
        exact yG_w [3, 4, 2, 1, 0] rfl (t_X8_findCovers_b28 (f_X8_findCovers_b2 N n) ih N (yw σ 10 x1.toNat 0) x1 (ydv x1 100) (yrm x1 5) 0 res h)
set_option maxRecDepth 100000 in
set_option maxHeartbeats 4000000 in
theorem t_X8_findCovers {N : Nat} {X : zXT} {sh : List yH} {l : Launch} {rm : Room} (σ : yS) (res : Int × yS) (h : f_X8_findCovers N σ = some res) : G_X8_findCovers N X sh l rm (0, [(0, .inr (.inl 8, 0))], [], σ) (none, res.2) := by
  unfold f_X8_findCovers at h
  refine yG_n (n := 2) (C' := (2, [(1, .inl (.inl 0)), (0, .inr (.inl 8, 0))], [], σ)) rfl ?_
  exact yG_w [1, 0] rfl (t_X8_findCovers_b2 N σ 0 res h)
set_option maxRecDepth 100000 in
set_option maxHeartbeats 4000000 in
theorem m_X8_findCovers {N : Nat} {X : zXT} (hX : zXok X) (hN : zXn X) (l : Launch) {sh : List yH} : yMet X vwCl yct sh l yX8_findCovers wsX8_findCovers { frames := 6, cells := 0, slots := 0, locals := 189 } (F_X8_findCovers N) :=
  ymeth (tb := tb_X8_findCovers N) (pr := pr_X8_findCovers) (rt := 0) (own := RX8) hX (by decide +kernel) rfl rfl ⟨Nat.le_of_ble_eq_true rfl, Nat.le_of_ble_eq_true rfl⟩
    (zfl_all (List.forall_mem_cons.mpr ⟨zfl_X8 (fun w h => List.mem_cons_of_mem _ (List.mem_append_right _ h)) (List.mem_of_getElem? (i := 2) rfl) (by decide) (by decide), List.forall_mem_cons.mpr ⟨zfl_X8 (fun w h => List.mem_cons_of_mem _ (List.mem_append_right _ h)) (List.mem_of_getElem? (i := 1) rfl) (by decide) (by decide), List.forall_mem_cons.mpr ⟨zfl_X8 (fun w h => List.mem_cons_of_mem _ (List.mem_append_right _ h)) (List.mem_of_getElem? (i := 3) rfl) (by decide) (by decide), List.forall_mem_cons.mpr ⟨zfl_X8 (fun w h => List.mem_cons_of_mem _ (List.mem_append_right _ h)) (List.mem_of_getElem? (i := 4) rfl) (by decide) (by decide), fun _ h => absurd h List.not_mem_nil⟩⟩⟩⟩))
    (zco_all (fun _ h => absurd h List.not_mem_nil)) (zlc_all (fun _ h => absurd h List.not_mem_nil))
    (List.forall_mem_cons.mpr ⟨ycal_V hX (m_X8_doesBring hX hN l) rfl (fun s args hts => cwV 5 hts gX8_findCovers_X8_doesBring rfl rfl rfl (by decide +kernel) ⟨Nat.le_of_ble_eq_true rfl, Nat.le_of_ble_eq_true rfl⟩), fun _ h => absurd h List.not_mem_nil⟩)
    (List.forall_mem_cons.mpr ⟨ycal_S hX (m_X8_flag hX hN l) (fun s args hts => va_cwS 1 hts gX8_findCovers_X8_flag rfl rfl rfl (by decide +kernel) ⟨Nat.le_of_ble_eq_true rfl, Nat.le_of_ble_eq_true rfl⟩), fun _ h => absurd h List.not_mem_nil⟩)
    (zmm_all (fun _ h => absurd h List.not_mem_nil)) (fun _ h => absurd h List.not_mem_nil) (zpr_all hp_X8_findCovers) (fun as σ res h => by
      unfold F_X8_findCovers at h
      split at h
      · cases hr : f_X8_findCovers N σ with
        | none => rw [hr] at h; cases h
        | some r =>
          rw [hr] at h
          cases h
          exact ⟨Nat.le_of_ble_eq_true rfl, t_X8_findCovers σ r hr⟩
      · cases h)
noncomputable def pr_X8_findFewest : List (Nat × Instr × Nat) := [(0, .aload_n 0, 1), (1, .invokevirtual 286, 3), (4, .sipush 700, 3), (7, .istore_n 1, 1), (8, .iload_n 1, 1), (9, .ifCond .lt 132, 3), (12, .iconst 0, 1), (13, .istore_n 2, 1), (14, .iload_n 2, 1), (15, .bipush 16, 2), (17, .if_icmp .ge 118, 3), (20, .iload_n 2, 1), (21, .ifCond .ne 7, 3), (24, .iconst 0, 1), (25, .goto 6, 3), (28, .ldc_w 289, 3), (31, .istore_n 3, 1), (32, .iload_n 1, 1), (33, .sipush 700, 3), (36, .if_icmp .ge 68, 3), (39, .aload_n 0, 1), (40, .getfield 41, 3), (43, .bipush 16, 2), (45, .iload_n 1, 1), (46, .iconst 1, 1), (47, .iadd, 1), (48, .imul, 1), (49, .iload_n 2, 1), (50, .iadd, 1), (51, .iaload, 1), (52, .istore 4, 2), (54, .aload_n 0, 1), (55, .getfield 41, 3), (58, .bipush 16, 2), (60, .iload_n 1, 1), (61, .iconst 1, 1), (62, .iadd, 1), (63, .imul, 1), (64, .iload_n 2, 1), (65, .aload_n 0, 1), (66, .getfield 38, 3), (69, .iload_n 1, 1), (70, .iaload, 1), (71, .iconst (-1), 1), (72, .ixor, 1), (73, .iand, 1), (74, .iadd, 1), (75, .iaload, 1), (76, .iconst 1, 1), (77, .iadd, 1), (78, .istore 5, 2), (80, .aload_n 0, 1), (81, .getfield 38, 3), (84, .iload_n 1, 1), (85, .iaload, 1), (86, .ifCond .eq 15, 3), (89, .iload 5, 2), (91, .iload 4, 2), (93, .if_icmp .ge 8, 3), (96, .iload 5, 2), (98, .goto 5, 3), (101, .iload 4, 2), (103, .istore_n 3, 1), (104, .aload_n 0, 1), (105, .getfield 41, 3), (108, .bipush 16, 2), (110, .iload_n 1, 1), (111, .imul, 1), (112, .iload_n 2, 1), (113, .iadd, 1), (114, .iload_n 3, 1), (115, .ldc_w 289, 3), (118, .if_icmp .le 9, 3), (121, .ldc_w 289, 3), (124, .goto 4, 3), (127, .iload_n 3, 1), (128, .iastore, 1), (129, .iinc 2 1, 3), (132, .goto (-118), 3), (135, .iinc 1 (-1), 3), (138, .goto (-130), 3), (141, .return_, 1)]
set_option maxRecDepth 100000 in
theorem hp_X8_findFewest : pr_X8_findFewest.all (fun x => decide (decode cX8_findFewest x.1 = .ok x.2)) = true := by decide +kernel
noncomputable def f_X8_findFewest_b128 (N : Nat) (k8 : yS → Int → Option (Int × yS)) (k14 : yS → Int → Int → Option (Int × yS)) (σ : yS) (x1 : Int) (x2 : Int) (s0 : Int) (s1 : Int) : Option (Int × yS) :=
  bif yin s1 11216 then
    k14 (yw σ 11 s1.toNat s0) x1 (yad x2 1)
  else none
noncomputable def f_X8_findFewest_b104 (N : Nat) (k8 : yS → Int → Option (Int × yS)) (k14 : yS → Int → Int → Option (Int × yS)) (σ : yS) (x1 : Int) (x2 : Int) (x3 : Int) : Option (Int × yS) :=
  bif ycP .le x3 1000000 then
    f_X8_findFewest_b128 N k8 k14 σ x1 x2 x3 (yad (ymu 16 x1) x2)
  else
    f_X8_findFewest_b128 N k8 k14 σ x1 x2 1000000 (yad (ymu 16 x1) x2)
noncomputable def f_X8_findFewest_b103 (N : Nat) (k8 : yS → Int → Option (Int × yS)) (k14 : yS → Int → Int → Option (Int × yS)) (σ : yS) (x1 : Int) (x2 : Int) (s0 : Int) : Option (Int × yS) :=
  f_X8_findFewest_b104 N k8 k14 σ x1 x2 s0
noncomputable def f_X8_findFewest_b101 (N : Nat) (k8 : yS → Int → Option (Int × yS)) (k14 : yS → Int → Int → Option (Int × yS)) (σ : yS) (x1 : Int) (x2 : Int) (x4 : Int) : Option (Int × yS) :=
  f_X8_findFewest_b103 N k8 k14 σ x1 x2 x4
noncomputable def f_X8_findFewest_b31 (N : Nat) (k8 : yS → Int → Option (Int × yS)) (k14 : yS → Int → Int → Option (Int × yS)) (σ : yS) (x1 : Int) (x2 : Int) (s0 : Int) : Option (Int × yS) :=
  bif ycP .ge x1 700 then
    f_X8_findFewest_b104 N k8 k14 σ x1 x2 s0
  else
    bif yin (yad (ymu 16 (yad x1 1)) x2) 11216 then
      bif yin x1 700 then
        bif yin (yad (ymu 16 (yad x1 1)) (yan x2 (yxo (σ.1 10 x1.toNat) ((-1))))) 11216 then
          bif ycP .eq (σ.1 10 x1.toNat) 0 then
            f_X8_findFewest_b101 N k8 k14 σ x1 x2 (σ.1 11 (yad (ymu 16 (yad x1 1)) x2).toNat)
          else
            bif ycP .ge (yad (σ.1 11 (yad (ymu 16 (yad x1 1)) (yan x2 (yxo (σ.1 10 x1.toNat) ((-1))))).toNat) 1) (σ.1 11 (yad (ymu 16 (yad x1 1)) x2).toNat) then
              f_X8_findFewest_b101 N k8 k14 σ x1 x2 (σ.1 11 (yad (ymu 16 (yad x1 1)) x2).toNat)
            else
              f_X8_findFewest_b103 N k8 k14 σ x1 x2 (yad (σ.1 11 (yad (ymu 16 (yad x1 1)) (yan x2 (yxo (σ.1 10 x1.toNat) ((-1))))).toNat) 1)
        else none
      else none
    else none
noncomputable def f_X8_findFewest_b14 (N : Nat) (k8 : yS → Int → Option (Int × yS)) : Nat → yS → Int → Int → Option (Int × yS) := yfix (fun _ _ _ => none) (fun ih σ x1 x2 =>
    bif ycP .ge x2 16 then
      k8 σ (yad x1 (-1))
    else
      bif ycP .ne x2 0 then
        f_X8_findFewest_b31 N k8 ih σ x1 x2 1000000
      else
        f_X8_findFewest_b31 N k8 ih σ x1 x2 0)
theorem q_X8_findFewest_b14 (N : Nat) (k8 : yS → Int → Option (Int × yS)) (n : Nat) (σ : yS) (x1 : Int) (x2 : Int) : f_X8_findFewest_b14 N k8 (n + 1) σ x1 x2 =
    (bif ycP .ge x2 16 then
      k8 σ (yad x1 (-1))
    else
      bif ycP .ne x2 0 then
        f_X8_findFewest_b31 N k8 (f_X8_findFewest_b14 N k8 n) σ x1 x2 1000000
      else
        f_X8_findFewest_b31 N k8 (f_X8_findFewest_b14 N k8 n) σ x1 x2 0) := rfl
noncomputable def f_X8_findFewest_b8 (N : Nat) : Nat → yS → Int → Option (Int × yS) := yfix (fun _ _ => none) (fun ih σ x1 =>
    bif ycP .lt x1 0 then
      some (0, σ)
    else
      f_X8_findFewest_b14 N ih N σ x1 0)
theorem q_X8_findFewest_b8 (N : Nat) (n : Nat) (σ : yS) (x1 : Int) : f_X8_findFewest_b8 N (n + 1) σ x1 =
    (bif ycP .lt x1 0 then
      some (0, σ)
    else
      f_X8_findFewest_b14 N (f_X8_findFewest_b8 N n) N σ x1 0) := rfl
noncomputable def f_X8_findFewest (N : Nat) (σ : yS) : Option (Int × yS) :=
  match f_X8_findCovers N σ with
  | none => none
  | some r1 => f_X8_findFewest_b8 N N r1.2 700
noncomputable def F_X8_findFewest (N : Nat) : yF := fun as σ => match as with
  | [.inr (.inl 8, 0)] => (f_X8_findFewest N σ).map (fun r => (none, r.2))
  | _ => none
theorem e_X8_findFewest {N : Nat} {σ : yS} {r : Int × yS} (h : f_X8_findFewest N σ = some r) : F_X8_findFewest N [.inr (.inl 8, 0)] σ = some (none, r.2) := by
  show (f_X8_findFewest N σ).map (fun r => ((none, r.2) : yR)) = _
  rw [h]
  rfl
noncomputable def tb_X8_findFewest (N : Nat) : yTb := ([(38, 8, 27, 3), (41, 8, 28, 3)], [(289, 1000000)], [], [(286, 1, 8, F_X8_findCovers N)], [], [], [])
abbrev G_X8_findFewest (N : Nat) (X : zXT) (sh : List yH) (l : Launch) (rm : Room) : yC → yR → Prop := yGoes X vwCl yct sh l rm cX8_findFewest 6 wsX8_findFewest RX8 (tb_X8_findFewest N) pr_X8_findFewest 0
set_option maxRecDepth 100000 in
set_option maxHeartbeats 4000000 in
theorem t_X8_findFewest_b128 {N : Nat} {X : zXT} {sh : List yH} {l : Launch} {rm : Room} (k8 : yS → Int → Option (Int × yS)) (hk8 : ∀ (σ : yS) (x1 : Int) (res : Int × yS), k8 σ x1 = some res → G_X8_findFewest N X sh l rm (8, [(0, .inr (.inl 8, 0)), (1, .inl (.inl x1))], [], σ) (none, res.2)) (k14 : yS → Int → Int → Option (Int × yS)) (hk14 : ∀ (σ : yS) (x1 : Int) (x2 : Int) (res : Int × yS), k14 σ x1 x2 = some res → G_X8_findFewest N X sh l rm (14, [(0, .inr (.inl 8, 0)), (1, .inl (.inl x1)), (2, .inl (.inl x2))], [], σ) (none, res.2)) (σ : yS) (x1 : Int) (x2 : Int) (s0 : Int) (s1 : Int) (res : Int × yS) (h : f_X8_findFewest_b128 N k8 k14 σ x1 x2 s0 s1 = some res) : G_X8_findFewest N X sh l rm (128, [(0, .inr (.inl 8, 0)), (1, .inl (.inl x1)), (2, .inl (.inl x2))], [.inl (.inl s0), .inl (.inl s1), .inr (.inr (0, 11216), 11)], σ) (none, res.2) := by
  unfold f_X8_findFewest_b128 at h
  cases hg1 : yin s1 11216 with
  | false => rw [hg1] at h; dsimp only [cond] at h; cases h
  | true =>
    rw [hg1] at h
    dsimp only [cond] at h
    refine yG_t (C' := (129, [(0, .inr (.inl 8, 0)), (1, .inl (.inl x1)), (2, .inl (.inl x2))], [], yw σ 11 s1.toNat s0)) rfl hg1 ?_
    refine yG_n (n := 2) (C' := (14, [(2, .inl (.inl (yad x2 1))), (0, .inr (.inl 8, 0)), (1, .inl (.inl x1))], [], yw σ 11 s1.toNat s0)) rfl ?_
    exact yG_w [1, 2, 0] rfl (hk14 (yw σ 11 s1.toNat s0) x1 (yad x2 1) res h)
set_option maxRecDepth 100000 in
set_option maxHeartbeats 4000000 in
theorem t_X8_findFewest_b104 {N : Nat} {X : zXT} {sh : List yH} {l : Launch} {rm : Room} (k8 : yS → Int → Option (Int × yS)) (hk8 : ∀ (σ : yS) (x1 : Int) (res : Int × yS), k8 σ x1 = some res → G_X8_findFewest N X sh l rm (8, [(0, .inr (.inl 8, 0)), (1, .inl (.inl x1))], [], σ) (none, res.2)) (k14 : yS → Int → Int → Option (Int × yS)) (hk14 : ∀ (σ : yS) (x1 : Int) (x2 : Int) (res : Int × yS), k14 σ x1 x2 = some res → G_X8_findFewest N X sh l rm (14, [(0, .inr (.inl 8, 0)), (1, .inl (.inl x1)), (2, .inl (.inl x2))], [], σ) (none, res.2)) (σ : yS) (x1 : Int) (x2 : Int) (x3 : Int) (res : Int × yS) (h : f_X8_findFewest_b104 N k8 k14 σ x1 x2 x3 = some res) : G_X8_findFewest N X sh l rm (104, [(0, .inr (.inl 8, 0)), (1, .inl (.inl x1)), (2, .inl (.inl x2)), (3, .inl (.inl x3))], [], σ) (none, res.2) := by
  unfold f_X8_findFewest_b104 at h
  refine yG_n (n := 9) (C' := (118, [(0, .inr (.inl 8, 0)), (1, .inl (.inl x1)), (2, .inl (.inl x2)), (3, .inl (.inl x3))], [.inl (.inl 1000000), .inl (.inl x3), .inl (.inl (yad (ymu 16 x1) x2)), .inr (.inr (0, 11216), 11)], σ)) rfl ?_
  cases hg2 : ycP .le x3 1000000 with
  | true =>
    rw [hg2] at h
    dsimp only [cond] at h
    refine yG_t (C' := (127, [(0, .inr (.inl 8, 0)), (1, .inl (.inl x1)), (2, .inl (.inl x2)), (3, .inl (.inl x3))], [.inl (.inl (yad (ymu 16 x1) x2)), .inr (.inr (0, 11216), 11)], σ)) rfl hg2 ?_
    refine yG_n (n := 1) (C' := (128, [(0, .inr (.inl 8, 0)), (1, .inl (.inl x1)), (2, .inl (.inl x2)), (3, .inl (.inl x3))], [.inl (.inl x3), .inl (.inl (yad (ymu 16 x1) x2)), .inr (.inr (0, 11216), 11)], σ)) rfl ?_
    exact yG_w [0, 1, 2] rfl (t_X8_findFewest_b128 k8 hk8 k14 hk14 σ x1 x2 x3 (yad (ymu 16 x1) x2) res h)
  | false =>
    rw [hg2] at h
    dsimp only [cond] at h
    refine yG_f (C' := (121, [(0, .inr (.inl 8, 0)), (1, .inl (.inl x1)), (2, .inl (.inl x2)), (3, .inl (.inl x3))], [.inl (.inl (yad (ymu 16 x1) x2)), .inr (.inr (0, 11216), 11)], σ)) rfl hg2 ?_
    refine yG_n (n := 2) (C' := (128, [(0, .inr (.inl 8, 0)), (1, .inl (.inl x1)), (2, .inl (.inl x2)), (3, .inl (.inl x3))], [.inl (.inl 1000000), .inl (.inl (yad (ymu 16 x1) x2)), .inr (.inr (0, 11216), 11)], σ)) rfl ?_
    exact yG_w [0, 1, 2] rfl (t_X8_findFewest_b128 k8 hk8 k14 hk14 σ x1 x2 1000000 (yad (ymu 16 x1) x2) res h)
set_option maxRecDepth 100000 in
set_option maxHeartbeats 4000000 in
theorem t_X8_findFewest_b103 {N : Nat} {X : zXT} {sh : List yH} {l : Launch} {rm : Room} (k8 : yS → Int → Option (Int × yS)) (hk8 : ∀ (σ : yS) (x1 : Int) (res : Int × yS), k8 σ x1 = some res → G_X8_findFewest N X sh l rm (8, [(0, .inr (.inl 8, 0)), (1, .inl (.inl x1))], [], σ) (none, res.2)) (k14 : yS → Int → Int → Option (Int × yS)) (hk14 : ∀ (σ : yS) (x1 : Int) (x2 : Int) (res : Int × yS), k14 σ x1 x2 = some res → G_X8_findFewest N X sh l rm (14, [(0, .inr (.inl 8, 0)), (1, .inl (.inl x1)), (2, .inl (.inl x2))], [], σ) (none, res.2)) (σ : yS) (x1 : Int) (x2 : Int) (s0 : Int) (res : Int × yS) (h : f_X8_findFewest_b103 N k8 k14 σ x1 x2 s0 = some res) : G_X8_findFewest N X sh l rm (103, [(0, .inr (.inl 8, 0)), (1, .inl (.inl x1)), (2, .inl (.inl x2))], [.inl (.inl s0)], σ) (none, res.2) := by
  unfold f_X8_findFewest_b103 at h
  refine yG_n (n := 1) (C' := (104, [(3, .inl (.inl s0)), (0, .inr (.inl 8, 0)), (1, .inl (.inl x1)), (2, .inl (.inl x2))], [], σ)) rfl ?_
  exact yG_w [1, 2, 3, 0] rfl (t_X8_findFewest_b104 k8 hk8 k14 hk14 σ x1 x2 s0 res h)
set_option maxRecDepth 100000 in
set_option maxHeartbeats 4000000 in
theorem t_X8_findFewest_b101 {N : Nat} {X : zXT} {sh : List yH} {l : Launch} {rm : Room} (k8 : yS → Int → Option (Int × yS)) (hk8 : ∀ (σ : yS) (x1 : Int) (res : Int × yS), k8 σ x1 = some res → G_X8_findFewest N X sh l rm (8, [(0, .inr (.inl 8, 0)), (1, .inl (.inl x1))], [], σ) (none, res.2)) (k14 : yS → Int → Int → Option (Int × yS)) (hk14 : ∀ (σ : yS) (x1 : Int) (x2 : Int) (res : Int × yS), k14 σ x1 x2 = some res → G_X8_findFewest N X sh l rm (14, [(0, .inr (.inl 8, 0)), (1, .inl (.inl x1)), (2, .inl (.inl x2))], [], σ) (none, res.2)) (σ : yS) (x1 : Int) (x2 : Int) (x4 : Int) (res : Int × yS) (h : f_X8_findFewest_b101 N k8 k14 σ x1 x2 x4 = some res) : G_X8_findFewest N X sh l rm (101, [(0, .inr (.inl 8, 0)), (1, .inl (.inl x1)), (2, .inl (.inl x2)), (4, .inl (.inl x4))], [], σ) (none, res.2) := by
  unfold f_X8_findFewest_b101 at h
  refine yG_n (n := 1) (C' := (103, [(0, .inr (.inl 8, 0)), (1, .inl (.inl x1)), (2, .inl (.inl x2)), (4, .inl (.inl x4))], [.inl (.inl x4)], σ)) rfl ?_
  exact yG_w [0, 1, 2] rfl (t_X8_findFewest_b103 k8 hk8 k14 hk14 σ x1 x2 x4 res h)
set_option maxRecDepth 100000 in
set_option maxHeartbeats 4000000 in
theorem t_X8_findFewest_b31 {N : Nat} {X : zXT} {sh : List yH} {l : Launch} {rm : Room} (k8 : yS → Int → Option (Int × yS)) (hk8 : ∀ (σ : yS) (x1 : Int) (res : Int × yS), k8 σ x1 = some res → G_X8_findFewest N X sh l rm (8, [(0, .inr (.inl 8, 0)), (1, .inl (.inl x1))], [], σ) (none, res.2)) (k14 : yS → Int → Int → Option (Int × yS)) (hk14 : ∀ (σ : yS) (x1 : Int) (x2 : Int) (res : Int × yS), k14 σ x1 x2 = some res → G_X8_findFewest N X sh l rm (14, [(0, .inr (.inl 8, 0)), (1, .inl (.inl x1)), (2, .inl (.inl x2))], [], σ) (none, res.2)) (σ : yS) (x1 : Int) (x2 : Int) (s0 : Int) (res : Int × yS) (h : f_X8_findFewest_b31 N k8 k14 σ x1 x2 s0 = some res) : G_X8_findFewest N X sh l rm (31, [(0, .inr (.inl 8, 0)), (1, .inl (.inl x1)), (2, .inl (.inl x2))], [.inl (.inl s0)], σ) (none, res.2) := by
  unfold f_X8_findFewest_b31 at h
  refine yG_n (n := 3) (C' := (36, [(3, .inl (.inl s0)), (0, .inr (.inl 8, 0)), (1, .inl (.inl x1)), (2, .inl (.inl x2))], [.inl (.inl 700), .inl (.inl x1)], σ)) rfl ?_
  cases hg3 : ycP .ge x1 700 with
  | true =>
    rw [hg3] at h
    dsimp only [cond] at h
    refine yG_t (C' := (104, [(3, .inl (.inl s0)), (0, .inr (.inl 8, 0)), (1, .inl (.inl x1)), (2, .inl (.inl x2))], [], σ)) rfl hg3 ?_
    exact yG_w [1, 2, 3, 0] rfl (t_X8_findFewest_b104 k8 hk8 k14 hk14 σ x1 x2 s0 res h)
  | false =>
    rw [hg3] at h
    dsimp only [cond] at h
    refine yG_f (C' := (39, [(3, .inl (.inl s0)), (0, .inr (.inl 8, 0)), (1, .inl (.inl x1)), (2, .inl (.inl x2))], [], σ)) rfl hg3 ?_
    refine yG_n (n := 9) (C' := (51, [(3, .inl (.inl s0)), (0, .inr (.inl 8, 0)), (1, .inl (.inl x1)), (2, .inl (.inl x2))], [.inl (.inl (yad (ymu 16 (yad x1 1)) x2)), .inr (.inr (0, 11216), 11)], σ)) rfl ?_
    cases hg4 : yin (yad (ymu 16 (yad x1 1)) x2) 11216 with
    | false => rw [hg4] at h; dsimp only [cond] at h; cases h
    | true =>
      rw [hg4] at h
      dsimp only [cond] at h
      refine yG_t (C' := (52, [(3, .inl (.inl s0)), (0, .inr (.inl 8, 0)), (1, .inl (.inl x1)), (2, .inl (.inl x2))], [.inl (.inl (σ.1 11 (yad (ymu 16 (yad x1 1)) x2).toNat))], σ)) rfl hg4 ?_
      refine yG_n (n := 12) (C' := (70, [(4, .inl (.inl (σ.1 11 (yad (ymu 16 (yad x1 1)) x2).toNat))), (3, .inl (.inl s0)), (0, .inr (.inl 8, 0)), (1, .inl (.inl x1)), (2, .inl (.inl x2))], [.inl (.inl x1), .inr (.inr (0, 700), 10), .inl (.inl x2), .inl (.inl (ymu 16 (yad x1 1))), .inr (.inr (0, 11216), 11)], σ)) rfl ?_
      cases hg5 : yin x1 700 with
      | false => rw [hg5] at h; dsimp only [cond] at h; cases h
      | true =>
        rw [hg5] at h
        dsimp only [cond] at h
        refine yG_t (C' := (71, [(4, .inl (.inl (σ.1 11 (yad (ymu 16 (yad x1 1)) x2).toNat))), (3, .inl (.inl s0)), (0, .inr (.inl 8, 0)), (1, .inl (.inl x1)), (2, .inl (.inl x2))], [.inl (.inl (σ.1 10 x1.toNat)), .inl (.inl x2), .inl (.inl (ymu 16 (yad x1 1))), .inr (.inr (0, 11216), 11)], σ)) rfl hg5 ?_
        refine yG_n (n := 4) (C' := (75, [(4, .inl (.inl (σ.1 11 (yad (ymu 16 (yad x1 1)) x2).toNat))), (3, .inl (.inl s0)), (0, .inr (.inl 8, 0)), (1, .inl (.inl x1)), (2, .inl (.inl x2))], [.inl (.inl (yad (ymu 16 (yad x1 1)) (yan x2 (yxo (σ.1 10 x1.toNat) ((-1)))))), .inr (.inr (0, 11216), 11)], σ)) rfl ?_
        cases hg6 : yin (yad (ymu 16 (yad x1 1)) (yan x2 (yxo (σ.1 10 x1.toNat) ((-1))))) 11216 with
        | false => rw [hg6] at h; dsimp only [cond] at h; cases h
        | true =>
          rw [hg6] at h
          dsimp only [cond] at h
          refine yG_t (C' := (76, [(4, .inl (.inl (σ.1 11 (yad (ymu 16 (yad x1 1)) x2).toNat))), (3, .inl (.inl s0)), (0, .inr (.inl 8, 0)), (1, .inl (.inl x1)), (2, .inl (.inl x2))], [.inl (.inl (σ.1 11 (yad (ymu 16 (yad x1 1)) (yan x2 (yxo (σ.1 10 x1.toNat) ((-1))))).toNat))], σ)) rfl hg6 ?_
          refine yG_n (n := 6) (C' := (85, [(5, .inl (.inl (yad (σ.1 11 (yad (ymu 16 (yad x1 1)) (yan x2 (yxo (σ.1 10 x1.toNat) ((-1))))).toNat) 1))), (4, .inl (.inl (σ.1 11 (yad (ymu 16 (yad x1 1)) x2).toNat))), (3, .inl (.inl s0)), (0, .inr (.inl 8, 0)), (1, .inl (.inl x1)), (2, .inl (.inl x2))], [.inl (.inl x1), .inr (.inr (0, 700), 10)], σ)) rfl ?_
          refine yG_t (C' := (86, [(5, .inl (.inl (yad (σ.1 11 (yad (ymu 16 (yad x1 1)) (yan x2 (yxo (σ.1 10 x1.toNat) ((-1))))).toNat) 1))), (4, .inl (.inl (σ.1 11 (yad (ymu 16 (yad x1 1)) x2).toNat))), (3, .inl (.inl s0)), (0, .inr (.inl 8, 0)), (1, .inl (.inl x1)), (2, .inl (.inl x2))], [.inl (.inl (σ.1 10 x1.toNat))], σ)) rfl hg5 ?_
          cases hg7 : ycP .eq (σ.1 10 x1.toNat) 0 with
          | true =>
            rw [hg7] at h
            dsimp only [cond] at h
            refine yG_t (C' := (101, [(5, .inl (.inl (yad (σ.1 11 (yad (ymu 16 (yad x1 1)) (yan x2 (yxo (σ.1 10 x1.toNat) ((-1))))).toNat) 1))), (4, .inl (.inl (σ.1 11 (yad (ymu 16 (yad x1 1)) x2).toNat))), (3, .inl (.inl s0)), (0, .inr (.inl 8, 0)), (1, .inl (.inl x1)), (2, .inl (.inl x2))], [], σ)) rfl hg7 ?_
            exact yG_w [3, 4, 5, 1] rfl (t_X8_findFewest_b101 k8 hk8 k14 hk14 σ x1 x2 (σ.1 11 (yad (ymu 16 (yad x1 1)) x2).toNat) res h)
          | false =>
            rw [hg7] at h
            dsimp only [cond] at h
            refine yG_f (C' := (89, [(5, .inl (.inl (yad (σ.1 11 (yad (ymu 16 (yad x1 1)) (yan x2 (yxo (σ.1 10 x1.toNat) ((-1))))).toNat) 1))), (4, .inl (.inl (σ.1 11 (yad (ymu 16 (yad x1 1)) x2).toNat))), (3, .inl (.inl s0)), (0, .inr (.inl 8, 0)), (1, .inl (.inl x1)), (2, .inl (.inl x2))], [], σ)) rfl hg7 ?_
            refine yG_n (n := 2) (C' := (93, [(5, .inl (.inl (yad (σ.1 11 (yad (ymu 16 (yad x1 1)) (yan x2 (yxo (σ.1 10 x1.toNat) ((-1))))).toNat) 1))), (4, .inl (.inl (σ.1 11 (yad (ymu 16 (yad x1 1)) x2).toNat))), (3, .inl (.inl s0)), (0, .inr (.inl 8, 0)), (1, .inl (.inl x1)), (2, .inl (.inl x2))], [.inl (.inl (σ.1 11 (yad (ymu 16 (yad x1 1)) x2).toNat)), .inl (.inl (yad (σ.1 11 (yad (ymu 16 (yad x1 1)) (yan x2 (yxo (σ.1 10 x1.toNat) ((-1))))).toNat) 1))], σ)) rfl ?_
            cases hg8 : ycP .ge (yad (σ.1 11 (yad (ymu 16 (yad x1 1)) (yan x2 (yxo (σ.1 10 x1.toNat) ((-1))))).toNat) 1) (σ.1 11 (yad (ymu 16 (yad x1 1)) x2).toNat) with
            | true =>
              rw [hg8] at h
              dsimp only [cond] at h
              refine yG_t (C' := (101, [(5, .inl (.inl (yad (σ.1 11 (yad (ymu 16 (yad x1 1)) (yan x2 (yxo (σ.1 10 x1.toNat) ((-1))))).toNat) 1))), (4, .inl (.inl (σ.1 11 (yad (ymu 16 (yad x1 1)) x2).toNat))), (3, .inl (.inl s0)), (0, .inr (.inl 8, 0)), (1, .inl (.inl x1)), (2, .inl (.inl x2))], [], σ)) rfl hg8 ?_
              exact yG_w [3, 4, 5, 1] rfl (t_X8_findFewest_b101 k8 hk8 k14 hk14 σ x1 x2 (σ.1 11 (yad (ymu 16 (yad x1 1)) x2).toNat) res h)
            | false =>
              rw [hg8] at h
              dsimp only [cond] at h
              refine yG_f (C' := (96, [(5, .inl (.inl (yad (σ.1 11 (yad (ymu 16 (yad x1 1)) (yan x2 (yxo (σ.1 10 x1.toNat) ((-1))))).toNat) 1))), (4, .inl (.inl (σ.1 11 (yad (ymu 16 (yad x1 1)) x2).toNat))), (3, .inl (.inl s0)), (0, .inr (.inl 8, 0)), (1, .inl (.inl x1)), (2, .inl (.inl x2))], [], σ)) rfl hg8 ?_
              refine yG_n (n := 2) (C' := (103, [(5, .inl (.inl (yad (σ.1 11 (yad (ymu 16 (yad x1 1)) (yan x2 (yxo (σ.1 10 x1.toNat) ((-1))))).toNat) 1))), (4, .inl (.inl (σ.1 11 (yad (ymu 16 (yad x1 1)) x2).toNat))), (3, .inl (.inl s0)), (0, .inr (.inl 8, 0)), (1, .inl (.inl x1)), (2, .inl (.inl x2))], [.inl (.inl (yad (σ.1 11 (yad (ymu 16 (yad x1 1)) (yan x2 (yxo (σ.1 10 x1.toNat) ((-1))))).toNat) 1))], σ)) rfl ?_
              exact yG_w [3, 4, 5] rfl (t_X8_findFewest_b103 k8 hk8 k14 hk14 σ x1 x2 (yad (σ.1 11 (yad (ymu 16 (yad x1 1)) (yan x2 (yxo (σ.1 10 x1.toNat) ((-1))))).toNat) 1) res h)
set_option maxRecDepth 100000 in
set_option maxHeartbeats 4000000 in
theorem t_X8_findFewest_b14 {N : Nat} {X : zXT} {sh : List yH} {l : Launch} {rm : Room} (k8 : yS → Int → Option (Int × yS)) (hk8 : ∀ (σ : yS) (x1 : Int) (res : Int × yS), k8 σ x1 = some res → G_X8_findFewest N X sh l rm (8, [(0, .inr (.inl 8, 0)), (1, .inl (.inl x1))], [], σ) (none, res.2)) : ∀ (n : Nat) (σ : yS) (x1 : Int) (x2 : Int) (res : Int × yS), f_X8_findFewest_b14 N k8 n σ x1 x2 = some res → G_X8_findFewest N X sh l rm (14, [(0, .inr (.inl 8, 0)), (1, .inl (.inl x1)), (2, .inl (.inl x2))], [], σ) (none, res.2) := by
  intro n
  induction n with
  | zero => intro σ x1 x2 res h; exact (yno h).elim
  | succ n ih =>
    intro σ x1 x2 res h
    rw [q_X8_findFewest_b14] at h
    refine yG_n (n := 2) (C' := (17, [(0, .inr (.inl 8, 0)), (1, .inl (.inl x1)), (2, .inl (.inl x2))], [.inl (.inl 16), .inl (.inl x2)], σ)) rfl ?_
    cases hg9 : ycP .ge x2 16 with
    | true =>
      rw [hg9] at h
      dsimp only [cond] at h
      refine yG_t (C' := (135, [(0, .inr (.inl 8, 0)), (1, .inl (.inl x1)), (2, .inl (.inl x2))], [], σ)) rfl hg9 ?_
      refine yG_n (n := 2) (C' := (8, [(1, .inl (.inl (yad x1 (-1)))), (0, .inr (.inl 8, 0)), (2, .inl (.inl x2))], [], σ)) rfl ?_
      exact yG_w [1, 0] rfl (hk8 σ (yad x1 (-1)) res h)
    | false =>
      rw [hg9] at h
      dsimp only [cond] at h
      refine yG_f (C' := (20, [(0, .inr (.inl 8, 0)), (1, .inl (.inl x1)), (2, .inl (.inl x2))], [], σ)) rfl hg9 ?_
      refine yG_n (n := 1) (C' := (21, [(0, .inr (.inl 8, 0)), (1, .inl (.inl x1)), (2, .inl (.inl x2))], [.inl (.inl x2)], σ)) rfl ?_
      cases hg10 : ycP .ne x2 0 with
      | true =>
        rw [hg10] at h
        dsimp only [cond] at h
        refine yG_t (C' := (28, [(0, .inr (.inl 8, 0)), (1, .inl (.inl x1)), (2, .inl (.inl x2))], [], σ)) rfl hg10 ?_
        refine yG_n (n := 1) (C' := (31, [(0, .inr (.inl 8, 0)), (1, .inl (.inl x1)), (2, .inl (.inl x2))], [.inl (.inl 1000000)], σ)) rfl ?_
        exact t_X8_findFewest_b31 k8 hk8 (f_X8_findFewest_b14 N k8 n) ih σ x1 x2 1000000 res h
      | false =>
        rw [hg10] at h
        dsimp only [cond] at h
        refine yG_f (C' := (24, [(0, .inr (.inl 8, 0)), (1, .inl (.inl x1)), (2, .inl (.inl x2))], [], σ)) rfl hg10 ?_
        refine yG_n (n := 2) (C' := (31, [(0, .inr (.inl 8, 0)), (1, .inl (.inl x1)), (2, .inl (.inl x2))], [.inl (.inl 0)], σ)) rfl ?_
        exact t_X8_findFewest_b31 k8 hk8 (f_X8_findFewest_b14 N k8 n) ih σ x1 x2 0 res h
set_option maxRecDepth 100000 in
set_option maxHeartbeats 4000000 in
theorem t_X8_findFewest_b8 {N : Nat} {X : zXT} {sh : List yH} {l : Launch} {rm : Room} : ∀ (n : Nat) (σ : yS) (x1 : Int) (res : Int × yS), f_X8_findFewest_b8 N n σ x1 = some res → G_X8_findFewest N X sh l rm (8, [(0, .inr (.inl 8, 0)), (1, .inl (.inl x1))], [], σ) (none, res.2) := by
  intro n
  induction n with
  | zero => intro σ x1 res h; exact (yno h).elim
  | succ n ih =>
    intro σ x1 res h
    rw [q_X8_findFewest_b8] at h
    refine yG_n (n := 1) (C' := (9, [(0, .inr (.inl 8, 0)), (1, .inl (.inl x1))], [.inl (.inl x1)], σ)) rfl ?_
    cases hg11 : ycP .lt x1 0 with
    | true =>
      rw [hg11] at h
      dsimp only [cond] at h
      refine yG_t (C' := (141, [(0, .inr (.inl 8, 0)), (1, .inl (.inl x1))], [], σ)) rfl hg11 ?_
      have h := Option.some.inj h
      subst h
      dsimp only
      exact yG_r rfl rfl
    | false =>
      rw [hg11] at h
      dsimp only [cond] at h
      refine yG_f (C' := (12, [(0, .inr (.inl 8, 0)), (1, .inl (.inl x1))], [], σ)) rfl hg11 ?_
      refine yG_n (n := 2) (C' := (14, [(2, .inl (.inl 0)), (0, .inr (.inl 8, 0)), (1, .inl (.inl x1))], [], σ)) rfl ?_
      exact yG_w [1, 2, 0] rfl (t_X8_findFewest_b14 (f_X8_findFewest_b8 N n) ih N σ x1 0 res h)
set_option maxRecDepth 100000 in
set_option maxHeartbeats 4000000 in
theorem t_X8_findFewest {N : Nat} {X : zXT} {sh : List yH} {l : Launch} {rm : Room} (σ : yS) (res : Int × yS) (h : f_X8_findFewest N σ = some res) : G_X8_findFewest N X sh l rm (0, [(0, .inr (.inl 8, 0))], [], σ) (none, res.2) := by
  unfold f_X8_findFewest at h
  refine yG_n (n := 1) (C' := (1, [(0, .inr (.inl 8, 0))], [.inr (.inl 8, 0)], σ)) rfl ?_
  cases hr12 : f_X8_findCovers N σ with
  | none => rw [hr12] at h; dsimp only at h; cases h
  | some r1 =>
    rw [hr12] at h
    dsimp only at h
    refine yG_c (C1 := (4, [(0, .inr (.inl 8, 0))], [], r1.2)) rfl (e_X8_findCovers hr12) rfl ?_
    refine yG_n (n := 2) (C' := (8, [(1, .inl (.inl 700)), (0, .inr (.inl 8, 0))], [], r1.2)) rfl ?_
    exact yG_w [1, 0] rfl (t_X8_findFewest_b8 N r1.2 700 res h)
set_option maxRecDepth 100000 in
set_option maxHeartbeats 4000000 in
theorem m_X8_findFewest {N : Nat} {X : zXT} (hX : zXok X) (hN : zXn X) (l : Launch) {sh : List yH} : yMet X vwCl yct sh l yX8_findFewest wsX8_findFewest { frames := 7, cells := 0, slots := 0, locals := 214 } (F_X8_findFewest N) :=
  ymeth (tb := tb_X8_findFewest N) (pr := pr_X8_findFewest) (rt := 0) (own := RX8) hX (by decide +kernel) rfl rfl ⟨Nat.le_of_ble_eq_true rfl, Nat.le_of_ble_eq_true rfl⟩
    (zfl_all (List.forall_mem_cons.mpr ⟨zfl_X8 (fun w h => List.mem_cons_of_mem _ (List.mem_append_right _ h)) (List.mem_of_getElem? (i := 3) rfl) (by decide) (by decide), List.forall_mem_cons.mpr ⟨zfl_X8 (fun w h => List.mem_cons_of_mem _ (List.mem_append_right _ h)) (List.mem_of_getElem? (i := 2) rfl) (by decide) (by decide), fun _ h => absurd h List.not_mem_nil⟩⟩))
    (zco_all (List.forall_mem_cons.mpr ⟨(List.mem_of_getElem? (i := 1) rfl), fun _ h => absurd h List.not_mem_nil⟩)) (zlc_all (fun _ h => absurd h List.not_mem_nil))
    (List.forall_mem_cons.mpr ⟨ycal_V hX (m_X8_findCovers hX hN l) rfl (fun s args hts => cwV 0 hts gX8_findFewest_X8_findCovers rfl rfl rfl (by decide +kernel) ⟨Nat.le_of_ble_eq_true rfl, Nat.le_of_ble_eq_true rfl⟩), fun _ h => absurd h List.not_mem_nil⟩)
    (fun _ h => absurd h List.not_mem_nil)
    (zmm_all (fun _ h => absurd h List.not_mem_nil)) (fun _ h => absurd h List.not_mem_nil) (zpr_all hp_X8_findFewest) (fun as σ res h => by
      unfold F_X8_findFewest at h
      split at h
      · cases hr : f_X8_findFewest N σ with
        | none => rw [hr] at h; cases h
        | some r =>
          rw [hr] at h
          cases h
          exact ⟨Nat.le_of_ble_eq_true rfl, t_X8_findFewest σ r hr⟩
      · cases h)
end
