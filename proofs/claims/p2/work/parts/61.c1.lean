def pr_X4_habitFalls : List (Nat × Instr × Nat) := [(0, .aload_n 0, 1), (1, .getfield 31, 3), (4, .iload_n 1, 1), (5, .iaload, 1), (6, .ifCond .eq 25, 3), (9, .aload_n 0, 1), (10, .getfield 25, 3), (13, .iload_n 1, 1), (14, .iaload, 1), (15, .iconst 4, 1), (16, .if_icmp .eq 15, 3), (19, .aload_n 0, 1), (20, .getfield 65, 3), (23, .iload_n 2, 1), (24, .invokestatic 126, 3), (27, .iconst 1, 1), (28, .if_icmp .ne 5, 3), (31, .iconst 0, 1), (32, .ireturn, 1), (33, .iconst 0, 1), (34, .istore_n 3, 1), (35, .iconst 0, 1), (36, .istore 4, 2), (38, .iload 4, 2), (40, .aload_n 0, 1), (41, .getfield 25, 3), (44, .iload_n 1, 1), (45, .iaload, 1), (46, .invokestatic 108, 3), (49, .if_icmp .ge 37, 3), (52, .iload_n 3, 1), (53, .aload_n 0, 1), (54, .iload_n 1, 1), (55, .aload_n 0, 1), (56, .getfield 25, 3), (59, .iload_n 1, 1), (60, .iaload, 1), (61, .iload 4, 2), (63, .invokestatic 115, 3), (66, .invokevirtual 119, 3), (69, .iload_n 2, 1), (70, .if_icmp .ne 7, 3), (73, .iconst 1, 1), (74, .goto 4, 3), (77, .iconst 0, 1), (78, .iadd, 1), (79, .istore_n 3, 1), (80, .iinc 4 1, 3), (83, .goto (-45), 3), (86, .iload_n 3, 1), (87, .ireturn, 1)]
set_option maxRecDepth 100000 in
theorem hp_X4_habitFalls : pr_X4_habitFalls.all (fun x => decide (decode cX4_habitFalls x.1 = .ok x.2)) = true := by decide +kernel
def ze_X4_habitFalls : zE := [(1, (2, 7)), (2, (0, 1)), (3, (0, 5)), (4, ((-2147483648), 2147483647)), (5, ((-2147483648), 2147483647)), (6, ((-2147483648), 2147483647)), (7, ((-2147483648), 2147483647)), (8, ((-2147483648), 2147483647)), (9, (0, 10)), (10, (0, 10)), (11, (0, 4)), (12, (0, 6)), (13, (0, 6))]
def k_X4_habitFalls : zK := (14, [0, 1, 2, 3, 4, 5, 6, 7, 8, 9, 10, 11, 12, 13, 14, 15, 16, 17, 18, 19, 20], (ze_X4_habitFalls, [], [], [zr 0, zi 12 0, zi 13 0], zw4c, []), [([(14, ((-2147483648), 2147483647))], [], [], [zi 14 0], zw4c, [])])
def b0_X4_habitFalls : Nat × zS := (38, ([(14, (0, 2)), (15, ((-2147483648), 2147483647))] ++ ze_X4_habitFalls, [(15, 14, 0)], [(4, zi 14 0), (3, zi 15 0), (0, zr 0), (1, zi 12 0), (2, zi 13 0)], [], zw4c, [(false, (0, 99962)), (true, (14, 2)), (false, (0, 200000)), (false, (0, 0))]))
def bl_X4_habitFalls : List (Nat × zS) := [b0_X4_habitFalls]
def tb_X4_habitFalls : zTb := ([(25, 4, 7, 3), (31, 4, 9, 3), (65, 4, 6, 0)], [], [], [(119, k_X4_whereFalls)], [(108, k_X4_fallsOf), (115, k_X4_stepOf), (126, k_X7_bit)], [])
def sp_X4_habitFalls : zSp := []
set_option maxRecDepth 1000000 in
theorem ck0_X4_habitFalls : zrun tb_X4_habitFalls sp_X4_habitFalls pr_X4_habitFalls 5 1 k_X4_habitFalls.1 k_X4_habitFalls.2.1 k_X4_habitFalls.2.2.2 bl_X4_habitFalls false 2000 5014 (zst0 k_X4_habitFalls) 0 = true := by decide +kernel
set_option maxRecDepth 1000000 in
theorem ck1_X4_habitFalls : zrun tb_X4_habitFalls sp_X4_habitFalls pr_X4_habitFalls 5 1 k_X4_habitFalls.1 k_X4_habitFalls.2.1 k_X4_habitFalls.2.2.2 bl_X4_habitFalls true 2000 5014 b0_X4_habitFalls.2 b0_X4_habitFalls.1 = true := by decide +kernel
set_option maxRecDepth 1000000 in
theorem ck_X4_habitFalls : zcheck tb_X4_habitFalls sp_X4_habitFalls pr_X4_habitFalls 5 1 k_X4_habitFalls bl_X4_habitFalls 2000 5014 = true := zcheck_of (by decide +kernel) ck0_X4_habitFalls (List.forall_mem_cons.mpr ⟨ck1_X4_habitFalls, fun _ h => absurd h List.not_mem_nil⟩)
set_option maxRecDepth 100000 in
set_option maxHeartbeats 4000000 in
theorem c_X4_habitFalls {X : zXT} (hX : zXok X) (hN : zXn X) (l : Launch) : zMet X vwCl l yX4_habitFalls wsX4_habitFalls { frames := 2, cells := 0, slots := 0, locals := 87 } k_X4_habitFalls :=
  zmeth (tb := tb_X4_habitFalls) (pr := pr_X4_habitFalls) (bl := bl_X4_habitFalls) (rt := 1) (own := RX4) hX (by decide +kernel) rfl rfl ⟨Nat.le_of_ble_eq_true rfl, Nat.le_of_ble_eq_true rfl⟩
    (zfl_all (List.forall_mem_cons.mpr ⟨zfl_X4 (fun w h => List.mem_cons_of_mem _ (List.mem_append_right _ h)) (List.mem_of_getElem? (i := 2) rfl) (by decide) (by decide), List.forall_mem_cons.mpr ⟨zfl_X4 (fun w h => List.mem_cons_of_mem _ (List.mem_append_right _ h)) (List.mem_of_getElem? (i := 1) rfl) (by decide) (by decide), List.forall_mem_cons.mpr ⟨zfl_X4 (fun w h => List.mem_cons_of_mem _ (List.mem_append_right _ h)) (List.mem_of_getElem? (i := 3) rfl) (by decide) (by decide), fun _ h => absurd h List.not_mem_nil⟩⟩⟩))
    (zco_all (fun _ h => absurd h List.not_mem_nil)) (zlc_all (fun _ h => absurd h List.not_mem_nil))
    (List.forall_mem_cons.mpr ⟨fun p e s m args below meth c A S hx => zcal_V hX S (c_X4_whereFalls hX hN l) (cwV 2 S.2.2.2.2 gX4_habitFalls_X4_whereFalls rfl rfl rfl (by decide +kernel) ⟨Nat.le_of_ble_eq_true rfl, Nat.le_of_ble_eq_true rfl⟩) rfl ⟨0, 4, _, _, _, rfl, rfl⟩ rfl, fun _ h => absurd h List.not_mem_nil⟩)
    (List.forall_mem_cons.mpr ⟨fun p e s m args below meth c A S hx => zcal_S hX S (c_X4_fallsOf hX hN l) (va_cwS 1 S.2.2.2.2 gX4_habitFalls_X4_fallsOf rfl rfl rfl (by decide +kernel) ⟨Nat.le_of_ble_eq_true rfl, Nat.le_of_ble_eq_true rfl⟩) rfl, List.forall_mem_cons.mpr ⟨fun p e s m args below meth c A S hx => zcal_S hX S (c_X4_stepOf hX hN l) (va_cwS 2 S.2.2.2.2 gX4_habitFalls_X4_stepOf rfl rfl rfl (by decide +kernel) ⟨Nat.le_of_ble_eq_true rfl, Nat.le_of_ble_eq_true rfl⟩) rfl, List.forall_mem_cons.mpr ⟨fun p e s m args below meth c A S hx => zcal_SN hX S (c_X7_bit hX hN l) ⟨va_cnB 2 S.2.2.2.2 ggX4_habitFalls_X7_bit rfl rfl rfl (hN A s s.heap hx RX4 126 yX7_bit RX7 (by decide +kernel)) (S.2.2.2.2 _ (List.mem_of_getElem? (i := 5) rfl)) (by decide +kernel) ⟨Nat.le_of_ble_eq_true rfl, Nat.le_of_ble_eq_true rfl⟩, S.2.2.2.2 _ (List.mem_of_getElem? (i := 4) rfl), trivial⟩ rfl, fun _ h => absurd h List.not_mem_nil⟩⟩⟩)
    (zmm_all (fun _ h => absurd h List.not_mem_nil)) (zpr_all hp_X4_habitFalls) ck_X4_habitFalls
def pr_X4_habitCost : List (Nat × Instr × Nat) := [(0, .aload_n 0, 1), (1, .iload_n 1, 1), (2, .iload_n 2, 1), (3, .invokevirtual 167, 3), (6, .aload_n 0, 1), (7, .getfield 15, 3), (10, .aload_n 0, 1), (11, .getfield 28, 3), (14, .iload_n 1, 1), (15, .iaload, 1), (16, .iaload, 1), (17, .imul, 1), (18, .ireturn, 1)]
set_option maxRecDepth 100000 in
theorem hp_X4_habitCost : pr_X4_habitCost.all (fun x => decide (decode cX4_habitCost x.1 = .ok x.2)) = true := by decide +kernel
def ze_X4_habitCost : zE := [(1, (2, 7)), (2, (0, 1)), (3, (0, 5)), (4, ((-2147483648), 2147483647)), (5, ((-2147483648), 2147483647)), (6, ((-2147483648), 2147483647)), (7, ((-2147483648), 2147483647)), (8, ((-2147483648), 2147483647)), (9, (0, 10)), (10, (0, 10)), (11, (0, 4)), (12, (0, 6)), (13, (0, 6))]
def k_X4_habitCost : zK := (14, [0, 1, 2, 3, 4, 5, 6, 7, 8, 9, 10, 11, 12, 13, 14, 15, 16, 17, 18, 19, 20], (ze_X4_habitCost, [], [], [zr 0, zi 12 0, zi 13 0], zw4c, []), [([(14, ((-2147483648), 2147483647))], [], [], [zi 14 0], zw4c, [])])
def bl_X4_habitCost : List (Nat × zS) := []
def tb_X4_habitCost : zTb := ([(15, 4, 3, 3), (28, 4, 8, 3)], [], [], [(167, k_X4_habitFalls)], [], [])
def sp_X4_habitCost : zSp := []
set_option maxRecDepth 1000000 in
theorem ck0_X4_habitCost : zrun tb_X4_habitCost sp_X4_habitCost pr_X4_habitCost 3 1 k_X4_habitCost.1 k_X4_habitCost.2.1 k_X4_habitCost.2.2.2 bl_X4_habitCost false 2000 5014 (zst0 k_X4_habitCost) 0 = true := by decide +kernel
set_option maxRecDepth 1000000 in
theorem ck_X4_habitCost : zcheck tb_X4_habitCost sp_X4_habitCost pr_X4_habitCost 3 1 k_X4_habitCost bl_X4_habitCost 2000 5014 = true := zcheck_of (by decide +kernel) ck0_X4_habitCost (fun _ h => absurd h List.not_mem_nil)
set_option maxRecDepth 100000 in
set_option maxHeartbeats 4000000 in
theorem c_X4_habitCost {X : zXT} (hX : zXok X) (hN : zXn X) (l : Launch) : zMet X vwCl l yX4_habitCost wsX4_habitCost { frames := 3, cells := 0, slots := 0, locals := 111 } k_X4_habitCost :=
  zmeth (tb := tb_X4_habitCost) (pr := pr_X4_habitCost) (bl := bl_X4_habitCost) (rt := 1) (own := RX4) hX (by decide +kernel) rfl rfl ⟨Nat.le_of_ble_eq_true rfl, Nat.le_of_ble_eq_true rfl⟩
    (zfl_all (List.forall_mem_cons.mpr ⟨zfl_X4 (fun w h => List.mem_cons_of_mem _ (List.mem_append_right _ h)) (List.mem_of_getElem? (i := 1) rfl) (by decide) (by decide), List.forall_mem_cons.mpr ⟨zfl_X4 (fun w h => List.mem_cons_of_mem _ (List.mem_append_right _ h)) (List.mem_of_getElem? (i := 2) rfl) (by decide) (by decide), fun _ h => absurd h List.not_mem_nil⟩⟩))
    (zco_all (fun _ h => absurd h List.not_mem_nil)) (zlc_all (fun _ h => absurd h List.not_mem_nil))
    (List.forall_mem_cons.mpr ⟨fun p e s m args below meth c A S hx => zcal_V hX S (c_X4_habitFalls hX hN l) (cwV 2 S.2.2.2.2 gX4_habitCost_X4_habitFalls rfl rfl rfl (by decide +kernel) ⟨Nat.le_of_ble_eq_true rfl, Nat.le_of_ble_eq_true rfl⟩) rfl ⟨0, 4, _, _, _, rfl, rfl⟩ rfl, fun _ h => absurd h List.not_mem_nil⟩)
    (fun _ h => absurd h List.not_mem_nil)
    (zmm_all (fun _ h => absurd h List.not_mem_nil)) (zpr_all hp_X4_habitCost) ck_X4_habitCost
def pr_X4_habitWeight : List (Nat × Instr × Nat) := [(0, .lconst 1, 1), (1, .lstore_n 2, 1), (2, .iconst 0, 1), (3, .istore 4, 2), (5, .iload 4, 2), (7, .aload_n 0, 1), (8, .getfield 9, 3), (11, .if_icmp .ge 44, 3), (14, .lload_n 2, 1), (15, .iload_n 1, 1), (16, .iload 4, 2), (18, .invokestatic 126, 3), (21, .iconst 1, 1), (22, .if_icmp .ne 14, 3), (25, .aload_n 0, 1), (26, .getfield 31, 3), (29, .iload 4, 2), (31, .iaload, 1), (32, .i2l, 1), (33, .goto 14, 3), (36, .bipush 10, 2), (38, .aload_n 0, 1), (39, .getfield 31, 3), (42, .iload 4, 2), (44, .iaload, 1), (45, .isub, 1), (46, .i2l, 1), (47, .lmul, 1), (48, .lstore_n 2, 1), (49, .iinc 4 1, 3), (52, .goto (-47), 3), (55, .lload_n 2, 1), (56, .lreturn, 1)]
set_option maxRecDepth 100000 in
theorem hp_X4_habitWeight : pr_X4_habitWeight.all (fun x => decide (decode cX4_habitWeight x.1 = .ok x.2)) = true := by decide +kernel
def ze_X4_habitWeight : zE := [(1, (2, 7)), (2, (0, 1)), (3, (0, 5)), (4, ((-2147483648), 2147483647)), (5, ((-2147483648), 2147483647)), (6, ((-2147483648), 2147483647)), (7, ((-2147483648), 2147483647)), (8, ((-2147483648), 2147483647)), (9, (0, 10)), (10, (0, 10)), (11, (0, 4)), (12, ((-2147483648), 2147483647))]
def k_X4_habitWeight : zK := (13, [0, 1, 2, 3, 4, 5, 6, 7, 8, 9, 10, 11, 12, 13, 14, 15, 16, 17, 18, 19, 20], (ze_X4_habitWeight, [], [], [zr 0, zi 12 0], zw4c, []), [([(13, ((-9223372036854775808), 9223372036854775807))], [], [], [zl 13 0], zw4c, [])])
def b0_X4_habitWeight : Nat × zS := (5, ([(13, (0, 7)), (14, ((-9223372036854775808), 9223372036854775807))] ++ ze_X4_habitWeight, [], [(4, zi 13 0), (2, zl 14 0), (0, zr 0), (1, zi 12 0)], [], zw4c, [(false, (0, 99995)), (true, (13, 7)), (false, (0, 200000)), (false, (0, 0))]))
def bl_X4_habitWeight : List (Nat × zS) := [b0_X4_habitWeight]
def tb_X4_habitWeight : zTb := ([(9, 4, 0, 0), (31, 4, 9, 3)], [], [], [], [(126, k_X7_bit)], [])
def sp_X4_habitWeight : zSp := []
set_option maxRecDepth 1000000 in
theorem ck0_X4_habitWeight : zrun tb_X4_habitWeight sp_X4_habitWeight pr_X4_habitWeight 5 3 k_X4_habitWeight.1 k_X4_habitWeight.2.1 k_X4_habitWeight.2.2.2 bl_X4_habitWeight false 2000 5013 (zst0 k_X4_habitWeight) 0 = true := by decide +kernel
set_option maxRecDepth 1000000 in
theorem ck1_X4_habitWeight : zrun tb_X4_habitWeight sp_X4_habitWeight pr_X4_habitWeight 5 3 k_X4_habitWeight.1 k_X4_habitWeight.2.1 k_X4_habitWeight.2.2.2 bl_X4_habitWeight true 2000 5013 b0_X4_habitWeight.2 b0_X4_habitWeight.1 = true := by decide +kernel
set_option maxRecDepth 1000000 in
theorem ck_X4_habitWeight : zcheck tb_X4_habitWeight sp_X4_habitWeight pr_X4_habitWeight 5 3 k_X4_habitWeight bl_X4_habitWeight 2000 5013 = true := zcheck_of (by decide +kernel) ck0_X4_habitWeight (List.forall_mem_cons.mpr ⟨ck1_X4_habitWeight, fun _ h => absurd h List.not_mem_nil⟩)
set_option maxRecDepth 100000 in
set_option maxHeartbeats 4000000 in
theorem c_X4_habitWeight {X : zXT} (hX : zXok X) (hN : zXn X) (l : Launch) : zMet X vwCl l yX4_habitWeight wsX4_habitWeight { frames := 2, cells := 0, slots := 0, locals := 85 } k_X4_habitWeight :=
  zmeth (tb := tb_X4_habitWeight) (pr := pr_X4_habitWeight) (bl := bl_X4_habitWeight) (rt := 3) (own := RX4) hX (by decide +kernel) rfl rfl ⟨Nat.le_of_ble_eq_true rfl, Nat.le_of_ble_eq_true rfl⟩
    (zfl_all (List.forall_mem_cons.mpr ⟨zfl_X4 (fun w h => List.mem_cons_of_mem _ (List.mem_append_right _ h)) (List.mem_of_getElem? (i := 1) rfl) (by decide) (by decide), List.forall_mem_cons.mpr ⟨zfl_X4 (fun w h => List.mem_cons_of_mem _ (List.mem_append_right _ h)) (List.mem_of_getElem? (i := 2) rfl) (by decide) (by decide), fun _ h => absurd h List.not_mem_nil⟩⟩))
    (zco_all (fun _ h => absurd h List.not_mem_nil)) (zlc_all (fun _ h => absurd h List.not_mem_nil))
    (fun _ h => absurd h List.not_mem_nil)
    (List.forall_mem_cons.mpr ⟨fun p e s m args below meth c A S hx => zcal_SN hX S (c_X7_bit hX hN l) ⟨va_cnB 2 S.2.2.2.2 ggX4_habitWeight_X7_bit rfl rfl rfl (hN A s s.heap hx RX4 126 yX7_bit RX7 (by decide +kernel)) (S.2.2.2.2 _ (List.mem_of_getElem? (i := 4) rfl)) (by decide +kernel) ⟨Nat.le_of_ble_eq_true rfl, Nat.le_of_ble_eq_true rfl⟩, S.2.2.2.2 _ (List.mem_of_getElem? (i := 3) rfl), trivial⟩ rfl, fun _ h => absurd h List.not_mem_nil⟩)
    (zmm_all (fun _ h => absurd h List.not_mem_nil)) (zpr_all hp_X4_habitWeight) ck_X4_habitWeight
def pr_X4_canPayHabits : List (Nat × Instr × Nat) := [(0, .iconst 0, 1), (1, .istore_n 3, 1), (2, .iconst 0, 1), (3, .istore 4, 2), (5, .iload 4, 2), (7, .aload_n 0, 1), (8, .getfield 9, 3), (11, .if_icmp .ge 60, 3), (14, .iload_n 1, 1), (15, .iload 4, 2), (17, .invokestatic 126, 3), (20, .iconst 1, 1), (21, .if_icmp .ne 44, 3), (24, .aload_n 0, 1), (25, .iload 4, 2), (27, .iload_n 2, 1), (28, .invokevirtual 167, 3), (31, .ifCond .le 34, 3), (34, .aload_n 0, 1), (35, .getfield 22, 3), (38, .iload_n 2, 1), (39, .iaload, 1), (40, .aload_n 0, 1), (41, .getfield 28, 3), (44, .iload 4, 2), (46, .iaload, 1), (47, .invokestatic 126, 3), (50, .ifCond .ne 5, 3), (53, .iconst 0, 1), (54, .ireturn, 1), (55, .iload_n 3, 1), (56, .aload_n 0, 1), (57, .iload 4, 2), (59, .iload_n 2, 1), (60, .invokevirtual 170, 3), (63, .iadd, 1), (64, .istore_n 3, 1), (65, .iinc 4 1, 3), (68, .goto (-63), 3), (71, .iload_n 3, 1), (72, .aload_n 0, 1), (73, .getfield 19, 3), (76, .iload_n 2, 1), (77, .iaload, 1), (78, .if_icmp .gt 7, 3), (81, .iconst 1, 1), (82, .goto 4, 3), (85, .iconst 0, 1), (86, .ireturn, 1)]
set_option maxRecDepth 100000 in
theorem hp_X4_canPayHabits : pr_X4_canPayHabits.all (fun x => decide (decode cX4_canPayHabits x.1 = .ok x.2)) = true := by decide +kernel
def ze_X4_canPayHabits : zE := [(1, (2, 7)), (2, (0, 1)), (3, (0, 5)), (4, ((-2147483648), 2147483647)), (5, ((-2147483648), 2147483647)), (6, ((-2147483648), 2147483647)), (7, ((-2147483648), 2147483647)), (8, ((-2147483648), 2147483647)), (9, (0, 10)), (10, (0, 10)), (11, (0, 4)), (12, ((-2147483648), 2147483647)), (13, (0, 6))]
def k_X4_canPayHabits : zK := (14, [0, 1, 2, 3, 4, 5, 6, 7, 8, 9, 10, 11, 12, 13, 14, 15, 16, 17, 18, 19, 20], (ze_X4_canPayHabits, [], [], [zr 0, zi 12 0, zi 13 0], zw4c, []), [([], [], [], [zi 0 0], zw4c, []),
  ([], [], [], [zi 0 1], zw4c, [])])
def b0_X4_canPayHabits : Nat × zS := (5, ([(14, (0, 7)), (15, ((-2147483648), 2147483647))] ++ ze_X4_canPayHabits, [], [(4, zi 14 0), (3, zi 15 0), (0, zr 0), (1, zi 12 0), (2, zi 13 0)], [], zw4c, [(false, (0, 99995)), (true, (14, 7)), (false, (0, 200000)), (false, (0, 0))]))
def bl_X4_canPayHabits : List (Nat × zS) := [b0_X4_canPayHabits]
def tb_X4_canPayHabits : zTb := ([(9, 4, 0, 0), (19, 4, 4, 3), (22, 4, 5, 3), (28, 4, 8, 3)], [], [], [(167, k_X4_habitFalls), (170, k_X4_habitCost)], [(126, k_X7_bit)], [])
def sp_X4_canPayHabits : zSp := []
set_option maxRecDepth 1000000 in
theorem ck0_X4_canPayHabits : zrun tb_X4_canPayHabits sp_X4_canPayHabits pr_X4_canPayHabits 5 2 k_X4_canPayHabits.1 k_X4_canPayHabits.2.1 k_X4_canPayHabits.2.2.2 bl_X4_canPayHabits false 2000 5014 (zst0 k_X4_canPayHabits) 0 = true := by decide +kernel
set_option maxRecDepth 1000000 in
theorem ck1_X4_canPayHabits : zrun tb_X4_canPayHabits sp_X4_canPayHabits pr_X4_canPayHabits 5 2 k_X4_canPayHabits.1 k_X4_canPayHabits.2.1 k_X4_canPayHabits.2.2.2 bl_X4_canPayHabits true 2000 5014 b0_X4_canPayHabits.2 b0_X4_canPayHabits.1 = true := by decide +kernel
set_option maxRecDepth 1000000 in
theorem ck_X4_canPayHabits : zcheck tb_X4_canPayHabits sp_X4_canPayHabits pr_X4_canPayHabits 5 2 k_X4_canPayHabits bl_X4_canPayHabits 2000 5014 = true := zcheck_of (by decide +kernel) ck0_X4_canPayHabits (List.forall_mem_cons.mpr ⟨ck1_X4_canPayHabits, fun _ h => absurd h List.not_mem_nil⟩)
set_option maxRecDepth 100000 in
set_option maxHeartbeats 4000000 in
theorem c_X4_canPayHabits {X : zXT} (hX : zXok X) (hN : zXn X) (l : Launch) : zMet X vwCl l yX4_canPayHabits wsX4_canPayHabits { frames := 4, cells := 0, slots := 0, locals := 133 } k_X4_canPayHabits :=
  zmeth (tb := tb_X4_canPayHabits) (pr := pr_X4_canPayHabits) (bl := bl_X4_canPayHabits) (rt := 2) (own := RX4) hX (by decide +kernel) rfl rfl ⟨Nat.le_of_ble_eq_true rfl, Nat.le_of_ble_eq_true rfl⟩
    (zfl_all (List.forall_mem_cons.mpr ⟨zfl_X4 (fun w h => List.mem_cons_of_mem _ (List.mem_append_right _ h)) (List.mem_of_getElem? (i := 1) rfl) (by decide) (by decide), List.forall_mem_cons.mpr ⟨zfl_X4 (fun w h => List.mem_cons_of_mem _ (List.mem_append_right _ h)) (List.mem_of_getElem? (i := 4) rfl) (by decide) (by decide), List.forall_mem_cons.mpr ⟨zfl_X4 (fun w h => List.mem_cons_of_mem _ (List.mem_append_right _ h)) (List.mem_of_getElem? (i := 2) rfl) (by decide) (by decide), List.forall_mem_cons.mpr ⟨zfl_X4 (fun w h => List.mem_cons_of_mem _ (List.mem_append_right _ h)) (List.mem_of_getElem? (i := 3) rfl) (by decide) (by decide), fun _ h => absurd h List.not_mem_nil⟩⟩⟩⟩))
    (zco_all (fun _ h => absurd h List.not_mem_nil)) (zlc_all (fun _ h => absurd h List.not_mem_nil))
    (List.forall_mem_cons.mpr ⟨fun p e s m args below meth c A S hx => zcal_V hX S (c_X4_habitFalls hX hN l) (cwV 2 S.2.2.2.2 gX4_canPayHabits_X4_habitFalls rfl rfl rfl (by decide +kernel) ⟨Nat.le_of_ble_eq_true rfl, Nat.le_of_ble_eq_true rfl⟩) rfl ⟨0, 4, _, _, _, rfl, rfl⟩ rfl, List.forall_mem_cons.mpr ⟨fun p e s m args below meth c A S hx => zcal_V hX S (c_X4_habitCost hX hN l) (cwV 2 S.2.2.2.2 gX4_canPayHabits_X4_habitCost rfl rfl rfl (by decide +kernel) ⟨Nat.le_of_ble_eq_true rfl, Nat.le_of_ble_eq_true rfl⟩) rfl ⟨0, 4, _, _, _, rfl, rfl⟩ rfl, fun _ h => absurd h List.not_mem_nil⟩⟩)
    (List.forall_mem_cons.mpr ⟨fun p e s m args below meth c A S hx => zcal_SN hX S (c_X7_bit hX hN l) ⟨va_cnB 2 S.2.2.2.2 ggX4_canPayHabits_X7_bit rfl rfl rfl (hN A s s.heap hx RX4 126 yX7_bit RX7 (by decide +kernel)) (S.2.2.2.2 _ (List.mem_of_getElem? (i := 6) rfl)) (by decide +kernel) ⟨Nat.le_of_ble_eq_true rfl, Nat.le_of_ble_eq_true rfl⟩, S.2.2.2.2 _ (List.mem_of_getElem? (i := 5) rfl), trivial⟩ rfl, fun _ h => absurd h List.not_mem_nil⟩)
    (zmm_all (fun _ h => absurd h List.not_mem_nil)) (zpr_all hp_X4_canPayHabits) ck_X4_canPayHabits
def pr_X4_vowByHabit : List (Nat × Instr × Nat) := [(0, .aload_n 0, 1), (1, .iload_n 1, 1), (2, .invokevirtual 173, 3), (5, .ifCond .eq 34, 3), (8, .aload_n 0, 1), (9, .getfield 31, 3), (12, .iload_n 1, 1), (13, .iaload, 1), (14, .ifCond .eq 25, 3), (17, .aload_n 0, 1), (18, .getfield 40, 3), (21, .iload_n 1, 1), (22, .aload_n 0, 1), (23, .getfield 25, 3), (26, .iload_n 1, 1), (27, .iaload, 1), (28, .iconst 0, 1), (29, .aload_n 0, 1), (30, .getfield 28, 3), (33, .iload_n 1, 1), (34, .iaload, 1), (35, .invokevirtual 135, 3), (38, .pop, 1), (39, .return_, 1)]
set_option maxRecDepth 100000 in
theorem hp_X4_vowByHabit : pr_X4_vowByHabit.all (fun x => decide (decode cX4_vowByHabit x.1 = .ok x.2)) = true := by decide +kernel
def ze_X4_vowByHabit : zE := [(1, (2, 7)), (2, (0, 1)), (3, (0, 5)), (4, ((-2147483648), 2147483647)), (5, ((-2147483648), 2147483647)), (6, ((-2147483648), 2147483647)), (7, ((-2147483648), 2147483647)), (8, ((-2147483648), 2147483647)), (9, (0, 10)), (10, (0, 10)), (11, (0, 4)), (12, ((-2147483648), 2147483647))]
def k_X4_vowByHabit : zK := (13, [0, 1, 2, 3, 4, 5, 6, 7, 8, 9, 10, 11, 12, 13, 14, 15, 16, 17, 18, 19, 20], (ze_X4_vowByHabit, [], [], [zr 0, zi 12 0], zw4c, []), [([(13, (0, 10))], [(9, 13, 0), (13, 9, 1)], [], [], zfs (zw4c) 8 0 (zi 13 0), [])])
def bl_X4_vowByHabit : List (Nat × zS) := []
def tb_X4_vowByHabit : zTb := ([(25, 4, 7, 3), (28, 4, 8, 3), (31, 4, 9, 3), (40, 4, 11, 2)], [], [], [(135, k_X5_append), (173, k_X4_isHouse)], [], [])
def sp_X4_vowByHabit : zSp := []
set_option maxRecDepth 1000000 in
theorem ck0_X4_vowByHabit : zrun tb_X4_vowByHabit sp_X4_vowByHabit pr_X4_vowByHabit 2 0 k_X4_vowByHabit.1 k_X4_vowByHabit.2.1 k_X4_vowByHabit.2.2.2 bl_X4_vowByHabit false 2000 5013 (zst0 k_X4_vowByHabit) 0 = true := by decide +kernel
set_option maxRecDepth 1000000 in
theorem ck_X4_vowByHabit : zcheck tb_X4_vowByHabit sp_X4_vowByHabit pr_X4_vowByHabit 2 0 k_X4_vowByHabit bl_X4_vowByHabit 2000 5013 = true := zcheck_of (by decide +kernel) ck0_X4_vowByHabit (fun _ h => absurd h List.not_mem_nil)
set_option maxRecDepth 100000 in
set_option maxHeartbeats 4000000 in
theorem c_X4_vowByHabit {X : zXT} (hX : zXok X) (hN : zXn X) (l : Launch) : zMet X vwCl l yX4_vowByHabit wsX4_vowByHabit { frames := 3, cells := 0, slots := 0, locals := 107 } k_X4_vowByHabit :=
  zmeth (tb := tb_X4_vowByHabit) (pr := pr_X4_vowByHabit) (bl := bl_X4_vowByHabit) (rt := 0) (own := RX4) hX (by decide +kernel) rfl rfl ⟨Nat.le_of_ble_eq_true rfl, Nat.le_of_ble_eq_true rfl⟩
    (zfl_all (List.forall_mem_cons.mpr ⟨zfl_X4 (fun w h => List.mem_cons_of_mem _ (List.mem_append_left _ (List.mem_append_right _ h))) (List.mem_of_getElem? (i := 3) rfl) (by decide) (by decide), List.forall_mem_cons.mpr ⟨zfl_X4 (fun w h => List.mem_cons_of_mem _ (List.mem_append_left _ (List.mem_append_right _ h))) (List.mem_of_getElem? (i := 4) rfl) (by decide) (by decide), List.forall_mem_cons.mpr ⟨zfl_X4 (fun w h => List.mem_cons_of_mem _ (List.mem_append_left _ (List.mem_append_right _ h))) (List.mem_of_getElem? (i := 1) rfl) (by decide) (by decide), List.forall_mem_cons.mpr ⟨zfl_X4 (fun w h => List.mem_cons_of_mem _ (List.mem_append_left _ (List.mem_append_right _ h))) (List.mem_of_getElem? (i := 2) rfl) (by decide) (by decide), fun _ h => absurd h List.not_mem_nil⟩⟩⟩⟩))
    (zco_all (fun _ h => absurd h List.not_mem_nil)) (zlc_all (fun _ h => absurd h List.not_mem_nil))
    (List.forall_mem_cons.mpr ⟨fun p e s m args below meth c A S hx => zcal_V hX S (c_X5_append hX hN l) (cwV 4 S.2.2.2.2 gX4_vowByHabit_X5_append rfl rfl rfl (by decide +kernel) ⟨Nat.le_of_ble_eq_true rfl, Nat.le_of_ble_eq_true rfl⟩) rfl ⟨0, 5, _, _, _, rfl, rfl⟩ rfl, List.forall_mem_cons.mpr ⟨fun p e s m args below meth c A S hx => zcal_V hX S (c_X4_isHouse hX hN l) (cwV 1 S.2.2.2.2 gX4_vowByHabit_X4_isHouse rfl rfl rfl (by decide +kernel) ⟨Nat.le_of_ble_eq_true rfl, Nat.le_of_ble_eq_true rfl⟩) rfl ⟨0, 4, _, _, _, rfl, rfl⟩ rfl, fun _ h => absurd h List.not_mem_nil⟩⟩)
    (fun _ h => absurd h List.not_mem_nil)
    (zmm_all (fun _ h => absurd h List.not_mem_nil)) (zpr_all hp_X4_vowByHabit) ck_X4_vowByHabit
def pr_J6_bitCount_0f7a4 : List (Nat × Instr × Nat) := [(0, .iload_n 0, 1), (1, .iload_n 0, 1), (2, .iconst 1, 1), (3, .iushr, 1), (4, .ldc_w 265, 3), (7, .iand, 1), (8, .isub, 1), (9, .istore_n 0, 1), (10, .iload_n 0, 1), (11, .ldc_w 266, 3), (14, .iand, 1), (15, .iload_n 0, 1), (16, .iconst 2, 1), (17, .iushr, 1), (18, .ldc_w 266, 3), (21, .iand, 1), (22, .iadd, 1), (23, .istore_n 0, 1), (24, .iload_n 0, 1), (25, .iload_n 0, 1), (26, .iconst 4, 1), (27, .iushr, 1), (28, .iadd, 1), (29, .ldc_w 267, 3), (32, .iand, 1), (33, .istore_n 0, 1), (34, .iload_n 0, 1), (35, .iload_n 0, 1), (36, .bipush 8, 2), (38, .iushr, 1), (39, .iadd, 1), (40, .istore_n 0, 1), (41, .iload_n 0, 1), (42, .iload_n 0, 1), (43, .bipush 16, 2), (45, .iushr, 1), (46, .iadd, 1), (47, .istore_n 0, 1), (48, .iload_n 0, 1), (49, .bipush 63, 2), (51, .iand, 1), (52, .ireturn, 1)]
set_option maxRecDepth 100000 in
theorem hp_J6_bitCount_0f7a4 : pr_J6_bitCount_0f7a4.all (fun x => decide (decode cJ6_bitCount_0f7a4 x.1 = .ok x.2)) = true := by decide +kernel
def ze_J6_bitCount_0f7a4 : zE := [(1, ((-2147483648), 2147483647))]
def k_J6_bitCount_0f7a4 : zK := (2, [], (ze_J6_bitCount_0f7a4, [], [], [zi 1 0], [], []), [([(2, (0, 63))], [], [], [zi 2 0], [], [])])
def bl_J6_bitCount_0f7a4 : List (Nat × zS) := []
def tb_J6_bitCount_0f7a4 : zTb := ([], [(265, 1431655765), (266, 858993459), (267, 252645135)], [], [], [], [])
def sp_J6_bitCount_0f7a4 : zSp := []
set_option maxRecDepth 1000000 in
theorem ck0_J6_bitCount_0f7a4 : zrun tb_J6_bitCount_0f7a4 sp_J6_bitCount_0f7a4 pr_J6_bitCount_0f7a4 1 1 k_J6_bitCount_0f7a4.1 k_J6_bitCount_0f7a4.2.1 k_J6_bitCount_0f7a4.2.2.2 bl_J6_bitCount_0f7a4 false 2000 5002 (zst0 k_J6_bitCount_0f7a4) 0 = true := by decide +kernel
set_option maxRecDepth 1000000 in
theorem ck_J6_bitCount_0f7a4 : zcheck tb_J6_bitCount_0f7a4 sp_J6_bitCount_0f7a4 pr_J6_bitCount_0f7a4 1 1 k_J6_bitCount_0f7a4 bl_J6_bitCount_0f7a4 2000 5002 = true := zcheck_of (by decide +kernel) ck0_J6_bitCount_0f7a4 (fun _ h => absurd h List.not_mem_nil)
set_option maxRecDepth 100000 in
set_option maxHeartbeats 4000000 in
theorem c_J6_bitCount_0f7a4 {X : zXT} (hX : zXok X) (hN : zXn X) (l : Launch) : zMet X vwCl l yJ6_bitCount_0f7a4 wsJ6_bitCount_0f7a4 { frames := 1, cells := 0, slots := 0, locals := 64 } k_J6_bitCount_0f7a4 :=
  zmeth (tb := tb_J6_bitCount_0f7a4) (pr := pr_J6_bitCount_0f7a4) (bl := bl_J6_bitCount_0f7a4) (rt := 1) (own := RJ6) hX (by decide +kernel) rfl rfl ⟨Nat.le_of_ble_eq_true rfl, Nat.le_of_ble_eq_true rfl⟩
    (zfl_all (fun _ h => absurd h List.not_mem_nil))
    (zco_all (List.forall_mem_cons.mpr ⟨(List.mem_of_getElem? (i := 1) rfl), List.forall_mem_cons.mpr ⟨(List.mem_of_getElem? (i := 2) rfl), List.forall_mem_cons.mpr ⟨(List.mem_of_getElem? (i := 3) rfl), fun _ h => absurd h List.not_mem_nil⟩⟩⟩)) (zlc_all (fun _ h => absurd h List.not_mem_nil))
    (fun _ h => absurd h List.not_mem_nil)
    (fun _ h => absurd h List.not_mem_nil)
    (zmm_all (fun _ h => absurd h List.not_mem_nil)) (zpr_all hp_J6_bitCount_0f7a4) ck_J6_bitCount_0f7a4
def pr_J9_floorMod_7cf53 : List (Nat × Instr × Nat) := [(0, .iload_n 0, 1), (1, .iload_n 1, 1), (2, .irem, 1), (3, .istore_n 2, 1), (4, .iload_n 0, 1), (5, .iload_n 1, 1), (6, .ixor, 1), (7, .ifCond .ge 11, 3), (10, .iload_n 2, 1), (11, .ifCond .eq 7, 3), (14, .iload_n 2, 1), (15, .iload_n 1, 1), (16, .iadd, 1), (17, .ireturn, 1), (18, .iload_n 2, 1), (19, .ireturn, 1)]
set_option maxRecDepth 100000 in
theorem hp_J9_floorMod_7cf53 : pr_J9_floorMod_7cf53.all (fun x => decide (decode cJ9_floorMod_7cf53 x.1 = .ok x.2)) = true := by decide +kernel
def ze_J9_floorMod_7cf53 : zE := [(1, (0, 32767)), (2, (1, 7))]
def k_J9_floorMod_7cf53 : zK := (3, [], (ze_J9_floorMod_7cf53, [], [], [zi 1 0, zi 2 0], [], []), [([(3, (0, 13))], [], [], [zi 3 0], [], [])])
def bl_J9_floorMod_7cf53 : List (Nat × zS) := []
def tb_J9_floorMod_7cf53 : zTb := ([], [], [], [], [], [])
def sp_J9_floorMod_7cf53 : zSp := []
set_option maxRecDepth 1000000 in
theorem ck0_J9_floorMod_7cf53 : zrun tb_J9_floorMod_7cf53 sp_J9_floorMod_7cf53 pr_J9_floorMod_7cf53 3 1 k_J9_floorMod_7cf53.1 k_J9_floorMod_7cf53.2.1 k_J9_floorMod_7cf53.2.2.2 bl_J9_floorMod_7cf53 false 2000 5003 (zst0 k_J9_floorMod_7cf53) 0 = true := by decide +kernel
set_option maxRecDepth 1000000 in
theorem ck_J9_floorMod_7cf53 : zcheck tb_J9_floorMod_7cf53 sp_J9_floorMod_7cf53 pr_J9_floorMod_7cf53 3 1 k_J9_floorMod_7cf53 bl_J9_floorMod_7cf53 2000 5003 = true := zcheck_of (by decide +kernel) ck0_J9_floorMod_7cf53 (fun _ h => absurd h List.not_mem_nil)
set_option maxRecDepth 100000 in
set_option maxHeartbeats 4000000 in
theorem c_J9_floorMod_7cf53 {X : zXT} (hX : zXok X) (hN : zXn X) (l : Launch) : zMet X vwCl l yJ9_floorMod_7cf53 wsJ9_floorMod_7cf53 { frames := 1, cells := 0, slots := 0, locals := 64 } k_J9_floorMod_7cf53 :=
  zmethF (tb := tb_J9_floorMod_7cf53) (pr := pr_J9_floorMod_7cf53) (bl := bl_J9_floorMod_7cf53) (rt := 1) (own := RJ9) hX zpl_fm rfl rfl ⟨Nat.le_of_ble_eq_true rfl, Nat.le_of_ble_eq_true rfl⟩
    (zfl_all (fun _ h => absurd h List.not_mem_nil))
    (zco_all (fun _ h => absurd h List.not_mem_nil)) (zlc_all (fun _ h => absurd h List.not_mem_nil))
    (fun _ h => absurd h List.not_mem_nil)
    (fun _ h => absurd h List.not_mem_nil)
    (zmm_all (fun _ h => absurd h List.not_mem_nil)) (zpr_all hp_J9_floorMod_7cf53) ck_J9_floorMod_7cf53
def pr_X0_allWants : List (Nat × Instr × Nat) := [(0, .iconst 1, 1), (1, .aload_n 0, 1), (2, .getfield 43, 3), (5, .getfield 47, 3), (8, .ishl, 1), (9, .iconst 1, 1), (10, .isub, 1), (11, .ireturn, 1)]
set_option maxRecDepth 100000 in
theorem hp_X0_allWants : pr_X0_allWants.all (fun x => decide (decode cX0_allWants x.1 = .ok x.2)) = true := by decide +kernel
def zw6c : zW := [(30, .inl (4, [zi 1 0, zi 2 0, zi 3 0, zr 31, zr 32, zr 33, zi 4 0, zr 34, zr 35, zr 36, zr 37, zr 38, zr 43, zr 48, zi 5 0, zi 6 0, zi 7 0, zi 8 0])),
  (31, .inr (.inl (0, 5, [(5, .inl ((-2147483648), 2147483647))], []))),
  (32, .inr (.inl (0, 7, [(7, .inl ((-2147483648), 2147483647))], []))),
  (33, .inr (.inl (0, 7, [(7, .inl ((-2147483648), 2147483647))], []))),
  (34, .inr (.inl (0, 7, [(7, .inl ((-2147483648), 2147483647))], []))),
  (35, .inr (.inl (0, 7, [(7, .inl (0, 4))], []))),
  (36, .inr (.inl (0, 7, [(7, .inl ((-2147483648), 2147483647))], []))),
  (37, .inr (.inl (0, 35, [(35, .inl ((-2147483648), 2147483647))], []))),
  (38, .inl (5, [zi 9 0, zr 39, zr 40, zr 41, zr 42])),
  (39, .inr (.inl (0, 10, [(10, .inl (0, 6))], []))),
  (40, .inr (.inl (0, 10, [(10, .inl ((-2147483648), 2147483647))], []))),
  (41, .inr (.inl (0, 10, [(10, .inl ((-2147483648), 2147483647))], []))),
  (42, .inr (.inl (0, 10, [(10, .inl (0, 4))], []))),
  (43, .inl (5, [zi 10 0, zr 44, zr 45, zr 46, zr 47])),
  (44, .inr (.inl (0, 10, [(10, .inl (0, 6))], []))),
  (45, .inr (.inl (0, 10, [(10, .inl ((-2147483648), 2147483647))], []))),
  (46, .inr (.inl (0, 10, [(10, .inl ((-2147483648), 2147483647))], []))),
  (47, .inr (.inl (0, 10, [(10, .inl (0, 4))], []))),
  (48, .inl (6, [zi 11 0, zr 49, zr 50])),
  (49, .inr (.inl (0, 4, [(4, .inl ((-2147483648), 2147483647))], []))),
  (50, .inr (.inl (0, 4, [(4, .inl ((-2147483648), 2147483647))], [])))]
def ze_X0_allWants : zE := [(1, (2, 7)), (2, (0, 1)), (3, (0, 5)), (4, ((-2147483648), 2147483647)), (5, ((-2147483648), 2147483647)), (6, ((-2147483648), 2147483647)), (7, ((-2147483648), 2147483647)), (8, ((-2147483648), 2147483647)), (9, (0, 10)), (10, (0, 10)), (11, (0, 4))]
def k_X0_allWants : zK := (12, [30, 31, 32, 33, 34, 35, 36, 37, 38, 39, 40, 41, 42, 43, 44, 45, 46, 47, 48, 49, 50], (ze_X0_allWants, [], [], [zr 30], zw6c, []), [([(12, (1, 16))], [], [], [zi 12 (-1)], zw6c, [])])
def bl_X0_allWants : List (Nat × zS) := []
def tb_X0_allWants : zTb := ([(43, 4, 13, 3), (47, 6, 0, 0)], [], [], [], [], [])
def sp_X0_allWants : zSp := []
set_option maxRecDepth 1000000 in
theorem ck0_X0_allWants : zrun tb_X0_allWants sp_X0_allWants pr_X0_allWants 1 1 k_X0_allWants.1 k_X0_allWants.2.1 k_X0_allWants.2.2.2 bl_X0_allWants false 2000 5012 (zst0 k_X0_allWants) 0 = true := by decide +kernel
set_option maxRecDepth 1000000 in
theorem ck_X0_allWants : zcheck tb_X0_allWants sp_X0_allWants pr_X0_allWants 1 1 k_X0_allWants bl_X0_allWants 2000 5012 = true := zcheck_of (by decide +kernel) ck0_X0_allWants (fun _ h => absurd h List.not_mem_nil)
set_option maxRecDepth 100000 in
set_option maxHeartbeats 4000000 in
theorem c_X0_allWants {X : zXT} (hX : zXok X) (hN : zXn X) (l : Launch) : zMet X vwCl l yX0_allWants wsX0_allWants { frames := 1, cells := 0, slots := 0, locals := 64 } k_X0_allWants :=
  zmeth (tb := tb_X0_allWants) (pr := pr_X0_allWants) (bl := bl_X0_allWants) (rt := 1) (own := RX0) hX (by decide +kernel) rfl rfl ⟨Nat.le_of_ble_eq_true rfl, Nat.le_of_ble_eq_true rfl⟩
    (zfl_all (List.forall_mem_cons.mpr ⟨zfl_X4 (fun w h => List.mem_cons_of_mem _ (List.mem_append_left _ (List.mem_append_right _ h))) (List.mem_of_getElem? (i := 1) rfl) (by decide) (by decide), List.forall_mem_cons.mpr ⟨zfl_X6 (fun w h => List.mem_cons_of_mem _ (List.mem_append_right _ h)) (List.mem_of_getElem? (i := 2) rfl) (by decide) (by decide), fun _ h => absurd h List.not_mem_nil⟩⟩))
    (zco_all (fun _ h => absurd h List.not_mem_nil)) (zlc_all (fun _ h => absurd h List.not_mem_nil))
    (fun _ h => absurd h List.not_mem_nil)
    (fun _ h => absurd h List.not_mem_nil)
    (zmm_all (fun _ h => absurd h List.not_mem_nil)) (zpr_all hp_X0_allWants) ck_X0_allWants
def pr_X0_wantsBrought : List (Nat × Instr × Nat) := [(0, .iload_n 1, 1), (1, .iconst 5, 1), (2, .irem, 1), (3, .aload_n 0, 1), (4, .getfield 52, 3), (7, .if_icmp .ge 11, 3), (10, .aload_n 0, 1), (11, .iload_n 1, 1), (12, .invokevirtual 55, 3), (15, .goto 4, 3), (18, .iconst 0, 1), (19, .istore_n 2, 1), (20, .iconst 0, 1), (21, .istore_n 3, 1), (22, .iconst 0, 1), (23, .istore 4, 2), (25, .iload 4, 2), (27, .aload_n 0, 1), (28, .getfield 43, 3), (31, .getfield 47, 3), (34, .if_icmp .ge 59, 3), (37, .aload_n 0, 1), (38, .getfield 43, 3), (41, .getfield 58, 3), (44, .iload 4, 2), (46, .iaload, 1), (47, .iload_n 1, 1), (48, .iconst 5, 1), (49, .irem, 1), (50, .if_icmp .ne 25, 3), (53, .iload_n 2, 1), (54, .aload_n 0, 1), (55, .getfield 43, 3), (58, .getfield 61, 3), (61, .iload 4, 2), (63, .iaload, 1), (64, .invokestatic 64, 3), (67, .iconst 1, 1), (68, .if_icmp .ne 7, 3), (71, .iconst 1, 1), (72, .goto 4, 3), (75, .iconst 0, 1), (76, .istore 5, 2), (78, .iload_n 3, 1), (79, .iload 4, 2), (81, .iload 5, 2), (83, .invokestatic 67, 3), (86, .istore_n 3, 1), (87, .iinc 4 1, 3), (90, .goto (-65), 3), (93, .iload_n 3, 1), (94, .ireturn, 1)]
set_option maxRecDepth 100000 in
theorem hp_X0_wantsBrought : pr_X0_wantsBrought.all (fun x => decide (decode cX0_wantsBrought x.1 = .ok x.2)) = true := by decide +kernel
def ze_X0_wantsBrought : zE := [(1, (2, 7)), (2, (0, 1)), (3, (0, 5)), (4, ((-2147483648), 2147483647)), (5, ((-2147483648), 2147483647)), (6, ((-2147483648), 2147483647)), (7, ((-2147483648), 2147483647)), (8, ((-2147483648), 2147483647)), (9, (0, 10)), (10, (0, 10)), (11, (0, 4)), (12, (0, 699))]
def k_X0_wantsBrought : zK := (13, [30, 31, 32, 33, 34, 35, 36, 37, 38, 39, 40, 41, 42, 43, 44, 45, 46, 47, 48, 49, 50], (ze_X0_wantsBrought, [], [], [zr 30, zi 12 0], zw6c, []), [([(13, (0, 15))], [(13, 11, 14)], [], [zi 13 0], zw6c, [])])
def b0_X0_wantsBrought : Nat × zS := (25, ([(13, (0, 4)), (14, (0, 15)), (15, ((-2147483648), 2147483647))] ++ ze_X0_wantsBrought, [(13, 11, 0), (14, 11, 14), (14, 13, 14)], [(4, zi 13 0), (3, zi 14 0), (2, zi 15 0), (0, zr 30), (1, zi 12 0)], [], zw6c, [(false, (0, 99975)), (true, (13, 4)), (false, (0, 200000)), (false, (0, 0))]))
def bl_X0_wantsBrought : List (Nat × zS) := [b0_X0_wantsBrought]
def tb_X0_wantsBrought : zTb := ([(43, 4, 13, 3), (47, 6, 0, 0), (52, 4, 2, 0), (58, 6, 2, 3), (61, 6, 1, 3)], [], [], [(55, k_X4_broughtBy)], [(64, k_X7_bit), (67, k_X7_withBit)], [])
def sp_X0_wantsBrought : zSp := []
set_option maxRecDepth 1000000 in
theorem ck0_X0_wantsBrought : zrun tb_X0_wantsBrought sp_X0_wantsBrought pr_X0_wantsBrought 6 1 k_X0_wantsBrought.1 k_X0_wantsBrought.2.1 k_X0_wantsBrought.2.2.2 bl_X0_wantsBrought false 2000 5013 (zst0 k_X0_wantsBrought) 0 = true := by decide +kernel
set_option maxRecDepth 1000000 in
theorem ck1_X0_wantsBrought : zrun tb_X0_wantsBrought sp_X0_wantsBrought pr_X0_wantsBrought 6 1 k_X0_wantsBrought.1 k_X0_wantsBrought.2.1 k_X0_wantsBrought.2.2.2 bl_X0_wantsBrought true 2000 5013 b0_X0_wantsBrought.2 b0_X0_wantsBrought.1 = true := by decide +kernel
set_option maxRecDepth 1000000 in
theorem ck_X0_wantsBrought : zcheck tb_X0_wantsBrought sp_X0_wantsBrought pr_X0_wantsBrought 6 1 k_X0_wantsBrought bl_X0_wantsBrought 2000 5013 = true := zcheck_of (by decide +kernel) ck0_X0_wantsBrought (List.forall_mem_cons.mpr ⟨ck1_X0_wantsBrought, fun _ h => absurd h List.not_mem_nil⟩)
set_option maxRecDepth 100000 in
set_option maxHeartbeats 4000000 in
theorem c_X0_wantsBrought {X : zXT} (hX : zXok X) (hN : zXn X) (l : Launch) : zMet X vwCl l yX0_wantsBrought wsX0_wantsBrought { frames := 4, cells := 0, slots := 0, locals := 137 } k_X0_wantsBrought :=
  zmeth (tb := tb_X0_wantsBrought) (pr := pr_X0_wantsBrought) (bl := bl_X0_wantsBrought) (rt := 1) (own := RX0) hX (by decide +kernel) rfl rfl ⟨Nat.le_of_ble_eq_true rfl, Nat.le_of_ble_eq_true rfl⟩
    (zfl_all (List.forall_mem_cons.mpr ⟨zfl_X4 (fun w h => List.mem_cons_of_mem _ (List.mem_append_left _ (List.mem_append_right _ h))) (List.mem_of_getElem? (i := 2) rfl) (by decide) (by decide), List.forall_mem_cons.mpr ⟨zfl_X6 (fun w h => List.mem_cons_of_mem _ (List.mem_append_right _ h)) (List.mem_of_getElem? (i := 3) rfl) (by decide) (by decide), List.forall_mem_cons.mpr ⟨zfl_X4 (fun w h => List.mem_cons_of_mem _ (List.mem_append_left _ (List.mem_append_right _ h))) (List.mem_of_getElem? (i := 1) rfl) (by decide) (by decide), List.forall_mem_cons.mpr ⟨zfl_X6 (fun w h => List.mem_cons_of_mem _ (List.mem_append_right _ h)) (List.mem_of_getElem? (i := 4) rfl) (by decide) (by decide), List.forall_mem_cons.mpr ⟨zfl_X6 (fun w h => List.mem_cons_of_mem _ (List.mem_append_right _ h)) (List.mem_of_getElem? (i := 5) rfl) (by decide) (by decide), fun _ h => absurd h List.not_mem_nil⟩⟩⟩⟩⟩))
    (zco_all (fun _ h => absurd h List.not_mem_nil)) (zlc_all (fun _ h => absurd h List.not_mem_nil))
    (List.forall_mem_cons.mpr ⟨fun p e s m args below meth c A S hx => zcal_V hX S (c_X4_broughtBy hX hN l) (cwV 1 S.2.2.2.2 gX0_wantsBrought_X4_broughtBy rfl rfl rfl (by decide +kernel) ⟨Nat.le_of_ble_eq_true rfl, Nat.le_of_ble_eq_true rfl⟩) rfl ⟨0, 4, _, _, _, rfl, rfl⟩ rfl, fun _ h => absurd h List.not_mem_nil⟩)
    (List.forall_mem_cons.mpr ⟨fun p e s m args below meth c A S hx => zcal_SN hX S (c_X7_bit hX hN l) ⟨va_cnB 2 S.2.2.2.2 ggX0_wantsBrought_X7_bit rfl rfl rfl (hN A s s.heap hx RX0 64 yX7_bit RX7 (by decide +kernel)) (S.2.2.2.2 _ (List.mem_of_getElem? (i := 30) rfl)) (by decide +kernel) ⟨Nat.le_of_ble_eq_true rfl, Nat.le_of_ble_eq_true rfl⟩, S.2.2.2.2 _ (List.mem_of_getElem? (i := 29) rfl), trivial⟩ rfl, List.forall_mem_cons.mpr ⟨fun p e s m args below meth c A S hx => zcal_SN hX S (c_X7_withBit hX hN l) ⟨va_cnB 3 S.2.2.2.2 ggX0_wantsBrought_X7_withBit rfl rfl rfl (hN A s s.heap hx RX0 67 yX7_withBit RX7 (by decide +kernel)) (S.2.2.2.2 _ (List.mem_of_getElem? (i := 30) rfl)) (by decide +kernel) ⟨Nat.le_of_ble_eq_true rfl, Nat.le_of_ble_eq_true rfl⟩, S.2.2.2.2 _ (List.mem_of_getElem? (i := 32) rfl), trivial⟩ rfl, fun _ h => absurd h List.not_mem_nil⟩⟩)
    (zmm_all (fun _ h => absurd h List.not_mem_nil)) (zpr_all hp_X0_wantsBrought) ck_X0_wantsBrought
def pr_X0_fewestVows : List (Nat × Instr × Nat) := [(0, .iconst 0, 1), (1, .istore_n 2, 1), (2, .iload_n 2, 1), (3, .bipush 16, 2), (5, .if_icmp .ge 16, 3), (8, .aload_n 0, 1), (9, .getfield 11, 3), (12, .iload_n 2, 1), (13, .iconst 0, 1), (14, .bastore, 1), (15, .iinc 2 1, 3), (18, .goto (-16), 3), (21, .iconst 0, 1), (22, .istore_n 2, 1), (23, .iload_n 2, 1), (24, .aload_n 1, 1), (25, .getfield 19, 3), (28, .invokestatic 25, 3), (31, .if_icmp .ge 20, 3), (34, .aload_n 0, 1), (35, .getfield 11, 3), (38, .aload_n 1, 1), (39, .iload_n 2, 1), (40, .invokestatic 29, 3), (43, .iconst 1, 1), (44, .bastore, 1), (45, .iinc 2 1, 3), (48, .goto (-25), 3), (51, .aload_n 0, 1), (52, .getfield 15, 3), (55, .iconst 0, 1), (56, .iconst 0, 1), (57, .iastore, 1), (58, .iconst 1, 1), (59, .istore_n 2, 1), (60, .iload_n 2, 1), (61, .bipush 16, 2), (63, .if_icmp .ge 73, 3), (66, .aload_n 0, 1), (67, .getfield 15, 3), (70, .iload_n 2, 1), (71, .bipush 99, 2), (73, .iastore, 1), (74, .iconst 1, 1), (75, .istore_n 3, 1), (76, .iload_n 3, 1), (77, .bipush 16, 2), (79, .if_icmp .ge 51, 3), (82, .aload_n 0, 1), (83, .getfield 11, 3), (86, .iload_n 3, 1), (87, .baload, 1), (88, .ifCond .eq 36, 3), (91, .iload_n 3, 1), (92, .iload_n 2, 1), (93, .iand, 1), (94, .ifCond .eq 30, 3), (97, .aload_n 0, 1), (98, .getfield 15, 3), (101, .iload_n 2, 1), (102, .aload_n 0, 1), (103, .getfield 15, 3), (106, .iload_n 2, 1), (107, .iaload, 1), (108, .aload_n 0, 1), (109, .getfield 15, 3), (112, .iload_n 2, 1), (113, .iload_n 3, 1), (114, .iconst (-1), 1), (115, .ixor, 1), (116, .iand, 1), (117, .iaload, 1), (118, .iconst 1, 1), (119, .iadd, 1), (120, .invokestatic 33, 3), (123, .iastore, 1), (124, .iinc 3 1, 3), (127, .goto (-51), 3), (130, .iinc 2 1, 3), (133, .goto (-73), 3), (136, .aload_n 0, 1), (137, .getfield 15, 3), (140, .aload_n 1, 1), (141, .invokestatic 39, 3), (144, .iaload, 1), (145, .istore_n 2, 1), (146, .iload_n 2, 1), (147, .bipush 99, 2), (149, .if_icmp .ge 7, 3), (152, .iload_n 2, 1), (153, .goto 5, 3), (156, .bipush (-4), 2), (158, .ireturn, 1)]
set_option maxRecDepth 100000 in
theorem hp_X0_fewestVows : pr_X0_fewestVows.all (fun x => decide (decode cX0_fewestVows x.1 = .ok x.2)) = true := by decide +kernel
def zw7c : zW := [(0, .inl (0, [zr 1, zr 2])),
  (1, .inr (.inl (1, 16, [(16, .inl (0, 1))], []))),
  (2, .inr (.inl (0, 16, [(16, .inl ((-2147483648), 2147483647))], []))),
  (30, .inl (4, [zi 1 0, zi 2 0, zi 3 0, zr 31, zr 32, zr 33, zi 4 0, zr 34, zr 35, zr 36, zr 37, zr 38, zr 43, zr 48, zi 5 0, zi 6 0, zi 7 0, zi 8 0])),
  (31, .inr (.inl (0, 5, [(5, .inl ((-2147483648), 2147483647))], []))),
  (32, .inr (.inl (0, 7, [(7, .inl ((-2147483648), 2147483647))], []))),
  (33, .inr (.inl (0, 7, [(7, .inl ((-2147483648), 2147483647))], []))),
  (34, .inr (.inl (0, 7, [(7, .inl ((-2147483648), 2147483647))], []))),
  (35, .inr (.inl (0, 7, [(7, .inl (0, 4))], []))),
  (36, .inr (.inl (0, 7, [(7, .inl ((-2147483648), 2147483647))], []))),
  (37, .inr (.inl (0, 35, [(35, .inl ((-2147483648), 2147483647))], []))),
  (38, .inl (5, [zi 9 0, zr 39, zr 40, zr 41, zr 42])),
  (39, .inr (.inl (0, 10, [(10, .inl (0, 6))], []))),
  (40, .inr (.inl (0, 10, [(10, .inl ((-2147483648), 2147483647))], []))),
  (41, .inr (.inl (0, 10, [(10, .inl ((-2147483648), 2147483647))], []))),
  (42, .inr (.inl (0, 10, [(10, .inl (0, 4))], []))),
  (43, .inl (5, [zi 10 0, zr 44, zr 45, zr 46, zr 47])),
  (44, .inr (.inl (0, 10, [(10, .inl (0, 6))], []))),
  (45, .inr (.inl (0, 10, [(10, .inl ((-2147483648), 2147483647))], []))),
  (46, .inr (.inl (0, 10, [(10, .inl ((-2147483648), 2147483647))], []))),
  (47, .inr (.inl (0, 10, [(10, .inl (0, 4))], []))),
  (48, .inl (6, [zi 11 0, zr 49, zr 50])),
  (49, .inr (.inl (0, 4, [(4, .inl ((-2147483648), 2147483647))], []))),
  (50, .inr (.inl (0, 4, [(4, .inl ((-2147483648), 2147483647))], [])))]
def ze_X0_fewestVows : zE := [(1, (2, 7)), (2, (0, 1)), (3, (0, 5)), (4, ((-2147483648), 2147483647)), (5, ((-2147483648), 2147483647)), (6, ((-2147483648), 2147483647)), (7, ((-2147483648), 2147483647)), (8, ((-2147483648), 2147483647)), (9, (0, 10)), (10, (0, 10)), (11, (0, 4))]
def k_X0_fewestVows : zK := (12, [0, 1, 2, 30, 31, 32, 33, 34, 35, 36, 37, 38, 39, 40, 41, 42, 43, 44, 45, 46, 47, 48, 49, 50], (ze_X0_fewestVows, [], [], [zr 0, zr 30], zw7c, []), [([(12, ((-2147483648), 98))], [], [], [zi 12 0], zw7c, [])])
def b0_X0_fewestVows : Nat × zS := (2, ([(12, (0, 16))] ++ ze_X0_fewestVows, [], [(2, zi 12 0), (0, zr 0), (1, zr 30)], [], zw7c, [(false, (0, 99998)), (true, (12, 16)), (false, (0, 200000)), (false, (0, 0)), (false, (0, 0)), (false, (0, 0))]))
def b1_X0_fewestVows : Nat × zS := (23, ([(12, (0, 700))] ++ ze_X0_fewestVows, [], [(2, zi 12 0), (0, zr 0), (1, zr 30)], [], zw7c, [(false, (0, 99977)), (true, (12, 700)), (false, (0, 200000)), (false, (0, 0)), (false, (0, 0)), (false, (0, 0))]))
def b2_X0_fewestVows : Nat × zS := (60, ([(12, (1, 16))] ++ ze_X0_fewestVows, [], [(2, zi 12 0), (0, zr 0), (1, zr 30)], [], zw7c, [(false, (0, 99940)), (true, (12, 16)), (false, (0, 200000)), (false, (0, 0)), (false, (0, 0)), (false, (0, 0))]))
def b3_X0_fewestVows : Nat × zS := (76, ([(12, (1, 16)), (13, (1, 15))] ++ ze_X0_fewestVows, [], [(3, zi 12 0), (2, zi 13 0), (0, zr 0), (1, zr 30)], [], zw7c, [(false, (0, 99940)), (true, (13, 16)), (false, (0, 99924)), (true, (12, 16)), (false, (0, 200000)), (false, (0, 0))]))
def bl_X0_fewestVows : List (Nat × zS) := [b0_X0_fewestVows, b1_X0_fewestVows, b2_X0_fewestVows, b3_X0_fewestVows]
def tb_X0_fewestVows : zTb := ([(11, 0, 0, 3), (15, 0, 1, 3), (19, 4, 0, 0)], [], [], [], [(25, k_X7_numbersOf), (29, k_X0_wantsBrought), (39, k_X0_allWants)], [(33, 1)])
def sp_X0_fewestVows : zSp := []
set_option maxRecDepth 1000000 in
theorem ck0_X0_fewestVows : zrun tb_X0_fewestVows sp_X0_fewestVows pr_X0_fewestVows 4 1 k_X0_fewestVows.1 k_X0_fewestVows.2.1 k_X0_fewestVows.2.2.2 bl_X0_fewestVows false 2000 5012 (zst0 k_X0_fewestVows) 0 = true := by decide +kernel
set_option maxRecDepth 1000000 in
theorem ck1_X0_fewestVows : zrun tb_X0_fewestVows sp_X0_fewestVows pr_X0_fewestVows 4 1 k_X0_fewestVows.1 k_X0_fewestVows.2.1 k_X0_fewestVows.2.2.2 bl_X0_fewestVows true 2000 5012 b0_X0_fewestVows.2 b0_X0_fewestVows.1 = true := by decide +kernel
set_option maxRecDepth 1000000 in
theorem ck2_X0_fewestVows : zrun tb_X0_fewestVows sp_X0_fewestVows pr_X0_fewestVows 4 1 k_X0_fewestVows.1 k_X0_fewestVows.2.1 k_X0_fewestVows.2.2.2 bl_X0_fewestVows true 2000 5012 b1_X0_fewestVows.2 b1_X0_fewestVows.1 = true := by decide +kernel
set_option maxRecDepth 1000000 in
theorem ck3_X0_fewestVows : zrun tb_X0_fewestVows sp_X0_fewestVows pr_X0_fewestVows 4 1 k_X0_fewestVows.1 k_X0_fewestVows.2.1 k_X0_fewestVows.2.2.2 bl_X0_fewestVows true 2000 5012 b2_X0_fewestVows.2 b2_X0_fewestVows.1 = true := by decide +kernel
set_option maxRecDepth 1000000 in
theorem ck4_X0_fewestVows : zrun tb_X0_fewestVows sp_X0_fewestVows pr_X0_fewestVows 4 1 k_X0_fewestVows.1 k_X0_fewestVows.2.1 k_X0_fewestVows.2.2.2 bl_X0_fewestVows true 2000 5012 b3_X0_fewestVows.2 b3_X0_fewestVows.1 = true := by decide +kernel
set_option maxRecDepth 1000000 in
theorem ck_X0_fewestVows : zcheck tb_X0_fewestVows sp_X0_fewestVows pr_X0_fewestVows 4 1 k_X0_fewestVows bl_X0_fewestVows 2000 5012 = true := zcheck_of (by decide +kernel) ck0_X0_fewestVows (List.forall_mem_cons.mpr ⟨ck1_X0_fewestVows, List.forall_mem_cons.mpr ⟨ck2_X0_fewestVows, List.forall_mem_cons.mpr ⟨ck3_X0_fewestVows, List.forall_mem_cons.mpr ⟨ck4_X0_fewestVows, fun _ h => absurd h List.not_mem_nil⟩⟩⟩⟩)
set_option maxRecDepth 100000 in
set_option maxHeartbeats 4000000 in
theorem c_X0_fewestVows {X : zXT} (hX : zXok X) (hN : zXn X) (l : Launch) : zMet X vwCl l yX0_fewestVows wsX0_fewestVows { frames := 5, cells := 0, slots := 0, locals := 162 } k_X0_fewestVows :=
  zmeth (tb := tb_X0_fewestVows) (pr := pr_X0_fewestVows) (bl := bl_X0_fewestVows) (rt := 1) (own := RX0) hX (by decide +kernel) rfl rfl ⟨Nat.le_of_ble_eq_true rfl, Nat.le_of_ble_eq_true rfl⟩
    (zfl_all (List.forall_mem_cons.mpr ⟨zfl_X0 (fun w h => List.mem_cons_of_mem _ (List.mem_append_left _ (List.mem_append_left _ (List.mem_append_right _ h)))) (List.mem_of_getElem? (i := 1) rfl) (by decide) (by decide), List.forall_mem_cons.mpr ⟨zfl_X0 (fun w h => List.mem_cons_of_mem _ (List.mem_append_left _ (List.mem_append_left _ (List.mem_append_right _ h)))) (List.mem_of_getElem? (i := 3) rfl) (by decide) (by decide), List.forall_mem_cons.mpr ⟨zfl_X4 (fun w h => List.mem_cons_of_mem _ (List.mem_append_left _ (List.mem_append_right _ h))) (List.mem_of_getElem? (i := 2) rfl) (by decide) (by decide), fun _ h => absurd h List.not_mem_nil⟩⟩⟩))
    (zco_all (fun _ h => absurd h List.not_mem_nil)) (zlc_all (fun _ h => absurd h List.not_mem_nil))
    (fun _ h => absurd h List.not_mem_nil)
    (List.forall_mem_cons.mpr ⟨fun p e s m args below meth c A S hx => zcal_SN hX S (c_X7_numbersOf hX hN l) ⟨va_cnB 1 S.2.2.2.2 ggX0_fewestVows_X7_numbersOf rfl rfl rfl (hN A s s.heap hx RX0 25 yX7_numbersOf RX7 (by decide +kernel)) (S.2.2.2.2 _ (List.mem_of_getElem? (i := 9) rfl)) (by decide +kernel) ⟨Nat.le_of_ble_eq_true rfl, Nat.le_of_ble_eq_true rfl⟩, S.2.2.2.2 _ (List.mem_of_getElem? (i := 8) rfl), trivial⟩ rfl, List.forall_mem_cons.mpr ⟨fun p e s m args below meth c A S hx => zcal_S hX S (c_X0_wantsBrought hX hN l) (va_cwS 2 S.2.2.2.2 gX0_fewestVows_X0_wantsBrought rfl rfl rfl (by decide +kernel) ⟨Nat.le_of_ble_eq_true rfl, Nat.le_of_ble_eq_true rfl⟩) rfl, List.forall_mem_cons.mpr ⟨fun p e s m args below meth c A S hx => zcal_S hX S (c_X0_allWants hX hN l) (va_cwS 1 S.2.2.2.2 gX0_fewestVows_X0_allWants rfl rfl rfl (by decide +kernel) ⟨Nat.le_of_ble_eq_true rfl, Nat.le_of_ble_eq_true rfl⟩) rfl, fun _ h => absurd h List.not_mem_nil⟩⟩⟩)
    (zmm_all (List.forall_mem_cons.mpr ⟨⟨List.mem_of_getElem? (i := 4) rfl, List.mem_of_getElem? (i := 5) rfl, List.mem_of_getElem? (i := 6) rfl, List.mem_of_getElem? (i := 7) rfl⟩, fun _ h => absurd h List.not_mem_nil⟩)) (zpr_all hp_X0_fewestVows) ck_X0_fewestVows
def pr_X0_vowOfFirstSet : List (Nat × Instr × Nat) := [(0, .aload_n 1, 1), (1, .invokestatic 39, 3), (4, .istore_n 3, 1), (5, .iconst 0, 1), (6, .istore 4, 2), (8, .iconst 0, 1), (9, .istore 5, 2), (11, .iload 5, 2), (13, .aload_n 1, 1), (14, .getfield 19, 3), (17, .invokestatic 25, 3), (20, .if_icmp .ge 52, 3), (23, .iload_n 3, 1), (24, .aload_n 1, 1), (25, .iload 5, 2), (27, .invokestatic 29, 3), (30, .iconst (-1), 1), (31, .ixor, 1), (32, .iand, 1), (33, .istore 6, 2), (35, .aload_n 0, 1), (36, .getfield 15, 3), (39, .iload 6, 2), (41, .iaload, 1), (42, .aload_n 0, 1), (43, .getfield 15, 3), (46, .iload_n 3, 1), (47, .iaload, 1), (48, .if_icmp .ge 18, 3), (51, .iload 4, 2), (53, .iload_n 2, 1), (54, .if_icmp .ne 6, 3), (57, .iload 5, 2), (59, .ireturn, 1), (60, .iinc 4 1, 3), (63, .iload 6, 2), (65, .istore_n 3, 1), (66, .iinc 5 1, 3), (69, .goto (-58), 3), (72, .bipush (-4), 2), (74, .ireturn, 1)]
set_option maxRecDepth 100000 in
theorem hp_X0_vowOfFirstSet : pr_X0_vowOfFirstSet.all (fun x => decide (decode cX0_vowOfFirstSet x.1 = .ok x.2)) = true := by decide +kernel
def ze_X0_vowOfFirstSet : zE := [(1, (2, 7)), (2, (0, 1)), (3, (0, 5)), (4, ((-2147483648), 2147483647)), (5, ((-2147483648), 2147483647)), (6, ((-2147483648), 2147483647)), (7, ((-2147483648), 2147483647)), (8, ((-2147483648), 2147483647)), (9, (0, 10)), (10, (0, 10)), (11, (0, 4)), (12, ((-2147483648), 2147483647))]
def k_X0_vowOfFirstSet : zK := (13, [0, 1, 2, 30, 31, 32, 33, 34, 35, 36, 37, 38, 39, 40, 41, 42, 43, 44, 45, 46, 47, 48, 49, 50], (ze_X0_vowOfFirstSet, [], [], [zr 0, zr 30, zi 12 0], zw7c, []), [([(13, ((-4), 699))], [], [], [zi 13 0], zw7c, [])])
def b0_X0_vowOfFirstSet : Nat × zS := (11, ([(13, (0, 700)), (14, ((-2147483648), 2147483647)), (15, (0, 15))] ++ ze_X0_vowOfFirstSet, [], [(5, zi 13 0), (4, zi 14 0), (3, zi 15 0), (0, zr 0), (1, zr 30), (2, zi 12 0)], [], zw7c, [(false, (0, 99989)), (true, (13, 700)), (false, (0, 200000)), (false, (0, 0))]))
def bl_X0_vowOfFirstSet : List (Nat × zS) := [b0_X0_vowOfFirstSet]
def tb_X0_vowOfFirstSet : zTb := ([(15, 0, 1, 3), (19, 4, 0, 0)], [], [], [], [(25, k_X7_numbersOf), (29, k_X0_wantsBrought), (39, k_X0_allWants)], [])
def sp_X0_vowOfFirstSet : zSp := []
set_option maxRecDepth 1000000 in
theorem ck0_X0_vowOfFirstSet : zrun tb_X0_vowOfFirstSet sp_X0_vowOfFirstSet pr_X0_vowOfFirstSet 7 1 k_X0_vowOfFirstSet.1 k_X0_vowOfFirstSet.2.1 k_X0_vowOfFirstSet.2.2.2 bl_X0_vowOfFirstSet false 2000 5013 (zst0 k_X0_vowOfFirstSet) 0 = true := by decide +kernel
set_option maxRecDepth 1000000 in
theorem ck1_X0_vowOfFirstSet : zrun tb_X0_vowOfFirstSet sp_X0_vowOfFirstSet pr_X0_vowOfFirstSet 7 1 k_X0_vowOfFirstSet.1 k_X0_vowOfFirstSet.2.1 k_X0_vowOfFirstSet.2.2.2 bl_X0_vowOfFirstSet true 2000 5013 b0_X0_vowOfFirstSet.2 b0_X0_vowOfFirstSet.1 = true := by decide +kernel
set_option maxRecDepth 1000000 in
theorem ck_X0_vowOfFirstSet : zcheck tb_X0_vowOfFirstSet sp_X0_vowOfFirstSet pr_X0_vowOfFirstSet 7 1 k_X0_vowOfFirstSet bl_X0_vowOfFirstSet 2000 5013 = true := zcheck_of (by decide +kernel) ck0_X0_vowOfFirstSet (List.forall_mem_cons.mpr ⟨ck1_X0_vowOfFirstSet, fun _ h => absurd h List.not_mem_nil⟩)
set_option maxRecDepth 100000 in
set_option maxHeartbeats 4000000 in
theorem c_X0_vowOfFirstSet {X : zXT} (hX : zXok X) (hN : zXn X) (l : Launch) : zMet X vwCl l yX0_vowOfFirstSet wsX0_vowOfFirstSet { frames := 5, cells := 0, slots := 0, locals := 162 } k_X0_vowOfFirstSet :=
  zmeth (tb := tb_X0_vowOfFirstSet) (pr := pr_X0_vowOfFirstSet) (bl := bl_X0_vowOfFirstSet) (rt := 1) (own := RX0) hX (by decide +kernel) rfl rfl ⟨Nat.le_of_ble_eq_true rfl, Nat.le_of_ble_eq_true rfl⟩
    (zfl_all (List.forall_mem_cons.mpr ⟨zfl_X0 (fun w h => List.mem_cons_of_mem _ (List.mem_append_left _ (List.mem_append_right _ h))) (List.mem_of_getElem? (i := 2) rfl) (by decide) (by decide), List.forall_mem_cons.mpr ⟨zfl_X4 (fun w h => List.mem_cons_of_mem _ (List.mem_append_left _ (List.mem_append_left _ (List.mem_append_right _ h)))) (List.mem_of_getElem? (i := 1) rfl) (by decide) (by decide), fun _ h => absurd h List.not_mem_nil⟩⟩))
    (zco_all (fun _ h => absurd h List.not_mem_nil)) (zlc_all (fun _ h => absurd h List.not_mem_nil))
    (fun _ h => absurd h List.not_mem_nil)
    (List.forall_mem_cons.mpr ⟨fun p e s m args below meth c A S hx => zcal_SN hX S (c_X7_numbersOf hX hN l) ⟨va_cnB 1 S.2.2.2.2 ggX0_vowOfFirstSet_X7_numbersOf rfl rfl rfl (hN A s s.heap hx RX0 25 yX7_numbersOf RX7 (by decide +kernel)) (S.2.2.2.2 _ (List.mem_of_getElem? (i := 10) rfl)) (by decide +kernel) ⟨Nat.le_of_ble_eq_true rfl, Nat.le_of_ble_eq_true rfl⟩, S.2.2.2.2 _ (List.mem_of_getElem? (i := 9) rfl), trivial⟩ rfl, List.forall_mem_cons.mpr ⟨fun p e s m args below meth c A S hx => zcal_S hX S (c_X0_wantsBrought hX hN l) (va_cwS 2 S.2.2.2.2 gX0_vowOfFirstSet_X0_wantsBrought rfl rfl rfl (by decide +kernel) ⟨Nat.le_of_ble_eq_true rfl, Nat.le_of_ble_eq_true rfl⟩) rfl, List.forall_mem_cons.mpr ⟨fun p e s m args below meth c A S hx => zcal_S hX S (c_X0_allWants hX hN l) (va_cwS 1 S.2.2.2.2 gX0_vowOfFirstSet_X0_allWants rfl rfl rfl (by decide +kernel) ⟨Nat.le_of_ble_eq_true rfl, Nat.le_of_ble_eq_true rfl⟩) rfl, fun _ h => absurd h List.not_mem_nil⟩⟩⟩)
    (zmm_all (fun _ h => absurd h List.not_mem_nil)) (zpr_all hp_X0_vowOfFirstSet) ck_X0_vowOfFirstSet
def pr_X3_append : List (Nat × Instr × Nat) := [(0, .aload_n 0, 1), (1, .getfield 15, 3), (4, .sipush 160, 3), (7, .if_icmp .lt 5, 3), (10, .iconst 0, 1), (11, .ireturn, 1), (12, .aload_n 0, 1), (13, .getfield 9, 3), (16, .aload_n 0, 1), (17, .getfield 15, 3), (20, .iload_n 1, 1), (21, .iastore, 1), (22, .aload_n 0, 1), (23, .dup, 1), (24, .getfield 15, 3), (27, .iconst 1, 1), (28, .iadd, 1), (29, .putfield 15, 3), (32, .iconst 1, 1), (33, .ireturn, 1)]
set_option maxRecDepth 100000 in
theorem hp_X3_append : pr_X3_append.all (fun x => decide (decode cX3_append x.1 = .ok x.2)) = true := by decide +kernel
def zw8c : zW := [(0, .inl (3, [zi 1 0, zr 1])),
  (1, .inr (.inl (0, 160, [(160, .inl ((-2147483648), 2147483647))], [])))]
def ze_X3_append : zE := [(1, (0, 160)), (2, ((-2147483648), 2147483647))]
def k_X3_append : zK := (3, [0, 1], (ze_X3_append, [], [], [zr 0, zi 2 0], zw8c, []), [([(1, (0, 159))], [], [], [zi 0 1], zfs (zw8c) 0 0 (zi 1 1), []),
  ([(1, (160, 160))], [], [], [zi 0 0], zw8c, [])])
def bl_X3_append : List (Nat × zS) := []
def tb_X3_append : zTb := ([(9, 3, 1, 3), (15, 3, 0, 0)], [], [], [], [], [])
def sp_X3_append : zSp := []
set_option maxRecDepth 1000000 in
theorem ck0_X3_append : zrun tb_X3_append sp_X3_append pr_X3_append 2 2 k_X3_append.1 k_X3_append.2.1 k_X3_append.2.2.2 bl_X3_append false 2000 5003 (zst0 k_X3_append) 0 = true := by decide +kernel
set_option maxRecDepth 1000000 in
theorem ck_X3_append : zcheck tb_X3_append sp_X3_append pr_X3_append 2 2 k_X3_append bl_X3_append 2000 5003 = true := zcheck_of (by decide +kernel) ck0_X3_append (fun _ h => absurd h List.not_mem_nil)
set_option maxRecDepth 100000 in
set_option maxHeartbeats 4000000 in
theorem c_X3_append {X : zXT} (hX : zXok X) (hN : zXn X) (l : Launch) : zMet X vwCl l yX3_append wsX3_append { frames := 1, cells := 0, slots := 0, locals := 64 } k_X3_append :=
  zmeth (tb := tb_X3_append) (pr := pr_X3_append) (bl := bl_X3_append) (rt := 2) (own := RX3) hX (by decide +kernel) rfl rfl ⟨Nat.le_of_ble_eq_true rfl, Nat.le_of_ble_eq_true rfl⟩
    (zfl_all (List.forall_mem_cons.mpr ⟨zfl_X3 (fun w h => List.mem_cons_of_mem _ (List.mem_append_right _ h)) (List.mem_of_getElem? (i := 2) rfl) (by decide) (by decide), List.forall_mem_cons.mpr ⟨zfl_X3 (fun w h => List.mem_cons_of_mem _ (List.mem_append_right _ h)) (List.mem_of_getElem? (i := 1) rfl) (by decide) (by decide), fun _ h => absurd h List.not_mem_nil⟩⟩))
    (zco_all (fun _ h => absurd h List.not_mem_nil)) (zlc_all (fun _ h => absurd h List.not_mem_nil))
    (fun _ h => absurd h List.not_mem_nil)
    (fun _ h => absurd h List.not_mem_nil)
    (zmm_all (fun _ h => absurd h List.not_mem_nil)) (zpr_all hp_X3_append) ck_X3_append
def pr_X2_isNothing : List (Nat × Instr × Nat) := [(0, .aload_n 0, 1), (1, .getfield 11, 3), (4, .iconst (-1), 1), (5, .if_icmp .ne 7, 3), (8, .iconst 1, 1), (9, .goto 4, 3), (12, .iconst 0, 1), (13, .ireturn, 1)]
set_option maxRecDepth 100000 in
theorem hp_X2_isNothing : pr_X2_isNothing.all (fun x => decide (decode cX2_isNothing x.1 = .ok x.2)) = true := by decide +kernel
def zw9c : zW := [(0, .inl (2, [zi 1 0, zi 2 0, zr 1])),
  (1, .inr (.inl (0, 40, [(40, .inl ((-2147483648), 2147483647))], [])))]
def ze_X2_isNothing : zE := [(1, ((-2147483648), 2147483647)), (2, (0, 40))]
def k_X2_isNothing : zK := (3, [0, 1], (ze_X2_isNothing, [], [], [zr 0], zw9c, []), [([], [], [], [zi 0 0], zw9c, []),
  ([(1, ((-1), (-1)))], [], [], [zi 0 1], zw9c, [])])
def bl_X2_isNothing : List (Nat × zS) := []
def tb_X2_isNothing : zTb := ([(11, 2, 0, 0)], [], [], [], [], [])
def sp_X2_isNothing : zSp := []
set_option maxRecDepth 1000000 in
theorem ck0_X2_isNothing : zrun tb_X2_isNothing sp_X2_isNothing pr_X2_isNothing 1 2 k_X2_isNothing.1 k_X2_isNothing.2.1 k_X2_isNothing.2.2.2 bl_X2_isNothing false 2000 5003 (zst0 k_X2_isNothing) 0 = true := by decide +kernel
set_option maxRecDepth 1000000 in
theorem ck_X2_isNothing : zcheck tb_X2_isNothing sp_X2_isNothing pr_X2_isNothing 1 2 k_X2_isNothing bl_X2_isNothing 2000 5003 = true := zcheck_of (by decide +kernel) ck0_X2_isNothing (fun _ h => absurd h List.not_mem_nil)
set_option maxRecDepth 100000 in
set_option maxHeartbeats 4000000 in
theorem c_X2_isNothing {X : zXT} (hX : zXok X) (hN : zXn X) (l : Launch) : zMet X vwCl l yX2_isNothing wsX2_isNothing { frames := 1, cells := 0, slots := 0, locals := 64 } k_X2_isNothing :=
  zmeth (tb := tb_X2_isNothing) (pr := pr_X2_isNothing) (bl := bl_X2_isNothing) (rt := 2) (own := RX2) hX (by decide +kernel) rfl rfl ⟨Nat.le_of_ble_eq_true rfl, Nat.le_of_ble_eq_true rfl⟩
    (zfl_all (List.forall_mem_cons.mpr ⟨zfl_X2 (fun w h => List.mem_cons_of_mem _ (List.mem_append_right _ h)) (List.mem_of_getElem? (i := 1) rfl) (by decide) (by decide), fun _ h => absurd h List.not_mem_nil⟩))
    (zco_all (fun _ h => absurd h List.not_mem_nil)) (zlc_all (fun _ h => absurd h List.not_mem_nil))
    (fun _ h => absurd h List.not_mem_nil)
    (fun _ h => absurd h List.not_mem_nil)
    (zmm_all (fun _ h => absurd h List.not_mem_nil)) (zpr_all hp_X2_isNothing) ck_X2_isNothing
def pr_X2_renew : List (Nat × Instr × Nat) := [(0, .aload_n 0, 1), (1, .iload_n 1, 1), (2, .putfield 11, 3), (5, .aload_n 0, 1), (6, .iload_n 2, 1), (7, .putfield 19, 3), (10, .iconst 0, 1), (11, .istore_n 3, 1), (12, .iload_n 3, 1), (13, .bipush 40, 2), (15, .if_icmp .ge 16, 3), (18, .aload_n 0, 1), (19, .getfield 15, 3), (22, .iload_n 3, 1), (23, .iconst 0, 1), (24, .iastore, 1), (25, .iinc 3 1, 3), (28, .goto (-16), 3), (31, .return_, 1)]
set_option maxRecDepth 100000 in
theorem hp_X2_renew : pr_X2_renew.all (fun x => decide (decode cX2_renew x.1 = .ok x.2)) = true := by decide +kernel
def ze_X2_renew : zE := [(1, ((-2147483648), 2147483647)), (2, (0, 40)), (3, ((-2147483648), 2147483647)), (4, (0, 40))]
def k_X2_renew : zK := (5, [0, 1], (ze_X2_renew, [], [], [zr 0, zi 3 0, zi 4 0], zw9c, []), [([], [], [], [], zfs (zfs (zw9c) 0 0 (zi 3 0)) 0 1 (zi 4 0), [])])
def b0_X2_renew : Nat × zS := (12, ([(5, (0, 59))] ++ ze_X2_renew, [], [(3, zi 5 0), (0, zr 0)], [], zfs (zfs (zw9c) 0 0 (zi 3 0)) 0 1 (zi 4 0), [(false, (0, 99988)), (true, (5, 59)), (false, (0, 200000)), (false, (0, 0))]))
def bl_X2_renew : List (Nat × zS) := [b0_X2_renew]
def tb_X2_renew : zTb := ([(11, 2, 0, 0), (15, 2, 2, 3), (19, 2, 1, 0)], [], [], [], [], [])
def sp_X2_renew : zSp := []
set_option maxRecDepth 1000000 in
theorem ck0_X2_renew : zrun tb_X2_renew sp_X2_renew pr_X2_renew 4 0 k_X2_renew.1 k_X2_renew.2.1 k_X2_renew.2.2.2 bl_X2_renew false 2000 5005 (zst0 k_X2_renew) 0 = true := by decide +kernel
set_option maxRecDepth 1000000 in
theorem ck1_X2_renew : zrun tb_X2_renew sp_X2_renew pr_X2_renew 4 0 k_X2_renew.1 k_X2_renew.2.1 k_X2_renew.2.2.2 bl_X2_renew true 2000 5005 b0_X2_renew.2 b0_X2_renew.1 = true := by decide +kernel
set_option maxRecDepth 1000000 in
theorem ck_X2_renew : zcheck tb_X2_renew sp_X2_renew pr_X2_renew 4 0 k_X2_renew bl_X2_renew 2000 5005 = true := zcheck_of (by decide +kernel) ck0_X2_renew (List.forall_mem_cons.mpr ⟨ck1_X2_renew, fun _ h => absurd h List.not_mem_nil⟩)
set_option maxRecDepth 100000 in
set_option maxHeartbeats 4000000 in
theorem c_X2_renew {X : zXT} (hX : zXok X) (hN : zXn X) (l : Launch) : zMet X vwCl l yX2_renew wsX2_renew { frames := 1, cells := 0, slots := 0, locals := 64 } k_X2_renew :=
  zmeth (tb := tb_X2_renew) (pr := pr_X2_renew) (bl := bl_X2_renew) (rt := 0) (own := RX2) hX (by decide +kernel) rfl rfl ⟨Nat.le_of_ble_eq_true rfl, Nat.le_of_ble_eq_true rfl⟩
    (zfl_all (List.forall_mem_cons.mpr ⟨zfl_X2 (fun w h => List.mem_cons_of_mem _ (List.mem_append_right _ h)) (List.mem_of_getElem? (i := 1) rfl) (by decide) (by decide), List.forall_mem_cons.mpr ⟨zfl_X2 (fun w h => List.mem_cons_of_mem _ (List.mem_append_right _ h)) (List.mem_of_getElem? (i := 3) rfl) (by decide) (by decide), List.forall_mem_cons.mpr ⟨zfl_X2 (fun w h => List.mem_cons_of_mem _ (List.mem_append_right _ h)) (List.mem_of_getElem? (i := 2) rfl) (by decide) (by decide), fun _ h => absurd h List.not_mem_nil⟩⟩⟩))
    (zco_all (fun _ h => absurd h List.not_mem_nil)) (zlc_all (fun _ h => absurd h List.not_mem_nil))
    (fun _ h => absurd h List.not_mem_nil)
    (fun _ h => absurd h List.not_mem_nil)
    (zmm_all (fun _ h => absurd h List.not_mem_nil)) (zpr_all hp_X2_renew) ck_X2_renew
def pr_X2_put : List (Nat × Instr × Nat) := [(0, .aload_n 0, 1), (1, .getfield 11, 3), (4, .ifCond .ne 14, 3), (7, .aload_n 0, 1), (8, .getfield 15, 3), (11, .iload_n 1, 1), (12, .iload_n 2, 1), (13, .i2b, 1), (14, .iastore, 1), (15, .goto 29, 3), (18, .aload_n 0, 1), (19, .getfield 11, 3), (22, .iconst 1, 1), (23, .if_icmp .ne 14, 3), (26, .aload_n 0, 1), (27, .getfield 15, 3), (30, .iload_n 1, 1), (31, .iload_n 2, 1), (32, .i2s, 1), (33, .iastore, 1), (34, .goto 10, 3), (37, .aload_n 0, 1), (38, .getfield 15, 3), (41, .iload_n 1, 1), (42, .iload_n 2, 1), (43, .iastore, 1), (44, .return_, 1)]
set_option maxRecDepth 100000 in
theorem hp_X2_put : pr_X2_put.all (fun x => decide (decode cX2_put x.1 = .ok x.2)) = true := by decide +kernel
def ze_X2_put : zE := [(1, ((-2147483648), 2147483647)), (2, (0, 40)), (3, (0, 39)), (4, ((-2147483648), 2147483647))]
def k_X2_put : zK := (5, [0, 1], (ze_X2_put, [], [], [zr 0, zi 3 0, zi 4 0], zw9c, []), [([], [], [], [], zw9c, [])])
def bl_X2_put : List (Nat × zS) := []
def tb_X2_put : zTb := ([(11, 2, 0, 0), (15, 2, 2, 3)], [], [], [], [], [])
def sp_X2_put : zSp := []
set_option maxRecDepth 1000000 in
theorem ck0_X2_put : zrun tb_X2_put sp_X2_put pr_X2_put 3 0 k_X2_put.1 k_X2_put.2.1 k_X2_put.2.2.2 bl_X2_put false 2000 5005 (zst0 k_X2_put) 0 = true := by decide +kernel
set_option maxRecDepth 1000000 in
theorem ck_X2_put : zcheck tb_X2_put sp_X2_put pr_X2_put 3 0 k_X2_put bl_X2_put 2000 5005 = true := zcheck_of (by decide +kernel) ck0_X2_put (fun _ h => absurd h List.not_mem_nil)
set_option maxRecDepth 100000 in
set_option maxHeartbeats 4000000 in
theorem c_X2_put {X : zXT} (hX : zXok X) (hN : zXn X) (l : Launch) : zMet X vwCl l yX2_put wsX2_put { frames := 1, cells := 0, slots := 0, locals := 64 } k_X2_put :=
  zmeth (tb := tb_X2_put) (pr := pr_X2_put) (bl := bl_X2_put) (rt := 0) (own := RX2) hX (by decide +kernel) rfl rfl ⟨Nat.le_of_ble_eq_true rfl, Nat.le_of_ble_eq_true rfl⟩
    (zfl_all (List.forall_mem_cons.mpr ⟨zfl_X2 (fun w h => List.mem_cons_of_mem _ (List.mem_append_right _ h)) (List.mem_of_getElem? (i := 1) rfl) (by decide) (by decide), List.forall_mem_cons.mpr ⟨zfl_X2 (fun w h => List.mem_cons_of_mem _ (List.mem_append_right _ h)) (List.mem_of_getElem? (i := 2) rfl) (by decide) (by decide), fun _ h => absurd h List.not_mem_nil⟩⟩))
    (zco_all (fun _ h => absurd h List.not_mem_nil)) (zlc_all (fun _ h => absurd h List.not_mem_nil))
    (fun _ h => absurd h List.not_mem_nil)
    (fun _ h => absurd h List.not_mem_nil)
    (zmm_all (fun _ h => absurd h List.not_mem_nil)) (zpr_all hp_X2_put) ck_X2_put
def pr_X2_faultOfLane : List (Nat × Instr × Nat) := [(0, .aload_n 0, 1), (1, .invokevirtual 22, 3), (4, .ifCond .ne 11, 3), (7, .aload_n 0, 1), (8, .getfield 11, 3), (11, .iload_n 1, 1), (12, .if_icmp .ne 7, 3), (15, .iconst 0, 1), (16, .goto 4, 3), (19, .iconst 3, 1), (20, .ireturn, 1)]
set_option maxRecDepth 100000 in
theorem hp_X2_faultOfLane : pr_X2_faultOfLane.all (fun x => decide (decode cX2_faultOfLane x.1 = .ok x.2)) = true := by decide +kernel
def ze_X2_faultOfLane : zE := [(1, ((-2147483648), 2147483647)), (2, (0, 40)), (3, ((-2147483648), 2147483647))]
def k_X2_faultOfLane : zK := (4, [0, 1], (ze_X2_faultOfLane, [], [], [zr 0, zi 3 0], zw9c, []), [([], [], [], [zi 0 3], zw9c, []),
  ([], [], [], [zi 0 0], zw9c, [])])
def bl_X2_faultOfLane : List (Nat × zS) := []
def tb_X2_faultOfLane : zTb := ([(11, 2, 0, 0)], [], [], [(22, k_X2_isNothing)], [], [])
def sp_X2_faultOfLane : zSp := []
set_option maxRecDepth 1000000 in
theorem ck0_X2_faultOfLane : zrun tb_X2_faultOfLane sp_X2_faultOfLane pr_X2_faultOfLane 2 1 k_X2_faultOfLane.1 k_X2_faultOfLane.2.1 k_X2_faultOfLane.2.2.2 bl_X2_faultOfLane false 2000 5004 (zst0 k_X2_faultOfLane) 0 = true := by decide +kernel
set_option maxRecDepth 1000000 in
theorem ck_X2_faultOfLane : zcheck tb_X2_faultOfLane sp_X2_faultOfLane pr_X2_faultOfLane 2 1 k_X2_faultOfLane bl_X2_faultOfLane 2000 5004 = true := zcheck_of (by decide +kernel) ck0_X2_faultOfLane (fun _ h => absurd h List.not_mem_nil)
set_option maxRecDepth 100000 in
set_option maxHeartbeats 4000000 in
theorem c_X2_faultOfLane {X : zXT} (hX : zXok X) (hN : zXn X) (l : Launch) : zMet X vwCl l yX2_faultOfLane wsX2_faultOfLane { frames := 2, cells := 0, slots := 0, locals := 84 } k_X2_faultOfLane :=
  zmeth (tb := tb_X2_faultOfLane) (pr := pr_X2_faultOfLane) (bl := bl_X2_faultOfLane) (rt := 1) (own := RX2) hX (by decide +kernel) rfl rfl ⟨Nat.le_of_ble_eq_true rfl, Nat.le_of_ble_eq_true rfl⟩
    (zfl_all (List.forall_mem_cons.mpr ⟨zfl_X2 (fun w h => List.mem_cons_of_mem _ (List.mem_append_right _ h)) (List.mem_of_getElem? (i := 1) rfl) (by decide) (by decide), fun _ h => absurd h List.not_mem_nil⟩))
    (zco_all (fun _ h => absurd h List.not_mem_nil)) (zlc_all (fun _ h => absurd h List.not_mem_nil))
    (List.forall_mem_cons.mpr ⟨fun p e s m args below meth c A S hx => zcal_V hX S (c_X2_isNothing hX hN l) (cwV 0 S.2.2.2.2 gX2_faultOfLane_X2_isNothing rfl rfl rfl (by decide +kernel) ⟨Nat.le_of_ble_eq_true rfl, Nat.le_of_ble_eq_true rfl⟩) rfl ⟨0, 2, _, _, _, rfl, rfl⟩ rfl, fun _ h => absurd h List.not_mem_nil⟩)
    (fun _ h => absurd h List.not_mem_nil)
    (zmm_all (fun _ h => absurd h List.not_mem_nil)) (zpr_all hp_X2_faultOfLane) ck_X2_faultOfLane
def pr_X2_faultOfCells : List (Nat × Instr × Nat) := [(0, .aload_n 0, 1), (1, .invokevirtual 22, 3), (4, .ifCond .eq 5, 3), (7, .iconst 1, 1), (8, .ireturn, 1), (9, .iload_n 1, 1), (10, .iconst 0, 1), (11, .aload_n 0, 1), (12, .getfield 19, 3), (15, .iload_n 2, 1), (16, .isub, 1), (17, .invokestatic 26, 3), (20, .ifCond .eq 7, 3), (23, .iconst 0, 1), (24, .goto 4, 3), (27, .iconst 2, 1), (28, .ireturn, 1)]
set_option maxRecDepth 100000 in
theorem hp_X2_faultOfCells : pr_X2_faultOfCells.all (fun x => decide (decode cX2_faultOfCells x.1 = .ok x.2)) = true := by decide +kernel
def ze_X2_faultOfCells : zE := [(1, ((-2147483648), 2147483647)), (2, (0, 40)), (3, ((-2147483648), 2147483647)), (4, (4, 4))]
def k_X2_faultOfCells : zK := (5, [0, 1], (ze_X2_faultOfCells, [], [], [zr 0, zi 3 0, zi 4 0], zw9c, []), [([], [], [], [zi 0 2], zw9c, []),
  ([(3, (0, 36))], [], [], [zi 0 0], zw9c, []),
  ([(1, ((-1), (-1)))], [], [], [zi 0 1], zw9c, [])])
def bl_X2_faultOfCells : List (Nat × zS) := []
def tb_X2_faultOfCells : zTb := ([(19, 2, 1, 0)], [], [], [(22, k_X2_isNothing)], [(26, k_X7_within)], [])
def sp_X2_faultOfCells : zSp := []
set_option maxRecDepth 1000000 in
theorem ck0_X2_faultOfCells : zrun tb_X2_faultOfCells sp_X2_faultOfCells pr_X2_faultOfCells 3 1 k_X2_faultOfCells.1 k_X2_faultOfCells.2.1 k_X2_faultOfCells.2.2.2 bl_X2_faultOfCells false 2000 5005 (zst0 k_X2_faultOfCells) 0 = true := by decide +kernel
set_option maxRecDepth 1000000 in
theorem ck_X2_faultOfCells : zcheck tb_X2_faultOfCells sp_X2_faultOfCells pr_X2_faultOfCells 3 1 k_X2_faultOfCells bl_X2_faultOfCells 2000 5005 = true := zcheck_of (by decide +kernel) ck0_X2_faultOfCells (fun _ h => absurd h List.not_mem_nil)
set_option maxRecDepth 100000 in
set_option maxHeartbeats 4000000 in
theorem c_X2_faultOfCells {X : zXT} (hX : zXok X) (hN : zXn X) (l : Launch) : zMet X vwCl l yX2_faultOfCells wsX2_faultOfCells { frames := 2, cells := 0, slots := 0, locals := 86 } k_X2_faultOfCells :=
  zmeth (tb := tb_X2_faultOfCells) (pr := pr_X2_faultOfCells) (bl := bl_X2_faultOfCells) (rt := 1) (own := RX2) hX (by decide +kernel) rfl rfl ⟨Nat.le_of_ble_eq_true rfl, Nat.le_of_ble_eq_true rfl⟩
    (zfl_all (List.forall_mem_cons.mpr ⟨zfl_X2 (fun w h => List.mem_cons_of_mem _ (List.mem_append_right _ h)) (List.mem_of_getElem? (i := 1) rfl) (by decide) (by decide), fun _ h => absurd h List.not_mem_nil⟩))
    (zco_all (fun _ h => absurd h List.not_mem_nil)) (zlc_all (fun _ h => absurd h List.not_mem_nil))
    (List.forall_mem_cons.mpr ⟨fun p e s m args below meth c A S hx => zcal_V hX S (c_X2_isNothing hX hN l) (cwV 0 S.2.2.2.2 gX2_faultOfCells_X2_isNothing rfl rfl rfl (by decide +kernel) ⟨Nat.le_of_ble_eq_true rfl, Nat.le_of_ble_eq_true rfl⟩) rfl ⟨0, 2, _, _, _, rfl, rfl⟩ rfl, fun _ h => absurd h List.not_mem_nil⟩)
    (List.forall_mem_cons.mpr ⟨fun p e s m args below meth c A S hx => zcal_SN hX S (c_X7_within hX hN l) ⟨va_cnB 3 S.2.2.2.2 ggX2_faultOfCells_X7_within rfl rfl rfl (hN A s s.heap hx RX2 26 yX7_within RX7 (by decide +kernel)) (S.2.2.2.2 _ (List.mem_of_getElem? (i := 9) rfl)) (by decide +kernel) ⟨Nat.le_of_ble_eq_true rfl, Nat.le_of_ble_eq_true rfl⟩, S.2.2.2.2 _ (List.mem_of_getElem? (i := 8) rfl), trivial⟩ rfl, fun _ h => absurd h List.not_mem_nil⟩)
    (zmm_all (fun _ h => absurd h List.not_mem_nil)) (zpr_all hp_X2_faultOfCells) ck_X2_faultOfCells
def ze_X2_faultOfCells_2 : zE := [(1, ((-2147483648), 2147483647)), (2, (0, 40)), (3, ((-2147483648), 2147483647)), (4, (1, 1))]
def k_X2_faultOfCells_2 : zK := (5, [0, 1], (ze_X2_faultOfCells_2, [], [], [zr 0, zi 3 0, zi 4 0], zw9c, []), [([], [], [], [zi 0 2], zw9c, []),
  ([(3, (0, 39))], [], [], [zi 0 0], zw9c, []),
  ([(1, ((-1), (-1)))], [], [], [zi 0 1], zw9c, [])])
def bl_X2_faultOfCells_2 : List (Nat × zS) := []
def tb_X2_faultOfCells_2 : zTb := ([(19, 2, 1, 0)], [], [], [(22, k_X2_isNothing)], [(26, k_X7_within)], [])
def sp_X2_faultOfCells_2 : zSp := []
set_option maxRecDepth 1000000 in
theorem ck0_X2_faultOfCells_2 : zrun tb_X2_faultOfCells_2 sp_X2_faultOfCells_2 pr_X2_faultOfCells 3 1 k_X2_faultOfCells_2.1 k_X2_faultOfCells_2.2.1 k_X2_faultOfCells_2.2.2.2 bl_X2_faultOfCells_2 false 2000 5005 (zst0 k_X2_faultOfCells_2) 0 = true := by decide +kernel
set_option maxRecDepth 1000000 in
theorem ck_X2_faultOfCells_2 : zcheck tb_X2_faultOfCells_2 sp_X2_faultOfCells_2 pr_X2_faultOfCells 3 1 k_X2_faultOfCells_2 bl_X2_faultOfCells_2 2000 5005 = true := zcheck_of (by decide +kernel) ck0_X2_faultOfCells_2 (fun _ h => absurd h List.not_mem_nil)
set_option maxRecDepth 100000 in
set_option maxHeartbeats 4000000 in
theorem c_X2_faultOfCells_2 {X : zXT} (hX : zXok X) (hN : zXn X) (l : Launch) : zMet X vwCl l yX2_faultOfCells wsX2_faultOfCells { frames := 2, cells := 0, slots := 0, locals := 86 } k_X2_faultOfCells_2 :=
  zmeth (tb := tb_X2_faultOfCells_2) (pr := pr_X2_faultOfCells) (bl := bl_X2_faultOfCells_2) (rt := 1) (own := RX2) hX (by decide +kernel) rfl rfl ⟨Nat.le_of_ble_eq_true rfl, Nat.le_of_ble_eq_true rfl⟩
    (zfl_all (List.forall_mem_cons.mpr ⟨zfl_X2 (fun w h => List.mem_cons_of_mem _ (List.mem_append_right _ h)) (List.mem_of_getElem? (i := 1) rfl) (by decide) (by decide), fun _ h => absurd h List.not_mem_nil⟩))
    (zco_all (fun _ h => absurd h List.not_mem_nil)) (zlc_all (fun _ h => absurd h List.not_mem_nil))
    (List.forall_mem_cons.mpr ⟨fun p e s m args below meth c A S hx => zcal_V hX S (c_X2_isNothing hX hN l) (cwV 0 S.2.2.2.2 gX2_faultOfCells_X2_isNothing rfl rfl rfl (by decide +kernel) ⟨Nat.le_of_ble_eq_true rfl, Nat.le_of_ble_eq_true rfl⟩) rfl ⟨0, 2, _, _, _, rfl, rfl⟩ rfl, fun _ h => absurd h List.not_mem_nil⟩)
    (List.forall_mem_cons.mpr ⟨fun p e s m args below meth c A S hx => zcal_SN hX S (c_X7_within hX hN l) ⟨va_cnB 3 S.2.2.2.2 ggX2_faultOfCells_X7_within rfl rfl rfl (hN A s s.heap hx RX2 26 yX7_within RX7 (by decide +kernel)) (S.2.2.2.2 _ (List.mem_of_getElem? (i := 9) rfl)) (by decide +kernel) ⟨Nat.le_of_ble_eq_true rfl, Nat.le_of_ble_eq_true rfl⟩, S.2.2.2.2 _ (List.mem_of_getElem? (i := 8) rfl), trivial⟩ rfl, fun _ h => absurd h List.not_mem_nil⟩)
    (zmm_all (fun _ h => absurd h List.not_mem_nil)) (zpr_all hp_X2_faultOfCells) ck_X2_faultOfCells_2
def pr_X1_complain : List (Nat × Instr × Nat) := [(0, .aload_n 0, 1), (1, .getfield 27, 3), (4, .ifCond .ne 13, 3), (7, .aload_n 0, 1), (8, .iload_n 1, 1), (9, .putfield 27, 3), (12, .aload_n 0, 1), (13, .iload_n 2, 1), (14, .putfield 30, 3), (17, .return_, 1)]
set_option maxRecDepth 100000 in
theorem hp_X1_complain : pr_X1_complain.all (fun x => decide (decode cX1_complain x.1 = .ok x.2)) = true := by decide +kernel
def zw10c : zW := [(0, .inl (1, [zr 1, zi 1 0, zi 2 0, zi 3 0, zi 4 0, zi 5 0, zi 6 0, zi 7 0, zi 8 0, zi 9 0, zi 10 0, zi 11 0, zi 12 0])),
  (1, .inl (3, [zi 13 0, zr 2])),
  (2, .inr (.inl (0, 160, [(160, .inl ((-2147483648), 2147483647))], [])))]
def ze_X1_complain : zE := [(1, (0, 160)), (2, ((-2147483648), 2147483647)), (3, (0, 160)), (4, (0, 6)), (5, ((-2147483648), 2147483647)), (6, ((-2147483648), 2147483647)), (7, (0, 1)), (8, ((-2147483648), 2147483647)), (9, ((-2147483648), 2147483647)), (10, ((-2147483648), 2147483647)), (11, ((-2147483648), 2147483647)), (12, ((-2147483648), 2147483647)), (13, (0, 160)), (14, (1, 6)), (15, ((-2147483648), 2147483647))]
def k_X1_complain : zK := (16, [0, 1, 2], (ze_X1_complain, [], [], [zr 0, zi 14 0, zi 15 0], zw10c, []), [([(16, (1, 6)), (17, ((-2147483648), 2147483647))], [(4, 16, 0)], [], [], zfs (zfs (zw10c) 0 4 (zi 16 0)) 0 5 (zi 17 0), [])])
def bl_X1_complain : List (Nat × zS) := []
def tb_X1_complain : zTb := ([(27, 1, 4, 0), (30, 1, 5, 0)], [], [], [], [], [])
def sp_X1_complain : zSp := []
set_option maxRecDepth 1000000 in
theorem ck0_X1_complain : zrun tb_X1_complain sp_X1_complain pr_X1_complain 3 0 k_X1_complain.1 k_X1_complain.2.1 k_X1_complain.2.2.2 bl_X1_complain false 2000 5016 (zst0 k_X1_complain) 0 = true := by decide +kernel
set_option maxRecDepth 1000000 in
theorem ck_X1_complain : zcheck tb_X1_complain sp_X1_complain pr_X1_complain 3 0 k_X1_complain bl_X1_complain 2000 5016 = true := zcheck_of (by decide +kernel) ck0_X1_complain (fun _ h => absurd h List.not_mem_nil)
set_option maxRecDepth 100000 in
set_option maxHeartbeats 4000000 in
theorem c_X1_complain {X : zXT} (hX : zXok X) (hN : zXn X) (l : Launch) : zMet X vwCl l yX1_complain wsX1_complain { frames := 1, cells := 0, slots := 0, locals := 64 } k_X1_complain :=
  zmeth (tb := tb_X1_complain) (pr := pr_X1_complain) (bl := bl_X1_complain) (rt := 0) (own := RX1) hX (by decide +kernel) rfl rfl ⟨Nat.le_of_ble_eq_true rfl, Nat.le_of_ble_eq_true rfl⟩
    (zfl_all (List.forall_mem_cons.mpr ⟨zfl_X1 (fun w h => List.mem_cons_of_mem _ (List.mem_append_right _ h)) (List.mem_of_getElem? (i := 1) rfl) (by decide) (by decide), List.forall_mem_cons.mpr ⟨zfl_X1 (fun w h => List.mem_cons_of_mem _ (List.mem_append_right _ h)) (List.mem_of_getElem? (i := 2) rfl) (by decide) (by decide), fun _ h => absurd h List.not_mem_nil⟩⟩))
    (zco_all (fun _ h => absurd h List.not_mem_nil)) (zlc_all (fun _ h => absurd h List.not_mem_nil))
    (fun _ h => absurd h List.not_mem_nil)
    (fun _ h => absurd h List.not_mem_nil)
    (zmm_all (fun _ h => absurd h List.not_mem_nil)) (zpr_all hp_X1_complain) ck_X1_complain
def pr_X1_sortOf : List (Nat × Instr × Nat) := [(0, .bipush 97, 2), (2, .iload_n 0, 1), (3, .if_icmp .gt 11, 3), (6, .iload_n 0, 1), (7, .bipush 122, 2), (9, .if_icmp .gt 5, 3), (12, .iconst 1, 1), (13, .ireturn, 1), (14, .bipush 48, 2), (16, .iload_n 0, 1), (17, .if_icmp .gt 11, 3), (20, .iload_n 0, 1), (21, .bipush 57, 2), (23, .if_icmp .gt 5, 3), (26, .iconst 2, 1), (27, .ireturn, 1), (28, .iload_n 0, 1), (29, .bipush 59, 2), (31, .if_icmp .ne 7, 3), (34, .iconst 3, 1), (35, .goto 4, 3), (38, .iconst 4, 1), (39, .ireturn, 1)]
set_option maxRecDepth 100000 in
theorem hp_X1_sortOf : pr_X1_sortOf.all (fun x => decide (decode cX1_sortOf x.1 = .ok x.2)) = true := by decide +kernel
def ze_X1_sortOf : zE := [(1, ((-2147483648), 2147483647))]
def k_X1_sortOf : zK := (2, [], (ze_X1_sortOf, [], [], [zi 1 0], [], []), [([], [], [], [zi 0 4], [], []),
  ([(1, (59, 59))], [], [], [zi 0 3], [], []),
  ([(1, (48, 57))], [], [], [zi 0 2], [], []),
  ([(1, (97, 122))], [], [], [zi 0 1], [], [])])
def bl_X1_sortOf : List (Nat × zS) := []
def tb_X1_sortOf : zTb := ([], [], [], [], [], [])
def sp_X1_sortOf : zSp := []
set_option maxRecDepth 1000000 in
theorem ck0_X1_sortOf : zrun tb_X1_sortOf sp_X1_sortOf pr_X1_sortOf 1 1 k_X1_sortOf.1 k_X1_sortOf.2.1 k_X1_sortOf.2.2.2 bl_X1_sortOf false 2000 5002 (zst0 k_X1_sortOf) 0 = true := by decide +kernel
set_option maxRecDepth 1000000 in
theorem ck_X1_sortOf : zcheck tb_X1_sortOf sp_X1_sortOf pr_X1_sortOf 1 1 k_X1_sortOf bl_X1_sortOf 2000 5002 = true := zcheck_of (by decide +kernel) ck0_X1_sortOf (fun _ h => absurd h List.not_mem_nil)
set_option maxRecDepth 100000 in
set_option maxHeartbeats 4000000 in
theorem c_X1_sortOf {X : zXT} (hX : zXok X) (hN : zXn X) (l : Launch) : zMet X vwCl l yX1_sortOf wsX1_sortOf { frames := 1, cells := 0, slots := 0, locals := 64 } k_X1_sortOf :=
  zmeth (tb := tb_X1_sortOf) (pr := pr_X1_sortOf) (bl := bl_X1_sortOf) (rt := 1) (own := RX1) hX (by decide +kernel) rfl rfl ⟨Nat.le_of_ble_eq_true rfl, Nat.le_of_ble_eq_true rfl⟩
    (zfl_all (fun _ h => absurd h List.not_mem_nil))
    (zco_all (fun _ h => absurd h List.not_mem_nil)) (zlc_all (fun _ h => absurd h List.not_mem_nil))
    (fun _ h => absurd h List.not_mem_nil)
    (fun _ h => absurd h List.not_mem_nil)
    (zmm_all (fun _ h => absurd h List.not_mem_nil)) (zpr_all hp_X1_sortOf) ck_X1_sortOf
def pr_X1_readToken : List (Nat × Instr × Nat) := [(0, .aload_n 0, 1), (1, .getfield 27, 3), (4, .ifCond .eq 4, 3), (7, .return_, 1), (8, .aload_n 0, 1), (9, .getfield 23, 3), (12, .aload_n 0, 1), (13, .getfield 12, 3), (16, .getfield 74, 3), (19, .if_icmp .ge 33, 3), (22, .aload_n 0, 1), (23, .getfield 12, 3), (26, .getfield 207, 3), (29, .aload_n 0, 1), (30, .getfield 23, 3), (33, .iaload, 1), (34, .bipush 32, 2), (36, .if_icmp .ne 16, 3), (39, .aload_n 0, 1), (40, .dup, 1), (41, .getfield 23, 3), (44, .iconst 1, 1), (45, .iadd, 1), (46, .putfield 23, 3), (49, .goto (-41), 3), (52, .aload_n 0, 1), (53, .aload_n 0, 1), (54, .getfield 23, 3), (57, .putfield 123, 3), (60, .aload_n 0, 1), (61, .getfield 23, 3), (64, .aload_n 0, 1), (65, .getfield 12, 3), (68, .getfield 74, 3), (71, .if_icmp .lt 9, 3), (74, .aload_n 0, 1), (75, .iconst 0, 1), (76, .putfield 58, 3), (79, .return_, 1), (80, .aload_n 0, 1), (81, .aload_n 0, 1), (82, .getfield 12, 3), (85, .getfield 207, 3), (88, .aload_n 0, 1), (89, .getfield 23, 3), (92, .iaload, 1), (93, .invokestatic 233, 3), (96, .putfield 58, 3), (99, .aload_n 0, 1), (100, .dup, 1), (101, .getfield 23, 3), (104, .iconst 1, 1), (105, .iadd, 1), (106, .putfield 23, 3), (109, .aload_n 0, 1), (110, .getfield 58, 3), (113, .iconst 3, 1), (114, .if_icmp .eq 52, 3), (117, .aload_n 0, 1), (118, .getfield 23, 3), (121, .aload_n 0, 1), (122, .getfield 12, 3), (125, .getfield 74, 3), (128, .if_icmp .ge 38, 3), (131, .aload_n 0, 1), (132, .getfield 12, 3), (135, .getfield 207, 3), (138, .aload_n 0, 1), (139, .getfield 23, 3), (142, .iaload, 1), (143, .invokestatic 233, 3), (146, .aload_n 0, 1), (147, .getfield 58, 3), (150, .if_icmp .ne 16, 3), (153, .aload_n 0, 1), (154, .dup, 1), (155, .getfield 23, 3), (158, .iconst 1, 1), (159, .iadd, 1), (160, .putfield 23, 3), (163, .goto (-54), 3), (166, .aload_n 0, 1), (167, .getfield 58, 3), (170, .iconst 4, 1), (171, .if_icmp .eq 24, 3), (174, .aload_n 0, 1), (175, .getfield 58, 3), (178, .iconst 2, 1), (179, .if_icmp .ne 25, 3), (182, .aload_n 0, 1), (183, .getfield 23, 3), (186, .aload_n 0, 1), (187, .getfield 123, 3), (190, .isub, 1), (191, .iconst 2, 1), (192, .if_icmp .le 12, 3), (195, .aload_n 0, 1), (196, .iconst 1, 1), (197, .aload_n 0, 1), (198, .getfield 123, 3), (201, .invokevirtual 77, 3), (204, .return_, 1)]
set_option maxRecDepth 100000 in
theorem hp_X1_readToken : pr_X1_readToken.all (fun x => decide (decode cX1_readToken x.1 = .ok x.2)) = true := by decide +kernel
def ze_X1_readToken : zE := [(1, (0, 160)), (2, ((-2147483648), 2147483647)), (3, (0, 160)), (4, (0, 6)), (5, ((-2147483648), 2147483647)), (6, ((-2147483648), 2147483647)), (7, (0, 1)), (8, ((-2147483648), 2147483647)), (9, ((-2147483648), 2147483647)), (10, ((-2147483648), 2147483647)), (11, ((-2147483648), 2147483647)), (12, ((-2147483648), 2147483647)), (13, (0, 160))]
def k_X1_readToken : zK := (14, [0, 1, 2], (ze_X1_readToken, [], [], [zr 0], zw10c, []), [([(14, (0, 160)), (15, ((-2147483648), 2147483647)), (16, (0, 160)), (17, (0, 6)), (18, ((-2147483648), 2147483647))], [(1, 14, 159), (4, 17, 0)], [], [], zfs (zfs (zfs (zfs (zfs (zw10c) 0 1 (zi 14 0)) 0 2 (zi 15 0)) 0 3 (zi 16 0)) 0 4 (zi 17 0)) 0 5 (zi 18 0), [])])
def b0_X1_readToken : Nat × zS := (8, ([(14, (0, 160)), (4, (0, 0))] ++ ze_X1_readToken, [(1, 14, 0)], [(0, zr 0)], [], zfs (zw10c) 0 1 (zi 14 0), [(false, (0, 99992)), (true, (14, 160)), (false, (0, 200000)), (false, (0, 0))]))
def b1_X1_readToken : Nat × zS := (109, ([(14, (1, 160)), (15, (1, 4)), (16, (0, 159)), (4, (0, 0)), (13, (1, 160))] ++ ze_X1_readToken, [(14, 13, 0), (16, 13, (-1))], [(0, zr 0)], [], zfs (zfs (zfs (zw10c) 0 1 (zi 14 0)) 0 2 (zi 15 0)) 0 3 (zi 16 0), [(false, (0, 99891)), (true, (14, 160)), (false, (0, 200000)), (false, (0, 0))]))
def bl_X1_readToken : List (Nat × zS) := [b0_X1_readToken, b1_X1_readToken]
def tb_X1_readToken : zTb := ([(12, 1, 0, 3), (23, 1, 1, 0), (27, 1, 4, 0), (58, 1, 2, 0), (74, 3, 0, 0), (123, 1, 3, 0), (207, 3, 1, 3)], [], [], [(77, k_X1_complain)], [(233, k_X1_sortOf)], [])
def sp_X1_readToken : zSp := []
set_option maxRecDepth 1000000 in
theorem ck0_X1_readToken : zrun tb_X1_readToken sp_X1_readToken pr_X1_readToken 1 0 k_X1_readToken.1 k_X1_readToken.2.1 k_X1_readToken.2.2.2 bl_X1_readToken false 2000 5014 (zst0 k_X1_readToken) 0 = true := by decide +kernel
set_option maxRecDepth 1000000 in
theorem ck1_X1_readToken : zrun tb_X1_readToken sp_X1_readToken pr_X1_readToken 1 0 k_X1_readToken.1 k_X1_readToken.2.1 k_X1_readToken.2.2.2 bl_X1_readToken true 2000 5014 b0_X1_readToken.2 b0_X1_readToken.1 = true := by decide +kernel
set_option maxRecDepth 1000000 in
theorem ck2_X1_readToken : zrun tb_X1_readToken sp_X1_readToken pr_X1_readToken 1 0 k_X1_readToken.1 k_X1_readToken.2.1 k_X1_readToken.2.2.2 bl_X1_readToken true 2000 5014 b1_X1_readToken.2 b1_X1_readToken.1 = true := by decide +kernel
set_option maxRecDepth 1000000 in
theorem ck_X1_readToken : zcheck tb_X1_readToken sp_X1_readToken pr_X1_readToken 1 0 k_X1_readToken bl_X1_readToken 2000 5014 = true := zcheck_of (by decide +kernel) ck0_X1_readToken (List.forall_mem_cons.mpr ⟨ck1_X1_readToken, List.forall_mem_cons.mpr ⟨ck2_X1_readToken, fun _ h => absurd h List.not_mem_nil⟩⟩)
set_option maxRecDepth 100000 in
set_option maxHeartbeats 4000000 in
theorem c_X1_readToken {X : zXT} (hX : zXok X) (hN : zXn X) (l : Launch) : zMet X vwCl l yX1_readToken wsX1_readToken { frames := 2, cells := 0, slots := 0, locals := 86 } k_X1_readToken :=
  zmeth (tb := tb_X1_readToken) (pr := pr_X1_readToken) (bl := bl_X1_readToken) (rt := 0) (own := RX1) hX (by decide +kernel) rfl rfl ⟨Nat.le_of_ble_eq_true rfl, Nat.le_of_ble_eq_true rfl⟩
    (zfl_all (List.forall_mem_cons.mpr ⟨zfl_X1 (fun w h => List.mem_cons_of_mem _ (List.mem_append_left _ (List.mem_append_right _ h))) (List.mem_of_getElem? (i := 3) rfl) (by decide) (by decide), List.forall_mem_cons.mpr ⟨zfl_X1 (fun w h => List.mem_cons_of_mem _ (List.mem_append_left _ (List.mem_append_right _ h))) (List.mem_of_getElem? (i := 2) rfl) (by decide) (by decide), List.forall_mem_cons.mpr ⟨zfl_X1 (fun w h => List.mem_cons_of_mem _ (List.mem_append_left _ (List.mem_append_right _ h))) (List.mem_of_getElem? (i := 1) rfl) (by decide) (by decide), List.forall_mem_cons.mpr ⟨zfl_X1 (fun w h => List.mem_cons_of_mem _ (List.mem_append_left _ (List.mem_append_right _ h))) (List.mem_of_getElem? (i := 7) rfl) (by decide) (by decide), List.forall_mem_cons.mpr ⟨zfl_X3 (fun w h => List.mem_cons_of_mem _ (List.mem_append_right _ h)) (List.mem_of_getElem? (i := 4) rfl) (by decide) (by decide), List.forall_mem_cons.mpr ⟨zfl_X1 (fun w h => List.mem_cons_of_mem _ (List.mem_append_left _ (List.mem_append_right _ h))) (List.mem_of_getElem? (i := 6) rfl) (by decide) (by decide), List.forall_mem_cons.mpr ⟨zfl_X3 (fun w h => List.mem_cons_of_mem _ (List.mem_append_right _ h)) (List.mem_of_getElem? (i := 5) rfl) (by decide) (by decide), fun _ h => absurd h List.not_mem_nil⟩⟩⟩⟩⟩⟩⟩))
    (zco_all (fun _ h => absurd h List.not_mem_nil)) (zlc_all (fun _ h => absurd h List.not_mem_nil))
    (List.forall_mem_cons.mpr ⟨fun p e s m args below meth c A S hx => zcal_V hX S (c_X1_complain hX hN l) (cwV 2 S.2.2.2.2 gX1_readToken_X1_complain rfl rfl rfl (by decide +kernel) ⟨Nat.le_of_ble_eq_true rfl, Nat.le_of_ble_eq_true rfl⟩) rfl ⟨0, 1, _, _, _, rfl, rfl⟩ rfl, fun _ h => absurd h List.not_mem_nil⟩)
    (List.forall_mem_cons.mpr ⟨fun p e s m args below meth c A S hx => zcal_S hX S (c_X1_sortOf hX hN l) (va_cwS 1 S.2.2.2.2 gX1_readToken_X1_sortOf rfl rfl rfl (by decide +kernel) ⟨Nat.le_of_ble_eq_true rfl, Nat.le_of_ble_eq_true rfl⟩) rfl, fun _ h => absurd h List.not_mem_nil⟩)
    (zmm_all (fun _ h => absurd h List.not_mem_nil)) (zpr_all hp_X1_readToken) ck_X1_readToken
def pr_X1_numberHere : List (Nat × Instr × Nat) := [(0, .aload_n 0, 1), (1, .getfield 58, 3), (4, .iconst 2, 1), (5, .if_icmp .eq 14, 3), (8, .aload_n 0, 1), (9, .iconst 2, 1), (10, .aload_n 0, 1), (11, .getfield 123, 3), (14, .invokevirtual 77, 3), (17, .iload_n 1, 1), (18, .ireturn, 1), (19, .iconst 0, 1), (20, .istore_n 3, 1), (21, .aload_n 0, 1), (22, .getfield 123, 3), (25, .istore 4, 2), (27, .iload 4, 2), (29, .aload_n 0, 1), (30, .getfield 23, 3), (33, .if_icmp .ge 28, 3), (36, .bipush 10, 2), (38, .iload_n 3, 1), (39, .imul, 1), (40, .aload_n 0, 1), (41, .getfield 12, 3), (44, .getfield 207, 3), (47, .iload 4, 2), (49, .iaload, 1), (50, .iadd, 1), (51, .bipush 48, 2), (53, .isub, 1), (54, .istore_n 3, 1), (55, .iinc 4 1, 3), (58, .goto (-31), 3), (61, .iload_n 3, 1), (62, .iload_n 1, 1), (63, .iload_n 2, 1), (64, .invokestatic 210, 3), (67, .ifCond .ne 12, 3), (70, .aload_n 0, 1), (71, .iconst 3, 1), (72, .aload_n 0, 1), (73, .getfield 123, 3), (76, .invokevirtual 77, 3), (79, .aload_n 0, 1), (80, .getfield 27, 3), (83, .ifCond .ne 7, 3), (86, .iload_n 3, 1), (87, .goto 4, 3), (90, .iload_n 1, 1), (91, .ireturn, 1)]
set_option maxRecDepth 100000 in
theorem hp_X1_numberHere : pr_X1_numberHere.all (fun x => decide (decode cX1_numberHere x.1 = .ok x.2)) = true := by decide +kernel
def ze_X1_numberHere : zE := [(1, (0, 160)), (2, ((-2147483648), 2147483647)), (3, (0, 160)), (4, (0, 6)), (5, ((-2147483648), 2147483647)), (6, ((-2147483648), 2147483647)), (7, (0, 1)), (8, ((-2147483648), 2147483647)), (9, ((-2147483648), 2147483647)), (10, ((-2147483648), 2147483647)), (11, ((-2147483648), 2147483647)), (12, ((-2147483648), 2147483647)), (13, (0, 160)), (14, (0, 2)), (15, (4, 99))]
def k_X1_numberHere : zK := (16, [0, 1, 2], (ze_X1_numberHere, [], [], [zr 0, zi 14 0, zi 15 0], zw10c, []), [([(16, (0, 99)), (17, (0, 6)), (18, ((-2147483648), 2147483647))], [(4, 17, 0), (14, 16, 0), (16, 15, 0)], [], [zi 16 0], zfs (zfs (zw10c) 0 4 (zi 17 0)) 0 5 (zi 18 0), [])])
def b0_X1_numberHere : Nat × zS := (27, ([(16, (0, 160)), (17, ((-2147483648), 2147483647)), (2, (2, 2))] ++ ze_X1_numberHere, [(3, 16, 0)], [(4, zi 16 0), (3, zi 17 0), (0, zr 0), (1, zi 14 0), (2, zi 15 0)], [], zw10c, [(false, (0, 99973)), (true, (16, 160)), (false, (0, 200000)), (false, (0, 0))]))
def bl_X1_numberHere : List (Nat × zS) := [b0_X1_numberHere]
def tb_X1_numberHere : zTb := ([(12, 1, 0, 3), (23, 1, 1, 0), (27, 1, 4, 0), (58, 1, 2, 0), (123, 1, 3, 0), (207, 3, 1, 3)], [], [], [(77, k_X1_complain)], [(210, k_X7_within)], [])
def sp_X1_numberHere : zSp := []
set_option maxRecDepth 1000000 in
theorem ck0_X1_numberHere : zrun tb_X1_numberHere sp_X1_numberHere pr_X1_numberHere 5 1 k_X1_numberHere.1 k_X1_numberHere.2.1 k_X1_numberHere.2.2.2 bl_X1_numberHere false 2000 5016 (zst0 k_X1_numberHere) 0 = true := by decide +kernel
set_option maxRecDepth 1000000 in
theorem ck1_X1_numberHere : zrun tb_X1_numberHere sp_X1_numberHere pr_X1_numberHere 5 1 k_X1_numberHere.1 k_X1_numberHere.2.1 k_X1_numberHere.2.2.2 bl_X1_numberHere true 2000 5016 b0_X1_numberHere.2 b0_X1_numberHere.1 = true := by decide +kernel
set_option maxRecDepth 1000000 in
theorem ck_X1_numberHere : zcheck tb_X1_numberHere sp_X1_numberHere pr_X1_numberHere 5 1 k_X1_numberHere bl_X1_numberHere 2000 5016 = true := zcheck_of (by decide +kernel) ck0_X1_numberHere (List.forall_mem_cons.mpr ⟨ck1_X1_numberHere, fun _ h => absurd h List.not_mem_nil⟩)
set_option maxRecDepth 100000 in
set_option maxHeartbeats 4000000 in
theorem c_X1_numberHere {X : zXT} (hX : zXok X) (hN : zXn X) (l : Launch) : zMet X vwCl l yX1_numberHere wsX1_numberHere { frames := 2, cells := 0, slots := 0, locals := 86 } k_X1_numberHere :=
  zmeth (tb := tb_X1_numberHere) (pr := pr_X1_numberHere) (bl := bl_X1_numberHere) (rt := 1) (own := RX1) hX (by decide +kernel) rfl rfl ⟨Nat.le_of_ble_eq_true rfl, Nat.le_of_ble_eq_true rfl⟩
    (zfl_all (List.forall_mem_cons.mpr ⟨zfl_X1 (fun w h => List.mem_cons_of_mem _ (List.mem_append_left _ (List.mem_append_right _ h))) (List.mem_of_getElem? (i := 4) rfl) (by decide) (by decide), List.forall_mem_cons.mpr ⟨zfl_X1 (fun w h => List.mem_cons_of_mem _ (List.mem_append_left _ (List.mem_append_right _ h))) (List.mem_of_getElem? (i := 3) rfl) (by decide) (by decide), List.forall_mem_cons.mpr ⟨zfl_X1 (fun w h => List.mem_cons_of_mem _ (List.mem_append_left _ (List.mem_append_right _ h))) (List.mem_of_getElem? (i := 6) rfl) (by decide) (by decide), List.forall_mem_cons.mpr ⟨zfl_X1 (fun w h => List.mem_cons_of_mem _ (List.mem_append_left _ (List.mem_append_right _ h))) (List.mem_of_getElem? (i := 1) rfl) (by decide) (by decide), List.forall_mem_cons.mpr ⟨zfl_X1 (fun w h => List.mem_cons_of_mem _ (List.mem_append_left _ (List.mem_append_right _ h))) (List.mem_of_getElem? (i := 2) rfl) (by decide) (by decide), List.forall_mem_cons.mpr ⟨zfl_X3 (fun w h => List.mem_cons_of_mem _ (List.mem_append_right _ h)) (List.mem_of_getElem? (i := 5) rfl) (by decide) (by decide), fun _ h => absurd h List.not_mem_nil⟩⟩⟩⟩⟩⟩))
    (zco_all (fun _ h => absurd h List.not_mem_nil)) (zlc_all (fun _ h => absurd h List.not_mem_nil))
    (List.forall_mem_cons.mpr ⟨fun p e s m args below meth c A S hx => zcal_V hX S (c_X1_complain hX hN l) (cwV 2 S.2.2.2.2 gX1_numberHere_X1_complain rfl rfl rfl (by decide +kernel) ⟨Nat.le_of_ble_eq_true rfl, Nat.le_of_ble_eq_true rfl⟩) rfl ⟨0, 1, _, _, _, rfl, rfl⟩ rfl, fun _ h => absurd h List.not_mem_nil⟩)
    (List.forall_mem_cons.mpr ⟨fun p e s m args below meth c A S hx => zcal_SN hX S (c_X7_within hX hN l) ⟨va_cnB 3 S.2.2.2.2 ggX1_numberHere_X7_within rfl rfl rfl (hN A s s.heap hx RX1 210 yX7_within RX7 (by decide +kernel)) (S.2.2.2.2 _ (List.mem_of_getElem? (i := 14) rfl)) (by decide +kernel) ⟨Nat.le_of_ble_eq_true rfl, Nat.le_of_ble_eq_true rfl⟩, S.2.2.2.2 _ (List.mem_of_getElem? (i := 13) rfl), trivial⟩ rfl, fun _ h => absurd h List.not_mem_nil⟩)
    (zmm_all (fun _ h => absurd h List.not_mem_nil)) (zpr_all hp_X1_numberHere) ck_X1_numberHere
def pr_X1_needNumber : List (Nat × Instr × Nat) := [(0, .aload_n 0, 1), (1, .invokevirtual 55, 3), (4, .aload_n 0, 1), (5, .iload_n 1, 1), (6, .iload_n 2, 1), (7, .invokevirtual 147, 3), (10, .ireturn, 1)]
set_option maxRecDepth 100000 in
theorem hp_X1_needNumber : pr_X1_needNumber.all (fun x => decide (decode cX1_needNumber x.1 = .ok x.2)) = true := by decide +kernel
def ze_X1_needNumber : zE := [(1, (0, 160)), (2, ((-2147483648), 2147483647)), (3, (0, 160)), (4, (0, 6)), (5, ((-2147483648), 2147483647)), (6, ((-2147483648), 2147483647)), (7, (0, 1)), (8, ((-2147483648), 2147483647)), (9, ((-2147483648), 2147483647)), (10, ((-2147483648), 2147483647)), (11, ((-2147483648), 2147483647)), (12, ((-2147483648), 2147483647)), (13, (0, 160)), (14, (0, 2)), (15, (4, 99))]
def k_X1_needNumber : zK := (16, [0, 1, 2], (ze_X1_needNumber, [], [], [zr 0, zi 14 0, zi 15 0], zw10c, []), [([(16, (0, 99)), (17, (0, 160)), (18, ((-2147483648), 2147483647)), (19, (0, 160)), (20, (0, 6)), (21, ((-2147483648), 2147483647))], [(1, 17, 159), (4, 20, 0), (14, 16, 0), (16, 15, 0)], [], [zi 16 0], zfs (zfs (zfs (zfs (zfs (zw10c) 0 1 (zi 17 0)) 0 2 (zi 18 0)) 0 3 (zi 19 0)) 0 4 (zi 20 0)) 0 5 (zi 21 0), [])])
def bl_X1_needNumber : List (Nat × zS) := []
def tb_X1_needNumber : zTb := ([], [], [], [(55, k_X1_readToken), (147, k_X1_numberHere)], [], [])
def sp_X1_needNumber : zSp := []
set_option maxRecDepth 1000000 in
theorem ck0_X1_needNumber : zrun tb_X1_needNumber sp_X1_needNumber pr_X1_needNumber 3 1 k_X1_needNumber.1 k_X1_needNumber.2.1 k_X1_needNumber.2.2.2 bl_X1_needNumber false 2000 5016 (zst0 k_X1_needNumber) 0 = true := by decide +kernel
set_option maxRecDepth 1000000 in
theorem ck_X1_needNumber : zcheck tb_X1_needNumber sp_X1_needNumber pr_X1_needNumber 3 1 k_X1_needNumber bl_X1_needNumber 2000 5016 = true := zcheck_of (by decide +kernel) ck0_X1_needNumber (fun _ h => absurd h List.not_mem_nil)
set_option maxRecDepth 100000 in
set_option maxHeartbeats 4000000 in
theorem c_X1_needNumber {X : zXT} (hX : zXok X) (hN : zXn X) (l : Launch) : zMet X vwCl l yX1_needNumber wsX1_needNumber { frames := 3, cells := 0, slots := 0, locals := 110 } k_X1_needNumber :=
  zmeth (tb := tb_X1_needNumber) (pr := pr_X1_needNumber) (bl := bl_X1_needNumber) (rt := 1) (own := RX1) hX (by decide +kernel) rfl rfl ⟨Nat.le_of_ble_eq_true rfl, Nat.le_of_ble_eq_true rfl⟩
    (zfl_all (fun _ h => absurd h List.not_mem_nil))
    (zco_all (fun _ h => absurd h List.not_mem_nil)) (zlc_all (fun _ h => absurd h List.not_mem_nil))
    (List.forall_mem_cons.mpr ⟨fun p e s m args below meth c A S hx => zcal_V hX S (c_X1_readToken hX hN l) (cwV 0 S.2.2.2.2 gX1_needNumber_X1_readToken rfl rfl rfl (by decide +kernel) ⟨Nat.le_of_ble_eq_true rfl, Nat.le_of_ble_eq_true rfl⟩) rfl ⟨0, 1, _, _, _, rfl, rfl⟩ rfl, List.forall_mem_cons.mpr ⟨fun p e s m args below meth c A S hx => zcal_V hX S (c_X1_numberHere hX hN l) (cwV 2 S.2.2.2.2 gX1_needNumber_X1_numberHere rfl rfl rfl (by decide +kernel) ⟨Nat.le_of_ble_eq_true rfl, Nat.le_of_ble_eq_true rfl⟩) rfl ⟨0, 1, _, _, _, rfl, rfl⟩ rfl, fun _ h => absurd h List.not_mem_nil⟩⟩)
    (fun _ h => absurd h List.not_mem_nil)
    (zmm_all (fun _ h => absurd h List.not_mem_nil)) (zpr_all hp_X1_needNumber) ck_X1_needNumber
def pr_X1_noteDeed : List (Nat × Instr × Nat) := [(0, .aload_n 0, 1), (1, .aload_n 0, 1), (2, .getfield 52, 3), (5, .iload_n 1, 1), (6, .invokestatic 202, 3), (9, .putfield 52, 3), (12, .iload_n 1, 1), (13, .ireturn, 1)]
set_option maxRecDepth 100000 in
theorem hp_X1_noteDeed : pr_X1_noteDeed.all (fun x => decide (decode cX1_noteDeed x.1 = .ok x.2)) = true := by decide +kernel
def ze_X1_noteDeed : zE := [(1, (0, 160)), (2, ((-2147483648), 2147483647)), (3, (0, 160)), (4, (0, 6)), (5, ((-2147483648), 2147483647)), (6, ((-2147483648), 2147483647)), (7, (0, 1)), (8, ((-2147483648), 2147483647)), (9, ((-2147483648), 2147483647)), (10, ((-2147483648), 2147483647)), (11, ((-2147483648), 2147483647)), (12, ((-2147483648), 2147483647)), (13, (0, 160)), (14, (0, 4))]
def k_X1_noteDeed : zK := (15, [0, 1, 2], (ze_X1_noteDeed, [], [], [zr 0, zi 14 0], zw10c, []), [([(15, (0, 2147483647))], [], [], [zi 14 0], zfs (zw10c) 0 12 (zi 15 0), [])])
def bl_X1_noteDeed : List (Nat × zS) := []
def tb_X1_noteDeed : zTb := ([(52, 1, 12, 0)], [], [], [], [], [(202, 0)])
def sp_X1_noteDeed : zSp := []
set_option maxRecDepth 1000000 in
theorem ck0_X1_noteDeed : zrun tb_X1_noteDeed sp_X1_noteDeed pr_X1_noteDeed 2 1 k_X1_noteDeed.1 k_X1_noteDeed.2.1 k_X1_noteDeed.2.2.2 bl_X1_noteDeed false 2000 5015 (zst0 k_X1_noteDeed) 0 = true := by decide +kernel
set_option maxRecDepth 1000000 in
theorem ck_X1_noteDeed : zcheck tb_X1_noteDeed sp_X1_noteDeed pr_X1_noteDeed 2 1 k_X1_noteDeed bl_X1_noteDeed 2000 5015 = true := zcheck_of (by decide +kernel) ck0_X1_noteDeed (fun _ h => absurd h List.not_mem_nil)
set_option maxRecDepth 100000 in
set_option maxHeartbeats 4000000 in
theorem c_X1_noteDeed {X : zXT} (hX : zXok X) (hN : zXn X) (l : Launch) : zMet X vwCl l yX1_noteDeed wsX1_noteDeed { frames := 1, cells := 0, slots := 0, locals := 64 } k_X1_noteDeed :=
  zmeth (tb := tb_X1_noteDeed) (pr := pr_X1_noteDeed) (bl := bl_X1_noteDeed) (rt := 1) (own := RX1) hX (by decide +kernel) rfl rfl ⟨Nat.le_of_ble_eq_true rfl, Nat.le_of_ble_eq_true rfl⟩
    (zfl_all (List.forall_mem_cons.mpr ⟨zfl_X1 (fun w h => List.mem_cons_of_mem _ (List.mem_append_right _ h)) (List.mem_of_getElem? (i := 1) rfl) (by decide) (by decide), fun _ h => absurd h List.not_mem_nil⟩))
    (zco_all (fun _ h => absurd h List.not_mem_nil)) (zlc_all (fun _ h => absurd h List.not_mem_nil))
    (fun _ h => absurd h List.not_mem_nil)
    (fun _ h => absurd h List.not_mem_nil)
    (zmm_all (List.forall_mem_cons.mpr ⟨⟨List.mem_of_getElem? (i := 2) rfl, List.mem_of_getElem? (i := 3) rfl, List.mem_of_getElem? (i := 4) rfl, List.mem_of_getElem? (i := 5) rfl⟩, fun _ h => absurd h List.not_mem_nil⟩)) (zpr_all hp_X1_noteDeed) ck_X1_noteDeed
def pr_X1_needHouse : List (Nat × Instr × Nat) := [(0, .aload_n 0, 1), (1, .invokevirtual 55, 3), (4, .aload_n 0, 1), (5, .iconst 0, 1), (6, .bipush 6, 2), (8, .invokevirtual 147, 3), (11, .istore_n 1, 1), (12, .aload_n 0, 1), (13, .aload_n 0, 1), (14, .getfield 49, 3), (17, .iload_n 1, 1), (18, .invokestatic 202, 3), (21, .putfield 49, 3), (24, .iload_n 1, 1), (25, .ireturn, 1)]
set_option maxRecDepth 100000 in
theorem hp_X1_needHouse : pr_X1_needHouse.all (fun x => decide (decode cX1_needHouse x.1 = .ok x.2)) = true := by decide +kernel
def ze_X1_needHouse : zE := [(1, (0, 160)), (2, ((-2147483648), 2147483647)), (3, (0, 160)), (4, (0, 6)), (5, ((-2147483648), 2147483647)), (6, ((-2147483648), 2147483647)), (7, (0, 1)), (8, ((-2147483648), 2147483647)), (9, ((-2147483648), 2147483647)), (10, ((-2147483648), 2147483647)), (11, ((-2147483648), 2147483647)), (12, ((-2147483648), 2147483647)), (13, (0, 160))]
def k_X1_needHouse : zK := (14, [0, 1, 2], (ze_X1_needHouse, [], [], [zr 0], zw10c, []), [([(14, (0, 6)), (15, (0, 160)), (16, ((-2147483648), 2147483647)), (17, (0, 160)), (18, (0, 6)), (19, ((-2147483648), 2147483647)), (20, (0, 2147483647))], [(1, 15, 159), (4, 18, 0)], [], [zi 14 0], zfs (zfs (zfs (zfs (zfs (zfs (zw10c) 0 1 (zi 15 0)) 0 2 (zi 16 0)) 0 3 (zi 17 0)) 0 4 (zi 18 0)) 0 5 (zi 19 0)) 0 11 (zi 20 0), [])])
def bl_X1_needHouse : List (Nat × zS) := []
def tb_X1_needHouse : zTb := ([(49, 1, 11, 0)], [], [], [(55, k_X1_readToken), (147, k_X1_numberHere)], [], [(202, 0)])
def sp_X1_needHouse : zSp := []
set_option maxRecDepth 1000000 in
theorem ck0_X1_needHouse : zrun tb_X1_needHouse sp_X1_needHouse pr_X1_needHouse 2 1 k_X1_needHouse.1 k_X1_needHouse.2.1 k_X1_needHouse.2.2.2 bl_X1_needHouse false 2000 5014 (zst0 k_X1_needHouse) 0 = true := by decide +kernel
set_option maxRecDepth 1000000 in
theorem ck_X1_needHouse : zcheck tb_X1_needHouse sp_X1_needHouse pr_X1_needHouse 2 1 k_X1_needHouse bl_X1_needHouse 2000 5014 = true := zcheck_of (by decide +kernel) ck0_X1_needHouse (fun _ h => absurd h List.not_mem_nil)
set_option maxRecDepth 100000 in
set_option maxHeartbeats 4000000 in
theorem c_X1_needHouse {X : zXT} (hX : zXok X) (hN : zXn X) (l : Launch) : zMet X vwCl l yX1_needHouse wsX1_needHouse { frames := 3, cells := 0, slots := 0, locals := 110 } k_X1_needHouse :=
  zmeth (tb := tb_X1_needHouse) (pr := pr_X1_needHouse) (bl := bl_X1_needHouse) (rt := 1) (own := RX1) hX (by decide +kernel) rfl rfl ⟨Nat.le_of_ble_eq_true rfl, Nat.le_of_ble_eq_true rfl⟩
    (zfl_all (List.forall_mem_cons.mpr ⟨zfl_X1 (fun w h => List.mem_cons_of_mem _ (List.mem_append_left _ (List.mem_append_right _ h))) (List.mem_of_getElem? (i := 1) rfl) (by decide) (by decide), fun _ h => absurd h List.not_mem_nil⟩))
    (zco_all (fun _ h => absurd h List.not_mem_nil)) (zlc_all (fun _ h => absurd h List.not_mem_nil))
    (List.forall_mem_cons.mpr ⟨fun p e s m args below meth c A S hx => zcal_V hX S (c_X1_readToken hX hN l) (cwV 0 S.2.2.2.2 gX1_needHouse_X1_readToken rfl rfl rfl (by decide +kernel) ⟨Nat.le_of_ble_eq_true rfl, Nat.le_of_ble_eq_true rfl⟩) rfl ⟨0, 1, _, _, _, rfl, rfl⟩ rfl, List.forall_mem_cons.mpr ⟨fun p e s m args below meth c A S hx => zcal_V hX S (c_X1_numberHere hX hN l) (cwV 2 S.2.2.2.2 gX1_needHouse_X1_numberHere rfl rfl rfl (by decide +kernel) ⟨Nat.le_of_ble_eq_true rfl, Nat.le_of_ble_eq_true rfl⟩) rfl ⟨0, 1, _, _, _, rfl, rfl⟩ rfl, fun _ h => absurd h List.not_mem_nil⟩⟩)
    (fun _ h => absurd h List.not_mem_nil)
    (zmm_all (List.forall_mem_cons.mpr ⟨⟨List.mem_of_getElem? (i := 2) rfl, List.mem_of_getElem? (i := 3) rfl, List.mem_of_getElem? (i := 4) rfl, List.mem_of_getElem? (i := 5) rfl⟩, fun _ h => absurd h List.not_mem_nil⟩)) (zpr_all hp_X1_needHouse) ck_X1_needHouse
def pr_X1_needDeed : List (Nat × Instr × Nat) := [(0, .aload_n 0, 1), (1, .invokevirtual 55, 3), (4, .aload_n 0, 1), (5, .aload_n 0, 1), (6, .iconst 0, 1), (7, .iconst 4, 1), (8, .invokevirtual 147, 3), (11, .invokevirtual 150, 3), (14, .ireturn, 1)]
set_option maxRecDepth 100000 in
theorem hp_X1_needDeed : pr_X1_needDeed.all (fun x => decide (decode cX1_needDeed x.1 = .ok x.2)) = true := by decide +kernel
def ze_X1_needDeed : zE := [(1, (0, 160)), (2, ((-2147483648), 2147483647)), (3, (0, 160)), (4, (0, 6)), (5, ((-2147483648), 2147483647)), (6, ((-2147483648), 2147483647)), (7, (0, 1)), (8, ((-2147483648), 2147483647)), (9, ((-2147483648), 2147483647)), (10, ((-2147483648), 2147483647)), (11, ((-2147483648), 2147483647)), (12, ((-2147483648), 2147483647)), (13, (0, 160))]
def k_X1_needDeed : zK := (14, [0, 1, 2], (ze_X1_needDeed, [], [], [zr 0], zw10c, []), [([(14, (0, 4)), (15, (0, 160)), (16, ((-2147483648), 2147483647)), (17, (0, 160)), (18, (0, 6)), (19, ((-2147483648), 2147483647)), (20, (0, 2147483647))], [(1, 15, 159), (4, 18, 0)], [], [zi 14 0], zfs (zfs (zfs (zfs (zfs (zfs (zw10c) 0 1 (zi 15 0)) 0 2 (zi 16 0)) 0 3 (zi 17 0)) 0 4 (zi 18 0)) 0 5 (zi 19 0)) 0 12 (zi 20 0), [])])
def bl_X1_needDeed : List (Nat × zS) := []
def tb_X1_needDeed : zTb := ([], [], [], [(55, k_X1_readToken), (147, k_X1_numberHere), (150, k_X1_noteDeed)], [], [])
def sp_X1_needDeed : zSp := []
set_option maxRecDepth 1000000 in
theorem ck0_X1_needDeed : zrun tb_X1_needDeed sp_X1_needDeed pr_X1_needDeed 1 1 k_X1_needDeed.1 k_X1_needDeed.2.1 k_X1_needDeed.2.2.2 bl_X1_needDeed false 2000 5014 (zst0 k_X1_needDeed) 0 = true := by decide +kernel
set_option maxRecDepth 1000000 in
theorem ck_X1_needDeed : zcheck tb_X1_needDeed sp_X1_needDeed pr_X1_needDeed 1 1 k_X1_needDeed bl_X1_needDeed 2000 5014 = true := zcheck_of (by decide +kernel) ck0_X1_needDeed (fun _ h => absurd h List.not_mem_nil)
set_option maxRecDepth 100000 in
set_option maxHeartbeats 4000000 in
theorem c_X1_needDeed {X : zXT} (hX : zXok X) (hN : zXn X) (l : Launch) : zMet X vwCl l yX1_needDeed wsX1_needDeed { frames := 3, cells := 0, slots := 0, locals := 110 } k_X1_needDeed :=
  zmeth (tb := tb_X1_needDeed) (pr := pr_X1_needDeed) (bl := bl_X1_needDeed) (rt := 1) (own := RX1) hX (by decide +kernel) rfl rfl ⟨Nat.le_of_ble_eq_true rfl, Nat.le_of_ble_eq_true rfl⟩
    (zfl_all (fun _ h => absurd h List.not_mem_nil))
    (zco_all (fun _ h => absurd h List.not_mem_nil)) (zlc_all (fun _ h => absurd h List.not_mem_nil))
    (List.forall_mem_cons.mpr ⟨fun p e s m args below meth c A S hx => zcal_V hX S (c_X1_readToken hX hN l) (cwV 0 S.2.2.2.2 gX1_needDeed_X1_readToken rfl rfl rfl (by decide +kernel) ⟨Nat.le_of_ble_eq_true rfl, Nat.le_of_ble_eq_true rfl⟩) rfl ⟨0, 1, _, _, _, rfl, rfl⟩ rfl, List.forall_mem_cons.mpr ⟨fun p e s m args below meth c A S hx => zcal_V hX S (c_X1_numberHere hX hN l) (cwV 2 S.2.2.2.2 gX1_needDeed_X1_numberHere rfl rfl rfl (by decide +kernel) ⟨Nat.le_of_ble_eq_true rfl, Nat.le_of_ble_eq_true rfl⟩) rfl ⟨0, 1, _, _, _, rfl, rfl⟩ rfl, List.forall_mem_cons.mpr ⟨fun p e s m args below meth c A S hx => zcal_V hX S (c_X1_noteDeed hX hN l) (cwV 1 S.2.2.2.2 gX1_needDeed_X1_noteDeed rfl rfl rfl (by decide +kernel) ⟨Nat.le_of_ble_eq_true rfl, Nat.le_of_ble_eq_true rfl⟩) rfl ⟨0, 1, _, _, _, rfl, rfl⟩ rfl, fun _ h => absurd h List.not_mem_nil⟩⟩⟩)
    (fun _ h => absurd h List.not_mem_nil)
    (zmm_all (fun _ h => absurd h List.not_mem_nil)) (zpr_all hp_X1_needDeed) ck_X1_needDeed
def pr_X1_tellOnce : List (Nat × Instr × Nat) := [(0, .iload_n 1, 1), (1, .iload_n 2, 1), (2, .invokestatic 195, 3), (5, .iconst 1, 1), (6, .if_icmp .ne 12, 3), (9, .aload_n 0, 1), (10, .iconst 4, 1), (11, .aload_n 0, 1), (12, .getfield 123, 3), (15, .invokevirtual 77, 3), (18, .iload_n 1, 1), (19, .iload_n 2, 1), (20, .iconst 1, 1), (21, .invokestatic 198, 3), (24, .ireturn, 1)]
set_option maxRecDepth 100000 in
theorem hp_X1_tellOnce : pr_X1_tellOnce.all (fun x => decide (decode cX1_tellOnce x.1 = .ok x.2)) = true := by decide +kernel
def ze_X1_tellOnce : zE := [(1, (0, 160)), (2, ((-2147483648), 2147483647)), (3, (0, 160)), (4, (0, 6)), (5, ((-2147483648), 2147483647)), (6, ((-2147483648), 2147483647)), (7, (0, 1)), (8, ((-2147483648), 2147483647)), (9, ((-2147483648), 2147483647)), (10, ((-2147483648), 2147483647)), (11, ((-2147483648), 2147483647)), (12, ((-2147483648), 2147483647)), (13, (0, 160)), (14, ((-2147483648), 2147483647)), (15, (0, 6))]
def k_X1_tellOnce : zK := (16, [0, 1, 2], (ze_X1_tellOnce, [], [], [zr 0, zi 14 0, zi 15 0], zw10c, []), [([(16, ((-2147483648), 2147483647)), (17, (0, 6)), (18, ((-2147483648), 2147483647))], [(4, 17, 0)], [], [zi 16 0], zfs (zfs (zw10c) 0 4 (zi 17 0)) 0 5 (zi 18 0), [])])
def bl_X1_tellOnce : List (Nat × zS) := []
def tb_X1_tellOnce : zTb := ([(123, 1, 3, 0)], [], [], [(77, k_X1_complain)], [(195, k_X7_bit), (198, k_X7_withBit_2)], [])
def sp_X1_tellOnce : zSp := []
set_option maxRecDepth 1000000 in
theorem ck0_X1_tellOnce : zrun tb_X1_tellOnce sp_X1_tellOnce pr_X1_tellOnce 3 1 k_X1_tellOnce.1 k_X1_tellOnce.2.1 k_X1_tellOnce.2.2.2 bl_X1_tellOnce false 2000 5016 (zst0 k_X1_tellOnce) 0 = true := by decide +kernel
set_option maxRecDepth 1000000 in
theorem ck_X1_tellOnce : zcheck tb_X1_tellOnce sp_X1_tellOnce pr_X1_tellOnce 3 1 k_X1_tellOnce bl_X1_tellOnce 2000 5016 = true := zcheck_of (by decide +kernel) ck0_X1_tellOnce (fun _ h => absurd h List.not_mem_nil)
set_option maxRecDepth 100000 in
set_option maxHeartbeats 4000000 in
theorem c_X1_tellOnce {X : zXT} (hX : zXok X) (hN : zXn X) (l : Launch) : zMet X vwCl l yX1_tellOnce wsX1_tellOnce { frames := 2, cells := 0, slots := 0, locals := 86 } k_X1_tellOnce :=
  zmeth (tb := tb_X1_tellOnce) (pr := pr_X1_tellOnce) (bl := bl_X1_tellOnce) (rt := 1) (own := RX1) hX (by decide +kernel) rfl rfl ⟨Nat.le_of_ble_eq_true rfl, Nat.le_of_ble_eq_true rfl⟩
    (zfl_all (List.forall_mem_cons.mpr ⟨zfl_X1 (fun w h => List.mem_cons_of_mem _ (List.mem_append_right _ h)) (List.mem_of_getElem? (i := 1) rfl) (by decide) (by decide), fun _ h => absurd h List.not_mem_nil⟩))
    (zco_all (fun _ h => absurd h List.not_mem_nil)) (zlc_all (fun _ h => absurd h List.not_mem_nil))
    (List.forall_mem_cons.mpr ⟨fun p e s m args below meth c A S hx => zcal_V hX S (c_X1_complain hX hN l) (cwV 2 S.2.2.2.2 gX1_tellOnce_X1_complain rfl rfl rfl (by decide +kernel) ⟨Nat.le_of_ble_eq_true rfl, Nat.le_of_ble_eq_true rfl⟩) rfl ⟨0, 1, _, _, _, rfl, rfl⟩ rfl, fun _ h => absurd h List.not_mem_nil⟩)
    (List.forall_mem_cons.mpr ⟨fun p e s m args below meth c A S hx => zcal_SN hX S (c_X7_bit hX hN l) ⟨va_cnB 2 S.2.2.2.2 ggX1_tellOnce_X7_bit rfl rfl rfl (hN A s s.heap hx RX1 195 yX7_bit RX7 (by decide +kernel)) (S.2.2.2.2 _ (List.mem_of_getElem? (i := 3) rfl)) (by decide +kernel) ⟨Nat.le_of_ble_eq_true rfl, Nat.le_of_ble_eq_true rfl⟩, S.2.2.2.2 _ (List.mem_of_getElem? (i := 2) rfl), trivial⟩ rfl, List.forall_mem_cons.mpr ⟨fun p e s m args below meth c A S hx => zcal_SN hX S (c_X7_withBit_2 hX hN l) ⟨va_cnB 3 S.2.2.2.2 ggX1_tellOnce_X7_withBit rfl rfl rfl (hN A s s.heap hx RX1 198 yX7_withBit RX7 (by decide +kernel)) (S.2.2.2.2 _ (List.mem_of_getElem? (i := 3) rfl)) (by decide +kernel) ⟨Nat.le_of_ble_eq_true rfl, Nat.le_of_ble_eq_true rfl⟩, S.2.2.2.2 _ (List.mem_of_getElem? (i := 12) rfl), trivial⟩ rfl, fun _ h => absurd h List.not_mem_nil⟩⟩)
    (zmm_all (fun _ h => absurd h List.not_mem_nil)) (zpr_all hp_X1_tellOnce) ck_X1_tellOnce
def pr_X1_needStroke : List (Nat × Instr × Nat) := [(0, .aload_n 0, 1), (1, .getfield 58, 3), (4, .iconst 3, 1), (5, .if_icmp .eq 12, 3), (8, .aload_n 0, 1), (9, .iconst 2, 1), (10, .aload_n 0, 1), (11, .getfield 123, 3), (14, .invokevirtual 77, 3), (17, .return_, 1)]
set_option maxRecDepth 100000 in
theorem hp_X1_needStroke : pr_X1_needStroke.all (fun x => decide (decode cX1_needStroke x.1 = .ok x.2)) = true := by decide +kernel
def ze_X1_needStroke : zE := [(1, (0, 160)), (2, ((-2147483648), 2147483647)), (3, (0, 160)), (4, (0, 6)), (5, ((-2147483648), 2147483647)), (6, ((-2147483648), 2147483647)), (7, (0, 1)), (8, ((-2147483648), 2147483647)), (9, ((-2147483648), 2147483647)), (10, ((-2147483648), 2147483647)), (11, ((-2147483648), 2147483647)), (12, ((-2147483648), 2147483647)), (13, (0, 160))]
def k_X1_needStroke : zK := (14, [0, 1, 2], (ze_X1_needStroke, [], [], [zr 0], zw10c, []), [([(14, (0, 6)), (15, ((-2147483648), 2147483647))], [(4, 14, 0)], [], [], zfs (zfs (zw10c) 0 4 (zi 14 0)) 0 5 (zi 15 0), [])])
def bl_X1_needStroke : List (Nat × zS) := []
def tb_X1_needStroke : zTb := ([(58, 1, 2, 0), (123, 1, 3, 0)], [], [], [(77, k_X1_complain)], [], [])
def sp_X1_needStroke : zSp := []
set_option maxRecDepth 1000000 in
theorem ck0_X1_needStroke : zrun tb_X1_needStroke sp_X1_needStroke pr_X1_needStroke 1 0 k_X1_needStroke.1 k_X1_needStroke.2.1 k_X1_needStroke.2.2.2 bl_X1_needStroke false 2000 5014 (zst0 k_X1_needStroke) 0 = true := by decide +kernel
set_option maxRecDepth 1000000 in
theorem ck_X1_needStroke : zcheck tb_X1_needStroke sp_X1_needStroke pr_X1_needStroke 1 0 k_X1_needStroke bl_X1_needStroke 2000 5014 = true := zcheck_of (by decide +kernel) ck0_X1_needStroke (fun _ h => absurd h List.not_mem_nil)
set_option maxRecDepth 100000 in
set_option maxHeartbeats 4000000 in
theorem c_X1_needStroke {X : zXT} (hX : zXok X) (hN : zXn X) (l : Launch) : zMet X vwCl l yX1_needStroke wsX1_needStroke { frames := 2, cells := 0, slots := 0, locals := 86 } k_X1_needStroke :=
  zmeth (tb := tb_X1_needStroke) (pr := pr_X1_needStroke) (bl := bl_X1_needStroke) (rt := 0) (own := RX1) hX (by decide +kernel) rfl rfl ⟨Nat.le_of_ble_eq_true rfl, Nat.le_of_ble_eq_true rfl⟩
    (zfl_all (List.forall_mem_cons.mpr ⟨zfl_X1 (fun w h => List.mem_cons_of_mem _ (List.mem_append_right _ h)) (List.mem_of_getElem? (i := 1) rfl) (by decide) (by decide), List.forall_mem_cons.mpr ⟨zfl_X1 (fun w h => List.mem_cons_of_mem _ (List.mem_append_right _ h)) (List.mem_of_getElem? (i := 2) rfl) (by decide) (by decide), fun _ h => absurd h List.not_mem_nil⟩⟩))
    (zco_all (fun _ h => absurd h List.not_mem_nil)) (zlc_all (fun _ h => absurd h List.not_mem_nil))
    (List.forall_mem_cons.mpr ⟨fun p e s m args below meth c A S hx => zcal_V hX S (c_X1_complain hX hN l) (cwV 2 S.2.2.2.2 gX1_needStroke_X1_complain rfl rfl rfl (by decide +kernel) ⟨Nat.le_of_ble_eq_true rfl, Nat.le_of_ble_eq_true rfl⟩) rfl ⟨0, 1, _, _, _, rfl, rfl⟩ rfl, fun _ h => absurd h List.not_mem_nil⟩)
    (fun _ h => absurd h List.not_mem_nil)
    (zmm_all (fun _ h => absurd h List.not_mem_nil)) (zpr_all hp_X1_needStroke) ck_X1_needStroke
def pr_X1_readShape : List (Nat × Instr × Nat) := [(0, .aload_n 0, 1), (1, .getfield 36, 3), (4, .ifCond .eq 12, 3), (7, .aload_n 0, 1), (8, .iconst 4, 1), (9, .aload_n 0, 1), (10, .getfield 123, 3), (13, .invokevirtual 77, 3), (16, .aload_n 0, 1), (17, .iconst 1, 1), (18, .putfield 36, 3), (21, .aload_n 1, 1), (22, .aload_n 0, 1), (23, .iconst 2, 1), (24, .bipush 7, 2), (26, .invokevirtual 126, 3), (29, .putfield 68, 3), (32, .aload_n 1, 1), (33, .iload_n 2, 1), (34, .putfield 130, 3), (37, .aload_n 0, 1), (38, .invokevirtual 55, 3), (41, .return_, 1)]
set_option maxRecDepth 100000 in
theorem hp_X1_readShape : pr_X1_readShape.all (fun x => decide (decode cX1_readShape x.1 = .ok x.2)) = true := by decide +kernel
def zw11c : zW := [(0, .inl (1, [zr 1, zi 1 0, zi 2 0, zi 3 0, zi 4 0, zi 5 0, zi 6 0, zi 7 0, zi 8 0, zi 9 0, zi 10 0, zi 11 0, zi 12 0])),
  (1, .inl (3, [zi 13 0, zr 2])),
  (2, .inr (.inl (0, 160, [(160, .inl ((-2147483648), 2147483647))], []))),
  (30, .inl (4, [zi 14 0, zi 15 0, zi 16 0, zr 31, zr 32, zr 33, zi 17 0, zr 34, zr 35, zr 36, zr 37, zr 38, zr 43, zr 48, zi 18 0, zi 19 0, zi 20 0, zi 21 0])),
  (31, .inr (.inl (0, 5, [(5, .inl ((-2147483648), 2147483647))], []))),
  (32, .inr (.inl (0, 7, [(7, .inl ((-2147483648), 2147483647))], []))),
  (33, .inr (.inl (0, 7, [(7, .inl ((-2147483648), 2147483647))], []))),
  (34, .inr (.inl (0, 7, [(7, .inl ((-2147483648), 2147483647))], []))),
  (35, .inr (.inl (0, 7, [(7, .inl (0, 4))], []))),
  (36, .inr (.inl (0, 7, [(7, .inl ((-2147483648), 2147483647))], []))),
  (37, .inr (.inl (0, 35, [(35, .inl ((-2147483648), 2147483647))], []))),
  (38, .inl (5, [zi 22 0, zr 39, zr 40, zr 41, zr 42])),
  (39, .inr (.inl (0, 10, [(10, .inl (0, 6))], []))),
  (40, .inr (.inl (0, 10, [(10, .inl ((-2147483648), 2147483647))], []))),
  (41, .inr (.inl (0, 10, [(10, .inl ((-2147483648), 2147483647))], []))),
  (42, .inr (.inl (0, 10, [(10, .inl (0, 4))], []))),
  (43, .inl (5, [zi 23 0, zr 44, zr 45, zr 46, zr 47])),
  (44, .inr (.inl (0, 10, [(10, .inl (0, 6))], []))),
  (45, .inr (.inl (0, 10, [(10, .inl ((-2147483648), 2147483647))], []))),
  (46, .inr (.inl (0, 10, [(10, .inl ((-2147483648), 2147483647))], []))),
  (47, .inr (.inl (0, 10, [(10, .inl (0, 4))], []))),
  (48, .inl (6, [zi 24 0, zr 49, zr 50])),
  (49, .inr (.inl (0, 4, [(4, .inl ((-2147483648), 2147483647))], []))),
  (50, .inr (.inl (0, 4, [(4, .inl ((-2147483648), 2147483647))], [])))]
def ze_X1_readShape : zE := [(1, (0, 160)), (2, ((-2147483648), 2147483647)), (3, (0, 160)), (4, (0, 6)), (5, ((-2147483648), 2147483647)), (6, ((-2147483648), 2147483647)), (7, (0, 1)), (8, ((-2147483648), 2147483647)), (9, ((-2147483648), 2147483647)), (10, ((-2147483648), 2147483647)), (11, ((-2147483648), 2147483647)), (12, ((-2147483648), 2147483647)), (13, (0, 160)), (14, (2, 7)), (15, (0, 1)), (16, (0, 5)), (17, ((-2147483648), 2147483647)), (18, ((-2147483648), 2147483647)), (19, ((-2147483648), 2147483647)), (20, ((-2147483648), 2147483647)), (21, ((-2147483648), 2147483647)), (22, (0, 10)), (23, (0, 10)), (24, (0, 4)), (25, (0, 1))]
def k_X1_readShape : zK := (26, [0, 1, 2, 30, 31, 32, 33, 34, 35, 36, 37, 38, 39, 40, 41, 42, 43, 44, 45, 46, 47, 48, 49, 50], (ze_X1_readShape, [], [], [zr 0, zr 30, zi 25 0], zw11c, []), [([(26, (0, 160)), (27, ((-2147483648), 2147483647)), (28, (0, 160)), (29, (0, 6)), (30, ((-2147483648), 2147483647)), (31, (2, 7))], [(4, 29, 0), (7, 29, 0)], [], [], zfs (zfs (zfs (zfs (zfs (zfs (zfs (zfs (zw11c) 0 1 (zi 26 0)) 0 2 (zi 27 0)) 0 3 (zi 28 0)) 0 4 (zi 29 0)) 0 5 (zi 30 0)) 0 7 (zi 0 1)) 3 0 (zi 31 0)) 3 1 (zi 25 0), [])])
def bl_X1_readShape : List (Nat × zS) := []
def tb_X1_readShape : zTb := ([(36, 1, 7, 1), (68, 4, 0, 0), (123, 1, 3, 0), (130, 4, 1, 1)], [], [], [(55, k_X1_readToken), (77, k_X1_complain), (126, k_X1_needNumber)], [], [])
def sp_X1_readShape : zSp := []
set_option maxRecDepth 1000000 in
theorem ck0_X1_readShape : zrun tb_X1_readShape sp_X1_readShape pr_X1_readShape 3 0 k_X1_readShape.1 k_X1_readShape.2.1 k_X1_readShape.2.2.2 bl_X1_readShape false 2000 5026 (zst0 k_X1_readShape) 0 = true := by decide +kernel
set_option maxRecDepth 1000000 in
theorem ck_X1_readShape : zcheck tb_X1_readShape sp_X1_readShape pr_X1_readShape 3 0 k_X1_readShape bl_X1_readShape 2000 5026 = true := zcheck_of (by decide +kernel) ck0_X1_readShape (fun _ h => absurd h List.not_mem_nil)
set_option maxRecDepth 100000 in
set_option maxHeartbeats 4000000 in
theorem c_X1_readShape {X : zXT} (hX : zXok X) (hN : zXn X) (l : Launch) : zMet X vwCl l yX1_readShape wsX1_readShape { frames := 4, cells := 0, slots := 0, locals := 132 } k_X1_readShape :=
  zmeth (tb := tb_X1_readShape) (pr := pr_X1_readShape) (bl := bl_X1_readShape) (rt := 0) (own := RX1) hX (by decide +kernel) rfl rfl ⟨Nat.le_of_ble_eq_true rfl, Nat.le_of_ble_eq_true rfl⟩
    (zfl_all (List.forall_mem_cons.mpr ⟨zfl_X1 (fun w h => List.mem_cons_of_mem _ (List.mem_append_left _ (List.mem_append_left _ (List.mem_append_right _ h)))) (List.mem_of_getElem? (i := 1) rfl) (by decide) (by decide), List.forall_mem_cons.mpr ⟨zfl_X4 (fun w h => List.mem_cons_of_mem _ (List.mem_append_left _ (List.mem_append_right _ h))) (List.mem_of_getElem? (i := 3) rfl) (by decide) (by decide), List.forall_mem_cons.mpr ⟨zfl_X1 (fun w h => List.mem_cons_of_mem _ (List.mem_append_left _ (List.mem_append_left _ (List.mem_append_right _ h)))) (List.mem_of_getElem? (i := 2) rfl) (by decide) (by decide), List.forall_mem_cons.mpr ⟨zfl_X4 (fun w h => List.mem_cons_of_mem _ (List.mem_append_left _ (List.mem_append_right _ h))) (List.mem_of_getElem? (i := 4) rfl) (by decide) (by decide), fun _ h => absurd h List.not_mem_nil⟩⟩⟩⟩))
    (zco_all (fun _ h => absurd h List.not_mem_nil)) (zlc_all (fun _ h => absurd h List.not_mem_nil))
    (List.forall_mem_cons.mpr ⟨fun p e s m args below meth c A S hx => zcal_V hX S (c_X1_readToken hX hN l) (cwV 0 S.2.2.2.2 gX1_readShape_X1_readToken rfl rfl rfl (by decide +kernel) ⟨Nat.le_of_ble_eq_true rfl, Nat.le_of_ble_eq_true rfl⟩) rfl ⟨0, 1, _, _, _, rfl, rfl⟩ rfl, List.forall_mem_cons.mpr ⟨fun p e s m args below meth c A S hx => zcal_V hX S (c_X1_complain hX hN l) (cwV 2 S.2.2.2.2 gX1_readShape_X1_complain rfl rfl rfl (by decide +kernel) ⟨Nat.le_of_ble_eq_true rfl, Nat.le_of_ble_eq_true rfl⟩) rfl ⟨0, 1, _, _, _, rfl, rfl⟩ rfl, List.forall_mem_cons.mpr ⟨fun p e s m args below meth c A S hx => zcal_V hX S (c_X1_needNumber hX hN l) (cwV 2 S.2.2.2.2 gX1_readShape_X1_needNumber rfl rfl rfl (by decide +kernel) ⟨Nat.le_of_ble_eq_true rfl, Nat.le_of_ble_eq_true rfl⟩) rfl ⟨0, 1, _, _, _, rfl, rfl⟩ rfl, fun _ h => absurd h List.not_mem_nil⟩⟩⟩)
    (fun _ h => absurd h List.not_mem_nil)
    (zmm_all (fun _ h => absurd h List.not_mem_nil)) (zpr_all hp_X1_readShape) ck_X1_readShape
def pr_X1_readDeed : List (Nat × Instr × Nat) := [(0, .aload_n 1, 1), (1, .getfield 71, 3), (4, .iconst 5, 1), (5, .if_icmp .lt 12, 3), (8, .aload_n 0, 1), (9, .iconst 5, 1), (10, .aload_n 0, 1), (11, .getfield 123, 3), (14, .invokevirtual 77, 3), (17, .aload_n 1, 1), (18, .aload_n 0, 1), (19, .iconst 0, 1), (20, .bipush 9, 2), (22, .invokevirtual 126, 3), (25, .invokevirtual 132, 3), (28, .aload_n 0, 1), (29, .invokevirtual 55, 3), (32, .return_, 1)]
set_option maxRecDepth 100000 in
theorem hp_X1_readDeed : pr_X1_readDeed.all (fun x => decide (decode cX1_readDeed x.1 = .ok x.2)) = true := by decide +kernel
def ze_X1_readDeed : zE := [(1, (0, 160)), (2, ((-2147483648), 2147483647)), (3, (0, 160)), (4, (0, 6)), (5, ((-2147483648), 2147483647)), (6, ((-2147483648), 2147483647)), (7, (0, 1)), (8, ((-2147483648), 2147483647)), (9, ((-2147483648), 2147483647)), (10, ((-2147483648), 2147483647)), (11, ((-2147483648), 2147483647)), (12, ((-2147483648), 2147483647)), (13, (0, 160)), (14, (2, 7)), (15, (0, 1)), (16, (0, 5)), (17, ((-2147483648), 2147483647)), (18, ((-2147483648), 2147483647)), (19, ((-2147483648), 2147483647)), (20, ((-2147483648), 2147483647)), (21, ((-2147483648), 2147483647)), (22, (0, 10)), (23, (0, 10)), (24, (0, 4))]
def k_X1_readDeed : zK := (25, [0, 1, 2, 30, 31, 32, 33, 34, 35, 36, 37, 38, 39, 40, 41, 42, 43, 44, 45, 46, 47, 48, 49, 50], (ze_X1_readDeed, [], [], [zr 0, zr 30], zw11c, []), [([(25, (0, 160)), (26, ((-2147483648), 2147483647)), (27, (0, 160)), (28, (0, 6)), (29, ((-2147483648), 2147483647)), (30, (1, 5))], [(4, 28, 0), (16, 28, 4), (16, 30, 0), (30, 16, 1)], [], [], zfs (zfs (zfs (zfs (zfs (zfs (zw11c) 0 1 (zi 25 0)) 0 2 (zi 26 0)) 0 3 (zi 27 0)) 0 4 (zi 28 0)) 0 5 (zi 29 0)) 3 2 (zi 30 0), [])])
def bl_X1_readDeed : List (Nat × zS) := []
def tb_X1_readDeed : zTb := ([(71, 4, 2, 0), (123, 1, 3, 0)], [], [], [(55, k_X1_readToken), (77, k_X1_complain), (126, k_X1_needNumber), (132, k_X4_addDeed)], [], [])
def sp_X1_readDeed : zSp := []
set_option maxRecDepth 1000000 in
theorem ck0_X1_readDeed : zrun tb_X1_readDeed sp_X1_readDeed pr_X1_readDeed 2 0 k_X1_readDeed.1 k_X1_readDeed.2.1 k_X1_readDeed.2.2.2 bl_X1_readDeed false 2000 5025 (zst0 k_X1_readDeed) 0 = true := by decide +kernel
set_option maxRecDepth 1000000 in
theorem ck_X1_readDeed : zcheck tb_X1_readDeed sp_X1_readDeed pr_X1_readDeed 2 0 k_X1_readDeed bl_X1_readDeed 2000 5025 = true := zcheck_of (by decide +kernel) ck0_X1_readDeed (fun _ h => absurd h List.not_mem_nil)
set_option maxRecDepth 100000 in
set_option maxHeartbeats 4000000 in
theorem c_X1_readDeed {X : zXT} (hX : zXok X) (hN : zXn X) (l : Launch) : zMet X vwCl l yX1_readDeed wsX1_readDeed { frames := 4, cells := 0, slots := 0, locals := 132 } k_X1_readDeed :=
  zmeth (tb := tb_X1_readDeed) (pr := pr_X1_readDeed) (bl := bl_X1_readDeed) (rt := 0) (own := RX1) hX (by decide +kernel) rfl rfl ⟨Nat.le_of_ble_eq_true rfl, Nat.le_of_ble_eq_true rfl⟩
    (zfl_all (List.forall_mem_cons.mpr ⟨zfl_X4 (fun w h => List.mem_cons_of_mem _ (List.mem_append_left _ (List.mem_append_left _ (List.mem_append_right _ h)))) (List.mem_of_getElem? (i := 1) rfl) (by decide) (by decide), List.forall_mem_cons.mpr ⟨zfl_X1 (fun w h => List.mem_cons_of_mem _ (List.mem_append_left _ (List.mem_append_right _ h))) (List.mem_of_getElem? (i := 2) rfl) (by decide) (by decide), fun _ h => absurd h List.not_mem_nil⟩⟩))
    (zco_all (fun _ h => absurd h List.not_mem_nil)) (zlc_all (fun _ h => absurd h List.not_mem_nil))
    (List.forall_mem_cons.mpr ⟨fun p e s m args below meth c A S hx => zcal_V hX S (c_X1_readToken hX hN l) (cwV 0 S.2.2.2.2 gX1_readDeed_X1_readToken rfl rfl rfl (by decide +kernel) ⟨Nat.le_of_ble_eq_true rfl, Nat.le_of_ble_eq_true rfl⟩) rfl ⟨0, 1, _, _, _, rfl, rfl⟩ rfl, List.forall_mem_cons.mpr ⟨fun p e s m args below meth c A S hx => zcal_V hX S (c_X1_complain hX hN l) (cwV 2 S.2.2.2.2 gX1_readDeed_X1_complain rfl rfl rfl (by decide +kernel) ⟨Nat.le_of_ble_eq_true rfl, Nat.le_of_ble_eq_true rfl⟩) rfl ⟨0, 1, _, _, _, rfl, rfl⟩ rfl, List.forall_mem_cons.mpr ⟨fun p e s m args below meth c A S hx => zcal_V hX S (c_X1_needNumber hX hN l) (cwV 2 S.2.2.2.2 gX1_readDeed_X1_needNumber rfl rfl rfl (by decide +kernel) ⟨Nat.le_of_ble_eq_true rfl, Nat.le_of_ble_eq_true rfl⟩) rfl ⟨0, 1, _, _, _, rfl, rfl⟩ rfl, List.forall_mem_cons.mpr ⟨fun p e s m args below meth c A S hx => zcal_V hX S (c_X4_addDeed hX hN l) (cwV 1 S.2.2.2.2 gX1_readDeed_X4_addDeed rfl rfl rfl (by decide +kernel) ⟨Nat.le_of_ble_eq_true rfl, Nat.le_of_ble_eq_true rfl⟩) rfl ⟨0, 4, _, _, _, rfl, rfl⟩ rfl, fun _ h => absurd h List.not_mem_nil⟩⟩⟩⟩)
    (fun _ h => absurd h List.not_mem_nil)
    (zmm_all (fun _ h => absurd h List.not_mem_nil)) (zpr_all hp_X1_readDeed) ck_X1_readDeed
def pr_X1_readHouse : List (Nat × Instr × Nat) := [(0, .aload_n 0, 1), (1, .invokevirtual 136, 3), (4, .istore_n 2, 1), (5, .aload_n 0, 1), (6, .aload_n 0, 1), (7, .aload_n 0, 1), (8, .getfield 40, 3), (11, .iload_n 2, 1), (12, .invokevirtual 140, 3), (15, .putfield 40, 3), (18, .aload_n 1, 1), (19, .getfield 143, 3), (22, .iload_n 2, 1), (23, .aload_n 0, 1), (24, .iconst 0, 1), (25, .bipush 99, 2), (27, .invokevirtual 126, 3), (30, .iastore, 1), (31, .aload_n 0, 1), (32, .invokevirtual 55, 3), (35, .iconst 0, 1), (36, .istore_n 3, 1), (37, .iload_n 3, 1), (38, .sipush 160, 3), (41, .if_icmp .ge 58, 3), (44, .aload_n 0, 1), (45, .getfield 27, 3), (48, .ifCond .ne 51, 3), (51, .aload_n 0, 1), (52, .getfield 58, 3), (55, .iconst 2, 1), (56, .if_icmp .ne 43, 3), (59, .aload_n 0, 1), (60, .aload_n 0, 1), (61, .iconst 0, 1), (62, .iconst 4, 1), (63, .invokevirtual 147, 3), (66, .invokevirtual 150, 3), (69, .istore 4, 2), (71, .aload_n 1, 1), (72, .getfield 154, 3), (75, .iload_n 2, 1), (76, .aload_n 0, 1), (77, .aload_n 1, 1), (78, .getfield 154, 3), (81, .iload_n 2, 1), (82, .iaload, 1), (83, .iload 4, 2), (85, .invokevirtual 140, 3), (88, .iastore, 1), (89, .aload_n 0, 1), (90, .invokevirtual 55, 3), (93, .iinc 3 1, 3), (96, .goto (-59), 3), (99, .return_, 1)]
set_option maxRecDepth 100000 in
theorem hp_X1_readHouse : pr_X1_readHouse.all (fun x => decide (decode cX1_readHouse x.1 = .ok x.2)) = true := by decide +kernel
def ze_X1_readHouse : zE := [(1, (0, 160)), (2, ((-2147483648), 2147483647)), (3, (0, 160)), (4, (0, 6)), (5, ((-2147483648), 2147483647)), (6, ((-2147483648), 2147483647)), (7, (0, 1)), (8, ((-2147483648), 2147483647)), (9, ((-2147483648), 2147483647)), (10, ((-2147483648), 2147483647)), (11, ((-2147483648), 2147483647)), (12, ((-2147483648), 2147483647)), (13, (0, 160)), (14, (2, 7)), (15, (0, 1)), (16, (0, 5)), (17, ((-2147483648), 2147483647)), (18, ((-2147483648), 2147483647)), (19, ((-2147483648), 2147483647)), (20, ((-2147483648), 2147483647)), (21, ((-2147483648), 2147483647)), (22, (0, 10)), (23, (0, 10)), (24, (0, 4))]
def k_X1_readHouse : zK := (25, [0, 1, 2, 30, 31, 32, 33, 34, 35, 36, 37, 38, 39, 40, 41, 42, 43, 44, 45, 46, 47, 48, 49, 50], (ze_X1_readHouse, [], [], [zr 0, zr 30], zw11c, []), [([(25, (0, 160)), (26, ((-2147483648), 2147483647)), (27, (0, 160)), (28, (0, 6)), (29, ((-2147483648), 2147483647)), (30, ((-2147483648), 2147483647)), (31, (0, 2147483647)), (32, ((-2147483648), 2147483647))], [(4, 28, 0)], [], [], zfs (zfs (zfs (zfs (zfs (zfs (zfs (zfs (zw11c) 0 1 (zi 25 0)) 0 2 (zi 26 0)) 0 3 (zi 27 0)) 0 4 (zi 28 0)) 0 5 (zi 29 0)) 0 8 (zi 30 0)) 0 11 (zi 31 0)) 0 12 (zi 32 0), [])])
def b0_X1_readHouse : Nat × zS := (37, ([(25, (0, 160)), (26, (0, 6)), (27, (0, 160)), (28, ((-2147483648), 2147483647)), (29, (0, 160)), (30, (0, 6)), (31, ((-2147483648), 2147483647)), (32, ((-2147483648), 2147483647)), (33, (0, 2147483647)), (34, ((-2147483648), 2147483647))] ++ ze_X1_readHouse, [(4, 30, 0)], [(3, zi 25 0), (2, zi 26 0), (0, zr 0), (1, zr 30)], [], zfs (zfs (zfs (zfs (zfs (zfs (zfs (zfs (zw11c) 0 1 (zi 27 0)) 0 2 (zi 28 0)) 0 3 (zi 29 0)) 0 4 (zi 30 0)) 0 5 (zi 31 0)) 0 8 (zi 32 0)) 0 11 (zi 33 0)) 0 12 (zi 34 0), [(false, (0, 99963)), (true, (25, 160)), (false, (0, 200000)), (false, (0, 0))]))
def bl_X1_readHouse : List (Nat × zS) := [b0_X1_readHouse]
def tb_X1_readHouse : zTb := ([(27, 1, 4, 0), (40, 1, 8, 0), (58, 1, 2, 0), (143, 4, 4, 3), (154, 4, 5, 3)], [], [], [(55, k_X1_readToken), (126, k_X1_needNumber), (136, k_X1_needHouse), (140, k_X1_tellOnce), (147, k_X1_numberHere), (150, k_X1_noteDeed)], [], [])
def sp_X1_readHouse : zSp := []
set_option maxRecDepth 1000000 in
theorem ck0_X1_readHouse : zrun tb_X1_readHouse sp_X1_readHouse pr_X1_readHouse 5 0 k_X1_readHouse.1 k_X1_readHouse.2.1 k_X1_readHouse.2.2.2 bl_X1_readHouse false 2000 5025 (zst0 k_X1_readHouse) 0 = true := by decide +kernel
set_option maxRecDepth 1000000 in
theorem ck1_X1_readHouse : zrun tb_X1_readHouse sp_X1_readHouse pr_X1_readHouse 5 0 k_X1_readHouse.1 k_X1_readHouse.2.1 k_X1_readHouse.2.2.2 bl_X1_readHouse true 2000 5025 b0_X1_readHouse.2 b0_X1_readHouse.1 = true := by decide +kernel
set_option maxRecDepth 1000000 in
theorem ck_X1_readHouse : zcheck tb_X1_readHouse sp_X1_readHouse pr_X1_readHouse 5 0 k_X1_readHouse bl_X1_readHouse 2000 5025 = true := zcheck_of (by decide +kernel) ck0_X1_readHouse (List.forall_mem_cons.mpr ⟨ck1_X1_readHouse, fun _ h => absurd h List.not_mem_nil⟩)
set_option maxRecDepth 100000 in
set_option maxHeartbeats 4000000 in
theorem c_X1_readHouse {X : zXT} (hX : zXok X) (hN : zXn X) (l : Launch) : zMet X vwCl l yX1_readHouse wsX1_readHouse { frames := 4, cells := 0, slots := 0, locals := 132 } k_X1_readHouse :=
  zmeth (tb := tb_X1_readHouse) (pr := pr_X1_readHouse) (bl := bl_X1_readHouse) (rt := 0) (own := RX1) hX (by decide +kernel) rfl rfl ⟨Nat.le_of_ble_eq_true rfl, Nat.le_of_ble_eq_true rfl⟩
    (zfl_all (List.forall_mem_cons.mpr ⟨zfl_X1 (fun w h => List.mem_cons_of_mem _ (List.mem_append_left _ (List.mem_append_left _ (List.mem_append_right _ h)))) (List.mem_of_getElem? (i := 3) rfl) (by decide) (by decide), List.forall_mem_cons.mpr ⟨zfl_X1 (fun w h => List.mem_cons_of_mem _ (List.mem_append_left _ (List.mem_append_left _ (List.mem_append_right _ h)))) (List.mem_of_getElem? (i := 1) rfl) (by decide) (by decide), List.forall_mem_cons.mpr ⟨zfl_X1 (fun w h => List.mem_cons_of_mem _ (List.mem_append_left _ (List.mem_append_left _ (List.mem_append_right _ h)))) (List.mem_of_getElem? (i := 4) rfl) (by decide) (by decide), List.forall_mem_cons.mpr ⟨zfl_X4 (fun w h => List.mem_cons_of_mem _ (List.mem_append_left _ (List.mem_append_right _ h))) (List.mem_of_getElem? (i := 2) rfl) (by decide) (by decide), List.forall_mem_cons.mpr ⟨zfl_X4 (fun w h => List.mem_cons_of_mem _ (List.mem_append_left _ (List.mem_append_right _ h))) (List.mem_of_getElem? (i := 5) rfl) (by decide) (by decide), fun _ h => absurd h List.not_mem_nil⟩⟩⟩⟩⟩))
    (zco_all (fun _ h => absurd h List.not_mem_nil)) (zlc_all (fun _ h => absurd h List.not_mem_nil))
    (List.forall_mem_cons.mpr ⟨fun p e s m args below meth c A S hx => zcal_V hX S (c_X1_readToken hX hN l) (cwV 0 S.2.2.2.2 gX1_readHouse_X1_readToken rfl rfl rfl (by decide +kernel) ⟨Nat.le_of_ble_eq_true rfl, Nat.le_of_ble_eq_true rfl⟩) rfl ⟨0, 1, _, _, _, rfl, rfl⟩ rfl, List.forall_mem_cons.mpr ⟨fun p e s m args below meth c A S hx => zcal_V hX S (c_X1_needNumber hX hN l) (cwV 2 S.2.2.2.2 gX1_readHouse_X1_needNumber rfl rfl rfl (by decide +kernel) ⟨Nat.le_of_ble_eq_true rfl, Nat.le_of_ble_eq_true rfl⟩) rfl ⟨0, 1, _, _, _, rfl, rfl⟩ rfl, List.forall_mem_cons.mpr ⟨fun p e s m args below meth c A S hx => zcal_V hX S (c_X1_needHouse hX hN l) (cwV 0 S.2.2.2.2 gX1_readHouse_X1_needHouse rfl rfl rfl (by decide +kernel) ⟨Nat.le_of_ble_eq_true rfl, Nat.le_of_ble_eq_true rfl⟩) rfl ⟨0, 1, _, _, _, rfl, rfl⟩ rfl, List.forall_mem_cons.mpr ⟨fun p e s m args below meth c A S hx => zcal_V hX S (c_X1_tellOnce hX hN l) (cwV 2 S.2.2.2.2 gX1_readHouse_X1_tellOnce rfl rfl rfl (by decide +kernel) ⟨Nat.le_of_ble_eq_true rfl, Nat.le_of_ble_eq_true rfl⟩) rfl ⟨0, 1, _, _, _, rfl, rfl⟩ rfl, List.forall_mem_cons.mpr ⟨fun p e s m args below meth c A S hx => zcal_V hX S (c_X1_numberHere hX hN l) (cwV 2 S.2.2.2.2 gX1_readHouse_X1_numberHere rfl rfl rfl (by decide +kernel) ⟨Nat.le_of_ble_eq_true rfl, Nat.le_of_ble_eq_true rfl⟩) rfl ⟨0, 1, _, _, _, rfl, rfl⟩ rfl, List.forall_mem_cons.mpr ⟨fun p e s m args below meth c A S hx => zcal_V hX S (c_X1_noteDeed hX hN l) (cwV 1 S.2.2.2.2 gX1_readHouse_X1_noteDeed rfl rfl rfl (by decide +kernel) ⟨Nat.le_of_ble_eq_true rfl, Nat.le_of_ble_eq_true rfl⟩) rfl ⟨0, 1, _, _, _, rfl, rfl⟩ rfl, fun _ h => absurd h List.not_mem_nil⟩⟩⟩⟩⟩⟩)
    (fun _ h => absurd h List.not_mem_nil)
    (zmm_all (fun _ h => absurd h List.not_mem_nil)) (zpr_all hp_X1_readHouse) ck_X1_readHouse
def pr_X1_readLawyer : List (Nat × Instr × Nat) := [(0, .aload_n 0, 1), (1, .invokevirtual 136, 3), (4, .istore_n 2, 1), (5, .aload_n 0, 1), (6, .aload_n 0, 1), (7, .aload_n 0, 1), (8, .getfield 43, 3), (11, .iload_n 2, 1), (12, .invokevirtual 140, 3), (15, .putfield 43, 3), (18, .aload_n 1, 1), (19, .aload_n 0, 1), (20, .getfield 43, 3), (23, .putfield 157, 3), (26, .aload_n 0, 1), (27, .invokevirtual 55, 3), (30, .return_, 1)]
set_option maxRecDepth 100000 in
theorem hp_X1_readLawyer : pr_X1_readLawyer.all (fun x => decide (decode cX1_readLawyer x.1 = .ok x.2)) = true := by decide +kernel
def ze_X1_readLawyer : zE := [(1, (0, 160)), (2, ((-2147483648), 2147483647)), (3, (0, 160)), (4, (0, 6)), (5, ((-2147483648), 2147483647)), (6, ((-2147483648), 2147483647)), (7, (0, 1)), (8, ((-2147483648), 2147483647)), (9, ((-2147483648), 2147483647)), (10, ((-2147483648), 2147483647)), (11, ((-2147483648), 2147483647)), (12, ((-2147483648), 2147483647)), (13, (0, 160)), (14, (2, 7)), (15, (0, 1)), (16, (0, 5)), (17, ((-2147483648), 2147483647)), (18, ((-2147483648), 2147483647)), (19, ((-2147483648), 2147483647)), (20, ((-2147483648), 2147483647)), (21, ((-2147483648), 2147483647)), (22, (0, 10)), (23, (0, 10)), (24, (0, 4))]
def k_X1_readLawyer : zK := (25, [0, 1, 2, 30, 31, 32, 33, 34, 35, 36, 37, 38, 39, 40, 41, 42, 43, 44, 45, 46, 47, 48, 49, 50], (ze_X1_readLawyer, [], [], [zr 0, zr 30], zw11c, []), [([(25, (0, 160)), (26, ((-2147483648), 2147483647)), (27, (0, 160)), (28, (0, 6)), (29, ((-2147483648), 2147483647)), (30, ((-2147483648), 2147483647)), (31, (0, 2147483647))], [(4, 28, 0)], [], [], zfs (zfs (zfs (zfs (zfs (zfs (zfs (zfs (zw11c) 0 1 (zi 25 0)) 0 2 (zi 26 0)) 0 3 (zi 27 0)) 0 4 (zi 28 0)) 0 5 (zi 29 0)) 0 9 (zi 30 0)) 0 11 (zi 31 0)) 3 6 (zi 30 0), [])])
def bl_X1_readLawyer : List (Nat × zS) := []
def tb_X1_readLawyer : zTb := ([(43, 1, 9, 0), (157, 4, 6, 0)], [], [], [(55, k_X1_readToken), (136, k_X1_needHouse), (140, k_X1_tellOnce)], [], [])
def sp_X1_readLawyer : zSp := []
set_option maxRecDepth 1000000 in
theorem ck0_X1_readLawyer : zrun tb_X1_readLawyer sp_X1_readLawyer pr_X1_readLawyer 3 0 k_X1_readLawyer.1 k_X1_readLawyer.2.1 k_X1_readLawyer.2.2.2 bl_X1_readLawyer false 2000 5025 (zst0 k_X1_readLawyer) 0 = true := by decide +kernel
set_option maxRecDepth 1000000 in
theorem ck_X1_readLawyer : zcheck tb_X1_readLawyer sp_X1_readLawyer pr_X1_readLawyer 3 0 k_X1_readLawyer bl_X1_readLawyer 2000 5025 = true := zcheck_of (by decide +kernel) ck0_X1_readLawyer (fun _ h => absurd h List.not_mem_nil)
set_option maxRecDepth 100000 in
set_option maxHeartbeats 4000000 in
theorem c_X1_readLawyer {X : zXT} (hX : zXok X) (hN : zXn X) (l : Launch) : zMet X vwCl l yX1_readLawyer wsX1_readLawyer { frames := 4, cells := 0, slots := 0, locals := 131 } k_X1_readLawyer :=
  zmeth (tb := tb_X1_readLawyer) (pr := pr_X1_readLawyer) (bl := bl_X1_readLawyer) (rt := 0) (own := RX1) hX (by decide +kernel) rfl rfl ⟨Nat.le_of_ble_eq_true rfl, Nat.le_of_ble_eq_true rfl⟩
    (zfl_all (List.forall_mem_cons.mpr ⟨zfl_X1 (fun w h => List.mem_cons_of_mem _ (List.mem_append_left _ (List.mem_append_left _ (List.mem_append_right _ h)))) (List.mem_of_getElem? (i := 1) rfl) (by decide) (by decide), List.forall_mem_cons.mpr ⟨zfl_X4 (fun w h => List.mem_cons_of_mem _ (List.mem_append_left _ (List.mem_append_right _ h))) (List.mem_of_getElem? (i := 2) rfl) (by decide) (by decide), fun _ h => absurd h List.not_mem_nil⟩⟩))
    (zco_all (fun _ h => absurd h List.not_mem_nil)) (zlc_all (fun _ h => absurd h List.not_mem_nil))
    (List.forall_mem_cons.mpr ⟨fun p e s m args below meth c A S hx => zcal_V hX S (c_X1_readToken hX hN l) (cwV 0 S.2.2.2.2 gX1_readLawyer_X1_readToken rfl rfl rfl (by decide +kernel) ⟨Nat.le_of_ble_eq_true rfl, Nat.le_of_ble_eq_true rfl⟩) rfl ⟨0, 1, _, _, _, rfl, rfl⟩ rfl, List.forall_mem_cons.mpr ⟨fun p e s m args below meth c A S hx => zcal_V hX S (c_X1_needHouse hX hN l) (cwV 0 S.2.2.2.2 gX1_readLawyer_X1_needHouse rfl rfl rfl (by decide +kernel) ⟨Nat.le_of_ble_eq_true rfl, Nat.le_of_ble_eq_true rfl⟩) rfl ⟨0, 1, _, _, _, rfl, rfl⟩ rfl, List.forall_mem_cons.mpr ⟨fun p e s m args below meth c A S hx => zcal_V hX S (c_X1_tellOnce hX hN l) (cwV 2 S.2.2.2.2 gX1_readLawyer_X1_tellOnce rfl rfl rfl (by decide +kernel) ⟨Nat.le_of_ble_eq_true rfl, Nat.le_of_ble_eq_true rfl⟩) rfl ⟨0, 1, _, _, _, rfl, rfl⟩ rfl, fun _ h => absurd h List.not_mem_nil⟩⟩⟩)
    (fun _ h => absurd h List.not_mem_nil)
    (zmm_all (fun _ h => absurd h List.not_mem_nil)) (zpr_all hp_X1_readLawyer) ck_X1_readLawyer
def pr_X1_readWant : List (Nat × Instr × Nat) := [(0, .aload_n 1, 1), (1, .getfield 185, 3), (4, .getfield 189, 3), (7, .iconst 4, 1), (8, .if_icmp .lt 12, 3), (11, .aload_n 0, 1), (12, .iconst 5, 1), (13, .aload_n 0, 1), (14, .getfield 123, 3), (17, .invokevirtual 77, 3), (20, .aload_n 0, 1), (21, .invokevirtual 136, 3), (24, .istore_n 2, 1), (25, .aload_n 1, 1), (26, .getfield 185, 3), (29, .iload_n 2, 1), (30, .aload_n 0, 1), (31, .invokevirtual 163, 3), (34, .invokevirtual 192, 3), (37, .pop, 1), (38, .aload_n 0, 1), (39, .invokevirtual 55, 3), (42, .return_, 1)]
set_option maxRecDepth 100000 in
theorem hp_X1_readWant : pr_X1_readWant.all (fun x => decide (decode cX1_readWant x.1 = .ok x.2)) = true := by decide +kernel
def ze_X1_readWant : zE := [(1, (0, 160)), (2, ((-2147483648), 2147483647)), (3, (0, 160)), (4, (0, 6)), (5, ((-2147483648), 2147483647)), (6, ((-2147483648), 2147483647)), (7, (0, 1)), (8, ((-2147483648), 2147483647)), (9, ((-2147483648), 2147483647)), (10, ((-2147483648), 2147483647)), (11, ((-2147483648), 2147483647)), (12, ((-2147483648), 2147483647)), (13, (0, 160)), (14, (2, 7)), (15, (0, 1)), (16, (0, 5)), (17, ((-2147483648), 2147483647)), (18, ((-2147483648), 2147483647)), (19, ((-2147483648), 2147483647)), (20, ((-2147483648), 2147483647)), (21, ((-2147483648), 2147483647)), (22, (0, 10)), (23, (0, 10)), (24, (0, 4))]
def k_X1_readWant : zK := (25, [0, 1, 2, 30, 31, 32, 33, 34, 35, 36, 37, 38, 39, 40, 41, 42, 43, 44, 45, 46, 47, 48, 49, 50], (ze_X1_readWant, [], [], [zr 0, zr 30], zw11c, []), [([(25, (0, 160)), (26, ((-2147483648), 2147483647)), (27, (0, 160)), (28, (0, 6)), (29, ((-2147483648), 2147483647)), (30, (0, 2147483647)), (31, (0, 2147483647)), (32, (1, 4))], [(4, 28, 0), (24, 28, 3), (24, 32, 0), (32, 24, 1)], [], [], zfs (zfs (zfs (zfs (zfs (zfs (zfs (zfs (zw11c) 0 1 (zi 25 0)) 0 2 (zi 26 0)) 0 3 (zi 27 0)) 0 4 (zi 28 0)) 0 5 (zi 29 0)) 0 11 (zi 30 0)) 0 12 (zi 31 0)) 21 0 (zi 32 0), [])])
def bl_X1_readWant : List (Nat × zS) := []
def tb_X1_readWant : zTb := ([(123, 1, 3, 0), (185, 4, 13, 3), (189, 6, 0, 0)], [], [], [(55, k_X1_readToken), (77, k_X1_complain), (136, k_X1_needHouse), (163, k_X1_needDeed), (192, k_X6_append)], [], [])
def sp_X1_readWant : zSp := []
set_option maxRecDepth 1000000 in
theorem ck0_X1_readWant : zrun tb_X1_readWant sp_X1_readWant pr_X1_readWant 3 0 k_X1_readWant.1 k_X1_readWant.2.1 k_X1_readWant.2.2.2 bl_X1_readWant false 2000 5025 (zst0 k_X1_readWant) 0 = true := by decide +kernel
set_option maxRecDepth 1000000 in
theorem ck_X1_readWant : zcheck tb_X1_readWant sp_X1_readWant pr_X1_readWant 3 0 k_X1_readWant bl_X1_readWant 2000 5025 = true := zcheck_of (by decide +kernel) ck0_X1_readWant (fun _ h => absurd h List.not_mem_nil)
set_option maxRecDepth 100000 in
set_option maxHeartbeats 4000000 in
theorem c_X1_readWant {X : zXT} (hX : zXok X) (hN : zXn X) (l : Launch) : zMet X vwCl l yX1_readWant wsX1_readWant { frames := 4, cells := 0, slots := 0, locals := 131 } k_X1_readWant :=
  zmeth (tb := tb_X1_readWant) (pr := pr_X1_readWant) (bl := bl_X1_readWant) (rt := 0) (own := RX1) hX (by decide +kernel) rfl rfl ⟨Nat.le_of_ble_eq_true rfl, Nat.le_of_ble_eq_true rfl⟩
    (zfl_all (List.forall_mem_cons.mpr ⟨zfl_X1 (fun w h => List.mem_cons_of_mem _ (List.mem_append_left _ (List.mem_append_right _ h))) (List.mem_of_getElem? (i := 3) rfl) (by decide) (by decide), List.forall_mem_cons.mpr ⟨zfl_X4 (fun w h => List.mem_cons_of_mem _ (List.mem_append_left _ (List.mem_append_left _ (List.mem_append_left _ (List.mem_append_right _ h))))) (List.mem_of_getElem? (i := 1) rfl) (by decide) (by decide), List.forall_mem_cons.mpr ⟨zfl_X6 (fun w h => List.mem_cons_of_mem _ (List.mem_append_left _ (List.mem_append_left _ (List.mem_append_right _ h)))) (List.mem_of_getElem? (i := 2) rfl) (by decide) (by decide), fun _ h => absurd h List.not_mem_nil⟩⟩⟩))
    (zco_all (fun _ h => absurd h List.not_mem_nil)) (zlc_all (fun _ h => absurd h List.not_mem_nil))
    (List.forall_mem_cons.mpr ⟨fun p e s m args below meth c A S hx => zcal_V hX S (c_X1_readToken hX hN l) (cwV 0 S.2.2.2.2 gX1_readWant_X1_readToken rfl rfl rfl (by decide +kernel) ⟨Nat.le_of_ble_eq_true rfl, Nat.le_of_ble_eq_true rfl⟩) rfl ⟨0, 1, _, _, _, rfl, rfl⟩ rfl, List.forall_mem_cons.mpr ⟨fun p e s m args below meth c A S hx => zcal_V hX S (c_X1_complain hX hN l) (cwV 2 S.2.2.2.2 gX1_readWant_X1_complain rfl rfl rfl (by decide +kernel) ⟨Nat.le_of_ble_eq_true rfl, Nat.le_of_ble_eq_true rfl⟩) rfl ⟨0, 1, _, _, _, rfl, rfl⟩ rfl, List.forall_mem_cons.mpr ⟨fun p e s m args below meth c A S hx => zcal_V hX S (c_X1_needHouse hX hN l) (cwV 0 S.2.2.2.2 gX1_readWant_X1_needHouse rfl rfl rfl (by decide +kernel) ⟨Nat.le_of_ble_eq_true rfl, Nat.le_of_ble_eq_true rfl⟩) rfl ⟨0, 1, _, _, _, rfl, rfl⟩ rfl, List.forall_mem_cons.mpr ⟨fun p e s m args below meth c A S hx => zcal_V hX S (c_X1_needDeed hX hN l) (cwV 0 S.2.2.2.2 gX1_readWant_X1_needDeed rfl rfl rfl (by decide +kernel) ⟨Nat.le_of_ble_eq_true rfl, Nat.le_of_ble_eq_true rfl⟩) rfl ⟨0, 1, _, _, _, rfl, rfl⟩ rfl, List.forall_mem_cons.mpr ⟨fun p e s m args below meth c A S hx => zcal_V hX S (c_X6_append hX hN l) (cwV 2 S.2.2.2.2 gX1_readWant_X6_append rfl rfl rfl (by decide +kernel) ⟨Nat.le_of_ble_eq_true rfl, Nat.le_of_ble_eq_true rfl⟩) rfl ⟨0, 6, _, _, _, rfl, rfl⟩ rfl, fun _ h => absurd h List.not_mem_nil⟩⟩⟩⟩⟩)
    (fun _ h => absurd h List.not_mem_nil)
    (zmm_all (fun _ h => absurd h List.not_mem_nil)) (zpr_all hp_X1_readWant) ck_X1_readWant
def pr_X7_feed : List (Nat × Instr × Nat) := [(0, .iload_n 1, 1), (1, .iconst 0, 1), (2, .bipush 127, 2), (4, .invokestatic 49, 3), (7, .ifCond .ne 5, 3), (10, .iconst (-1), 1), (11, .ireturn, 1), (12, .aload_n 0, 1), (13, .getfield 34, 3), (16, .iload_n 1, 1), (17, .invokevirtual 53, 3), (20, .ifCond .eq 13, 3), (23, .aload_n 0, 1), (24, .getfield 34, 3), (27, .getfield 59, 3), (30, .goto 5, 3), (33, .bipush (-3), 2), (35, .ireturn, 1)]
set_option maxRecDepth 100000 in
theorem hp_X7_feed : pr_X7_feed.all (fun x => decide (decode cX7_feed x.1 = .ok x.2)) = true := by decide +kernel
def zw12c : zW := [(0, .inl (7, [zr 100, zr 130, zr 10, zr 11, zr 12, zr 14, zr 17, zi 1 0, zi 2 0])),
  (100, .inl (4, [zi 3 0, zi 4 0, zi 5 0, zr 101, zr 102, zr 103, zi 6 0, zr 104, zr 105, zr 106, zr 107, zr 108, zr 113, zr 118, zi 7 0, zi 8 0, zi 9 0, zi 10 0])),
  (101, .inr (.inl (0, 5, [(5, .inl ((-2147483648), 2147483647))], []))),
  (102, .inr (.inl (0, 7, [(7, .inl ((-2147483648), 2147483647))], []))),
  (103, .inr (.inl (0, 7, [(7, .inl ((-2147483648), 2147483647))], []))),
  (104, .inr (.inl (0, 7, [(7, .inl ((-2147483648), 2147483647))], []))),
  (105, .inr (.inl (0, 7, [(7, .inl (0, 4))], []))),
  (106, .inr (.inl (0, 7, [(7, .inl ((-2147483648), 2147483647))], []))),
  (107, .inr (.inl (0, 35, [(35, .inl ((-2147483648), 2147483647))], []))),
  (108, .inl (5, [zi 11 0, zr 109, zr 110, zr 111, zr 112])),
  (109, .inr (.inl (0, 10, [(10, .inl (0, 6))], []))),
  (110, .inr (.inl (0, 10, [(10, .inl ((-2147483648), 2147483647))], []))),
  (111, .inr (.inl (0, 10, [(10, .inl ((-2147483648), 2147483647))], []))),
  (112, .inr (.inl (0, 10, [(10, .inl (0, 4))], []))),
  (113, .inl (5, [zi 12 0, zr 114, zr 115, zr 116, zr 117])),
  (114, .inr (.inl (0, 10, [(10, .inl (0, 6))], []))),
  (115, .inr (.inl (0, 10, [(10, .inl ((-2147483648), 2147483647))], []))),
  (116, .inr (.inl (0, 10, [(10, .inl ((-2147483648), 2147483647))], []))),
  (117, .inr (.inl (0, 10, [(10, .inl (0, 4))], []))),
  (118, .inl (6, [zi 13 0, zr 119, zr 120])),
  (119, .inr (.inl (0, 4, [(4, .inl ((-2147483648), 2147483647))], []))),
  (120, .inr (.inl (0, 4, [(4, .inl ((-2147483648), 2147483647))], []))),
  (130, .inl (4, [zi 14 0, zi 15 0, zi 16 0, zr 131, zr 132, zr 133, zi 17 0, zr 134, zr 135, zr 136, zr 137, zr 138, zr 143, zr 148, zi 18 0, zi 19 0, zi 20 0, zi 21 0])),
  (131, .inr (.inl (0, 5, [(5, .inl ((-2147483648), 2147483647))], []))),
  (132, .inr (.inl (0, 7, [(7, .inl ((-2147483648), 2147483647))], []))),
  (133, .inr (.inl (0, 7, [(7, .inl ((-2147483648), 2147483647))], []))),
  (134, .inr (.inl (0, 7, [(7, .inl ((-2147483648), 2147483647))], []))),
  (135, .inr (.inl (0, 7, [(7, .inl (0, 4))], []))),
  (136, .inr (.inl (0, 7, [(7, .inl ((-2147483648), 2147483647))], []))),
  (137, .inr (.inl (0, 35, [(35, .inl ((-2147483648), 2147483647))], []))),
  (138, .inl (5, [zi 22 0, zr 139, zr 140, zr 141, zr 142])),
  (139, .inr (.inl (0, 10, [(10, .inl (0, 6))], []))),
  (140, .inr (.inl (0, 10, [(10, .inl ((-2147483648), 2147483647))], []))),
  (141, .inr (.inl (0, 10, [(10, .inl ((-2147483648), 2147483647))], []))),
  (142, .inr (.inl (0, 10, [(10, .inl (0, 4))], []))),
  (143, .inl (5, [zi 23 0, zr 144, zr 145, zr 146, zr 147])),
  (144, .inr (.inl (0, 10, [(10, .inl (0, 6))], []))),
  (145, .inr (.inl (0, 10, [(10, .inl ((-2147483648), 2147483647))], []))),
  (146, .inr (.inl (0, 10, [(10, .inl ((-2147483648), 2147483647))], []))),
  (147, .inr (.inl (0, 10, [(10, .inl (0, 4))], []))),
  (148, .inl (6, [zi 24 0, zr 149, zr 150])),
  (149, .inr (.inl (0, 4, [(4, .inl ((-2147483648), 2147483647))], []))),
  (150, .inr (.inl (0, 4, [(4, .inl ((-2147483648), 2147483647))], []))),
  (10, .inr (.inr (2, [160, 190]))),
  (160, .inl (4, [zi 25 0, zi 26 0, zi 27 0, zr 161, zr 162, zr 163, zi 28 0, zr 164, zr 165, zr 166, zr 167, zr 168, zr 173, zr 178, zi 29 0, zi 30 0, zi 31 0, zi 32 0])),
  (161, .inr (.inl (0, 5, [(5, .inl ((-2147483648), 2147483647))], []))),
  (162, .inr (.inl (0, 7, [(7, .inl ((-2147483648), 2147483647))], []))),
  (163, .inr (.inl (0, 7, [(7, .inl ((-2147483648), 2147483647))], []))),
  (164, .inr (.inl (0, 7, [(7, .inl ((-2147483648), 2147483647))], []))),
  (165, .inr (.inl (0, 7, [(7, .inl (0, 4))], []))),
  (166, .inr (.inl (0, 7, [(7, .inl ((-2147483648), 2147483647))], []))),
  (167, .inr (.inl (0, 35, [(35, .inl ((-2147483648), 2147483647))], []))),
  (168, .inl (5, [zi 33 0, zr 169, zr 170, zr 171, zr 172])),
  (169, .inr (.inl (0, 10, [(10, .inl (0, 6))], []))),
  (170, .inr (.inl (0, 10, [(10, .inl ((-2147483648), 2147483647))], []))),
  (171, .inr (.inl (0, 10, [(10, .inl ((-2147483648), 2147483647))], []))),
  (172, .inr (.inl (0, 10, [(10, .inl (0, 4))], []))),
  (173, .inl (5, [zi 34 0, zr 174, zr 175, zr 176, zr 177])),
  (174, .inr (.inl (0, 10, [(10, .inl (0, 6))], []))),
  (175, .inr (.inl (0, 10, [(10, .inl ((-2147483648), 2147483647))], []))),
  (176, .inr (.inl (0, 10, [(10, .inl ((-2147483648), 2147483647))], []))),
  (177, .inr (.inl (0, 10, [(10, .inl (0, 4))], []))),
  (178, .inl (6, [zi 35 0, zr 179, zr 180])),
  (179, .inr (.inl (0, 4, [(4, .inl ((-2147483648), 2147483647))], []))),
  (180, .inr (.inl (0, 4, [(4, .inl ((-2147483648), 2147483647))], []))),
  (190, .inl (4, [zi 36 0, zi 37 0, zi 38 0, zr 191, zr 192, zr 193, zi 39 0, zr 194, zr 195, zr 196, zr 197, zr 198, zr 203, zr 208, zi 40 0, zi 41 0, zi 42 0, zi 43 0])),
  (191, .inr (.inl (0, 5, [(5, .inl ((-2147483648), 2147483647))], []))),
  (192, .inr (.inl (0, 7, [(7, .inl ((-2147483648), 2147483647))], []))),
  (193, .inr (.inl (0, 7, [(7, .inl ((-2147483648), 2147483647))], []))),
  (194, .inr (.inl (0, 7, [(7, .inl ((-2147483648), 2147483647))], []))),
  (195, .inr (.inl (0, 7, [(7, .inl (0, 4))], []))),
  (196, .inr (.inl (0, 7, [(7, .inl ((-2147483648), 2147483647))], []))),
  (197, .inr (.inl (0, 35, [(35, .inl ((-2147483648), 2147483647))], []))),
  (198, .inl (5, [zi 44 0, zr 199, zr 200, zr 201, zr 202])),
  (199, .inr (.inl (0, 10, [(10, .inl (0, 6))], []))),
  (200, .inr (.inl (0, 10, [(10, .inl ((-2147483648), 2147483647))], []))),
  (201, .inr (.inl (0, 10, [(10, .inl ((-2147483648), 2147483647))], []))),
  (202, .inr (.inl (0, 10, [(10, .inl (0, 4))], []))),
  (203, .inl (5, [zi 45 0, zr 204, zr 205, zr 206, zr 207])),
  (204, .inr (.inl (0, 10, [(10, .inl (0, 6))], []))),
  (205, .inr (.inl (0, 10, [(10, .inl ((-2147483648), 2147483647))], []))),
  (206, .inr (.inl (0, 10, [(10, .inl ((-2147483648), 2147483647))], []))),
  (207, .inr (.inl (0, 10, [(10, .inl (0, 4))], []))),
  (208, .inl (6, [zi 46 0, zr 209, zr 210])),
  (209, .inr (.inl (0, 4, [(4, .inl ((-2147483648), 2147483647))], []))),
  (210, .inr (.inl (0, 4, [(4, .inl ((-2147483648), 2147483647))], []))),
  (11, .inl (1, [zr 12, zi 47 0, zi 48 0, zi 49 0, zi 50 0, zi 51 0, zi 52 0, zi 53 0, zi 54 0, zi 55 0, zi 56 0, zi 57 0, zi 58 0])),
  (12, .inl (3, [zi 59 0, zr 13])),
  (13, .inr (.inl (0, 160, [(160, .inl ((-2147483648), 2147483647))], []))),
  (14, .inl (0, [zr 15, zr 16])),
  (15, .inr (.inl (1, 16, [(16, .inl (0, 1))], []))),
  (16, .inr (.inl (0, 16, [(16, .inl ((-2147483648), 2147483647))], []))),
  (17, .inr (.inr (3, [20, 22, 24, 26]))),
  (20, .inl (2, [zi 60 0, zi 61 0, zr 21])),
  (21, .inr (.inl (0, 40, [(40, .inl ((-2147483648), 2147483647))], []))),
  (22, .inl (2, [zi 62 0, zi 63 0, zr 23])),
  (23, .inr (.inl (0, 40, [(40, .inl ((-2147483648), 2147483647))], []))),
  (24, .inl (2, [zi 64 0, zi 65 0, zr 25])),
  (25, .inr (.inl (0, 40, [(40, .inl ((-2147483648), 2147483647))], []))),
  (26, .inl (2, [zi 66 0, zi 67 0, zr 27])),
  (27, .inr (.inl (0, 40, [(40, .inl ((-2147483648), 2147483647))], [])))]
def ze_X7_feed : zE := [(1, ((-2147483648), 2147483647)), (2, ((-2147483648), 2147483647)), (3, (2, 7)), (4, (0, 1)), (5, (0, 5)), (6, ((-2147483648), 2147483647)), (7, ((-2147483648), 2147483647)), (8, ((-2147483648), 2147483647)), (9, ((-2147483648), 2147483647)), (10, ((-2147483648), 2147483647)), (11, (0, 10)), (12, (0, 10)), (13, (0, 4)), (14, (2, 7)), (15, (0, 1)), (16, (0, 5)), (17, ((-2147483648), 2147483647)), (18, ((-2147483648), 2147483647)), (19, ((-2147483648), 2147483647)), (20, ((-2147483648), 2147483647)), (21, ((-2147483648), 2147483647)), (22, (0, 10)), (23, (0, 10)), (24, (0, 4)), (25, (2, 7)), (26, (0, 1)), (27, (0, 5)), (28, ((-2147483648), 2147483647)), (29, ((-2147483648), 2147483647)), (30, ((-2147483648), 2147483647)), (31, ((-2147483648), 2147483647)), (32, ((-2147483648), 2147483647)), (33, (0, 10)), (34, (0, 10)), (35, (0, 4)), (36, (2, 7)), (37, (0, 1)), (38, (0, 5)), (39, ((-2147483648), 2147483647)), (40, ((-2147483648), 2147483647)), (41, ((-2147483648), 2147483647)), (42, ((-2147483648), 2147483647)), (43, ((-2147483648), 2147483647)), (44, (0, 10)), (45, (0, 10)), (46, (0, 4)), (47, (0, 160)), (48, ((-2147483648), 2147483647)), (49, (0, 160)), (50, (0, 6)), (51, ((-2147483648), 2147483647)), (52, ((-2147483648), 2147483647)), (53, (0, 1)), (54, ((-2147483648), 2147483647)), (55, ((-2147483648), 2147483647)), (56, ((-2147483648), 2147483647)), (57, ((-2147483648), 2147483647)), (58, ((-2147483648), 2147483647)), (59, (0, 160)), (60, ((-2147483648), 2147483647)), (61, (0, 40)), (62, ((-2147483648), 2147483647)), (63, (0, 40)), (64, ((-2147483648), 2147483647)), (65, (0, 40)), (66, ((-2147483648), 2147483647)), (67, (0, 40)), (68, ((-2147483648), 2147483647))]
def k_X7_feed : zK := (69, [0, 100, 101, 102, 103, 104, 105, 106, 107, 108, 109, 110, 111, 112, 113, 114, 115, 116, 117, 118, 119, 120, 130, 131, 132, 133, 134, 135, 136, 137, 138, 139, 140, 141, 142, 143, 144, 145, 146, 147, 148, 149, 150, 10, 160, 161, 162, 163, 164, 165, 166, 167, 168, 169, 170, 171, 172, 173, 174, 175, 176, 177, 178, 179, 180, 190, 191, 192, 193, 194, 195, 196, 197, 198, 199, 200, 201, 202, 203, 204, 205, 206, 207, 208, 209, 210, 11, 12, 13, 14, 15, 16, 17, 20, 21, 22, 23, 24, 25, 26, 27], (ze_X7_feed, [], [], [zr 0, zi 68 0], zw12c, []), [([(69, ((-3), 160)), (70, (0, 160))], [(59, 70, 0), (69, 59, 1), (69, 70, 0), (70, 59, 1)], [], [zi 69 0], zfs (zw12c) 87 0 (zi 70 0), [])])
def bl_X7_feed : List (Nat × zS) := []
def tb_X7_feed : zTb := ([(34, 7, 4, 3), (59, 3, 0, 0)], [], [], [(53, k_X3_append)], [(49, k_X7_within)], [])
def sp_X7_feed : zSp := []
set_option maxRecDepth 1000000 in
theorem ck0_X7_feed : zrun tb_X7_feed sp_X7_feed pr_X7_feed 2 1 k_X7_feed.1 k_X7_feed.2.1 k_X7_feed.2.2.2 bl_X7_feed false 2000 5069 (zst0 k_X7_feed) 0 = true := by decide +kernel
set_option maxRecDepth 1000000 in
theorem ck_X7_feed : zcheck tb_X7_feed sp_X7_feed pr_X7_feed 2 1 k_X7_feed bl_X7_feed 2000 5069 = true := zcheck_of (by decide +kernel) ck0_X7_feed (fun _ h => absurd h List.not_mem_nil)
set_option maxRecDepth 100000 in
set_option maxHeartbeats 4000000 in
theorem c_X7_feed {X : zXT} (hX : zXok X) (hN : zXn X) (l : Launch) : zMet X vwCl l yX7_feed wsX7_feed { frames := 2, cells := 0, slots := 0, locals := 86 } k_X7_feed :=
  zmeth (tb := tb_X7_feed) (pr := pr_X7_feed) (bl := bl_X7_feed) (rt := 1) (own := RX7) hX (by decide +kernel) rfl rfl ⟨Nat.le_of_ble_eq_true rfl, Nat.le_of_ble_eq_true rfl⟩
    (zfl_all (List.forall_mem_cons.mpr ⟨zfl_X7 (fun w h => List.mem_cons_of_mem _ (List.mem_append_left _ (List.mem_append_right _ h))) (List.mem_of_getElem? (i := 1) rfl) (by decide) (by decide), List.forall_mem_cons.mpr ⟨zfl_X3 (fun w h => List.mem_cons_of_mem _ (List.mem_append_right _ h)) (List.mem_of_getElem? (i := 2) rfl) (by decide) (by decide), fun _ h => absurd h List.not_mem_nil⟩⟩))
    (zco_all (fun _ h => absurd h List.not_mem_nil)) (zlc_all (fun _ h => absurd h List.not_mem_nil))
    (List.forall_mem_cons.mpr ⟨fun p e s m args below meth c A S hx => zcal_V hX S (c_X3_append hX hN l) (cwV 1 S.2.2.2.2 gX7_feed_X3_append rfl rfl rfl (by decide +kernel) ⟨Nat.le_of_ble_eq_true rfl, Nat.le_of_ble_eq_true rfl⟩) rfl ⟨0, 3, _, _, _, rfl, rfl⟩ rfl, fun _ h => absurd h List.not_mem_nil⟩)
    (List.forall_mem_cons.mpr ⟨fun p e s m args below meth c A S hx => zcal_S hX S (c_X7_within hX hN l) (va_cwS 3 S.2.2.2.2 gX7_feed_X7_within rfl rfl rfl (by decide +kernel) ⟨Nat.le_of_ble_eq_true rfl, Nat.le_of_ble_eq_true rfl⟩) rfl, fun _ h => absurd h List.not_mem_nil⟩)
    (zmm_all (fun _ h => absurd h List.not_mem_nil)) (zpr_all hp_X7_feed) ck_X7_feed
def pr_X7_end : List (Nat × Instr × Nat) := [(0, .iload_n 1, 1), (1, .iconst 0, 1), (2, .aload_n 0, 1), (3, .getfield 34, 3), (6, .getfield 59, 3), (9, .invokestatic 49, 3), (12, .ifCond .ne 5, 3), (15, .iconst (-1), 1), (16, .ireturn, 1), (17, .aload_n 0, 1), (18, .getfield 34, 3), (21, .getfield 59, 3), (24, .istore_n 2, 1), (25, .aload_n 0, 1), (26, .getfield 34, 3), (29, .iload_n 1, 1), (30, .putfield 59, 3), (33, .iload_n 2, 1), (34, .ireturn, 1)]
set_option maxRecDepth 100000 in
theorem hp_X7_end : pr_X7_end.all (fun x => decide (decode cX7_end x.1 = .ok x.2)) = true := by decide +kernel
def ze_X7_end : zE := [(1, ((-2147483648), 2147483647)), (2, ((-2147483648), 2147483647)), (3, (2, 7)), (4, (0, 1)), (5, (0, 5)), (6, ((-2147483648), 2147483647)), (7, ((-2147483648), 2147483647)), (8, ((-2147483648), 2147483647)), (9, ((-2147483648), 2147483647)), (10, ((-2147483648), 2147483647)), (11, (0, 10)), (12, (0, 10)), (13, (0, 4)), (14, (2, 7)), (15, (0, 1)), (16, (0, 5)), (17, ((-2147483648), 2147483647)), (18, ((-2147483648), 2147483647)), (19, ((-2147483648), 2147483647)), (20, ((-2147483648), 2147483647)), (21, ((-2147483648), 2147483647)), (22, (0, 10)), (23, (0, 10)), (24, (0, 4)), (25, (2, 7)), (26, (0, 1)), (27, (0, 5)), (28, ((-2147483648), 2147483647)), (29, ((-2147483648), 2147483647)), (30, ((-2147483648), 2147483647)), (31, ((-2147483648), 2147483647)), (32, ((-2147483648), 2147483647)), (33, (0, 10)), (34, (0, 10)), (35, (0, 4)), (36, (2, 7)), (37, (0, 1)), (38, (0, 5)), (39, ((-2147483648), 2147483647)), (40, ((-2147483648), 2147483647)), (41, ((-2147483648), 2147483647)), (42, ((-2147483648), 2147483647)), (43, ((-2147483648), 2147483647)), (44, (0, 10)), (45, (0, 10)), (46, (0, 4)), (47, (0, 160)), (48, ((-2147483648), 2147483647)), (49, (0, 160)), (50, (0, 6)), (51, ((-2147483648), 2147483647)), (52, ((-2147483648), 2147483647)), (53, (0, 1)), (54, ((-2147483648), 2147483647)), (55, ((-2147483648), 2147483647)), (56, ((-2147483648), 2147483647)), (57, ((-2147483648), 2147483647)), (58, ((-2147483648), 2147483647)), (59, (0, 160)), (60, ((-2147483648), 2147483647)), (61, (0, 40)), (62, ((-2147483648), 2147483647)), (63, (0, 40)), (64, ((-2147483648), 2147483647)), (65, (0, 40)), (66, ((-2147483648), 2147483647)), (67, (0, 40)), (68, ((-2147483648), 2147483647))]
def k_X7_end : zK := (69, [0, 100, 101, 102, 103, 104, 105, 106, 107, 108, 109, 110, 111, 112, 113, 114, 115, 116, 117, 118, 119, 120, 130, 131, 132, 133, 134, 135, 136, 137, 138, 139, 140, 141, 142, 143, 144, 145, 146, 147, 148, 149, 150, 10, 160, 161, 162, 163, 164, 165, 166, 167, 168, 169, 170, 171, 172, 173, 174, 175, 176, 177, 178, 179, 180, 190, 191, 192, 193, 194, 195, 196, 197, 198, 199, 200, 201, 202, 203, 204, 205, 206, 207, 208, 209, 210, 11, 12, 13, 14, 15, 16, 17, 20, 21, 22, 23, 24, 25, 26, 27], (ze_X7_end, [], [], [zr 0, zi 68 0], zw12c, []), [([(69, ((-1), 160)), (70, (0, 160))], [(69, 59, 0), (70, 59, 0)], [], [zi 69 0], zfs (zw12c) 87 0 (zi 70 0), [])])
def bl_X7_end : List (Nat × zS) := []
def tb_X7_end : zTb := ([(34, 7, 4, 3), (59, 3, 0, 0)], [], [], [], [(49, k_X7_within)], [])
def sp_X7_end : zSp := []
set_option maxRecDepth 1000000 in
theorem ck0_X7_end : zrun tb_X7_end sp_X7_end pr_X7_end 3 1 k_X7_end.1 k_X7_end.2.1 k_X7_end.2.2.2 bl_X7_end false 2000 5069 (zst0 k_X7_end) 0 = true := by decide +kernel
set_option maxRecDepth 1000000 in
theorem ck_X7_end : zcheck tb_X7_end sp_X7_end pr_X7_end 3 1 k_X7_end bl_X7_end 2000 5069 = true := zcheck_of (by decide +kernel) ck0_X7_end (fun _ h => absurd h List.not_mem_nil)
set_option maxRecDepth 100000 in
set_option maxHeartbeats 4000000 in
theorem c_X7_end {X : zXT} (hX : zXok X) (hN : zXn X) (l : Launch) : zMet X vwCl l yX7_end wsX7_end { frames := 2, cells := 0, slots := 0, locals := 86 } k_X7_end :=
  zmeth (tb := tb_X7_end) (pr := pr_X7_end) (bl := bl_X7_end) (rt := 1) (own := RX7) hX (by decide +kernel) rfl rfl ⟨Nat.le_of_ble_eq_true rfl, Nat.le_of_ble_eq_true rfl⟩
    (zfl_all (List.forall_mem_cons.mpr ⟨zfl_X7 (fun w h => List.mem_cons_of_mem _ (List.mem_append_left _ (List.mem_append_right _ h))) (List.mem_of_getElem? (i := 1) rfl) (by decide) (by decide), List.forall_mem_cons.mpr ⟨zfl_X3 (fun w h => List.mem_cons_of_mem _ (List.mem_append_right _ h)) (List.mem_of_getElem? (i := 2) rfl) (by decide) (by decide), fun _ h => absurd h List.not_mem_nil⟩⟩))
    (zco_all (fun _ h => absurd h List.not_mem_nil)) (zlc_all (fun _ h => absurd h List.not_mem_nil))
    (fun _ h => absurd h List.not_mem_nil)
    (List.forall_mem_cons.mpr ⟨fun p e s m args below meth c A S hx => zcal_S hX S (c_X7_within hX hN l) (va_cwS 3 S.2.2.2.2 gX7_end_X7_within rfl rfl rfl (by decide +kernel) ⟨Nat.le_of_ble_eq_true rfl, Nat.le_of_ble_eq_true rfl⟩) rfl, fun _ h => absurd h List.not_mem_nil⟩)
    (zmm_all (fun _ h => absurd h List.not_mem_nil)) (zpr_all hp_X7_end) ck_X7_end
def pr_X7_fault : List (Nat × Instr × Nat) := [(0, .aload_n 0, 1), (1, .getfield 26, 3), (4, .getfield 67, 3), (7, .ireturn, 1)]
set_option maxRecDepth 100000 in
theorem hp_X7_fault : pr_X7_fault.all (fun x => decide (decode cX7_fault x.1 = .ok x.2)) = true := by decide +kernel
def ze_X7_fault : zE := [(1, ((-2147483648), 2147483647)), (2, ((-2147483648), 2147483647)), (3, (2, 7)), (4, (0, 1)), (5, (0, 5)), (6, ((-2147483648), 2147483647)), (7, ((-2147483648), 2147483647)), (8, ((-2147483648), 2147483647)), (9, ((-2147483648), 2147483647)), (10, ((-2147483648), 2147483647)), (11, (0, 10)), (12, (0, 10)), (13, (0, 4)), (14, (2, 7)), (15, (0, 1)), (16, (0, 5)), (17, ((-2147483648), 2147483647)), (18, ((-2147483648), 2147483647)), (19, ((-2147483648), 2147483647)), (20, ((-2147483648), 2147483647)), (21, ((-2147483648), 2147483647)), (22, (0, 10)), (23, (0, 10)), (24, (0, 4)), (25, (2, 7)), (26, (0, 1)), (27, (0, 5)), (28, ((-2147483648), 2147483647)), (29, ((-2147483648), 2147483647)), (30, ((-2147483648), 2147483647)), (31, ((-2147483648), 2147483647)), (32, ((-2147483648), 2147483647)), (33, (0, 10)), (34, (0, 10)), (35, (0, 4)), (36, (2, 7)), (37, (0, 1)), (38, (0, 5)), (39, ((-2147483648), 2147483647)), (40, ((-2147483648), 2147483647)), (41, ((-2147483648), 2147483647)), (42, ((-2147483648), 2147483647)), (43, ((-2147483648), 2147483647)), (44, (0, 10)), (45, (0, 10)), (46, (0, 4)), (47, (0, 160)), (48, ((-2147483648), 2147483647)), (49, (0, 160)), (50, (0, 6)), (51, ((-2147483648), 2147483647)), (52, ((-2147483648), 2147483647)), (53, (0, 1)), (54, ((-2147483648), 2147483647)), (55, ((-2147483648), 2147483647)), (56, ((-2147483648), 2147483647)), (57, ((-2147483648), 2147483647)), (58, ((-2147483648), 2147483647)), (59, (0, 160)), (60, ((-2147483648), 2147483647)), (61, (0, 40)), (62, ((-2147483648), 2147483647)), (63, (0, 40)), (64, ((-2147483648), 2147483647)), (65, (0, 40)), (66, ((-2147483648), 2147483647)), (67, (0, 40))]
def k_X7_fault : zK := (68, [0, 100, 101, 102, 103, 104, 105, 106, 107, 108, 109, 110, 111, 112, 113, 114, 115, 116, 117, 118, 119, 120, 130, 131, 132, 133, 134, 135, 136, 137, 138, 139, 140, 141, 142, 143, 144, 145, 146, 147, 148, 149, 150, 10, 160, 161, 162, 163, 164, 165, 166, 167, 168, 169, 170, 171, 172, 173, 174, 175, 176, 177, 178, 179, 180, 190, 191, 192, 193, 194, 195, 196, 197, 198, 199, 200, 201, 202, 203, 204, 205, 206, 207, 208, 209, 210, 11, 12, 13, 14, 15, 16, 17, 20, 21, 22, 23, 24, 25, 26, 27], (ze_X7_fault, [], [], [zr 0], zw12c, []), [([], [], [], [zi 50 0], zw12c, [])])
def bl_X7_fault : List (Nat × zS) := []
def tb_X7_fault : zTb := ([(26, 7, 3, 3), (67, 1, 4, 0)], [], [], [], [], [])
def sp_X7_fault : zSp := []
set_option maxRecDepth 1000000 in
theorem ck0_X7_fault : zrun tb_X7_fault sp_X7_fault pr_X7_fault 1 1 k_X7_fault.1 k_X7_fault.2.1 k_X7_fault.2.2.2 bl_X7_fault false 2000 5068 (zst0 k_X7_fault) 0 = true := by decide +kernel
set_option maxRecDepth 1000000 in
theorem ck_X7_fault : zcheck tb_X7_fault sp_X7_fault pr_X7_fault 1 1 k_X7_fault bl_X7_fault 2000 5068 = true := zcheck_of (by decide +kernel) ck0_X7_fault (fun _ h => absurd h List.not_mem_nil)
set_option maxRecDepth 100000 in
set_option maxHeartbeats 4000000 in
theorem c_X7_fault {X : zXT} (hX : zXok X) (hN : zXn X) (l : Launch) : zMet X vwCl l yX7_fault wsX7_fault { frames := 1, cells := 0, slots := 0, locals := 64 } k_X7_fault :=
  zmeth (tb := tb_X7_fault) (pr := pr_X7_fault) (bl := bl_X7_fault) (rt := 1) (own := RX7) hX (by decide +kernel) rfl rfl ⟨Nat.le_of_ble_eq_true rfl, Nat.le_of_ble_eq_true rfl⟩
    (zfl_all (List.forall_mem_cons.mpr ⟨zfl_X7 (fun w h => List.mem_cons_of_mem _ (List.mem_append_left _ (List.mem_append_right _ h))) (List.mem_of_getElem? (i := 1) rfl) (by decide) (by decide), List.forall_mem_cons.mpr ⟨zfl_X1 (fun w h => List.mem_cons_of_mem _ (List.mem_append_right _ h)) (List.mem_of_getElem? (i := 2) rfl) (by decide) (by decide), fun _ h => absurd h List.not_mem_nil⟩⟩))
    (zco_all (fun _ h => absurd h List.not_mem_nil)) (zlc_all (fun _ h => absurd h List.not_mem_nil))
    (fun _ h => absurd h List.not_mem_nil)
    (fun _ h => absurd h List.not_mem_nil)
    (zmm_all (fun _ h => absurd h List.not_mem_nil)) (zpr_all hp_X7_fault) ck_X7_fault
def pr_X7_rule : List (Nat × Instr × Nat) := [(0, .iload_n 1, 1), (1, .tableswitch 137 0 8 #[51, 59, 75, 83, 94, 105, 113, 121, 129], 51), (52, .aload_n 0, 1), (53, .getfield 10, 3), (56, .getfield 82, 3), (59, .ireturn, 1), (60, .aload_n 0, 1), (61, .getfield 10, 3), (64, .getfield 85, 3), (67, .ifCond .eq 7, 3), (70, .iconst 1, 1), (71, .goto 4, 3), (74, .iconst 0, 1), (75, .ireturn, 1), (76, .aload_n 0, 1), (77, .getfield 10, 3), (80, .getfield 89, 3), (83, .ireturn, 1), (84, .aload_n 0, 1), (85, .getfield 10, 3), (88, .getfield 92, 3), (91, .getfield 96, 3), (94, .ireturn, 1), (95, .aload_n 0, 1), (96, .getfield 10, 3), (99, .getfield 99, 3), (102, .getfield 103, 3), (105, .ireturn, 1), (106, .aload_n 0, 1), (107, .getfield 10, 3), (110, .getfield 106, 3), (113, .ireturn, 1), (114, .aload_n 0, 1), (115, .getfield 10, 3), (118, .getfield 109, 3), (121, .ireturn, 1), (122, .aload_n 0, 1), (123, .getfield 10, 3), (126, .getfield 112, 3), (129, .ireturn, 1), (130, .aload_n 0, 1), (131, .getfield 10, 3), (134, .getfield 115, 3), (137, .ireturn, 1), (138, .iconst (-1), 1), (139, .ireturn, 1)]
set_option maxRecDepth 100000 in
theorem hp_X7_rule : pr_X7_rule.all (fun x => decide (decode cX7_rule x.1 = .ok x.2)) = true := by decide +kernel
def ze_X7_rule : zE := [(1, ((-2147483648), 2147483647)), (2, ((-2147483648), 2147483647)), (3, (2, 7)), (4, (0, 1)), (5, (0, 5)), (6, ((-2147483648), 2147483647)), (7, ((-2147483648), 2147483647)), (8, ((-2147483648), 2147483647)), (9, ((-2147483648), 2147483647)), (10, ((-2147483648), 2147483647)), (11, (0, 10)), (12, (0, 10)), (13, (0, 4)), (14, (2, 7)), (15, (0, 1)), (16, (0, 5)), (17, ((-2147483648), 2147483647)), (18, ((-2147483648), 2147483647)), (19, ((-2147483648), 2147483647)), (20, ((-2147483648), 2147483647)), (21, ((-2147483648), 2147483647)), (22, (0, 10)), (23, (0, 10)), (24, (0, 4)), (25, (2, 7)), (26, (0, 1)), (27, (0, 5)), (28, ((-2147483648), 2147483647)), (29, ((-2147483648), 2147483647)), (30, ((-2147483648), 2147483647)), (31, ((-2147483648), 2147483647)), (32, ((-2147483648), 2147483647)), (33, (0, 10)), (34, (0, 10)), (35, (0, 4)), (36, (2, 7)), (37, (0, 1)), (38, (0, 5)), (39, ((-2147483648), 2147483647)), (40, ((-2147483648), 2147483647)), (41, ((-2147483648), 2147483647)), (42, ((-2147483648), 2147483647)), (43, ((-2147483648), 2147483647)), (44, (0, 10)), (45, (0, 10)), (46, (0, 4)), (47, (0, 160)), (48, ((-2147483648), 2147483647)), (49, (0, 160)), (50, (0, 6)), (51, ((-2147483648), 2147483647)), (52, ((-2147483648), 2147483647)), (53, (0, 1)), (54, ((-2147483648), 2147483647)), (55, ((-2147483648), 2147483647)), (56, ((-2147483648), 2147483647)), (57, ((-2147483648), 2147483647)), (58, ((-2147483648), 2147483647)), (59, (0, 160)), (60, ((-2147483648), 2147483647)), (61, (0, 40)), (62, ((-2147483648), 2147483647)), (63, (0, 40)), (64, ((-2147483648), 2147483647)), (65, (0, 40)), (66, ((-2147483648), 2147483647)), (67, (0, 40)), (68, ((-2147483648), 2147483647))]
def k_X7_rule : zK := (69, [0, 100, 101, 102, 103, 104, 105, 106, 107, 108, 109, 110, 111, 112, 113, 114, 115, 116, 117, 118, 119, 120, 130, 131, 132, 133, 134, 135, 136, 137, 138, 139, 140, 141, 142, 143, 144, 145, 146, 147, 148, 149, 150, 10, 160, 161, 162, 163, 164, 165, 166, 167, 168, 169, 170, 171, 172, 173, 174, 175, 176, 177, 178, 179, 180, 190, 191, 192, 193, 194, 195, 196, 197, 198, 199, 200, 201, 202, 203, 204, 205, 206, 207, 208, 209, 210, 11, 12, 13, 14, 15, 16, 17, 20, 21, 22, 23, 24, 25, 26, 27], (ze_X7_rule, [], [], [zr 0, zi 68 0], zw12c, []), [([(69, ((-2147483648), 2147483647))], [], [], [zi 69 0], zw12c, [])])
def bl_X7_rule : List (Nat × zS) := []
def tb_X7_rule : zTb := ([(10, 7, 0, 3), (82, 4, 0, 0), (85, 4, 1, 1), (89, 4, 2, 0), (92, 4, 11, 2), (96, 5, 0, 0), (99, 4, 13, 3), (103, 6, 0, 0), (106, 4, 14, 0), (109, 4, 15, 0), (112, 4, 16, 0), (115, 4, 17, 0)], [], [], [], [], [])
def sp_X7_rule : zSp := []
set_option maxRecDepth 1000000 in
theorem ck0_X7_rule : zrun tb_X7_rule sp_X7_rule pr_X7_rule 2 1 k_X7_rule.1 k_X7_rule.2.1 k_X7_rule.2.2.2 bl_X7_rule false 2000 5069 (zst0 k_X7_rule) 0 = true := by decide +kernel
set_option maxRecDepth 1000000 in
theorem ck_X7_rule : zcheck tb_X7_rule sp_X7_rule pr_X7_rule 2 1 k_X7_rule bl_X7_rule 2000 5069 = true := zcheck_of (by decide +kernel) ck0_X7_rule (fun _ h => absurd h List.not_mem_nil)
set_option maxRecDepth 100000 in
set_option maxHeartbeats 4000000 in
theorem c_X7_rule {X : zXT} (hX : zXok X) (hN : zXn X) (l : Launch) : zMet X vwCl l yX7_rule wsX7_rule { frames := 1, cells := 0, slots := 0, locals := 64 } k_X7_rule :=
  zmeth (tb := tb_X7_rule) (pr := pr_X7_rule) (bl := bl_X7_rule) (rt := 1) (own := RX7) hX (by decide +kernel) rfl rfl ⟨Nat.le_of_ble_eq_true rfl, Nat.le_of_ble_eq_true rfl⟩
    (zfl_all (List.forall_mem_cons.mpr ⟨zfl_X7 (fun w h => List.mem_cons_of_mem _ (List.mem_append_left _ (List.mem_append_left _ (List.mem_append_left _ (List.mem_append_right _ h))))) (List.mem_of_getElem? (i := 1) rfl) (by decide) (by decide), List.forall_mem_cons.mpr ⟨zfl_X4 (fun w h => List.mem_cons_of_mem _ (List.mem_append_left _ (List.mem_append_left _ (List.mem_append_right _ h)))) (List.mem_of_getElem? (i := 2) rfl) (by decide) (by decide), List.forall_mem_cons.mpr ⟨zfl_X4 (fun w h => List.mem_cons_of_mem _ (List.mem_append_left _ (List.mem_append_left _ (List.mem_append_right _ h)))) (List.mem_of_getElem? (i := 3) rfl) (by decide) (by decide), List.forall_mem_cons.mpr ⟨zfl_X4 (fun w h => List.mem_cons_of_mem _ (List.mem_append_left _ (List.mem_append_left _ (List.mem_append_right _ h)))) (List.mem_of_getElem? (i := 4) rfl) (by decide) (by decide), List.forall_mem_cons.mpr ⟨zfl_X4 (fun w h => List.mem_cons_of_mem _ (List.mem_append_left _ (List.mem_append_left _ (List.mem_append_right _ h)))) (List.mem_of_getElem? (i := 5) rfl) (by decide) (by decide), List.forall_mem_cons.mpr ⟨zfl_X5 (fun w h => List.mem_cons_of_mem _ (List.mem_append_left _ (List.mem_append_right _ h))) (List.mem_of_getElem? (i := 6) rfl) (by decide) (by decide), List.forall_mem_cons.mpr ⟨zfl_X4 (fun w h => List.mem_cons_of_mem _ (List.mem_append_left _ (List.mem_append_left _ (List.mem_append_right _ h)))) (List.mem_of_getElem? (i := 7) rfl) (by decide) (by decide), List.forall_mem_cons.mpr ⟨zfl_X6 (fun w h => List.mem_cons_of_mem _ (List.mem_append_right _ h)) (List.mem_of_getElem? (i := 8) rfl) (by decide) (by decide), List.forall_mem_cons.mpr ⟨zfl_X4 (fun w h => List.mem_cons_of_mem _ (List.mem_append_left _ (List.mem_append_left _ (List.mem_append_right _ h)))) (List.mem_of_getElem? (i := 9) rfl) (by decide) (by decide), List.forall_mem_cons.mpr ⟨zfl_X4 (fun w h => List.mem_cons_of_mem _ (List.mem_append_left _ (List.mem_append_left _ (List.mem_append_right _ h)))) (List.mem_of_getElem? (i := 10) rfl) (by decide) (by decide), List.forall_mem_cons.mpr ⟨zfl_X4 (fun w h => List.mem_cons_of_mem _ (List.mem_append_left _ (List.mem_append_left _ (List.mem_append_right _ h)))) (List.mem_of_getElem? (i := 11) rfl) (by decide) (by decide), List.forall_mem_cons.mpr ⟨zfl_X4 (fun w h => List.mem_cons_of_mem _ (List.mem_append_left _ (List.mem_append_left _ (List.mem_append_right _ h)))) (List.mem_of_getElem? (i := 12) rfl) (by decide) (by decide), fun _ h => absurd h List.not_mem_nil⟩⟩⟩⟩⟩⟩⟩⟩⟩⟩⟩⟩))
    (zco_all (fun _ h => absurd h List.not_mem_nil)) (zlc_all (fun _ h => absurd h List.not_mem_nil))
    (fun _ h => absurd h List.not_mem_nil)
    (fun _ h => absurd h List.not_mem_nil)
    (zmm_all (fun _ h => absurd h List.not_mem_nil)) (zpr_all hp_X7_rule) ck_X7_rule
def pr_X7_house : List (Nat × Instr × Nat) := [(0, .aload_n 0, 1), (1, .getfield 10, 3), (4, .iload_n 1, 1), (5, .invokevirtual 118, 3), (8, .ifCond .ne 5, 3), (11, .iconst (-1), 1), (12, .ireturn, 1), (13, .iload_n 2, 1), (14, .tableswitch 100 0 5 #[38, 48, 58, 70, 80, 90], 38), (52, .aload_n 0, 1), (53, .getfield 10, 3), (56, .getfield 121, 3), (59, .iload_n 1, 1), (60, .iaload, 1), (61, .ireturn, 1), (62, .aload_n 0, 1), (63, .getfield 10, 3), (66, .getfield 125, 3), (69, .iload_n 1, 1), (70, .iaload, 1), (71, .ireturn, 1), (72, .aload_n 0, 1), (73, .getfield 10, 3), (76, .getfield 128, 3), (79, .iload_n 1, 1), (80, .invokestatic 131, 3), (83, .ireturn, 1), (84, .aload_n 0, 1), (85, .getfield 10, 3), (88, .getfield 135, 3), (91, .iload_n 1, 1), (92, .iaload, 1), (93, .ireturn, 1), (94, .aload_n 0, 1), (95, .getfield 10, 3), (98, .getfield 138, 3), (101, .iload_n 1, 1), (102, .iaload, 1), (103, .ireturn, 1), (104, .aload_n 0, 1), (105, .getfield 10, 3), (108, .getfield 141, 3), (111, .iload_n 1, 1), (112, .iaload, 1), (113, .ireturn, 1), (114, .iload_n 2, 1), (115, .bipush 10, 2), (117, .bipush 10, 2), (119, .aload_n 0, 1), (120, .getfield 10, 3), (123, .getfield 89, 3), (126, .iadd, 1), (127, .iconst 1, 1), (128, .isub, 1), (129, .invokestatic 49, 3), (132, .ifCond .ne 5, 3), (135, .iconst (-1), 1), (136, .ireturn, 1), (137, .aload_n 0, 1), (138, .getfield 10, 3), (141, .getfield 144, 3), (144, .iload_n 1, 1), (145, .iload_n 2, 1), (146, .bipush 10, 2), (148, .isub, 1), (149, .invokestatic 147, 3), (152, .iaload, 1), (153, .ireturn, 1)]
set_option maxRecDepth 100000 in
theorem hp_X7_house : pr_X7_house.all (fun x => decide (decode cX7_house x.1 = .ok x.2)) = true := by decide +kernel
def ze_X7_house : zE := [(1, ((-2147483648), 2147483647)), (2, ((-2147483648), 2147483647)), (3, (2, 7)), (4, (0, 1)), (5, (0, 5)), (6, ((-2147483648), 2147483647)), (7, ((-2147483648), 2147483647)), (8, ((-2147483648), 2147483647)), (9, ((-2147483648), 2147483647)), (10, ((-2147483648), 2147483647)), (11, (0, 10)), (12, (0, 10)), (13, (0, 4)), (14, (2, 7)), (15, (0, 1)), (16, (0, 5)), (17, ((-2147483648), 2147483647)), (18, ((-2147483648), 2147483647)), (19, ((-2147483648), 2147483647)), (20, ((-2147483648), 2147483647)), (21, ((-2147483648), 2147483647)), (22, (0, 10)), (23, (0, 10)), (24, (0, 4)), (25, (2, 7)), (26, (0, 1)), (27, (0, 5)), (28, ((-2147483648), 2147483647)), (29, ((-2147483648), 2147483647)), (30, ((-2147483648), 2147483647)), (31, ((-2147483648), 2147483647)), (32, ((-2147483648), 2147483647)), (33, (0, 10)), (34, (0, 10)), (35, (0, 4)), (36, (2, 7)), (37, (0, 1)), (38, (0, 5)), (39, ((-2147483648), 2147483647)), (40, ((-2147483648), 2147483647)), (41, ((-2147483648), 2147483647)), (42, ((-2147483648), 2147483647)), (43, ((-2147483648), 2147483647)), (44, (0, 10)), (45, (0, 10)), (46, (0, 4)), (47, (0, 160)), (48, ((-2147483648), 2147483647)), (49, (0, 160)), (50, (0, 6)), (51, ((-2147483648), 2147483647)), (52, ((-2147483648), 2147483647)), (53, (0, 1)), (54, ((-2147483648), 2147483647)), (55, ((-2147483648), 2147483647)), (56, ((-2147483648), 2147483647)), (57, ((-2147483648), 2147483647)), (58, ((-2147483648), 2147483647)), (59, (0, 160)), (60, ((-2147483648), 2147483647)), (61, (0, 40)), (62, ((-2147483648), 2147483647)), (63, (0, 40)), (64, ((-2147483648), 2147483647)), (65, (0, 40)), (66, ((-2147483648), 2147483647)), (67, (0, 40)), (68, ((-2147483648), 2147483647)), (69, ((-2147483648), 2147483647))]
def k_X7_house : zK := (70, [0, 100, 101, 102, 103, 104, 105, 106, 107, 108, 109, 110, 111, 112, 113, 114, 115, 116, 117, 118, 119, 120, 130, 131, 132, 133, 134, 135, 136, 137, 138, 139, 140, 141, 142, 143, 144, 145, 146, 147, 148, 149, 150, 10, 160, 161, 162, 163, 164, 165, 166, 167, 168, 169, 170, 171, 172, 173, 174, 175, 176, 177, 178, 179, 180, 190, 191, 192, 193, 194, 195, 196, 197, 198, 199, 200, 201, 202, 203, 204, 205, 206, 207, 208, 209, 210, 11, 12, 13, 14, 15, 16, 17, 20, 21, 22, 23, 24, 25, 26, 27], (ze_X7_house, [], [], [zr 0, zi 68 0, zi 69 0], zw12c, []), [([(70, ((-2147483648), 2147483647))], [], [], [zi 70 0], zw12c, [])])
def bl_X7_house : List (Nat × zS) := []
def tb_X7_house : zTb := ([(10, 7, 0, 3), (89, 4, 2, 0), (121, 4, 4, 3), (125, 4, 5, 3), (128, 4, 6, 0), (135, 4, 7, 3), (138, 4, 8, 3), (141, 4, 9, 3), (144, 4, 10, 3)], [], [], [(118, k_X4_isHouse)], [(49, k_X7_within), (131, k_X7_bit), (147, k_X7_doneAt)], [])
def sp_X7_house : zSp := []
set_option maxRecDepth 1000000 in
theorem ck0_X7_house : zrun tb_X7_house sp_X7_house pr_X7_house 3 1 k_X7_house.1 k_X7_house.2.1 k_X7_house.2.2.2 bl_X7_house false 2000 5070 (zst0 k_X7_house) 0 = true := by decide +kernel
set_option maxRecDepth 1000000 in
theorem ck_X7_house : zcheck tb_X7_house sp_X7_house pr_X7_house 3 1 k_X7_house bl_X7_house 2000 5070 = true := zcheck_of (by decide +kernel) ck0_X7_house (fun _ h => absurd h List.not_mem_nil)
set_option maxRecDepth 100000 in
set_option maxHeartbeats 4000000 in
theorem c_X7_house {X : zXT} (hX : zXok X) (hN : zXn X) (l : Launch) : zMet X vwCl l yX7_house wsX7_house { frames := 3, cells := 0, slots := 0, locals := 107 } k_X7_house :=
  zmeth (tb := tb_X7_house) (pr := pr_X7_house) (bl := bl_X7_house) (rt := 1) (own := RX7) hX (by decide +kernel) rfl rfl ⟨Nat.le_of_ble_eq_true rfl, Nat.le_of_ble_eq_true rfl⟩
    (zfl_all (List.forall_mem_cons.mpr ⟨zfl_X7 (fun w h => List.mem_cons_of_mem _ (List.mem_append_left _ (List.mem_append_right _ h))) (List.mem_of_getElem? (i := 1) rfl) (by decide) (by decide), List.forall_mem_cons.mpr ⟨zfl_X4 (fun w h => List.mem_cons_of_mem _ (List.mem_append_right _ h)) (List.mem_of_getElem? (i := 8) rfl) (by decide) (by decide), List.forall_mem_cons.mpr ⟨zfl_X4 (fun w h => List.mem_cons_of_mem _ (List.mem_append_right _ h)) (List.mem_of_getElem? (i := 2) rfl) (by decide) (by decide), List.forall_mem_cons.mpr ⟨zfl_X4 (fun w h => List.mem_cons_of_mem _ (List.mem_append_right _ h)) (List.mem_of_getElem? (i := 3) rfl) (by decide) (by decide), List.forall_mem_cons.mpr ⟨zfl_X4 (fun w h => List.mem_cons_of_mem _ (List.mem_append_right _ h)) (List.mem_of_getElem? (i := 4) rfl) (by decide) (by decide), List.forall_mem_cons.mpr ⟨zfl_X4 (fun w h => List.mem_cons_of_mem _ (List.mem_append_right _ h)) (List.mem_of_getElem? (i := 5) rfl) (by decide) (by decide), List.forall_mem_cons.mpr ⟨zfl_X4 (fun w h => List.mem_cons_of_mem _ (List.mem_append_right _ h)) (List.mem_of_getElem? (i := 6) rfl) (by decide) (by decide), List.forall_mem_cons.mpr ⟨zfl_X4 (fun w h => List.mem_cons_of_mem _ (List.mem_append_right _ h)) (List.mem_of_getElem? (i := 7) rfl) (by decide) (by decide), List.forall_mem_cons.mpr ⟨zfl_X4 (fun w h => List.mem_cons_of_mem _ (List.mem_append_right _ h)) (List.mem_of_getElem? (i := 9) rfl) (by decide) (by decide), fun _ h => absurd h List.not_mem_nil⟩⟩⟩⟩⟩⟩⟩⟩⟩))
    (zco_all (fun _ h => absurd h List.not_mem_nil)) (zlc_all (fun _ h => absurd h List.not_mem_nil))
    (List.forall_mem_cons.mpr ⟨fun p e s m args below meth c A S hx => zcal_V hX S (c_X4_isHouse hX hN l) (cwV 1 S.2.2.2.2 gX7_house_X4_isHouse rfl rfl rfl (by decide +kernel) ⟨Nat.le_of_ble_eq_true rfl, Nat.le_of_ble_eq_true rfl⟩) rfl ⟨0, 4, _, _, _, rfl, rfl⟩ rfl, fun _ h => absurd h List.not_mem_nil⟩)
    (List.forall_mem_cons.mpr ⟨fun p e s m args below meth c A S hx => zcal_S hX S (c_X7_within hX hN l) (va_cwS 3 S.2.2.2.2 gX7_house_X7_within rfl rfl rfl (by decide +kernel) ⟨Nat.le_of_ble_eq_true rfl, Nat.le_of_ble_eq_true rfl⟩) rfl, List.forall_mem_cons.mpr ⟨fun p e s m args below meth c A S hx => zcal_S hX S (c_X7_bit hX hN l) (va_cwS 2 S.2.2.2.2 gX7_house_X7_bit rfl rfl rfl (by decide +kernel) ⟨Nat.le_of_ble_eq_true rfl, Nat.le_of_ble_eq_true rfl⟩) rfl, List.forall_mem_cons.mpr ⟨fun p e s m args below meth c A S hx => zcal_S hX S (c_X7_doneAt hX hN l) (va_cwS 2 S.2.2.2.2 gX7_house_X7_doneAt rfl rfl rfl (by decide +kernel) ⟨Nat.le_of_ble_eq_true rfl, Nat.le_of_ble_eq_true rfl⟩) rfl, fun _ h => absurd h List.not_mem_nil⟩⟩⟩)
    (zmm_all (fun _ h => absurd h List.not_mem_nil)) (zpr_all hp_X7_house) ck_X7_house
def pr_X7_cost : List (Nat × Instr × Nat) := [(0, .aload_n 0, 1), (1, .getfield 10, 3), (4, .iload_n 1, 1), (5, .invokevirtual 150, 3), (8, .ifCond .eq 15, 3), (11, .aload_n 0, 1), (12, .getfield 10, 3), (15, .getfield 153, 3), (18, .iload_n 1, 1), (19, .iaload, 1), (20, .goto 4, 3), (23, .iconst (-1), 1), (24, .ireturn, 1)]
set_option maxRecDepth 100000 in
theorem hp_X7_cost : pr_X7_cost.all (fun x => decide (decode cX7_cost x.1 = .ok x.2)) = true := by decide +kernel
def ze_X7_cost : zE := [(1, ((-2147483648), 2147483647)), (2, ((-2147483648), 2147483647)), (3, (2, 7)), (4, (0, 1)), (5, (0, 5)), (6, ((-2147483648), 2147483647)), (7, ((-2147483648), 2147483647)), (8, ((-2147483648), 2147483647)), (9, ((-2147483648), 2147483647)), (10, ((-2147483648), 2147483647)), (11, (0, 10)), (12, (0, 10)), (13, (0, 4)), (14, (2, 7)), (15, (0, 1)), (16, (0, 5)), (17, ((-2147483648), 2147483647)), (18, ((-2147483648), 2147483647)), (19, ((-2147483648), 2147483647)), (20, ((-2147483648), 2147483647)), (21, ((-2147483648), 2147483647)), (22, (0, 10)), (23, (0, 10)), (24, (0, 4)), (25, (2, 7)), (26, (0, 1)), (27, (0, 5)), (28, ((-2147483648), 2147483647)), (29, ((-2147483648), 2147483647)), (30, ((-2147483648), 2147483647)), (31, ((-2147483648), 2147483647)), (32, ((-2147483648), 2147483647)), (33, (0, 10)), (34, (0, 10)), (35, (0, 4)), (36, (2, 7)), (37, (0, 1)), (38, (0, 5)), (39, ((-2147483648), 2147483647)), (40, ((-2147483648), 2147483647)), (41, ((-2147483648), 2147483647)), (42, ((-2147483648), 2147483647)), (43, ((-2147483648), 2147483647)), (44, (0, 10)), (45, (0, 10)), (46, (0, 4)), (47, (0, 160)), (48, ((-2147483648), 2147483647)), (49, (0, 160)), (50, (0, 6)), (51, ((-2147483648), 2147483647)), (52, ((-2147483648), 2147483647)), (53, (0, 1)), (54, ((-2147483648), 2147483647)), (55, ((-2147483648), 2147483647)), (56, ((-2147483648), 2147483647)), (57, ((-2147483648), 2147483647)), (58, ((-2147483648), 2147483647)), (59, (0, 160)), (60, ((-2147483648), 2147483647)), (61, (0, 40)), (62, ((-2147483648), 2147483647)), (63, (0, 40)), (64, ((-2147483648), 2147483647)), (65, (0, 40)), (66, ((-2147483648), 2147483647)), (67, (0, 40)), (68, ((-2147483648), 2147483647))]
def k_X7_cost : zK := (69, [0, 100, 101, 102, 103, 104, 105, 106, 107, 108, 109, 110, 111, 112, 113, 114, 115, 116, 117, 118, 119, 120, 130, 131, 132, 133, 134, 135, 136, 137, 138, 139, 140, 141, 142, 143, 144, 145, 146, 147, 148, 149, 150, 10, 160, 161, 162, 163, 164, 165, 166, 167, 168, 169, 170, 171, 172, 173, 174, 175, 176, 177, 178, 179, 180, 190, 191, 192, 193, 194, 195, 196, 197, 198, 199, 200, 201, 202, 203, 204, 205, 206, 207, 208, 209, 210, 11, 12, 13, 14, 15, 16, 17, 20, 21, 22, 23, 24, 25, 26, 27], (ze_X7_cost, [], [], [zr 0, zi 68 0], zw12c, []), [([(69, ((-2147483648), 2147483647))], [], [], [zi 69 0], zw12c, [])])
def bl_X7_cost : List (Nat × zS) := []
def tb_X7_cost : zTb := ([(10, 7, 0, 3), (153, 4, 3, 3)], [], [], [(150, k_X4_isDeed)], [], [])
def sp_X7_cost : zSp := []
set_option maxRecDepth 1000000 in
theorem ck0_X7_cost : zrun tb_X7_cost sp_X7_cost pr_X7_cost 2 1 k_X7_cost.1 k_X7_cost.2.1 k_X7_cost.2.2.2 bl_X7_cost false 2000 5069 (zst0 k_X7_cost) 0 = true := by decide +kernel
set_option maxRecDepth 1000000 in
theorem ck_X7_cost : zcheck tb_X7_cost sp_X7_cost pr_X7_cost 2 1 k_X7_cost bl_X7_cost 2000 5069 = true := zcheck_of (by decide +kernel) ck0_X7_cost (fun _ h => absurd h List.not_mem_nil)
set_option maxRecDepth 100000 in
set_option maxHeartbeats 4000000 in
theorem c_X7_cost {X : zXT} (hX : zXok X) (hN : zXn X) (l : Launch) : zMet X vwCl l yX7_cost wsX7_cost { frames := 3, cells := 0, slots := 0, locals := 107 } k_X7_cost :=
  zmeth (tb := tb_X7_cost) (pr := pr_X7_cost) (bl := bl_X7_cost) (rt := 1) (own := RX7) hX (by decide +kernel) rfl rfl ⟨Nat.le_of_ble_eq_true rfl, Nat.le_of_ble_eq_true rfl⟩
    (zfl_all (List.forall_mem_cons.mpr ⟨zfl_X7 (fun w h => List.mem_cons_of_mem _ (List.mem_append_left _ (List.mem_append_right _ h))) (List.mem_of_getElem? (i := 1) rfl) (by decide) (by decide), List.forall_mem_cons.mpr ⟨zfl_X4 (fun w h => List.mem_cons_of_mem _ (List.mem_append_right _ h)) (List.mem_of_getElem? (i := 2) rfl) (by decide) (by decide), fun _ h => absurd h List.not_mem_nil⟩⟩))
    (zco_all (fun _ h => absurd h List.not_mem_nil)) (zlc_all (fun _ h => absurd h List.not_mem_nil))
    (List.forall_mem_cons.mpr ⟨fun p e s m args below meth c A S hx => zcal_V hX S (c_X4_isDeed hX hN l) (cwV 1 S.2.2.2.2 gX7_cost_X4_isDeed rfl rfl rfl (by decide +kernel) ⟨Nat.le_of_ble_eq_true rfl, Nat.le_of_ble_eq_true rfl⟩) rfl ⟨0, 4, _, _, _, rfl, rfl⟩ rfl, fun _ h => absurd h List.not_mem_nil⟩)
    (fun _ h => absurd h List.not_mem_nil)
    (zmm_all (fun _ h => absurd h List.not_mem_nil)) (zpr_all hp_X7_cost) ck_X7_cost
def pr_X7_vow : List (Nat × Instr × Nat) := [(0, .iload_n 1, 1), (1, .iconst 0, 1), (2, .aload_n 0, 1), (3, .getfield 10, 3), (6, .getfield 92, 3), (9, .getfield 96, 3), (12, .iconst 1, 1), (13, .isub, 1), (14, .invokestatic 49, 3), (17, .ifCond .ne 5, 3), (20, .iconst (-1), 1), (21, .ireturn, 1), (22, .iload_n 2, 1), (23, .tableswitch 81 0 3 #[29, 42, 55, 68], 29), (52, .aload_n 0, 1), (53, .getfield 10, 3), (56, .getfield 92, 3), (59, .getfield 156, 3), (62, .iload_n 1, 1), (63, .iaload, 1), (64, .ireturn, 1), (65, .aload_n 0, 1), (66, .getfield 10, 3), (69, .getfield 92, 3), (72, .getfield 159, 3), (75, .iload_n 1, 1), (76, .iaload, 1), (77, .ireturn, 1), (78, .aload_n 0, 1), (79, .getfield 10, 3), (82, .getfield 92, 3), (85, .getfield 162, 3), (88, .iload_n 1, 1), (89, .iaload, 1), (90, .ireturn, 1), (91, .aload_n 0, 1), (92, .getfield 10, 3), (95, .getfield 92, 3), (98, .getfield 165, 3), (101, .iload_n 1, 1), (102, .iaload, 1), (103, .ireturn, 1), (104, .iconst (-1), 1), (105, .ireturn, 1)]
set_option maxRecDepth 100000 in
theorem hp_X7_vow : pr_X7_vow.all (fun x => decide (decode cX7_vow x.1 = .ok x.2)) = true := by decide +kernel
def ze_X7_vow : zE := [(1, ((-2147483648), 2147483647)), (2, ((-2147483648), 2147483647)), (3, (2, 7)), (4, (0, 1)), (5, (0, 5)), (6, ((-2147483648), 2147483647)), (7, ((-2147483648), 2147483647)), (8, ((-2147483648), 2147483647)), (9, ((-2147483648), 2147483647)), (10, ((-2147483648), 2147483647)), (11, (0, 10)), (12, (0, 10)), (13, (0, 4)), (14, (2, 7)), (15, (0, 1)), (16, (0, 5)), (17, ((-2147483648), 2147483647)), (18, ((-2147483648), 2147483647)), (19, ((-2147483648), 2147483647)), (20, ((-2147483648), 2147483647)), (21, ((-2147483648), 2147483647)), (22, (0, 10)), (23, (0, 10)), (24, (0, 4)), (25, (2, 7)), (26, (0, 1)), (27, (0, 5)), (28, ((-2147483648), 2147483647)), (29, ((-2147483648), 2147483647)), (30, ((-2147483648), 2147483647)), (31, ((-2147483648), 2147483647)), (32, ((-2147483648), 2147483647)), (33, (0, 10)), (34, (0, 10)), (35, (0, 4)), (36, (2, 7)), (37, (0, 1)), (38, (0, 5)), (39, ((-2147483648), 2147483647)), (40, ((-2147483648), 2147483647)), (41, ((-2147483648), 2147483647)), (42, ((-2147483648), 2147483647)), (43, ((-2147483648), 2147483647)), (44, (0, 10)), (45, (0, 10)), (46, (0, 4)), (47, (0, 160)), (48, ((-2147483648), 2147483647)), (49, (0, 160)), (50, (0, 6)), (51, ((-2147483648), 2147483647)), (52, ((-2147483648), 2147483647)), (53, (0, 1)), (54, ((-2147483648), 2147483647)), (55, ((-2147483648), 2147483647)), (56, ((-2147483648), 2147483647)), (57, ((-2147483648), 2147483647)), (58, ((-2147483648), 2147483647)), (59, (0, 160)), (60, ((-2147483648), 2147483647)), (61, (0, 40)), (62, ((-2147483648), 2147483647)), (63, (0, 40)), (64, ((-2147483648), 2147483647)), (65, (0, 40)), (66, ((-2147483648), 2147483647)), (67, (0, 40)), (68, ((-2147483648), 2147483647)), (69, ((-2147483648), 2147483647))]
def k_X7_vow : zK := (70, [0, 100, 101, 102, 103, 104, 105, 106, 107, 108, 109, 110, 111, 112, 113, 114, 115, 116, 117, 118, 119, 120, 130, 131, 132, 133, 134, 135, 136, 137, 138, 139, 140, 141, 142, 143, 144, 145, 146, 147, 148, 149, 150, 10, 160, 161, 162, 163, 164, 165, 166, 167, 168, 169, 170, 171, 172, 173, 174, 175, 176, 177, 178, 179, 180, 190, 191, 192, 193, 194, 195, 196, 197, 198, 199, 200, 201, 202, 203, 204, 205, 206, 207, 208, 209, 210, 11, 12, 13, 14, 15, 16, 17, 20, 21, 22, 23, 24, 25, 26, 27], (ze_X7_vow, [], [], [zr 0, zi 68 0, zi 69 0], zw12c, []), [([(70, ((-2147483648), 2147483647))], [], [], [zi 70 0], zw12c, [])])
def bl_X7_vow : List (Nat × zS) := []
def tb_X7_vow : zTb := ([(10, 7, 0, 3), (92, 4, 11, 2), (96, 5, 0, 0), (156, 5, 1, 3), (159, 5, 2, 3), (162, 5, 3, 3), (165, 5, 4, 3)], [], [], [], [(49, k_X7_within)], [])
def sp_X7_vow : zSp := []
set_option maxRecDepth 1000000 in
theorem ck0_X7_vow : zrun tb_X7_vow sp_X7_vow pr_X7_vow 3 1 k_X7_vow.1 k_X7_vow.2.1 k_X7_vow.2.2.2 bl_X7_vow false 2000 5070 (zst0 k_X7_vow) 0 = true := by decide +kernel
set_option maxRecDepth 1000000 in
theorem ck_X7_vow : zcheck tb_X7_vow sp_X7_vow pr_X7_vow 3 1 k_X7_vow bl_X7_vow 2000 5070 = true := zcheck_of (by decide +kernel) ck0_X7_vow (fun _ h => absurd h List.not_mem_nil)
set_option maxRecDepth 100000 in
set_option maxHeartbeats 4000000 in
theorem c_X7_vow {X : zXT} (hX : zXok X) (hN : zXn X) (l : Launch) : zMet X vwCl l yX7_vow wsX7_vow { frames := 2, cells := 0, slots := 0, locals := 86 } k_X7_vow :=
  zmeth (tb := tb_X7_vow) (pr := pr_X7_vow) (bl := bl_X7_vow) (rt := 1) (own := RX7) hX (by decide +kernel) rfl rfl ⟨Nat.le_of_ble_eq_true rfl, Nat.le_of_ble_eq_true rfl⟩
    (zfl_all (List.forall_mem_cons.mpr ⟨zfl_X7 (fun w h => List.mem_cons_of_mem _ (List.mem_append_left _ (List.mem_append_left _ (List.mem_append_right _ h)))) (List.mem_of_getElem? (i := 1) rfl) (by decide) (by decide), List.forall_mem_cons.mpr ⟨zfl_X4 (fun w h => List.mem_cons_of_mem _ (List.mem_append_left _ (List.mem_append_right _ h))) (List.mem_of_getElem? (i := 2) rfl) (by decide) (by decide), List.forall_mem_cons.mpr ⟨zfl_X5 (fun w h => List.mem_cons_of_mem _ (List.mem_append_right _ h)) (List.mem_of_getElem? (i := 3) rfl) (by decide) (by decide), List.forall_mem_cons.mpr ⟨zfl_X5 (fun w h => List.mem_cons_of_mem _ (List.mem_append_right _ h)) (List.mem_of_getElem? (i := 4) rfl) (by decide) (by decide), List.forall_mem_cons.mpr ⟨zfl_X5 (fun w h => List.mem_cons_of_mem _ (List.mem_append_right _ h)) (List.mem_of_getElem? (i := 5) rfl) (by decide) (by decide), List.forall_mem_cons.mpr ⟨zfl_X5 (fun w h => List.mem_cons_of_mem _ (List.mem_append_right _ h)) (List.mem_of_getElem? (i := 6) rfl) (by decide) (by decide), List.forall_mem_cons.mpr ⟨zfl_X5 (fun w h => List.mem_cons_of_mem _ (List.mem_append_right _ h)) (List.mem_of_getElem? (i := 7) rfl) (by decide) (by decide), fun _ h => absurd h List.not_mem_nil⟩⟩⟩⟩⟩⟩⟩))
    (zco_all (fun _ h => absurd h List.not_mem_nil)) (zlc_all (fun _ h => absurd h List.not_mem_nil))
    (fun _ h => absurd h List.not_mem_nil)
    (List.forall_mem_cons.mpr ⟨fun p e s m args below meth c A S hx => zcal_S hX S (c_X7_within hX hN l) (va_cwS 3 S.2.2.2.2 gX7_vow_X7_within rfl rfl rfl (by decide +kernel) ⟨Nat.le_of_ble_eq_true rfl, Nat.le_of_ble_eq_true rfl⟩) rfl, fun _ h => absurd h List.not_mem_nil⟩)
    (zmm_all (fun _ h => absurd h List.not_mem_nil)) (zpr_all hp_X7_vow) ck_X7_vow
def pr_X7_want : List (Nat × Instr × Nat) := [(0, .iload_n 1, 1), (1, .iconst 0, 1), (2, .aload_n 0, 1), (3, .getfield 10, 3), (6, .getfield 99, 3), (9, .getfield 103, 3), (12, .iconst 1, 1), (13, .isub, 1), (14, .invokestatic 49, 3), (17, .ifCond .ne 5, 3), (20, .iconst (-1), 1), (21, .ireturn, 1), (22, .iload_n 2, 1), (23, .lookupswitch 51 #[(0, 25), (1, 38)], 25), (48, .aload_n 0, 1), (49, .getfield 10, 3), (52, .getfield 99, 3), (55, .getfield 168, 3), (58, .iload_n 1, 1), (59, .iaload, 1), (60, .ireturn, 1), (61, .aload_n 0, 1), (62, .getfield 10, 3), (65, .getfield 99, 3), (68, .getfield 169, 3), (71, .iload_n 1, 1), (72, .iaload, 1), (73, .ireturn, 1), (74, .iconst (-1), 1), (75, .ireturn, 1)]
set_option maxRecDepth 100000 in
theorem hp_X7_want : pr_X7_want.all (fun x => decide (decode cX7_want x.1 = .ok x.2)) = true := by decide +kernel
def ze_X7_want : zE := [(1, ((-2147483648), 2147483647)), (2, ((-2147483648), 2147483647)), (3, (2, 7)), (4, (0, 1)), (5, (0, 5)), (6, ((-2147483648), 2147483647)), (7, ((-2147483648), 2147483647)), (8, ((-2147483648), 2147483647)), (9, ((-2147483648), 2147483647)), (10, ((-2147483648), 2147483647)), (11, (0, 10)), (12, (0, 10)), (13, (0, 4)), (14, (2, 7)), (15, (0, 1)), (16, (0, 5)), (17, ((-2147483648), 2147483647)), (18, ((-2147483648), 2147483647)), (19, ((-2147483648), 2147483647)), (20, ((-2147483648), 2147483647)), (21, ((-2147483648), 2147483647)), (22, (0, 10)), (23, (0, 10)), (24, (0, 4)), (25, (2, 7)), (26, (0, 1)), (27, (0, 5)), (28, ((-2147483648), 2147483647)), (29, ((-2147483648), 2147483647)), (30, ((-2147483648), 2147483647)), (31, ((-2147483648), 2147483647)), (32, ((-2147483648), 2147483647)), (33, (0, 10)), (34, (0, 10)), (35, (0, 4)), (36, (2, 7)), (37, (0, 1)), (38, (0, 5)), (39, ((-2147483648), 2147483647)), (40, ((-2147483648), 2147483647)), (41, ((-2147483648), 2147483647)), (42, ((-2147483648), 2147483647)), (43, ((-2147483648), 2147483647)), (44, (0, 10)), (45, (0, 10)), (46, (0, 4)), (47, (0, 160)), (48, ((-2147483648), 2147483647)), (49, (0, 160)), (50, (0, 6)), (51, ((-2147483648), 2147483647)), (52, ((-2147483648), 2147483647)), (53, (0, 1)), (54, ((-2147483648), 2147483647)), (55, ((-2147483648), 2147483647)), (56, ((-2147483648), 2147483647)), (57, ((-2147483648), 2147483647)), (58, ((-2147483648), 2147483647)), (59, (0, 160)), (60, ((-2147483648), 2147483647)), (61, (0, 40)), (62, ((-2147483648), 2147483647)), (63, (0, 40)), (64, ((-2147483648), 2147483647)), (65, (0, 40)), (66, ((-2147483648), 2147483647)), (67, (0, 40)), (68, ((-2147483648), 2147483647)), (69, ((-2147483648), 2147483647))]
def k_X7_want : zK := (70, [0, 100, 101, 102, 103, 104, 105, 106, 107, 108, 109, 110, 111, 112, 113, 114, 115, 116, 117, 118, 119, 120, 130, 131, 132, 133, 134, 135, 136, 137, 138, 139, 140, 141, 142, 143, 144, 145, 146, 147, 148, 149, 150, 10, 160, 161, 162, 163, 164, 165, 166, 167, 168, 169, 170, 171, 172, 173, 174, 175, 176, 177, 178, 179, 180, 190, 191, 192, 193, 194, 195, 196, 197, 198, 199, 200, 201, 202, 203, 204, 205, 206, 207, 208, 209, 210, 11, 12, 13, 14, 15, 16, 17, 20, 21, 22, 23, 24, 25, 26, 27], (ze_X7_want, [], [], [zr 0, zi 68 0, zi 69 0], zw12c, []), [([(70, ((-2147483648), 2147483647))], [], [], [zi 70 0], zw12c, [])])
def bl_X7_want : List (Nat × zS) := []
def tb_X7_want : zTb := ([(10, 7, 0, 3), (99, 4, 13, 3), (103, 6, 0, 0), (168, 6, 1, 3), (169, 6, 2, 3)], [], [], [], [(49, k_X7_within)], [])
def sp_X7_want : zSp := []
set_option maxRecDepth 1000000 in
theorem ck0_X7_want : zrun tb_X7_want sp_X7_want pr_X7_want 3 1 k_X7_want.1 k_X7_want.2.1 k_X7_want.2.2.2 bl_X7_want false 2000 5070 (zst0 k_X7_want) 0 = true := by decide +kernel
set_option maxRecDepth 1000000 in
theorem ck_X7_want : zcheck tb_X7_want sp_X7_want pr_X7_want 3 1 k_X7_want bl_X7_want 2000 5070 = true := zcheck_of (by decide +kernel) ck0_X7_want (fun _ h => absurd h List.not_mem_nil)
set_option maxRecDepth 100000 in
set_option maxHeartbeats 4000000 in
theorem c_X7_want {X : zXT} (hX : zXok X) (hN : zXn X) (l : Launch) : zMet X vwCl l yX7_want wsX7_want { frames := 2, cells := 0, slots := 0, locals := 86 } k_X7_want :=
  zmeth (tb := tb_X7_want) (pr := pr_X7_want) (bl := bl_X7_want) (rt := 1) (own := RX7) hX (by decide +kernel) rfl rfl ⟨Nat.le_of_ble_eq_true rfl, Nat.le_of_ble_eq_true rfl⟩
    (zfl_all (List.forall_mem_cons.mpr ⟨zfl_X7 (fun w h => List.mem_cons_of_mem _ (List.mem_append_left _ (List.mem_append_left _ (List.mem_append_right _ h)))) (List.mem_of_getElem? (i := 1) rfl) (by decide) (by decide), List.forall_mem_cons.mpr ⟨zfl_X4 (fun w h => List.mem_cons_of_mem _ (List.mem_append_left _ (List.mem_append_right _ h))) (List.mem_of_getElem? (i := 2) rfl) (by decide) (by decide), List.forall_mem_cons.mpr ⟨zfl_X6 (fun w h => List.mem_cons_of_mem _ (List.mem_append_right _ h)) (List.mem_of_getElem? (i := 3) rfl) (by decide) (by decide), List.forall_mem_cons.mpr ⟨zfl_X6 (fun w h => List.mem_cons_of_mem _ (List.mem_append_right _ h)) (List.mem_of_getElem? (i := 4) rfl) (by decide) (by decide), List.forall_mem_cons.mpr ⟨zfl_X6 (fun w h => List.mem_cons_of_mem _ (List.mem_append_right _ h)) (List.mem_of_getElem? (i := 5) rfl) (by decide) (by decide), fun _ h => absurd h List.not_mem_nil⟩⟩⟩⟩⟩))
    (zco_all (fun _ h => absurd h List.not_mem_nil)) (zlc_all (fun _ h => absurd h List.not_mem_nil))
    (fun _ h => absurd h List.not_mem_nil)
    (List.forall_mem_cons.mpr ⟨fun p e s m args below meth c A S hx => zcal_S hX S (c_X7_within hX hN l) (va_cwS 3 S.2.2.2.2 gX7_want_X7_within rfl rfl rfl (by decide +kernel) ⟨Nat.le_of_ble_eq_true rfl, Nat.le_of_ble_eq_true rfl⟩) rfl, fun _ h => absurd h List.not_mem_nil⟩)
    (zmm_all (fun _ h => absurd h List.not_mem_nil)) (zpr_all hp_X7_want) ck_X7_want
def pr_X7_fund : List (Nat × Instr × Nat) := [(0, .aload_n 0, 1), (1, .getfield 10, 3), (4, .iload_n 1, 1), (5, .invokevirtual 118, 3), (8, .ifCond .eq 13, 3), (11, .iload_n 2, 1), (12, .iconst 0, 1), (13, .bipush 99, 2), (15, .invokestatic 49, 3), (18, .ifCond .ne 5, 3), (21, .iconst (-1), 1), (22, .ireturn, 1), (23, .aload_n 0, 1), (24, .getfield 10, 3), (27, .getfield 121, 3), (30, .iload_n 1, 1), (31, .iaload, 1), (32, .istore_n 3, 1), (33, .aload_n 0, 1), (34, .getfield 10, 3), (37, .getfield 121, 3), (40, .iload_n 1, 1), (41, .iload_n 2, 1), (42, .iastore, 1), (43, .iload_n 3, 1), (44, .ireturn, 1)]
set_option maxRecDepth 100000 in
theorem hp_X7_fund : pr_X7_fund.all (fun x => decide (decode cX7_fund x.1 = .ok x.2)) = true := by decide +kernel
def ze_X7_fund : zE := [(1, ((-2147483648), 2147483647)), (2, ((-2147483648), 2147483647)), (3, (2, 7)), (4, (0, 1)), (5, (0, 5)), (6, ((-2147483648), 2147483647)), (7, ((-2147483648), 2147483647)), (8, ((-2147483648), 2147483647)), (9, ((-2147483648), 2147483647)), (10, ((-2147483648), 2147483647)), (11, (0, 10)), (12, (0, 10)), (13, (0, 4)), (14, (2, 7)), (15, (0, 1)), (16, (0, 5)), (17, ((-2147483648), 2147483647)), (18, ((-2147483648), 2147483647)), (19, ((-2147483648), 2147483647)), (20, ((-2147483648), 2147483647)), (21, ((-2147483648), 2147483647)), (22, (0, 10)), (23, (0, 10)), (24, (0, 4)), (25, (2, 7)), (26, (0, 1)), (27, (0, 5)), (28, ((-2147483648), 2147483647)), (29, ((-2147483648), 2147483647)), (30, ((-2147483648), 2147483647)), (31, ((-2147483648), 2147483647)), (32, ((-2147483648), 2147483647)), (33, (0, 10)), (34, (0, 10)), (35, (0, 4)), (36, (2, 7)), (37, (0, 1)), (38, (0, 5)), (39, ((-2147483648), 2147483647)), (40, ((-2147483648), 2147483647)), (41, ((-2147483648), 2147483647)), (42, ((-2147483648), 2147483647)), (43, ((-2147483648), 2147483647)), (44, (0, 10)), (45, (0, 10)), (46, (0, 4)), (47, (0, 160)), (48, ((-2147483648), 2147483647)), (49, (0, 160)), (50, (0, 6)), (51, ((-2147483648), 2147483647)), (52, ((-2147483648), 2147483647)), (53, (0, 1)), (54, ((-2147483648), 2147483647)), (55, ((-2147483648), 2147483647)), (56, ((-2147483648), 2147483647)), (57, ((-2147483648), 2147483647)), (58, ((-2147483648), 2147483647)), (59, (0, 160)), (60, ((-2147483648), 2147483647)), (61, (0, 40)), (62, ((-2147483648), 2147483647)), (63, (0, 40)), (64, ((-2147483648), 2147483647)), (65, (0, 40)), (66, ((-2147483648), 2147483647)), (67, (0, 40)), (68, ((-2147483648), 2147483647)), (69, ((-2147483648), 2147483647))]
def k_X7_fund : zK := (70, [0, 100, 101, 102, 103, 104, 105, 106, 107, 108, 109, 110, 111, 112, 113, 114, 115, 116, 117, 118, 119, 120, 130, 131, 132, 133, 134, 135, 136, 137, 138, 139, 140, 141, 142, 143, 144, 145, 146, 147, 148, 149, 150, 10, 160, 161, 162, 163, 164, 165, 166, 167, 168, 169, 170, 171, 172, 173, 174, 175, 176, 177, 178, 179, 180, 190, 191, 192, 193, 194, 195, 196, 197, 198, 199, 200, 201, 202, 203, 204, 205, 206, 207, 208, 209, 210, 11, 12, 13, 14, 15, 16, 17, 20, 21, 22, 23, 24, 25, 26, 27], (ze_X7_fund, [], [], [zr 0, zi 68 0, zi 69 0], zw12c, []), [([(70, ((-2147483648), 2147483647))], [], [], [zi 70 0], zw12c, [])])
def bl_X7_fund : List (Nat × zS) := []
def tb_X7_fund : zTb := ([(10, 7, 0, 3), (121, 4, 4, 3)], [], [], [(118, k_X4_isHouse)], [(49, k_X7_within)], [])
def sp_X7_fund : zSp := []
set_option maxRecDepth 1000000 in
theorem ck0_X7_fund : zrun tb_X7_fund sp_X7_fund pr_X7_fund 4 1 k_X7_fund.1 k_X7_fund.2.1 k_X7_fund.2.2.2 bl_X7_fund false 2000 5070 (zst0 k_X7_fund) 0 = true := by decide +kernel
set_option maxRecDepth 1000000 in
theorem ck_X7_fund : zcheck tb_X7_fund sp_X7_fund pr_X7_fund 4 1 k_X7_fund bl_X7_fund 2000 5070 = true := zcheck_of (by decide +kernel) ck0_X7_fund (fun _ h => absurd h List.not_mem_nil)
set_option maxRecDepth 100000 in
set_option maxHeartbeats 4000000 in
theorem c_X7_fund {X : zXT} (hX : zXok X) (hN : zXn X) (l : Launch) : zMet X vwCl l yX7_fund wsX7_fund { frames := 3, cells := 0, slots := 0, locals := 107 } k_X7_fund :=
  zmeth (tb := tb_X7_fund) (pr := pr_X7_fund) (bl := bl_X7_fund) (rt := 1) (own := RX7) hX (by decide +kernel) rfl rfl ⟨Nat.le_of_ble_eq_true rfl, Nat.le_of_ble_eq_true rfl⟩
    (zfl_all (List.forall_mem_cons.mpr ⟨zfl_X7 (fun w h => List.mem_cons_of_mem _ (List.mem_append_left _ (List.mem_append_right _ h))) (List.mem_of_getElem? (i := 1) rfl) (by decide) (by decide), List.forall_mem_cons.mpr ⟨zfl_X4 (fun w h => List.mem_cons_of_mem _ (List.mem_append_right _ h)) (List.mem_of_getElem? (i := 2) rfl) (by decide) (by decide), fun _ h => absurd h List.not_mem_nil⟩⟩))
    (zco_all (fun _ h => absurd h List.not_mem_nil)) (zlc_all (fun _ h => absurd h List.not_mem_nil))
    (List.forall_mem_cons.mpr ⟨fun p e s m args below meth c A S hx => zcal_V hX S (c_X4_isHouse hX hN l) (cwV 1 S.2.2.2.2 gX7_fund_X4_isHouse rfl rfl rfl (by decide +kernel) ⟨Nat.le_of_ble_eq_true rfl, Nat.le_of_ble_eq_true rfl⟩) rfl ⟨0, 4, _, _, _, rfl, rfl⟩ rfl, fun _ h => absurd h List.not_mem_nil⟩)
    (List.forall_mem_cons.mpr ⟨fun p e s m args below meth c A S hx => zcal_S hX S (c_X7_within hX hN l) (va_cwS 3 S.2.2.2.2 gX7_fund_X7_within rfl rfl rfl (by decide +kernel) ⟨Nat.le_of_ble_eq_true rfl, Nat.le_of_ble_eq_true rfl⟩) rfl, fun _ h => absurd h List.not_mem_nil⟩)
    (zmm_all (fun _ h => absurd h List.not_mem_nil)) (zpr_all hp_X7_fund) ck_X7_fund
def pr_X7_can : List (Nat × Instr × Nat) := [(0, .aload_n 0, 1), (1, .getfield 10, 3), (4, .iload_n 1, 1), (5, .invokevirtual 118, 3), (8, .ifCond .eq 14, 3), (11, .aload_n 0, 1), (12, .getfield 10, 3), (15, .iload_n 2, 1), (16, .invokevirtual 150, 3), (19, .ifCond .ne 5, 3), (22, .iconst (-1), 1), (23, .ireturn, 1), (24, .aload_n 0, 1), (25, .getfield 10, 3), (28, .getfield 125, 3), (31, .iload_n 1, 1), (32, .iaload, 1), (33, .iload_n 2, 1), (34, .invokestatic 131, 3), (37, .istore 4, 2), (39, .aload_n 0, 1), (40, .getfield 10, 3), (43, .getfield 125, 3), (46, .iload_n 1, 1), (47, .aload_n 0, 1), (48, .getfield 10, 3), (51, .getfield 125, 3), (54, .iload_n 1, 1), (55, .iaload, 1), (56, .iload_n 2, 1), (57, .iload_n 3, 1), (58, .invokestatic 170, 3), (61, .iastore, 1), (62, .iload 4, 2), (64, .ireturn, 1)]
set_option maxRecDepth 100000 in
theorem hp_X7_can : pr_X7_can.all (fun x => decide (decode cX7_can x.1 = .ok x.2)) = true := by decide +kernel
def ze_X7_can : zE := [(1, ((-2147483648), 2147483647)), (2, ((-2147483648), 2147483647)), (3, (2, 7)), (4, (0, 1)), (5, (0, 5)), (6, ((-2147483648), 2147483647)), (7, ((-2147483648), 2147483647)), (8, ((-2147483648), 2147483647)), (9, ((-2147483648), 2147483647)), (10, ((-2147483648), 2147483647)), (11, (0, 10)), (12, (0, 10)), (13, (0, 4)), (14, (2, 7)), (15, (0, 1)), (16, (0, 5)), (17, ((-2147483648), 2147483647)), (18, ((-2147483648), 2147483647)), (19, ((-2147483648), 2147483647)), (20, ((-2147483648), 2147483647)), (21, ((-2147483648), 2147483647)), (22, (0, 10)), (23, (0, 10)), (24, (0, 4)), (25, (2, 7)), (26, (0, 1)), (27, (0, 5)), (28, ((-2147483648), 2147483647)), (29, ((-2147483648), 2147483647)), (30, ((-2147483648), 2147483647)), (31, ((-2147483648), 2147483647)), (32, ((-2147483648), 2147483647)), (33, (0, 10)), (34, (0, 10)), (35, (0, 4)), (36, (2, 7)), (37, (0, 1)), (38, (0, 5)), (39, ((-2147483648), 2147483647)), (40, ((-2147483648), 2147483647)), (41, ((-2147483648), 2147483647)), (42, ((-2147483648), 2147483647)), (43, ((-2147483648), 2147483647)), (44, (0, 10)), (45, (0, 10)), (46, (0, 4)), (47, (0, 160)), (48, ((-2147483648), 2147483647)), (49, (0, 160)), (50, (0, 6)), (51, ((-2147483648), 2147483647)), (52, ((-2147483648), 2147483647)), (53, (0, 1)), (54, ((-2147483648), 2147483647)), (55, ((-2147483648), 2147483647)), (56, ((-2147483648), 2147483647)), (57, ((-2147483648), 2147483647)), (58, ((-2147483648), 2147483647)), (59, (0, 160)), (60, ((-2147483648), 2147483647)), (61, (0, 40)), (62, ((-2147483648), 2147483647)), (63, (0, 40)), (64, ((-2147483648), 2147483647)), (65, (0, 40)), (66, ((-2147483648), 2147483647)), (67, (0, 40)), (68, ((-2147483648), 2147483647)), (69, ((-2147483648), 2147483647)), (70, (0, 1))]
def k_X7_can : zK := (71, [0, 100, 101, 102, 103, 104, 105, 106, 107, 108, 109, 110, 111, 112, 113, 114, 115, 116, 117, 118, 119, 120, 130, 131, 132, 133, 134, 135, 136, 137, 138, 139, 140, 141, 142, 143, 144, 145, 146, 147, 148, 149, 150, 10, 160, 161, 162, 163, 164, 165, 166, 167, 168, 169, 170, 171, 172, 173, 174, 175, 176, 177, 178, 179, 180, 190, 191, 192, 193, 194, 195, 196, 197, 198, 199, 200, 201, 202, 203, 204, 205, 206, 207, 208, 209, 210, 11, 12, 13, 14, 15, 16, 17, 20, 21, 22, 23, 24, 25, 26, 27], (ze_X7_can, [], [], [zr 0, zi 68 0, zi 69 0, zi 70 0], zw12c, []), [([(71, ((-1), 1))], [(71, 5, 0)], [], [zi 71 0], zw12c, [])])
def bl_X7_can : List (Nat × zS) := []
def tb_X7_can : zTb := ([(10, 7, 0, 3), (125, 4, 5, 3)], [], [], [(118, k_X4_isHouse), (150, k_X4_isDeed)], [(131, k_X7_bit), (170, k_X7_withBit_2)], [])
def sp_X7_can : zSp := []
set_option maxRecDepth 1000000 in
theorem ck0_X7_can : zrun tb_X7_can sp_X7_can pr_X7_can 5 1 k_X7_can.1 k_X7_can.2.1 k_X7_can.2.2.2 bl_X7_can false 2000 5071 (zst0 k_X7_can) 0 = true := by decide +kernel
set_option maxRecDepth 1000000 in
theorem ck_X7_can : zcheck tb_X7_can sp_X7_can pr_X7_can 5 1 k_X7_can bl_X7_can 2000 5071 = true := zcheck_of (by decide +kernel) ck0_X7_can (fun _ h => absurd h List.not_mem_nil)
set_option maxRecDepth 100000 in
set_option maxHeartbeats 4000000 in
theorem c_X7_can {X : zXT} (hX : zXok X) (hN : zXn X) (l : Launch) : zMet X vwCl l yX7_can wsX7_can { frames := 3, cells := 0, slots := 0, locals := 107 } k_X7_can :=
  zmeth (tb := tb_X7_can) (pr := pr_X7_can) (bl := bl_X7_can) (rt := 1) (own := RX7) hX (by decide +kernel) rfl rfl ⟨Nat.le_of_ble_eq_true rfl, Nat.le_of_ble_eq_true rfl⟩
    (zfl_all (List.forall_mem_cons.mpr ⟨zfl_X7 (fun w h => List.mem_cons_of_mem _ (List.mem_append_left _ (List.mem_append_right _ h))) (List.mem_of_getElem? (i := 1) rfl) (by decide) (by decide), List.forall_mem_cons.mpr ⟨zfl_X4 (fun w h => List.mem_cons_of_mem _ (List.mem_append_right _ h)) (List.mem_of_getElem? (i := 2) rfl) (by decide) (by decide), fun _ h => absurd h List.not_mem_nil⟩⟩))
    (zco_all (fun _ h => absurd h List.not_mem_nil)) (zlc_all (fun _ h => absurd h List.not_mem_nil))
    (List.forall_mem_cons.mpr ⟨fun p e s m args below meth c A S hx => zcal_V hX S (c_X4_isHouse hX hN l) (cwV 1 S.2.2.2.2 gX7_can_X4_isHouse rfl rfl rfl (by decide +kernel) ⟨Nat.le_of_ble_eq_true rfl, Nat.le_of_ble_eq_true rfl⟩) rfl ⟨0, 4, _, _, _, rfl, rfl⟩ rfl, List.forall_mem_cons.mpr ⟨fun p e s m args below meth c A S hx => zcal_V hX S (c_X4_isDeed hX hN l) (cwV 1 S.2.2.2.2 gX7_can_X4_isDeed rfl rfl rfl (by decide +kernel) ⟨Nat.le_of_ble_eq_true rfl, Nat.le_of_ble_eq_true rfl⟩) rfl ⟨0, 4, _, _, _, rfl, rfl⟩ rfl, fun _ h => absurd h List.not_mem_nil⟩⟩)
    (List.forall_mem_cons.mpr ⟨fun p e s m args below meth c A S hx => zcal_S hX S (c_X7_bit hX hN l) (va_cwS 2 S.2.2.2.2 gX7_can_X7_bit rfl rfl rfl (by decide +kernel) ⟨Nat.le_of_ble_eq_true rfl, Nat.le_of_ble_eq_true rfl⟩) rfl, List.forall_mem_cons.mpr ⟨fun p e s m args below meth c A S hx => zcal_S hX S (c_X7_withBit_2 hX hN l) (va_cwS 3 S.2.2.2.2 gX7_can_X7_withBit rfl rfl rfl (by decide +kernel) ⟨Nat.le_of_ble_eq_true rfl, Nat.le_of_ble_eq_true rfl⟩) rfl, fun _ h => absurd h List.not_mem_nil⟩⟩)
    (zmm_all (fun _ h => absurd h List.not_mem_nil)) (zpr_all hp_X7_can) ck_X7_can
def pr_X7_lawyer : List (Nat × Instr × Nat) := [(0, .aload_n 0, 1), (1, .getfield 10, 3), (4, .iload_n 1, 1), (5, .invokevirtual 118, 3), (8, .ifCond .ne 5, 3), (11, .iconst (-1), 1), (12, .ireturn, 1), (13, .aload_n 0, 1), (14, .getfield 10, 3), (17, .getfield 128, 3), (20, .iload_n 1, 1), (21, .invokestatic 131, 3), (24, .istore_n 3, 1), (25, .aload_n 0, 1), (26, .getfield 10, 3), (29, .aload_n 0, 1), (30, .getfield 10, 3), (33, .getfield 128, 3), (36, .iload_n 1, 1), (37, .iload_n 2, 1), (38, .invokestatic 170, 3), (41, .putfield 128, 3), (44, .iload_n 3, 1), (45, .ireturn, 1)]
set_option maxRecDepth 100000 in
theorem hp_X7_lawyer : pr_X7_lawyer.all (fun x => decide (decode cX7_lawyer x.1 = .ok x.2)) = true := by decide +kernel
def ze_X7_lawyer : zE := [(1, ((-2147483648), 2147483647)), (2, ((-2147483648), 2147483647)), (3, (2, 7)), (4, (0, 1)), (5, (0, 5)), (6, ((-2147483648), 2147483647)), (7, ((-2147483648), 2147483647)), (8, ((-2147483648), 2147483647)), (9, ((-2147483648), 2147483647)), (10, ((-2147483648), 2147483647)), (11, (0, 10)), (12, (0, 10)), (13, (0, 4)), (14, (2, 7)), (15, (0, 1)), (16, (0, 5)), (17, ((-2147483648), 2147483647)), (18, ((-2147483648), 2147483647)), (19, ((-2147483648), 2147483647)), (20, ((-2147483648), 2147483647)), (21, ((-2147483648), 2147483647)), (22, (0, 10)), (23, (0, 10)), (24, (0, 4)), (25, (2, 7)), (26, (0, 1)), (27, (0, 5)), (28, ((-2147483648), 2147483647)), (29, ((-2147483648), 2147483647)), (30, ((-2147483648), 2147483647)), (31, ((-2147483648), 2147483647)), (32, ((-2147483648), 2147483647)), (33, (0, 10)), (34, (0, 10)), (35, (0, 4)), (36, (2, 7)), (37, (0, 1)), (38, (0, 5)), (39, ((-2147483648), 2147483647)), (40, ((-2147483648), 2147483647)), (41, ((-2147483648), 2147483647)), (42, ((-2147483648), 2147483647)), (43, ((-2147483648), 2147483647)), (44, (0, 10)), (45, (0, 10)), (46, (0, 4)), (47, (0, 160)), (48, ((-2147483648), 2147483647)), (49, (0, 160)), (50, (0, 6)), (51, ((-2147483648), 2147483647)), (52, ((-2147483648), 2147483647)), (53, (0, 1)), (54, ((-2147483648), 2147483647)), (55, ((-2147483648), 2147483647)), (56, ((-2147483648), 2147483647)), (57, ((-2147483648), 2147483647)), (58, ((-2147483648), 2147483647)), (59, (0, 160)), (60, ((-2147483648), 2147483647)), (61, (0, 40)), (62, ((-2147483648), 2147483647)), (63, (0, 40)), (64, ((-2147483648), 2147483647)), (65, (0, 40)), (66, ((-2147483648), 2147483647)), (67, (0, 40)), (68, ((-2147483648), 2147483647)), (69, (0, 1))]
def k_X7_lawyer : zK := (70, [0, 100, 101, 102, 103, 104, 105, 106, 107, 108, 109, 110, 111, 112, 113, 114, 115, 116, 117, 118, 119, 120, 130, 131, 132, 133, 134, 135, 136, 137, 138, 139, 140, 141, 142, 143, 144, 145, 146, 147, 148, 149, 150, 10, 160, 161, 162, 163, 164, 165, 166, 167, 168, 169, 170, 171, 172, 173, 174, 175, 176, 177, 178, 179, 180, 190, 191, 192, 193, 194, 195, 196, 197, 198, 199, 200, 201, 202, 203, 204, 205, 206, 207, 208, 209, 210, 11, 12, 13, 14, 15, 16, 17, 20, 21, 22, 23, 24, 25, 26, 27], (ze_X7_lawyer, [], [], [zr 0, zi 68 0, zi 69 0], zw12c, []), [([(70, ((-1), 1)), (71, ((-2147483648), 2147483647))], [], [], [zi 70 0], zfs (zw12c) 1 6 (zi 71 0), [])])
def bl_X7_lawyer : List (Nat × zS) := []
def tb_X7_lawyer : zTb := ([(10, 7, 0, 3), (128, 4, 6, 0)], [], [], [(118, k_X4_isHouse)], [(131, k_X7_bit), (170, k_X7_withBit_2)], [])
def sp_X7_lawyer : zSp := []
set_option maxRecDepth 1000000 in
theorem ck0_X7_lawyer : zrun tb_X7_lawyer sp_X7_lawyer pr_X7_lawyer 4 1 k_X7_lawyer.1 k_X7_lawyer.2.1 k_X7_lawyer.2.2.2 bl_X7_lawyer false 2000 5070 (zst0 k_X7_lawyer) 0 = true := by decide +kernel
set_option maxRecDepth 1000000 in
theorem ck_X7_lawyer : zcheck tb_X7_lawyer sp_X7_lawyer pr_X7_lawyer 4 1 k_X7_lawyer bl_X7_lawyer 2000 5070 = true := zcheck_of (by decide +kernel) ck0_X7_lawyer (fun _ h => absurd h List.not_mem_nil)
set_option maxRecDepth 100000 in
set_option maxHeartbeats 4000000 in
theorem c_X7_lawyer {X : zXT} (hX : zXok X) (hN : zXn X) (l : Launch) : zMet X vwCl l yX7_lawyer wsX7_lawyer { frames := 3, cells := 0, slots := 0, locals := 107 } k_X7_lawyer :=
  zmeth (tb := tb_X7_lawyer) (pr := pr_X7_lawyer) (bl := bl_X7_lawyer) (rt := 1) (own := RX7) hX (by decide +kernel) rfl rfl ⟨Nat.le_of_ble_eq_true rfl, Nat.le_of_ble_eq_true rfl⟩
    (zfl_all (List.forall_mem_cons.mpr ⟨zfl_X7 (fun w h => List.mem_cons_of_mem _ (List.mem_append_left _ (List.mem_append_right _ h))) (List.mem_of_getElem? (i := 1) rfl) (by decide) (by decide), List.forall_mem_cons.mpr ⟨zfl_X4 (fun w h => List.mem_cons_of_mem _ (List.mem_append_right _ h)) (List.mem_of_getElem? (i := 2) rfl) (by decide) (by decide), fun _ h => absurd h List.not_mem_nil⟩⟩))
    (zco_all (fun _ h => absurd h List.not_mem_nil)) (zlc_all (fun _ h => absurd h List.not_mem_nil))
    (List.forall_mem_cons.mpr ⟨fun p e s m args below meth c A S hx => zcal_V hX S (c_X4_isHouse hX hN l) (cwV 1 S.2.2.2.2 gX7_lawyer_X4_isHouse rfl rfl rfl (by decide +kernel) ⟨Nat.le_of_ble_eq_true rfl, Nat.le_of_ble_eq_true rfl⟩) rfl ⟨0, 4, _, _, _, rfl, rfl⟩ rfl, fun _ h => absurd h List.not_mem_nil⟩)
    (List.forall_mem_cons.mpr ⟨fun p e s m args below meth c A S hx => zcal_S hX S (c_X7_bit hX hN l) (va_cwS 2 S.2.2.2.2 gX7_lawyer_X7_bit rfl rfl rfl (by decide +kernel) ⟨Nat.le_of_ble_eq_true rfl, Nat.le_of_ble_eq_true rfl⟩) rfl, List.forall_mem_cons.mpr ⟨fun p e s m args below meth c A S hx => zcal_S hX S (c_X7_withBit_2 hX hN l) (va_cwS 3 S.2.2.2.2 gX7_lawyer_X7_withBit rfl rfl rfl (by decide +kernel) ⟨Nat.le_of_ble_eq_true rfl, Nat.le_of_ble_eq_true rfl⟩) rfl, fun _ h => absurd h List.not_mem_nil⟩⟩)
    (zmm_all (fun _ h => absurd h List.not_mem_nil)) (zpr_all hp_X7_lawyer) ck_X7_lawyer
