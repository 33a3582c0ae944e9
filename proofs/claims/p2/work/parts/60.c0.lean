def pr_X7_within : List (Nat × Instr × Nat) := [(0, .iload_n 1, 1), (1, .iload_n 0, 1), (2, .if_icmp .gt 12, 3), (5, .iload_n 0, 1), (6, .iload_n 2, 1), (7, .if_icmp .gt 7, 3), (10, .iconst 1, 1), (11, .goto 4, 3), (14, .iconst 0, 1), (15, .ireturn, 1)]
set_option maxRecDepth 100000 in
theorem hp_X7_within : pr_X7_within.all (fun x => decide (decode cX7_within x.1 = .ok x.2)) = true := by decide +kernel
def ze_X7_within : zE := [(1, ((-2147483648), 2147483647)), (2, ((-2147483648), 2147483647)), (3, ((-2147483648), 2147483647))]
def k_X7_within : zK := (4, [], (ze_X7_within, [], [], [zi 1 0, zi 2 0, zi 3 0], [], []), [([(1, ((-2147483648), 2147483646)), (2, ((-2147483647), 2147483647))], [(1, 2, (-1))], [], [zi 0 0], [], []),
  ([(1, ((-2147483647), 2147483647)), (3, ((-2147483648), 2147483646))], [(2, 1, 0), (3, 1, (-1))], [], [zi 0 0], [], []),
  ([], [(1, 3, 0), (2, 1, 0)], [], [zi 0 1], [], [])])
def bl_X7_within : List (Nat × zS) := []
def tb_X7_within : zTb := ([], [], [], [], [], [])
def sp_X7_within : zSp := []
set_option maxRecDepth 1000000 in
theorem ck0_X7_within : zrun tb_X7_within sp_X7_within pr_X7_within 3 2 k_X7_within.1 k_X7_within.2.1 k_X7_within.2.2.2 bl_X7_within false 2000 5004 (zst0 k_X7_within) 0 = true := by decide +kernel
set_option maxRecDepth 1000000 in
theorem ck_X7_within : zcheck tb_X7_within sp_X7_within pr_X7_within 3 2 k_X7_within bl_X7_within 2000 5004 = true := zcheck_of (by decide +kernel) ck0_X7_within (fun _ h => absurd h List.not_mem_nil)
set_option maxRecDepth 100000 in
set_option maxHeartbeats 4000000 in
theorem c_X7_within {X : zXT} (hX : zXok X) (hN : zXn X) (l : Launch) : zMet X vwCl l yX7_within wsX7_within { frames := 1, cells := 0, slots := 0, locals := 64 } k_X7_within :=
  zmeth (tb := tb_X7_within) (pr := pr_X7_within) (bl := bl_X7_within) (rt := 2) (own := RX7) hX (by decide +kernel) rfl rfl ⟨Nat.le_of_ble_eq_true rfl, Nat.le_of_ble_eq_true rfl⟩
    (zfl_all (fun _ h => absurd h List.not_mem_nil))
    (zco_all (fun _ h => absurd h List.not_mem_nil)) (zlc_all (fun _ h => absurd h List.not_mem_nil))
    (fun _ h => absurd h List.not_mem_nil)
    (fun _ h => absurd h List.not_mem_nil)
    (zmm_all (fun _ h => absurd h List.not_mem_nil)) (zpr_all hp_X7_within) ck_X7_within
def pr_X7_isKind : List (Nat × Instr × Nat) := [(0, .iload_n 0, 1), (1, .iconst 0, 1), (2, .iconst 4, 1), (3, .invokestatic 49, 3), (6, .ireturn, 1)]
set_option maxRecDepth 100000 in
theorem hp_X7_isKind : pr_X7_isKind.all (fun x => decide (decode cX7_isKind x.1 = .ok x.2)) = true := by decide +kernel
def ze_X7_isKind : zE := [(1, ((-2147483648), 2147483647))]
def k_X7_isKind : zK := (2, [], (ze_X7_isKind, [], [], [zi 1 0], [], []), [([], [], [], [zi 0 0], [], []),
  ([(1, (0, 4))], [], [], [zi 0 1], [], [])])
def bl_X7_isKind : List (Nat × zS) := []
def tb_X7_isKind : zTb := ([], [], [], [], [(49, k_X7_within)], [])
def sp_X7_isKind : zSp := []
set_option maxRecDepth 1000000 in
theorem ck0_X7_isKind : zrun tb_X7_isKind sp_X7_isKind pr_X7_isKind 1 2 k_X7_isKind.1 k_X7_isKind.2.1 k_X7_isKind.2.2.2 bl_X7_isKind false 2000 5002 (zst0 k_X7_isKind) 0 = true := by decide +kernel
set_option maxRecDepth 1000000 in
theorem ck_X7_isKind : zcheck tb_X7_isKind sp_X7_isKind pr_X7_isKind 1 2 k_X7_isKind bl_X7_isKind 2000 5002 = true := zcheck_of (by decide +kernel) ck0_X7_isKind (fun _ h => absurd h List.not_mem_nil)
set_option maxRecDepth 100000 in
set_option maxHeartbeats 4000000 in
theorem c_X7_isKind {X : zXT} (hX : zXok X) (hN : zXn X) (l : Launch) : zMet X vwCl l yX7_isKind wsX7_isKind { frames := 2, cells := 0, slots := 0, locals := 86 } k_X7_isKind :=
  zmeth (tb := tb_X7_isKind) (pr := pr_X7_isKind) (bl := bl_X7_isKind) (rt := 2) (own := RX7) hX (by decide +kernel) rfl rfl ⟨Nat.le_of_ble_eq_true rfl, Nat.le_of_ble_eq_true rfl⟩
    (zfl_all (fun _ h => absurd h List.not_mem_nil))
    (zco_all (fun _ h => absurd h List.not_mem_nil)) (zlc_all (fun _ h => absurd h List.not_mem_nil))
    (fun _ h => absurd h List.not_mem_nil)
    (List.forall_mem_cons.mpr ⟨fun p e s m args below meth c A S hx => zcal_S hX S (c_X7_within hX hN l) (va_cwS 3 S.2.2.2.2 gX7_isKind_X7_within rfl rfl rfl (by decide +kernel) ⟨Nat.le_of_ble_eq_true rfl, Nat.le_of_ble_eq_true rfl⟩) rfl, fun _ h => absurd h List.not_mem_nil⟩)
    (zmm_all (fun _ h => absurd h List.not_mem_nil)) (zpr_all hp_X7_isKind) ck_X7_isKind
def pr_X7_isDepth : List (Nat × Instr × Nat) := [(0, .iload_n 0, 1), (1, .iconst 0, 1), (2, .iconst 3, 1), (3, .invokestatic 49, 3), (6, .ifCond .ne 9, 3), (9, .iload_n 0, 1), (10, .bipush 9, 2), (12, .if_icmp .ne 7, 3), (15, .iconst 1, 1), (16, .goto 4, 3), (19, .iconst 0, 1), (20, .ireturn, 1)]
set_option maxRecDepth 100000 in
theorem hp_X7_isDepth : pr_X7_isDepth.all (fun x => decide (decode cX7_isDepth x.1 = .ok x.2)) = true := by decide +kernel
def ze_X7_isDepth : zE := [(1, ((-2147483648), 2147483647))]
def k_X7_isDepth : zK := (2, [], (ze_X7_isDepth, [], [], [zi 1 0], [], []), [([], [], [], [zi 0 0], [], []),
  ([(1, (0, 9))], [], [], [zi 0 1], [], [])])
def bl_X7_isDepth : List (Nat × zS) := []
def tb_X7_isDepth : zTb := ([], [], [], [], [(49, k_X7_within)], [])
def sp_X7_isDepth : zSp := []
set_option maxRecDepth 1000000 in
theorem ck0_X7_isDepth : zrun tb_X7_isDepth sp_X7_isDepth pr_X7_isDepth 1 2 k_X7_isDepth.1 k_X7_isDepth.2.1 k_X7_isDepth.2.2.2 bl_X7_isDepth false 2000 5002 (zst0 k_X7_isDepth) 0 = true := by decide +kernel
set_option maxRecDepth 1000000 in
theorem ck_X7_isDepth : zcheck tb_X7_isDepth sp_X7_isDepth pr_X7_isDepth 1 2 k_X7_isDepth bl_X7_isDepth 2000 5002 = true := zcheck_of (by decide +kernel) ck0_X7_isDepth (fun _ h => absurd h List.not_mem_nil)
set_option maxRecDepth 100000 in
set_option maxHeartbeats 4000000 in
theorem c_X7_isDepth {X : zXT} (hX : zXok X) (hN : zXn X) (l : Launch) : zMet X vwCl l yX7_isDepth wsX7_isDepth { frames := 2, cells := 0, slots := 0, locals := 86 } k_X7_isDepth :=
  zmeth (tb := tb_X7_isDepth) (pr := pr_X7_isDepth) (bl := bl_X7_isDepth) (rt := 2) (own := RX7) hX (by decide +kernel) rfl rfl ⟨Nat.le_of_ble_eq_true rfl, Nat.le_of_ble_eq_true rfl⟩
    (zfl_all (fun _ h => absurd h List.not_mem_nil))
    (zco_all (fun _ h => absurd h List.not_mem_nil)) (zlc_all (fun _ h => absurd h List.not_mem_nil))
    (fun _ h => absurd h List.not_mem_nil)
    (List.forall_mem_cons.mpr ⟨fun p e s m args below meth c A S hx => zcal_S hX S (c_X7_within hX hN l) (va_cwS 3 S.2.2.2.2 gX7_isDepth_X7_within rfl rfl rfl (by decide +kernel) ⟨Nat.le_of_ble_eq_true rfl, Nat.le_of_ble_eq_true rfl⟩) rfl, fun _ h => absurd h List.not_mem_nil⟩)
    (zmm_all (fun _ h => absurd h List.not_mem_nil)) (zpr_all hp_X7_isDepth) ck_X7_isDepth
def pr_X7_isSheet : List (Nat × Instr × Nat) := [(0, .iload_n 0, 1), (1, .iconst 0, 1), (2, .iconst 3, 1), (3, .invokestatic 49, 3), (6, .ireturn, 1)]
set_option maxRecDepth 100000 in
theorem hp_X7_isSheet : pr_X7_isSheet.all (fun x => decide (decode cX7_isSheet x.1 = .ok x.2)) = true := by decide +kernel
def ze_X7_isSheet : zE := [(1, ((-2147483648), 2147483647))]
def k_X7_isSheet : zK := (2, [], (ze_X7_isSheet, [], [], [zi 1 0], [], []), [([], [], [], [zi 0 0], [], []),
  ([(1, (0, 3))], [], [], [zi 0 1], [], [])])
def bl_X7_isSheet : List (Nat × zS) := []
def tb_X7_isSheet : zTb := ([], [], [], [], [(49, k_X7_within)], [])
def sp_X7_isSheet : zSp := []
set_option maxRecDepth 1000000 in
theorem ck0_X7_isSheet : zrun tb_X7_isSheet sp_X7_isSheet pr_X7_isSheet 1 2 k_X7_isSheet.1 k_X7_isSheet.2.1 k_X7_isSheet.2.2.2 bl_X7_isSheet false 2000 5002 (zst0 k_X7_isSheet) 0 = true := by decide +kernel
set_option maxRecDepth 1000000 in
theorem ck_X7_isSheet : zcheck tb_X7_isSheet sp_X7_isSheet pr_X7_isSheet 1 2 k_X7_isSheet bl_X7_isSheet 2000 5002 = true := zcheck_of (by decide +kernel) ck0_X7_isSheet (fun _ h => absurd h List.not_mem_nil)
set_option maxRecDepth 100000 in
set_option maxHeartbeats 4000000 in
theorem c_X7_isSheet {X : zXT} (hX : zXok X) (hN : zXn X) (l : Launch) : zMet X vwCl l yX7_isSheet wsX7_isSheet { frames := 2, cells := 0, slots := 0, locals := 86 } k_X7_isSheet :=
  zmeth (tb := tb_X7_isSheet) (pr := pr_X7_isSheet) (bl := bl_X7_isSheet) (rt := 2) (own := RX7) hX (by decide +kernel) rfl rfl ⟨Nat.le_of_ble_eq_true rfl, Nat.le_of_ble_eq_true rfl⟩
    (zfl_all (fun _ h => absurd h List.not_mem_nil))
    (zco_all (fun _ h => absurd h List.not_mem_nil)) (zlc_all (fun _ h => absurd h List.not_mem_nil))
    (fun _ h => absurd h List.not_mem_nil)
    (List.forall_mem_cons.mpr ⟨fun p e s m args below meth c A S hx => zcal_S hX S (c_X7_within hX hN l) (va_cwS 3 S.2.2.2.2 gX7_isSheet_X7_within rfl rfl rfl (by decide +kernel) ⟨Nat.le_of_ble_eq_true rfl, Nat.le_of_ble_eq_true rfl⟩) rfl, fun _ h => absurd h List.not_mem_nil⟩)
    (zmm_all (fun _ h => absurd h List.not_mem_nil)) (zpr_all hp_X7_isSheet) ck_X7_isSheet
def pr_X7_isLane : List (Nat × Instr × Nat) := [(0, .iload_n 0, 1), (1, .iconst 0, 1), (2, .iconst 2, 1), (3, .invokestatic 49, 3), (6, .ireturn, 1)]
set_option maxRecDepth 100000 in
theorem hp_X7_isLane : pr_X7_isLane.all (fun x => decide (decode cX7_isLane x.1 = .ok x.2)) = true := by decide +kernel
def ze_X7_isLane : zE := [(1, ((-2147483648), 2147483647))]
def k_X7_isLane : zK := (2, [], (ze_X7_isLane, [], [], [zi 1 0], [], []), [([], [], [], [zi 0 0], [], []),
  ([(1, (0, 2))], [], [], [zi 0 1], [], [])])
def bl_X7_isLane : List (Nat × zS) := []
def tb_X7_isLane : zTb := ([], [], [], [], [(49, k_X7_within)], [])
def sp_X7_isLane : zSp := []
set_option maxRecDepth 1000000 in
theorem ck0_X7_isLane : zrun tb_X7_isLane sp_X7_isLane pr_X7_isLane 1 2 k_X7_isLane.1 k_X7_isLane.2.1 k_X7_isLane.2.2.2 bl_X7_isLane false 2000 5002 (zst0 k_X7_isLane) 0 = true := by decide +kernel
set_option maxRecDepth 1000000 in
theorem ck_X7_isLane : zcheck tb_X7_isLane sp_X7_isLane pr_X7_isLane 1 2 k_X7_isLane bl_X7_isLane 2000 5002 = true := zcheck_of (by decide +kernel) ck0_X7_isLane (fun _ h => absurd h List.not_mem_nil)
set_option maxRecDepth 100000 in
set_option maxHeartbeats 4000000 in
theorem c_X7_isLane {X : zXT} (hX : zXok X) (hN : zXn X) (l : Launch) : zMet X vwCl l yX7_isLane wsX7_isLane { frames := 2, cells := 0, slots := 0, locals := 86 } k_X7_isLane :=
  zmeth (tb := tb_X7_isLane) (pr := pr_X7_isLane) (bl := bl_X7_isLane) (rt := 2) (own := RX7) hX (by decide +kernel) rfl rfl ⟨Nat.le_of_ble_eq_true rfl, Nat.le_of_ble_eq_true rfl⟩
    (zfl_all (fun _ h => absurd h List.not_mem_nil))
    (zco_all (fun _ h => absurd h List.not_mem_nil)) (zlc_all (fun _ h => absurd h List.not_mem_nil))
    (fun _ h => absurd h List.not_mem_nil)
    (List.forall_mem_cons.mpr ⟨fun p e s m args below meth c A S hx => zcal_S hX S (c_X7_within hX hN l) (va_cwS 3 S.2.2.2.2 gX7_isLane_X7_within rfl rfl rfl (by decide +kernel) ⟨Nat.le_of_ble_eq_true rfl, Nat.le_of_ble_eq_true rfl⟩) rfl, fun _ h => absurd h List.not_mem_nil⟩)
    (zmm_all (fun _ h => absurd h List.not_mem_nil)) (zpr_all hp_X7_isLane) ck_X7_isLane
def pr_X7_bit : List (Nat × Instr × Nat) := [(0, .iload_n 0, 1), (1, .iload_n 1, 1), (2, .ishr, 1), (3, .iconst 1, 1), (4, .iand, 1), (5, .ireturn, 1)]
set_option maxRecDepth 100000 in
theorem hp_X7_bit : pr_X7_bit.all (fun x => decide (decode cX7_bit x.1 = .ok x.2)) = true := by decide +kernel
def ze_X7_bit : zE := [(1, ((-2147483648), 2147483647)), (2, ((-2147483648), 2147483647))]
def k_X7_bit : zK := (3, [], (ze_X7_bit, [], [], [zi 1 0, zi 2 0], [], []), [([(3, (0, 1))], [], [], [zi 3 0], [], [])])
def bl_X7_bit : List (Nat × zS) := []
def tb_X7_bit : zTb := ([], [], [], [], [], [])
def sp_X7_bit : zSp := []
set_option maxRecDepth 1000000 in
theorem ck0_X7_bit : zrun tb_X7_bit sp_X7_bit pr_X7_bit 2 1 k_X7_bit.1 k_X7_bit.2.1 k_X7_bit.2.2.2 bl_X7_bit false 2000 5003 (zst0 k_X7_bit) 0 = true := by decide +kernel
set_option maxRecDepth 1000000 in
theorem ck_X7_bit : zcheck tb_X7_bit sp_X7_bit pr_X7_bit 2 1 k_X7_bit bl_X7_bit 2000 5003 = true := zcheck_of (by decide +kernel) ck0_X7_bit (fun _ h => absurd h List.not_mem_nil)
set_option maxRecDepth 100000 in
set_option maxHeartbeats 4000000 in
theorem c_X7_bit {X : zXT} (hX : zXok X) (hN : zXn X) (l : Launch) : zMet X vwCl l yX7_bit wsX7_bit { frames := 1, cells := 0, slots := 0, locals := 64 } k_X7_bit :=
  zmeth (tb := tb_X7_bit) (pr := pr_X7_bit) (bl := bl_X7_bit) (rt := 1) (own := RX7) hX (by decide +kernel) rfl rfl ⟨Nat.le_of_ble_eq_true rfl, Nat.le_of_ble_eq_true rfl⟩
    (zfl_all (fun _ h => absurd h List.not_mem_nil))
    (zco_all (fun _ h => absurd h List.not_mem_nil)) (zlc_all (fun _ h => absurd h List.not_mem_nil))
    (fun _ h => absurd h List.not_mem_nil)
    (fun _ h => absurd h List.not_mem_nil)
    (zmm_all (fun _ h => absurd h List.not_mem_nil)) (zpr_all hp_X7_bit) ck_X7_bit
def pr_X7_withBit : List (Nat × Instr × Nat) := [(0, .iload_n 2, 1), (1, .ifCond .eq 11, 3), (4, .iload_n 0, 1), (5, .iconst 1, 1), (6, .iload_n 1, 1), (7, .ishl, 1), (8, .ior, 1), (9, .goto 10, 3), (12, .iload_n 0, 1), (13, .iconst 1, 1), (14, .iload_n 1, 1), (15, .ishl, 1), (16, .iconst (-1), 1), (17, .ixor, 1), (18, .iand, 1), (19, .ireturn, 1)]
set_option maxRecDepth 100000 in
theorem hp_X7_withBit : pr_X7_withBit.all (fun x => decide (decode cX7_withBit x.1 = .ok x.2)) = true := by decide +kernel
def ze_X7_withBit : zE := [(1, (0, 15)), (2, (0, 3)), (3, (0, 1))]
def k_X7_withBit : zK := (4, [], (ze_X7_withBit, [], [], [zi 1 0, zi 2 0, zi 3 0], [], []), [([(4, (0, 15))], [], [], [zi 4 0], [], [])])
def bl_X7_withBit : List (Nat × zS) := []
def tb_X7_withBit : zTb := ([], [], [], [], [], [])
def sp_X7_withBit : zSp := []
set_option maxRecDepth 1000000 in
theorem ck0_X7_withBit : zrun tb_X7_withBit sp_X7_withBit pr_X7_withBit 3 1 k_X7_withBit.1 k_X7_withBit.2.1 k_X7_withBit.2.2.2 bl_X7_withBit false 2000 5004 (zst0 k_X7_withBit) 0 = true := by decide +kernel
set_option maxRecDepth 1000000 in
theorem ck_X7_withBit : zcheck tb_X7_withBit sp_X7_withBit pr_X7_withBit 3 1 k_X7_withBit bl_X7_withBit 2000 5004 = true := zcheck_of (by decide +kernel) ck0_X7_withBit (fun _ h => absurd h List.not_mem_nil)
set_option maxRecDepth 100000 in
set_option maxHeartbeats 4000000 in
theorem c_X7_withBit {X : zXT} (hX : zXok X) (hN : zXn X) (l : Launch) : zMet X vwCl l yX7_withBit wsX7_withBit { frames := 1, cells := 0, slots := 0, locals := 64 } k_X7_withBit :=
  zmeth (tb := tb_X7_withBit) (pr := pr_X7_withBit) (bl := bl_X7_withBit) (rt := 1) (own := RX7) hX (by decide +kernel) rfl rfl ⟨Nat.le_of_ble_eq_true rfl, Nat.le_of_ble_eq_true rfl⟩
    (zfl_all (fun _ h => absurd h List.not_mem_nil))
    (zco_all (fun _ h => absurd h List.not_mem_nil)) (zlc_all (fun _ h => absurd h List.not_mem_nil))
    (fun _ h => absurd h List.not_mem_nil)
    (fun _ h => absurd h List.not_mem_nil)
    (zmm_all (fun _ h => absurd h List.not_mem_nil)) (zpr_all hp_X7_withBit) ck_X7_withBit
def ze_X7_withBit_2 : zE := [(1, ((-2147483648), 2147483647)), (2, ((-2147483648), 2147483647)), (3, (0, 1))]
def k_X7_withBit_2 : zK := (4, [], (ze_X7_withBit_2, [], [], [zi 1 0, zi 2 0, zi 3 0], [], []), [([(4, ((-2147483648), 2147483647))], [], [], [zi 4 0], [], [])])
def bl_X7_withBit_2 : List (Nat × zS) := []
def tb_X7_withBit_2 : zTb := ([], [], [], [], [], [])
def sp_X7_withBit_2 : zSp := []
set_option maxRecDepth 1000000 in
theorem ck0_X7_withBit_2 : zrun tb_X7_withBit_2 sp_X7_withBit_2 pr_X7_withBit 3 1 k_X7_withBit_2.1 k_X7_withBit_2.2.1 k_X7_withBit_2.2.2.2 bl_X7_withBit_2 false 2000 5004 (zst0 k_X7_withBit_2) 0 = true := by decide +kernel
set_option maxRecDepth 1000000 in
theorem ck_X7_withBit_2 : zcheck tb_X7_withBit_2 sp_X7_withBit_2 pr_X7_withBit 3 1 k_X7_withBit_2 bl_X7_withBit_2 2000 5004 = true := zcheck_of (by decide +kernel) ck0_X7_withBit_2 (fun _ h => absurd h List.not_mem_nil)
set_option maxRecDepth 100000 in
set_option maxHeartbeats 4000000 in
theorem c_X7_withBit_2 {X : zXT} (hX : zXok X) (hN : zXn X) (l : Launch) : zMet X vwCl l yX7_withBit wsX7_withBit { frames := 1, cells := 0, slots := 0, locals := 64 } k_X7_withBit_2 :=
  zmeth (tb := tb_X7_withBit_2) (pr := pr_X7_withBit) (bl := bl_X7_withBit_2) (rt := 1) (own := RX7) hX (by decide +kernel) rfl rfl ⟨Nat.le_of_ble_eq_true rfl, Nat.le_of_ble_eq_true rfl⟩
    (zfl_all (fun _ h => absurd h List.not_mem_nil))
    (zco_all (fun _ h => absurd h List.not_mem_nil)) (zlc_all (fun _ h => absurd h List.not_mem_nil))
    (fun _ h => absurd h List.not_mem_nil)
    (fun _ h => absurd h List.not_mem_nil)
    (zmm_all (fun _ h => absurd h List.not_mem_nil)) (zpr_all hp_X7_withBit) ck_X7_withBit_2
def pr_X7_doneAt : List (Nat × Instr × Nat) := [(0, .iload_n 0, 1), (1, .iconst 5, 1), (2, .imul, 1), (3, .iload_n 1, 1), (4, .iadd, 1), (5, .ireturn, 1)]
set_option maxRecDepth 100000 in
theorem hp_X7_doneAt : pr_X7_doneAt.all (fun x => decide (decode cX7_doneAt x.1 = .ok x.2)) = true := by decide +kernel
def ze_X7_doneAt : zE := [(1, (0, 6)), (2, (0, 4))]
def k_X7_doneAt : zK := (3, [], (ze_X7_doneAt, [], [], [zi 1 0, zi 2 0], [], []), [([(3, (0, 34))], [], [], [zi 3 0], [], [])])
def bl_X7_doneAt : List (Nat × zS) := []
def tb_X7_doneAt : zTb := ([], [], [], [], [], [])
def sp_X7_doneAt : zSp := []
set_option maxRecDepth 1000000 in
theorem ck0_X7_doneAt : zrun tb_X7_doneAt sp_X7_doneAt pr_X7_doneAt 2 1 k_X7_doneAt.1 k_X7_doneAt.2.1 k_X7_doneAt.2.2.2 bl_X7_doneAt false 2000 5003 (zst0 k_X7_doneAt) 0 = true := by decide +kernel
set_option maxRecDepth 1000000 in
theorem ck_X7_doneAt : zcheck tb_X7_doneAt sp_X7_doneAt pr_X7_doneAt 2 1 k_X7_doneAt bl_X7_doneAt 2000 5003 = true := zcheck_of (by decide +kernel) ck0_X7_doneAt (fun _ h => absurd h List.not_mem_nil)
set_option maxRecDepth 100000 in
set_option maxHeartbeats 4000000 in
theorem c_X7_doneAt {X : zXT} (hX : zXok X) (hN : zXn X) (l : Launch) : zMet X vwCl l yX7_doneAt wsX7_doneAt { frames := 1, cells := 0, slots := 0, locals := 64 } k_X7_doneAt :=
  zmeth (tb := tb_X7_doneAt) (pr := pr_X7_doneAt) (bl := bl_X7_doneAt) (rt := 1) (own := RX7) hX (by decide +kernel) rfl rfl ⟨Nat.le_of_ble_eq_true rfl, Nat.le_of_ble_eq_true rfl⟩
    (zfl_all (fun _ h => absurd h List.not_mem_nil))
    (zco_all (fun _ h => absurd h List.not_mem_nil)) (zlc_all (fun _ h => absurd h List.not_mem_nil))
    (fun _ h => absurd h List.not_mem_nil)
    (fun _ h => absurd h List.not_mem_nil)
    (zmm_all (fun _ h => absurd h List.not_mem_nil)) (zpr_all hp_X7_doneAt) ck_X7_doneAt
def pr_X7_numberOf : List (Nat × Instr × Nat) := [(0, .bipush 100, 2), (2, .iload_n 0, 1), (3, .imul, 1), (4, .bipush 20, 2), (6, .iload_n 1, 1), (7, .imul, 1), (8, .iadd, 1), (9, .iconst 5, 1), (10, .iload_n 2, 1), (11, .imul, 1), (12, .iadd, 1), (13, .iload_n 3, 1), (14, .iadd, 1), (15, .ireturn, 1)]
set_option maxRecDepth 100000 in
theorem hp_X7_numberOf : pr_X7_numberOf.all (fun x => decide (decode cX7_numberOf x.1 = .ok x.2)) = true := by decide +kernel
def ze_X7_numberOf : zE := [(1, (0, 6)), (2, (0, 3)), (3, (0, 3)), (4, (0, 4))]
def k_X7_numberOf : zK := (5, [], (ze_X7_numberOf, [], [], [zi 1 0, zi 2 0, zi 3 0, zi 4 0], [], []), [([(5, (0, 679))], [], [], [zi 5 0], [], [])])
def bl_X7_numberOf : List (Nat × zS) := []
def tb_X7_numberOf : zTb := ([], [], [], [], [], [])
def sp_X7_numberOf : zSp := []
set_option maxRecDepth 1000000 in
theorem ck0_X7_numberOf : zrun tb_X7_numberOf sp_X7_numberOf pr_X7_numberOf 4 1 k_X7_numberOf.1 k_X7_numberOf.2.1 k_X7_numberOf.2.2.2 bl_X7_numberOf false 2000 5005 (zst0 k_X7_numberOf) 0 = true := by decide +kernel
set_option maxRecDepth 1000000 in
theorem ck_X7_numberOf : zcheck tb_X7_numberOf sp_X7_numberOf pr_X7_numberOf 4 1 k_X7_numberOf bl_X7_numberOf 2000 5005 = true := zcheck_of (by decide +kernel) ck0_X7_numberOf (fun _ h => absurd h List.not_mem_nil)
set_option maxRecDepth 100000 in
set_option maxHeartbeats 4000000 in
theorem c_X7_numberOf {X : zXT} (hX : zXok X) (hN : zXn X) (l : Launch) : zMet X vwCl l yX7_numberOf wsX7_numberOf { frames := 1, cells := 0, slots := 0, locals := 64 } k_X7_numberOf :=
  zmeth (tb := tb_X7_numberOf) (pr := pr_X7_numberOf) (bl := bl_X7_numberOf) (rt := 1) (own := RX7) hX (by decide +kernel) rfl rfl ⟨Nat.le_of_ble_eq_true rfl, Nat.le_of_ble_eq_true rfl⟩
    (zfl_all (fun _ h => absurd h List.not_mem_nil))
    (zco_all (fun _ h => absurd h List.not_mem_nil)) (zlc_all (fun _ h => absurd h List.not_mem_nil))
    (fun _ h => absurd h List.not_mem_nil)
    (fun _ h => absurd h List.not_mem_nil)
    (zmm_all (fun _ h => absurd h List.not_mem_nil)) (zpr_all hp_X7_numberOf) ck_X7_numberOf
def pr_X7_numbersOf : List (Nat × Instr × Nat) := [(0, .bipush 100, 2), (2, .iload_n 0, 1), (3, .imul, 1), (4, .ireturn, 1)]
set_option maxRecDepth 100000 in
theorem hp_X7_numbersOf : pr_X7_numbersOf.all (fun x => decide (decode cX7_numbersOf x.1 = .ok x.2)) = true := by decide +kernel
def ze_X7_numbersOf : zE := [(1, (2, 7))]
def k_X7_numbersOf : zK := (2, [], (ze_X7_numbersOf, [], [], [zi 1 0], [], []), [([(2, (200, 700))], [], [], [zi 2 0], [], [])])
def bl_X7_numbersOf : List (Nat × zS) := []
def tb_X7_numbersOf : zTb := ([], [], [], [], [], [])
def sp_X7_numbersOf : zSp := []
set_option maxRecDepth 1000000 in
theorem ck0_X7_numbersOf : zrun tb_X7_numbersOf sp_X7_numbersOf pr_X7_numbersOf 1 1 k_X7_numbersOf.1 k_X7_numbersOf.2.1 k_X7_numbersOf.2.2.2 bl_X7_numbersOf false 2000 5002 (zst0 k_X7_numbersOf) 0 = true := by decide +kernel
set_option maxRecDepth 1000000 in
theorem ck_X7_numbersOf : zcheck tb_X7_numbersOf sp_X7_numbersOf pr_X7_numbersOf 1 1 k_X7_numbersOf bl_X7_numbersOf 2000 5002 = true := zcheck_of (by decide +kernel) ck0_X7_numbersOf (fun _ h => absurd h List.not_mem_nil)
set_option maxRecDepth 100000 in
set_option maxHeartbeats 4000000 in
theorem c_X7_numbersOf {X : zXT} (hX : zXok X) (hN : zXn X) (l : Launch) : zMet X vwCl l yX7_numbersOf wsX7_numbersOf { frames := 1, cells := 0, slots := 0, locals := 64 } k_X7_numbersOf :=
  zmeth (tb := tb_X7_numbersOf) (pr := pr_X7_numbersOf) (bl := bl_X7_numbersOf) (rt := 1) (own := RX7) hX (by decide +kernel) rfl rfl ⟨Nat.le_of_ble_eq_true rfl, Nat.le_of_ble_eq_true rfl⟩
    (zfl_all (fun _ h => absurd h List.not_mem_nil))
    (zco_all (fun _ h => absurd h List.not_mem_nil)) (zlc_all (fun _ h => absurd h List.not_mem_nil))
    (fun _ h => absurd h List.not_mem_nil)
    (fun _ h => absurd h List.not_mem_nil)
    (zmm_all (fun _ h => absurd h List.not_mem_nil)) (zpr_all hp_X7_numbersOf) ck_X7_numbersOf
def pr_X7_partOfFraction : List (Nat × Instr × Nat) := [(0, .lload_n 0, 1), (1, .lstore 5, 2), (3, .lload_n 2, 1), (4, .lstore 7, 2), (6, .iconst 0, 1), (7, .istore 9, 2), (9, .iload 9, 2), (11, .bipush 100, 2), (13, .if_icmp .ge 31, 3), (16, .lload 7, 2), (18, .lconst 0, 1), (19, .lcmp, 1), (20, .ifCond .eq 24, 3), (23, .lload 5, 2), (25, .lload 7, 2), (27, .lrem, 1), (28, .lstore 10, 2), (30, .lload 7, 2), (32, .lstore 5, 2), (34, .lload 10, 2), (36, .lstore 7, 2), (38, .iinc 9 1, 3), (41, .goto (-32), 3), (44, .iload 4, 2), (46, .ifCond .ne 7, 3), (49, .lload_n 0, 1), (50, .goto 4, 3), (53, .lload_n 2, 1), (54, .lstore 9, 2), (56, .lload 5, 2), (58, .lconst 0, 1), (59, .lcmp, 1), (60, .ifCond .le 11, 3), (63, .lload 9, 2), (65, .lload 5, 2), (67, .ldiv, 1), (68, .goto 5, 3), (71, .lload 9, 2), (73, .lreturn, 1)]
set_option maxRecDepth 100000 in
theorem hp_X7_partOfFraction : pr_X7_partOfFraction.all (fun x => decide (decode cX7_partOfFraction x.1 = .ok x.2)) = true := by decide +kernel
def ze_X7_partOfFraction : zE := [(1, ((-9223372036854775808), 9223372036854775807)), (2, ((-9223372036854775808), 9223372036854775807)), (3, ((-2147483648), 2147483647))]
def k_X7_partOfFraction : zK := (4, [], (ze_X7_partOfFraction, [], [], [zl 1 0, zl 2 0, zi 3 0], [], []), [([(4, ((-9223372036854775808), 9223372036854775807))], [], [], [zl 4 0], [], [])])
def b0_X7_partOfFraction : Nat × zS := (9, ([(4, (0, 127)), (5, ((-9223372036854775808), 9223372036854775807)), (6, ((-9223372036854775808), 9223372036854775807))] ++ ze_X7_partOfFraction, [], [(9, zi 4 0), (7, zl 5 0), (5, zl 6 0), (0, zl 1 0), (2, zl 2 0), (4, zi 3 0)], [], [], [(false, (0, 99991)), (true, (4, 127)), (false, (0, 200000)), (false, (0, 0))]))
def bl_X7_partOfFraction : List (Nat × zS) := [b0_X7_partOfFraction]
def tb_X7_partOfFraction : zTb := ([], [], [], [], [], [])
def sp_X7_partOfFraction : zSp := []
set_option maxRecDepth 1000000 in
theorem ck0_X7_partOfFraction : zrun tb_X7_partOfFraction sp_X7_partOfFraction pr_X7_partOfFraction 12 3 k_X7_partOfFraction.1 k_X7_partOfFraction.2.1 k_X7_partOfFraction.2.2.2 bl_X7_partOfFraction false 2000 5004 (zst0 k_X7_partOfFraction) 0 = true := by decide +kernel
set_option maxRecDepth 1000000 in
theorem ck1_X7_partOfFraction : zrun tb_X7_partOfFraction sp_X7_partOfFraction pr_X7_partOfFraction 12 3 k_X7_partOfFraction.1 k_X7_partOfFraction.2.1 k_X7_partOfFraction.2.2.2 bl_X7_partOfFraction true 2000 5004 b0_X7_partOfFraction.2 b0_X7_partOfFraction.1 = true := by decide +kernel
set_option maxRecDepth 1000000 in
theorem ck_X7_partOfFraction : zcheck tb_X7_partOfFraction sp_X7_partOfFraction pr_X7_partOfFraction 12 3 k_X7_partOfFraction bl_X7_partOfFraction 2000 5004 = true := zcheck_of (by decide +kernel) ck0_X7_partOfFraction (List.forall_mem_cons.mpr ⟨ck1_X7_partOfFraction, fun _ h => absurd h List.not_mem_nil⟩)
set_option maxRecDepth 100000 in
set_option maxHeartbeats 4000000 in
theorem c_X7_partOfFraction {X : zXT} (hX : zXok X) (hN : zXn X) (l : Launch) : zMet X vwCl l yX7_partOfFraction wsX7_partOfFraction { frames := 1, cells := 0, slots := 0, locals := 64 } k_X7_partOfFraction :=
  zmeth (tb := tb_X7_partOfFraction) (pr := pr_X7_partOfFraction) (bl := bl_X7_partOfFraction) (rt := 3) (own := RX7) hX (by decide +kernel) rfl rfl ⟨Nat.le_of_ble_eq_true rfl, Nat.le_of_ble_eq_true rfl⟩
    (zfl_all (fun _ h => absurd h List.not_mem_nil))
    (zco_all (fun _ h => absurd h List.not_mem_nil)) (zlc_all (fun _ h => absurd h List.not_mem_nil))
    (fun _ h => absurd h List.not_mem_nil)
    (fun _ h => absurd h List.not_mem_nil)
    (zmm_all (fun _ h => absurd h List.not_mem_nil)) (zpr_all hp_X7_partOfFraction) ck_X7_partOfFraction
def pr_X4_fallsOf : List (Nat × Instr × Nat) := [(0, .iload_n 0, 1), (1, .iconst 3, 1), (2, .if_icmp .ne 7, 3), (5, .iconst 2, 1), (6, .goto 4, 3), (9, .iconst 1, 1), (10, .ireturn, 1)]
set_option maxRecDepth 100000 in
theorem hp_X4_fallsOf : pr_X4_fallsOf.all (fun x => decide (decode cX4_fallsOf x.1 = .ok x.2)) = true := by decide +kernel
def ze_X4_fallsOf : zE := [(1, ((-2147483648), 2147483647))]
def k_X4_fallsOf : zK := (2, [], (ze_X4_fallsOf, [], [], [zi 1 0], [], []), [([], [], [], [zi 0 1], [], []),
  ([(1, (3, 3))], [], [], [zi 0 2], [], [])])
def bl_X4_fallsOf : List (Nat × zS) := []
def tb_X4_fallsOf : zTb := ([], [], [], [], [], [])
def sp_X4_fallsOf : zSp := []
set_option maxRecDepth 1000000 in
theorem ck0_X4_fallsOf : zrun tb_X4_fallsOf sp_X4_fallsOf pr_X4_fallsOf 1 1 k_X4_fallsOf.1 k_X4_fallsOf.2.1 k_X4_fallsOf.2.2.2 bl_X4_fallsOf false 2000 5002 (zst0 k_X4_fallsOf) 0 = true := by decide +kernel
set_option maxRecDepth 1000000 in
theorem ck_X4_fallsOf : zcheck tb_X4_fallsOf sp_X4_fallsOf pr_X4_fallsOf 1 1 k_X4_fallsOf bl_X4_fallsOf 2000 5002 = true := zcheck_of (by decide +kernel) ck0_X4_fallsOf (fun _ h => absurd h List.not_mem_nil)
set_option maxRecDepth 100000 in
set_option maxHeartbeats 4000000 in
theorem c_X4_fallsOf {X : zXT} (hX : zXok X) (hN : zXn X) (l : Launch) : zMet X vwCl l yX4_fallsOf wsX4_fallsOf { frames := 1, cells := 0, slots := 0, locals := 64 } k_X4_fallsOf :=
  zmeth (tb := tb_X4_fallsOf) (pr := pr_X4_fallsOf) (bl := bl_X4_fallsOf) (rt := 1) (own := RX4) hX (by decide +kernel) rfl rfl ⟨Nat.le_of_ble_eq_true rfl, Nat.le_of_ble_eq_true rfl⟩
    (zfl_all (fun _ h => absurd h List.not_mem_nil))
    (zco_all (fun _ h => absurd h List.not_mem_nil)) (zlc_all (fun _ h => absurd h List.not_mem_nil))
    (fun _ h => absurd h List.not_mem_nil)
    (fun _ h => absurd h List.not_mem_nil)
    (zmm_all (fun _ h => absurd h List.not_mem_nil)) (zpr_all hp_X4_fallsOf) ck_X4_fallsOf
def pr_X4_stepOf : List (Nat × Instr × Nat) := [(0, .iload_n 0, 1), (1, .iconst 1, 1), (2, .if_icmp .eq 12, 3), (5, .iload_n 0, 1), (6, .iconst 3, 1), (7, .if_icmp .ne 9, 3), (10, .iload_n 1, 1), (11, .ifCond .ne 5, 3), (14, .iconst (-1), 1), (15, .ireturn, 1), (16, .iload_n 0, 1), (17, .iconst 2, 1), (18, .if_icmp .ne 7, 3), (21, .iconst 2, 1), (22, .goto 4, 3), (25, .iconst 1, 1), (26, .ireturn, 1)]
set_option maxRecDepth 100000 in
theorem hp_X4_stepOf : pr_X4_stepOf.all (fun x => decide (decode cX4_stepOf x.1 = .ok x.2)) = true := by decide +kernel
def ze_X4_stepOf : zE := [(1, ((-2147483648), 2147483647)), (2, ((-2147483648), 2147483647))]
def k_X4_stepOf : zK := (3, [], (ze_X4_stepOf, [], [], [zi 1 0, zi 2 0], [], []), [([(1, (1, 3))], [], [], [zi 0 (-1)], [], []),
  ([], [], [], [zi 0 1], [], []),
  ([(1, (2, 2))], [], [], [zi 0 2], [], [])])
def bl_X4_stepOf : List (Nat × zS) := []
def tb_X4_stepOf : zTb := ([], [], [], [], [], [])
def sp_X4_stepOf : zSp := []
set_option maxRecDepth 1000000 in
theorem ck0_X4_stepOf : zrun tb_X4_stepOf sp_X4_stepOf pr_X4_stepOf 2 1 k_X4_stepOf.1 k_X4_stepOf.2.1 k_X4_stepOf.2.2.2 bl_X4_stepOf false 2000 5003 (zst0 k_X4_stepOf) 0 = true := by decide +kernel
set_option maxRecDepth 1000000 in
theorem ck_X4_stepOf : zcheck tb_X4_stepOf sp_X4_stepOf pr_X4_stepOf 2 1 k_X4_stepOf bl_X4_stepOf 2000 5003 = true := zcheck_of (by decide +kernel) ck0_X4_stepOf (fun _ h => absurd h List.not_mem_nil)
set_option maxRecDepth 100000 in
set_option maxHeartbeats 4000000 in
theorem c_X4_stepOf {X : zXT} (hX : zXok X) (hN : zXn X) (l : Launch) : zMet X vwCl l yX4_stepOf wsX4_stepOf { frames := 1, cells := 0, slots := 0, locals := 64 } k_X4_stepOf :=
  zmeth (tb := tb_X4_stepOf) (pr := pr_X4_stepOf) (bl := bl_X4_stepOf) (rt := 1) (own := RX4) hX (by decide +kernel) rfl rfl ⟨Nat.le_of_ble_eq_true rfl, Nat.le_of_ble_eq_true rfl⟩
    (zfl_all (fun _ h => absurd h List.not_mem_nil))
    (zco_all (fun _ h => absurd h List.not_mem_nil)) (zlc_all (fun _ h => absurd h List.not_mem_nil))
    (fun _ h => absurd h List.not_mem_nil)
    (fun _ h => absurd h List.not_mem_nil)
    (zmm_all (fun _ h => absurd h List.not_mem_nil)) (zpr_all hp_X4_stepOf) ck_X4_stepOf
def pr_X5_append : List (Nat × Instr × Nat) := [(0, .aload_n 0, 1), (1, .getfield 24, 3), (4, .bipush 10, 2), (6, .if_icmp .lt 5, 3), (9, .iconst 0, 1), (10, .ireturn, 1), (11, .aload_n 0, 1), (12, .getfield 9, 3), (15, .aload_n 0, 1), (16, .getfield 24, 3), (19, .iload_n 1, 1), (20, .iastore, 1), (21, .aload_n 0, 1), (22, .getfield 15, 3), (25, .aload_n 0, 1), (26, .getfield 24, 3), (29, .iload_n 2, 1), (30, .iastore, 1), (31, .aload_n 0, 1), (32, .getfield 18, 3), (35, .aload_n 0, 1), (36, .getfield 24, 3), (39, .iload_n 3, 1), (40, .iastore, 1), (41, .aload_n 0, 1), (42, .getfield 21, 3), (45, .aload_n 0, 1), (46, .getfield 24, 3), (49, .iload 4, 2), (51, .iastore, 1), (52, .aload_n 0, 1), (53, .dup, 1), (54, .getfield 24, 3), (57, .iconst 1, 1), (58, .iadd, 1), (59, .putfield 24, 3), (62, .iconst 1, 1), (63, .ireturn, 1)]
set_option maxRecDepth 100000 in
theorem hp_X5_append : pr_X5_append.all (fun x => decide (decode cX5_append x.1 = .ok x.2)) = true := by decide +kernel
def zw0c : zW := [(0, .inl (5, [zi 1 0, zr 1, zr 2, zr 3, zr 4])),
  (1, .inr (.inl (0, 10, [(10, .inl (0, 6))], []))),
  (2, .inr (.inl (0, 10, [(10, .inl ((-2147483648), 2147483647))], []))),
  (3, .inr (.inl (0, 10, [(10, .inl ((-2147483648), 2147483647))], []))),
  (4, .inr (.inl (0, 10, [(10, .inl (0, 4))], [])))]
def ze_X5_append : zE := [(1, (0, 10)), (2, (0, 6)), (3, ((-2147483648), 2147483647)), (4, ((-2147483648), 2147483647)), (5, (0, 4))]
def k_X5_append : zK := (6, [0, 1, 2, 3, 4], (ze_X5_append, [], [], [zr 0, zi 2 0, zi 3 0, zi 4 0, zi 5 0], zw0c, []), [([(1, (0, 9))], [], [], [zi 0 1], zfs (zw0c) 0 0 (zi 1 1), []),
  ([(1, (10, 10))], [], [], [zi 0 0], zw0c, [])])
def bl_X5_append : List (Nat × zS) := []
def tb_X5_append : zTb := ([(9, 5, 1, 3), (15, 5, 2, 3), (18, 5, 3, 3), (21, 5, 4, 3), (24, 5, 0, 0)], [], [], [], [], [])
def sp_X5_append : zSp := []
set_option maxRecDepth 1000000 in
theorem ck0_X5_append : zrun tb_X5_append sp_X5_append pr_X5_append 5 2 k_X5_append.1 k_X5_append.2.1 k_X5_append.2.2.2 bl_X5_append false 2000 5006 (zst0 k_X5_append) 0 = true := by decide +kernel
set_option maxRecDepth 1000000 in
theorem ck_X5_append : zcheck tb_X5_append sp_X5_append pr_X5_append 5 2 k_X5_append bl_X5_append 2000 5006 = true := zcheck_of (by decide +kernel) ck0_X5_append (fun _ h => absurd h List.not_mem_nil)
set_option maxRecDepth 100000 in
set_option maxHeartbeats 4000000 in
theorem c_X5_append {X : zXT} (hX : zXok X) (hN : zXn X) (l : Launch) : zMet X vwCl l yX5_append wsX5_append { frames := 1, cells := 0, slots := 0, locals := 64 } k_X5_append :=
  zmeth (tb := tb_X5_append) (pr := pr_X5_append) (bl := bl_X5_append) (rt := 2) (own := RX5) hX (by decide +kernel) rfl rfl ⟨Nat.le_of_ble_eq_true rfl, Nat.le_of_ble_eq_true rfl⟩
    (zfl_all (List.forall_mem_cons.mpr ⟨zfl_X5 (fun w h => List.mem_cons_of_mem _ (List.mem_append_right _ h)) (List.mem_of_getElem? (i := 2) rfl) (by decide) (by decide), List.forall_mem_cons.mpr ⟨zfl_X5 (fun w h => List.mem_cons_of_mem _ (List.mem_append_right _ h)) (List.mem_of_getElem? (i := 3) rfl) (by decide) (by decide), List.forall_mem_cons.mpr ⟨zfl_X5 (fun w h => List.mem_cons_of_mem _ (List.mem_append_right _ h)) (List.mem_of_getElem? (i := 4) rfl) (by decide) (by decide), List.forall_mem_cons.mpr ⟨zfl_X5 (fun w h => List.mem_cons_of_mem _ (List.mem_append_right _ h)) (List.mem_of_getElem? (i := 5) rfl) (by decide) (by decide), List.forall_mem_cons.mpr ⟨zfl_X5 (fun w h => List.mem_cons_of_mem _ (List.mem_append_right _ h)) (List.mem_of_getElem? (i := 1) rfl) (by decide) (by decide), fun _ h => absurd h List.not_mem_nil⟩⟩⟩⟩⟩))
    (zco_all (fun _ h => absurd h List.not_mem_nil)) (zlc_all (fun _ h => absurd h List.not_mem_nil))
    (fun _ h => absurd h List.not_mem_nil)
    (fun _ h => absurd h List.not_mem_nil)
    (zmm_all (fun _ h => absurd h List.not_mem_nil)) (zpr_all hp_X5_append) ck_X5_append
def pr_X5_copyFrom : List (Nat × Instr × Nat) := [(0, .aload_n 0, 1), (1, .aload_n 1, 1), (2, .getfield 24, 3), (5, .putfield 24, 3), (8, .aload_n 1, 1), (9, .getfield 9, 3), (12, .iconst 0, 1), (13, .aload_n 0, 1), (14, .getfield 9, 3), (17, .iconst 0, 1), (18, .bipush 10, 2), (20, .invokestatic 28, 3), (23, .aload_n 1, 1), (24, .getfield 15, 3), (27, .iconst 0, 1), (28, .aload_n 0, 1), (29, .getfield 15, 3), (32, .iconst 0, 1), (33, .bipush 10, 2), (35, .invokestatic 28, 3), (38, .aload_n 1, 1), (39, .getfield 18, 3), (42, .iconst 0, 1), (43, .aload_n 0, 1), (44, .getfield 18, 3), (47, .iconst 0, 1), (48, .bipush 10, 2), (50, .invokestatic 28, 3), (53, .aload_n 1, 1), (54, .getfield 21, 3), (57, .iconst 0, 1), (58, .aload_n 0, 1), (59, .getfield 21, 3), (62, .iconst 0, 1), (63, .bipush 10, 2), (65, .invokestatic 28, 3), (68, .return_, 1)]
set_option maxRecDepth 100000 in
theorem hp_X5_copyFrom : pr_X5_copyFrom.all (fun x => decide (decode cX5_copyFrom x.1 = .ok x.2)) = true := by decide +kernel
def zw1c : zW := [(0, .inl (5, [zi 1 0, zr 1, zr 2, zr 3, zr 4])),
  (1, .inr (.inl (0, 10, [(10, .inl (0, 6))], []))),
  (2, .inr (.inl (0, 10, [(10, .inl ((-2147483648), 2147483647))], []))),
  (3, .inr (.inl (0, 10, [(10, .inl ((-2147483648), 2147483647))], []))),
  (4, .inr (.inl (0, 10, [(10, .inl (0, 4))], []))),
  (5, .inl (5, [zi 2 0, zr 6, zr 7, zr 8, zr 9])),
  (6, .inr (.inl (0, 10, [(10, .inl (0, 6))], []))),
  (7, .inr (.inl (0, 10, [(10, .inl ((-2147483648), 2147483647))], []))),
  (8, .inr (.inl (0, 10, [(10, .inl ((-2147483648), 2147483647))], []))),
  (9, .inr (.inl (0, 10, [(10, .inl (0, 4))], [])))]
def ze_X5_copyFrom : zE := [(1, (0, 10)), (2, (0, 10))]
def k_X5_copyFrom : zK := (3, [0, 1, 2, 3, 4, 5, 6, 7, 8, 9], (ze_X5_copyFrom, [], [], [zr 0, zr 5], zw1c, []), [([], [], [], [], zfs (zw1c) 0 0 (zi 2 0), [])])
def bl_X5_copyFrom : List (Nat × zS) := []
def tb_X5_copyFrom : zTb := ([(9, 5, 1, 3), (15, 5, 2, 3), (18, 5, 3, 3), (21, 5, 4, 3), (24, 5, 0, 0)], [], [], [], [], [(28, 2)])
def sp_X5_copyFrom : zSp := []
set_option maxRecDepth 1000000 in
theorem ck0_X5_copyFrom : zrun tb_X5_copyFrom sp_X5_copyFrom pr_X5_copyFrom 2 0 k_X5_copyFrom.1 k_X5_copyFrom.2.1 k_X5_copyFrom.2.2.2 bl_X5_copyFrom false 2000 5003 (zst0 k_X5_copyFrom) 0 = true := by decide +kernel
set_option maxRecDepth 1000000 in
theorem ck_X5_copyFrom : zcheck tb_X5_copyFrom sp_X5_copyFrom pr_X5_copyFrom 2 0 k_X5_copyFrom bl_X5_copyFrom 2000 5003 = true := zcheck_of (by decide +kernel) ck0_X5_copyFrom (fun _ h => absurd h List.not_mem_nil)
set_option maxRecDepth 100000 in
set_option maxHeartbeats 4000000 in
theorem c_X5_copyFrom {X : zXT} (hX : zXok X) (hN : zXn X) (l : Launch) : zMet X vwCl l yX5_copyFrom wsX5_copyFrom { frames := 1, cells := 0, slots := 0, locals := 64 } k_X5_copyFrom :=
  zmeth (tb := tb_X5_copyFrom) (pr := pr_X5_copyFrom) (bl := bl_X5_copyFrom) (rt := 0) (own := RX5) hX (by decide +kernel) rfl rfl ⟨Nat.le_of_ble_eq_true rfl, Nat.le_of_ble_eq_true rfl⟩
    (zfl_all (List.forall_mem_cons.mpr ⟨zfl_X5 (fun w h => List.mem_cons_of_mem _ (List.mem_append_right _ h)) (List.mem_of_getElem? (i := 2) rfl) (by decide) (by decide), List.forall_mem_cons.mpr ⟨zfl_X5 (fun w h => List.mem_cons_of_mem _ (List.mem_append_right _ h)) (List.mem_of_getElem? (i := 7) rfl) (by decide) (by decide), List.forall_mem_cons.mpr ⟨zfl_X5 (fun w h => List.mem_cons_of_mem _ (List.mem_append_right _ h)) (List.mem_of_getElem? (i := 8) rfl) (by decide) (by decide), List.forall_mem_cons.mpr ⟨zfl_X5 (fun w h => List.mem_cons_of_mem _ (List.mem_append_right _ h)) (List.mem_of_getElem? (i := 9) rfl) (by decide) (by decide), List.forall_mem_cons.mpr ⟨zfl_X5 (fun w h => List.mem_cons_of_mem _ (List.mem_append_right _ h)) (List.mem_of_getElem? (i := 1) rfl) (by decide) (by decide), fun _ h => absurd h List.not_mem_nil⟩⟩⟩⟩⟩))
    (zco_all (fun _ h => absurd h List.not_mem_nil)) (zlc_all (fun _ h => absurd h List.not_mem_nil))
    (fun _ h => absurd h List.not_mem_nil)
    (fun _ h => absurd h List.not_mem_nil)
    (zmm_all (List.forall_mem_cons.mpr ⟨⟨List.mem_of_getElem? (i := 3) rfl, List.mem_of_getElem? (i := 4) rfl, List.mem_of_getElem? (i := 5) rfl, List.mem_of_getElem? (i := 6) rfl⟩, fun _ h => absurd h List.not_mem_nil⟩)) (zpr_all hp_X5_copyFrom) ck_X5_copyFrom
def pr_X5_manyForEver : List (Nat × Instr × Nat) := [(0, .iconst 0, 1), (1, .istore_n 1, 1), (2, .iconst 0, 1), (3, .istore_n 2, 1), (4, .iload_n 2, 1), (5, .aload_n 0, 1), (6, .getfield 24, 3), (9, .if_icmp .ge 23, 3), (12, .aload_n 0, 1), (13, .getfield 18, 3), (16, .iload_n 2, 1), (17, .iaload, 1), (18, .bipush 9, 2), (20, .if_icmp .ne 6, 3), (23, .iinc 1 1, 3), (26, .iinc 2 1, 3), (29, .goto (-25), 3), (32, .iload_n 1, 1), (33, .ireturn, 1)]
set_option maxRecDepth 100000 in
theorem hp_X5_manyForEver : pr_X5_manyForEver.all (fun x => decide (decode cX5_manyForEver x.1 = .ok x.2)) = true := by decide +kernel
def ze_X5_manyForEver : zE := [(1, (0, 10))]
def k_X5_manyForEver : zK := (2, [0, 1, 2, 3, 4], (ze_X5_manyForEver, [], [], [zr 0], zw0c, []), [([(2, ((-2147483648), 2147483647))], [], [], [zi 2 0], zw0c, [])])
def b0_X5_manyForEver : Nat × zS := (4, ([(2, (0, 10)), (3, ((-2147483648), 2147483647))] ++ ze_X5_manyForEver, [(2, 1, 0)], [(2, zi 2 0), (1, zi 3 0), (0, zr 0)], [], zw0c, [(false, (0, 99996)), (true, (2, 10)), (false, (0, 200000)), (false, (0, 0))]))
def bl_X5_manyForEver : List (Nat × zS) := [b0_X5_manyForEver]
def tb_X5_manyForEver : zTb := ([(18, 5, 3, 3), (24, 5, 0, 0)], [], [], [], [], [])
def sp_X5_manyForEver : zSp := []
set_option maxRecDepth 1000000 in
theorem ck0_X5_manyForEver : zrun tb_X5_manyForEver sp_X5_manyForEver pr_X5_manyForEver 3 1 k_X5_manyForEver.1 k_X5_manyForEver.2.1 k_X5_manyForEver.2.2.2 bl_X5_manyForEver false 2000 5002 (zst0 k_X5_manyForEver) 0 = true := by decide +kernel
set_option maxRecDepth 1000000 in
theorem ck1_X5_manyForEver : zrun tb_X5_manyForEver sp_X5_manyForEver pr_X5_manyForEver 3 1 k_X5_manyForEver.1 k_X5_manyForEver.2.1 k_X5_manyForEver.2.2.2 bl_X5_manyForEver true 2000 5002 b0_X5_manyForEver.2 b0_X5_manyForEver.1 = true := by decide +kernel
set_option maxRecDepth 1000000 in
theorem ck_X5_manyForEver : zcheck tb_X5_manyForEver sp_X5_manyForEver pr_X5_manyForEver 3 1 k_X5_manyForEver bl_X5_manyForEver 2000 5002 = true := zcheck_of (by decide +kernel) ck0_X5_manyForEver (List.forall_mem_cons.mpr ⟨ck1_X5_manyForEver, fun _ h => absurd h List.not_mem_nil⟩)
set_option maxRecDepth 100000 in
set_option maxHeartbeats 4000000 in
theorem c_X5_manyForEver {X : zXT} (hX : zXok X) (hN : zXn X) (l : Launch) : zMet X vwCl l yX5_manyForEver wsX5_manyForEver { frames := 1, cells := 0, slots := 0, locals := 64 } k_X5_manyForEver :=
  zmeth (tb := tb_X5_manyForEver) (pr := pr_X5_manyForEver) (bl := bl_X5_manyForEver) (rt := 1) (own := RX5) hX (by decide +kernel) rfl rfl ⟨Nat.le_of_ble_eq_true rfl, Nat.le_of_ble_eq_true rfl⟩
    (zfl_all (List.forall_mem_cons.mpr ⟨zfl_X5 (fun w h => List.mem_cons_of_mem _ (List.mem_append_right _ h)) (List.mem_of_getElem? (i := 2) rfl) (by decide) (by decide), List.forall_mem_cons.mpr ⟨zfl_X5 (fun w h => List.mem_cons_of_mem _ (List.mem_append_right _ h)) (List.mem_of_getElem? (i := 1) rfl) (by decide) (by decide), fun _ h => absurd h List.not_mem_nil⟩⟩))
    (zco_all (fun _ h => absurd h List.not_mem_nil)) (zlc_all (fun _ h => absurd h List.not_mem_nil))
    (fun _ h => absurd h List.not_mem_nil)
    (fun _ h => absurd h List.not_mem_nil)
    (zmm_all (fun _ h => absurd h List.not_mem_nil)) (zpr_all hp_X5_manyForEver) ck_X5_manyForEver
def pr_X6_append : List (Nat × Instr × Nat) := [(0, .aload_n 0, 1), (1, .getfield 18, 3), (4, .iconst 4, 1), (5, .if_icmp .lt 5, 3), (8, .iconst 0, 1), (9, .ireturn, 1), (10, .aload_n 0, 1), (11, .getfield 9, 3), (14, .aload_n 0, 1), (15, .getfield 18, 3), (18, .iload_n 1, 1), (19, .iastore, 1), (20, .aload_n 0, 1), (21, .getfield 15, 3), (24, .aload_n 0, 1), (25, .getfield 18, 3), (28, .iload_n 2, 1), (29, .iastore, 1), (30, .aload_n 0, 1), (31, .dup, 1), (32, .getfield 18, 3), (35, .iconst 1, 1), (36, .iadd, 1), (37, .putfield 18, 3), (40, .iconst 1, 1), (41, .ireturn, 1)]
set_option maxRecDepth 100000 in
theorem hp_X6_append : pr_X6_append.all (fun x => decide (decode cX6_append x.1 = .ok x.2)) = true := by decide +kernel
def zw2c : zW := [(0, .inl (6, [zi 1 0, zr 1, zr 2])),
  (1, .inr (.inl (0, 4, [(4, .inl ((-2147483648), 2147483647))], []))),
  (2, .inr (.inl (0, 4, [(4, .inl ((-2147483648), 2147483647))], [])))]
def ze_X6_append : zE := [(1, (0, 4)), (2, ((-2147483648), 2147483647)), (3, ((-2147483648), 2147483647))]
def k_X6_append : zK := (4, [0, 1, 2], (ze_X6_append, [], [], [zr 0, zi 2 0, zi 3 0], zw2c, []), [([(1, (0, 3))], [], [], [zi 0 1], zfs (zw2c) 0 0 (zi 1 1), []),
  ([(1, (4, 4))], [], [], [zi 0 0], zw2c, [])])
def bl_X6_append : List (Nat × zS) := []
def tb_X6_append : zTb := ([(9, 6, 1, 3), (15, 6, 2, 3), (18, 6, 0, 0)], [], [], [], [], [])
def sp_X6_append : zSp := []
set_option maxRecDepth 1000000 in
theorem ck0_X6_append : zrun tb_X6_append sp_X6_append pr_X6_append 3 2 k_X6_append.1 k_X6_append.2.1 k_X6_append.2.2.2 bl_X6_append false 2000 5004 (zst0 k_X6_append) 0 = true := by decide +kernel
set_option maxRecDepth 1000000 in
theorem ck_X6_append : zcheck tb_X6_append sp_X6_append pr_X6_append 3 2 k_X6_append bl_X6_append 2000 5004 = true := zcheck_of (by decide +kernel) ck0_X6_append (fun _ h => absurd h List.not_mem_nil)
set_option maxRecDepth 100000 in
set_option maxHeartbeats 4000000 in
theorem c_X6_append {X : zXT} (hX : zXok X) (hN : zXn X) (l : Launch) : zMet X vwCl l yX6_append wsX6_append { frames := 1, cells := 0, slots := 0, locals := 64 } k_X6_append :=
  zmeth (tb := tb_X6_append) (pr := pr_X6_append) (bl := bl_X6_append) (rt := 2) (own := RX6) hX (by decide +kernel) rfl rfl ⟨Nat.le_of_ble_eq_true rfl, Nat.le_of_ble_eq_true rfl⟩
    (zfl_all (List.forall_mem_cons.mpr ⟨zfl_X6 (fun w h => List.mem_cons_of_mem _ (List.mem_append_right _ h)) (List.mem_of_getElem? (i := 2) rfl) (by decide) (by decide), List.forall_mem_cons.mpr ⟨zfl_X6 (fun w h => List.mem_cons_of_mem _ (List.mem_append_right _ h)) (List.mem_of_getElem? (i := 3) rfl) (by decide) (by decide), List.forall_mem_cons.mpr ⟨zfl_X6 (fun w h => List.mem_cons_of_mem _ (List.mem_append_right _ h)) (List.mem_of_getElem? (i := 1) rfl) (by decide) (by decide), fun _ h => absurd h List.not_mem_nil⟩⟩⟩))
    (zco_all (fun _ h => absurd h List.not_mem_nil)) (zlc_all (fun _ h => absurd h List.not_mem_nil))
    (fun _ h => absurd h List.not_mem_nil)
    (fun _ h => absurd h List.not_mem_nil)
    (zmm_all (fun _ h => absurd h List.not_mem_nil)) (zpr_all hp_X6_append) ck_X6_append
def pr_X6_copyFrom : List (Nat × Instr × Nat) := [(0, .aload_n 0, 1), (1, .aload_n 1, 1), (2, .getfield 18, 3), (5, .putfield 18, 3), (8, .aload_n 1, 1), (9, .getfield 9, 3), (12, .iconst 0, 1), (13, .aload_n 0, 1), (14, .getfield 9, 3), (17, .iconst 0, 1), (18, .iconst 4, 1), (19, .invokestatic 22, 3), (22, .aload_n 1, 1), (23, .getfield 15, 3), (26, .iconst 0, 1), (27, .aload_n 0, 1), (28, .getfield 15, 3), (31, .iconst 0, 1), (32, .iconst 4, 1), (33, .invokestatic 22, 3), (36, .return_, 1)]
set_option maxRecDepth 100000 in
theorem hp_X6_copyFrom : pr_X6_copyFrom.all (fun x => decide (decode cX6_copyFrom x.1 = .ok x.2)) = true := by decide +kernel
def zw3c : zW := [(0, .inl (6, [zi 1 0, zr 1, zr 2])),
  (1, .inr (.inl (0, 4, [(4, .inl ((-2147483648), 2147483647))], []))),
  (2, .inr (.inl (0, 4, [(4, .inl ((-2147483648), 2147483647))], []))),
  (3, .inl (6, [zi 2 0, zr 4, zr 5])),
  (4, .inr (.inl (0, 4, [(4, .inl ((-2147483648), 2147483647))], []))),
  (5, .inr (.inl (0, 4, [(4, .inl ((-2147483648), 2147483647))], [])))]
def ze_X6_copyFrom : zE := [(1, (0, 4)), (2, (0, 4))]
def k_X6_copyFrom : zK := (3, [0, 1, 2, 3, 4, 5], (ze_X6_copyFrom, [], [], [zr 0, zr 3], zw3c, []), [([], [], [], [], zfs (zw3c) 0 0 (zi 2 0), [])])
def bl_X6_copyFrom : List (Nat × zS) := []
def tb_X6_copyFrom : zTb := ([(9, 6, 1, 3), (15, 6, 2, 3), (18, 6, 0, 0)], [], [], [], [], [(22, 2)])
def sp_X6_copyFrom : zSp := []
set_option maxRecDepth 1000000 in
theorem ck0_X6_copyFrom : zrun tb_X6_copyFrom sp_X6_copyFrom pr_X6_copyFrom 2 0 k_X6_copyFrom.1 k_X6_copyFrom.2.1 k_X6_copyFrom.2.2.2 bl_X6_copyFrom false 2000 5003 (zst0 k_X6_copyFrom) 0 = true := by decide +kernel
set_option maxRecDepth 1000000 in
theorem ck_X6_copyFrom : zcheck tb_X6_copyFrom sp_X6_copyFrom pr_X6_copyFrom 2 0 k_X6_copyFrom bl_X6_copyFrom 2000 5003 = true := zcheck_of (by decide +kernel) ck0_X6_copyFrom (fun _ h => absurd h List.not_mem_nil)
set_option maxRecDepth 100000 in
set_option maxHeartbeats 4000000 in
theorem c_X6_copyFrom {X : zXT} (hX : zXok X) (hN : zXn X) (l : Launch) : zMet X vwCl l yX6_copyFrom wsX6_copyFrom { frames := 1, cells := 0, slots := 0, locals := 64 } k_X6_copyFrom :=
  zmeth (tb := tb_X6_copyFrom) (pr := pr_X6_copyFrom) (bl := bl_X6_copyFrom) (rt := 0) (own := RX6) hX (by decide +kernel) rfl rfl ⟨Nat.le_of_ble_eq_true rfl, Nat.le_of_ble_eq_true rfl⟩
    (zfl_all (List.forall_mem_cons.mpr ⟨zfl_X6 (fun w h => List.mem_cons_of_mem _ (List.mem_append_right _ h)) (List.mem_of_getElem? (i := 2) rfl) (by decide) (by decide), List.forall_mem_cons.mpr ⟨zfl_X6 (fun w h => List.mem_cons_of_mem _ (List.mem_append_right _ h)) (List.mem_of_getElem? (i := 7) rfl) (by decide) (by decide), List.forall_mem_cons.mpr ⟨zfl_X6 (fun w h => List.mem_cons_of_mem _ (List.mem_append_right _ h)) (List.mem_of_getElem? (i := 1) rfl) (by decide) (by decide), fun _ h => absurd h List.not_mem_nil⟩⟩⟩))
    (zco_all (fun _ h => absurd h List.not_mem_nil)) (zlc_all (fun _ h => absurd h List.not_mem_nil))
    (fun _ h => absurd h List.not_mem_nil)
    (fun _ h => absurd h List.not_mem_nil)
    (zmm_all (List.forall_mem_cons.mpr ⟨⟨List.mem_of_getElem? (i := 3) rfl, List.mem_of_getElem? (i := 4) rfl, List.mem_of_getElem? (i := 5) rfl, List.mem_of_getElem? (i := 6) rfl⟩, fun _ h => absurd h List.not_mem_nil⟩)) (zpr_all hp_X6_copyFrom) ck_X6_copyFrom
def pr_X4_isHouse : List (Nat × Instr × Nat) := [(0, .iload_n 1, 1), (1, .iconst 0, 1), (2, .aload_n 0, 1), (3, .getfield 9, 3), (6, .iconst 1, 1), (7, .isub, 1), (8, .invokestatic 54, 3), (11, .ireturn, 1)]
set_option maxRecDepth 100000 in
theorem hp_X4_isHouse : pr_X4_isHouse.all (fun x => decide (decode cX4_isHouse x.1 = .ok x.2)) = true := by decide +kernel
def zw4c : zW := [(0, .inl (4, [zi 1 0, zi 2 0, zi 3 0, zr 1, zr 2, zr 3, zi 4 0, zr 4, zr 5, zr 6, zr 7, zr 8, zr 13, zr 18, zi 5 0, zi 6 0, zi 7 0, zi 8 0])),
  (1, .inr (.inl (0, 5, [(5, .inl ((-2147483648), 2147483647))], []))),
  (2, .inr (.inl (0, 7, [(7, .inl ((-2147483648), 2147483647))], []))),
  (3, .inr (.inl (0, 7, [(7, .inl ((-2147483648), 2147483647))], []))),
  (4, .inr (.inl (0, 7, [(7, .inl ((-2147483648), 2147483647))], []))),
  (5, .inr (.inl (0, 7, [(7, .inl (0, 4))], []))),
  (6, .inr (.inl (0, 7, [(7, .inl ((-2147483648), 2147483647))], []))),
  (7, .inr (.inl (0, 35, [(35, .inl ((-2147483648), 2147483647))], []))),
  (8, .inl (5, [zi 9 0, zr 9, zr 10, zr 11, zr 12])),
  (9, .inr (.inl (0, 10, [(10, .inl (0, 6))], []))),
  (10, .inr (.inl (0, 10, [(10, .inl ((-2147483648), 2147483647))], []))),
  (11, .inr (.inl (0, 10, [(10, .inl ((-2147483648), 2147483647))], []))),
  (12, .inr (.inl (0, 10, [(10, .inl (0, 4))], []))),
  (13, .inl (5, [zi 10 0, zr 14, zr 15, zr 16, zr 17])),
  (14, .inr (.inl (0, 10, [(10, .inl (0, 6))], []))),
  (15, .inr (.inl (0, 10, [(10, .inl ((-2147483648), 2147483647))], []))),
  (16, .inr (.inl (0, 10, [(10, .inl ((-2147483648), 2147483647))], []))),
  (17, .inr (.inl (0, 10, [(10, .inl (0, 4))], []))),
  (18, .inl (6, [zi 11 0, zr 19, zr 20])),
  (19, .inr (.inl (0, 4, [(4, .inl ((-2147483648), 2147483647))], []))),
  (20, .inr (.inl (0, 4, [(4, .inl ((-2147483648), 2147483647))], [])))]
def ze_X4_isHouse : zE := [(1, (2, 7)), (2, (0, 1)), (3, (0, 5)), (4, ((-2147483648), 2147483647)), (5, ((-2147483648), 2147483647)), (6, ((-2147483648), 2147483647)), (7, ((-2147483648), 2147483647)), (8, ((-2147483648), 2147483647)), (9, (0, 10)), (10, (0, 10)), (11, (0, 4)), (12, ((-2147483648), 2147483647))]
def k_X4_isHouse : zK := (13, [0, 1, 2, 3, 4, 5, 6, 7, 8, 9, 10, 11, 12, 13, 14, 15, 16, 17, 18, 19, 20], (ze_X4_isHouse, [], [], [zr 0, zi 12 0], zw4c, []), [([], [], [], [zi 0 0], zw4c, []),
  ([(12, (0, 6))], [(12, 1, (-1))], [], [zi 0 1], zw4c, [])])
def bl_X4_isHouse : List (Nat × zS) := []
def tb_X4_isHouse : zTb := ([(9, 4, 0, 0)], [], [], [], [(54, k_X7_within)], [])
def sp_X4_isHouse : zSp := []
set_option maxRecDepth 1000000 in
theorem ck0_X4_isHouse : zrun tb_X4_isHouse sp_X4_isHouse pr_X4_isHouse 2 2 k_X4_isHouse.1 k_X4_isHouse.2.1 k_X4_isHouse.2.2.2 bl_X4_isHouse false 2000 5013 (zst0 k_X4_isHouse) 0 = true := by decide +kernel
set_option maxRecDepth 1000000 in
theorem ck_X4_isHouse : zcheck tb_X4_isHouse sp_X4_isHouse pr_X4_isHouse 2 2 k_X4_isHouse bl_X4_isHouse 2000 5013 = true := zcheck_of (by decide +kernel) ck0_X4_isHouse (fun _ h => absurd h List.not_mem_nil)
set_option maxRecDepth 100000 in
set_option maxHeartbeats 4000000 in
theorem c_X4_isHouse {X : zXT} (hX : zXok X) (hN : zXn X) (l : Launch) : zMet X vwCl l yX4_isHouse wsX4_isHouse { frames := 2, cells := 0, slots := 0, locals := 86 } k_X4_isHouse :=
  zmeth (tb := tb_X4_isHouse) (pr := pr_X4_isHouse) (bl := bl_X4_isHouse) (rt := 2) (own := RX4) hX (by decide +kernel) rfl rfl ⟨Nat.le_of_ble_eq_true rfl, Nat.le_of_ble_eq_true rfl⟩
    (zfl_all (List.forall_mem_cons.mpr ⟨zfl_X4 (fun w h => List.mem_cons_of_mem _ (List.mem_append_right _ h)) (List.mem_of_getElem? (i := 1) rfl) (by decide) (by decide), fun _ h => absurd h List.not_mem_nil⟩))
    (zco_all (fun _ h => absurd h List.not_mem_nil)) (zlc_all (fun _ h => absurd h List.not_mem_nil))
    (fun _ h => absurd h List.not_mem_nil)
    (List.forall_mem_cons.mpr ⟨fun p e s m args below meth c A S hx => zcal_SN hX S (c_X7_within hX hN l) ⟨va_cnB 3 S.2.2.2.2 ggX4_isHouse_X7_within rfl rfl rfl (hN A s s.heap hx RX4 54 yX7_within RX7 (by decide +kernel)) (S.2.2.2.2 _ (List.mem_of_getElem? (i := 3) rfl)) (by decide +kernel) ⟨Nat.le_of_ble_eq_true rfl, Nat.le_of_ble_eq_true rfl⟩, S.2.2.2.2 _ (List.mem_of_getElem? (i := 2) rfl), trivial⟩ rfl, fun _ h => absurd h List.not_mem_nil⟩)
    (zmm_all (fun _ h => absurd h List.not_mem_nil)) (zpr_all hp_X4_isHouse) ck_X4_isHouse
def pr_X4_isDeed : List (Nat × Instr × Nat) := [(0, .iload_n 1, 1), (1, .iconst 0, 1), (2, .aload_n 0, 1), (3, .getfield 58, 3), (6, .iconst 1, 1), (7, .isub, 1), (8, .invokestatic 54, 3), (11, .ireturn, 1)]
set_option maxRecDepth 100000 in
theorem hp_X4_isDeed : pr_X4_isDeed.all (fun x => decide (decode cX4_isDeed x.1 = .ok x.2)) = true := by decide +kernel
def ze_X4_isDeed : zE := [(1, (2, 7)), (2, (0, 1)), (3, (0, 5)), (4, ((-2147483648), 2147483647)), (5, ((-2147483648), 2147483647)), (6, ((-2147483648), 2147483647)), (7, ((-2147483648), 2147483647)), (8, ((-2147483648), 2147483647)), (9, (0, 10)), (10, (0, 10)), (11, (0, 4)), (12, ((-2147483648), 2147483647))]
def k_X4_isDeed : zK := (13, [0, 1, 2, 3, 4, 5, 6, 7, 8, 9, 10, 11, 12, 13, 14, 15, 16, 17, 18, 19, 20], (ze_X4_isDeed, [], [], [zr 0, zi 12 0], zw4c, []), [([], [], [], [zi 0 0], zw4c, []),
  ([(12, (0, 4))], [(12, 3, (-1))], [], [zi 0 1], zw4c, [])])
def bl_X4_isDeed : List (Nat × zS) := []
def tb_X4_isDeed : zTb := ([(58, 4, 2, 0)], [], [], [], [(54, k_X7_within)], [])
def sp_X4_isDeed : zSp := []
set_option maxRecDepth 1000000 in
theorem ck0_X4_isDeed : zrun tb_X4_isDeed sp_X4_isDeed pr_X4_isDeed 2 2 k_X4_isDeed.1 k_X4_isDeed.2.1 k_X4_isDeed.2.2.2 bl_X4_isDeed false 2000 5013 (zst0 k_X4_isDeed) 0 = true := by decide +kernel
set_option maxRecDepth 1000000 in
theorem ck_X4_isDeed : zcheck tb_X4_isDeed sp_X4_isDeed pr_X4_isDeed 2 2 k_X4_isDeed bl_X4_isDeed 2000 5013 = true := zcheck_of (by decide +kernel) ck0_X4_isDeed (fun _ h => absurd h List.not_mem_nil)
set_option maxRecDepth 100000 in
set_option maxHeartbeats 4000000 in
theorem c_X4_isDeed {X : zXT} (hX : zXok X) (hN : zXn X) (l : Launch) : zMet X vwCl l yX4_isDeed wsX4_isDeed { frames := 2, cells := 0, slots := 0, locals := 86 } k_X4_isDeed :=
  zmeth (tb := tb_X4_isDeed) (pr := pr_X4_isDeed) (bl := bl_X4_isDeed) (rt := 2) (own := RX4) hX (by decide +kernel) rfl rfl ⟨Nat.le_of_ble_eq_true rfl, Nat.le_of_ble_eq_true rfl⟩
    (zfl_all (List.forall_mem_cons.mpr ⟨zfl_X4 (fun w h => List.mem_cons_of_mem _ (List.mem_append_right _ h)) (List.mem_of_getElem? (i := 1) rfl) (by decide) (by decide), fun _ h => absurd h List.not_mem_nil⟩))
    (zco_all (fun _ h => absurd h List.not_mem_nil)) (zlc_all (fun _ h => absurd h List.not_mem_nil))
    (fun _ h => absurd h List.not_mem_nil)
    (List.forall_mem_cons.mpr ⟨fun p e s m args below meth c A S hx => zcal_SN hX S (c_X7_within hX hN l) ⟨va_cnB 3 S.2.2.2.2 ggX4_isDeed_X7_within rfl rfl rfl (hN A s s.heap hx RX4 54 yX7_within RX7 (by decide +kernel)) (S.2.2.2.2 _ (List.mem_of_getElem? (i := 3) rfl)) (by decide +kernel) ⟨Nat.le_of_ble_eq_true rfl, Nat.le_of_ble_eq_true rfl⟩, S.2.2.2.2 _ (List.mem_of_getElem? (i := 2) rfl), trivial⟩ rfl, fun _ h => absurd h List.not_mem_nil⟩)
    (zmm_all (fun _ h => absurd h List.not_mem_nil)) (zpr_all hp_X4_isDeed) ck_X4_isDeed
def pr_X4_setHabit : List (Nat × Instr × Nat) := [(0, .aload_n 0, 1), (1, .getfield 25, 3), (4, .iload_n 1, 1), (5, .iload_n 2, 1), (6, .iastore, 1), (7, .aload_n 0, 1), (8, .getfield 28, 3), (11, .iload_n 1, 1), (12, .iload_n 3, 1), (13, .iastore, 1), (14, .aload_n 0, 1), (15, .getfield 31, 3), (18, .iload_n 1, 1), (19, .iload 4, 2), (21, .iastore, 1), (22, .return_, 1)]
set_option maxRecDepth 100000 in
theorem hp_X4_setHabit : pr_X4_setHabit.all (fun x => decide (decode cX4_setHabit x.1 = .ok x.2)) = true := by decide +kernel
def ze_X4_setHabit : zE := [(1, (2, 7)), (2, (0, 1)), (3, (0, 5)), (4, ((-2147483648), 2147483647)), (5, ((-2147483648), 2147483647)), (6, ((-2147483648), 2147483647)), (7, ((-2147483648), 2147483647)), (8, ((-2147483648), 2147483647)), (9, (0, 10)), (10, (0, 10)), (11, (0, 4)), (12, (0, 6)), (13, ((-2147483648), 2147483647)), (14, (0, 4)), (15, ((-2147483648), 2147483647))]
def k_X4_setHabit : zK := (16, [0, 1, 2, 3, 4, 5, 6, 7, 8, 9, 10, 11, 12, 13, 14, 15, 16, 17, 18, 19, 20], (ze_X4_setHabit, [], [], [zr 0, zi 12 0, zi 13 0, zi 14 0, zi 15 0], zw4c, []), [([], [], [], [], zw4c, [])])
def bl_X4_setHabit : List (Nat × zS) := []
def tb_X4_setHabit : zTb := ([(25, 4, 7, 3), (28, 4, 8, 3), (31, 4, 9, 3)], [], [], [], [], [])
def sp_X4_setHabit : zSp := []
set_option maxRecDepth 1000000 in
theorem ck0_X4_setHabit : zrun tb_X4_setHabit sp_X4_setHabit pr_X4_setHabit 5 0 k_X4_setHabit.1 k_X4_setHabit.2.1 k_X4_setHabit.2.2.2 bl_X4_setHabit false 2000 5016 (zst0 k_X4_setHabit) 0 = true := by decide +kernel
set_option maxRecDepth 1000000 in
theorem ck_X4_setHabit : zcheck tb_X4_setHabit sp_X4_setHabit pr_X4_setHabit 5 0 k_X4_setHabit bl_X4_setHabit 2000 5016 = true := zcheck_of (by decide +kernel) ck0_X4_setHabit (fun _ h => absurd h List.not_mem_nil)
set_option maxRecDepth 100000 in
set_option maxHeartbeats 4000000 in
theorem c_X4_setHabit {X : zXT} (hX : zXok X) (hN : zXn X) (l : Launch) : zMet X vwCl l yX4_setHabit wsX4_setHabit { frames := 1, cells := 0, slots := 0, locals := 64 } k_X4_setHabit :=
  zmeth (tb := tb_X4_setHabit) (pr := pr_X4_setHabit) (bl := bl_X4_setHabit) (rt := 0) (own := RX4) hX (by decide +kernel) rfl rfl ⟨Nat.le_of_ble_eq_true rfl, Nat.le_of_ble_eq_true rfl⟩
    (zfl_all (List.forall_mem_cons.mpr ⟨zfl_X4 (fun w h => List.mem_cons_of_mem _ (List.mem_append_right _ h)) (List.mem_of_getElem? (i := 1) rfl) (by decide) (by decide), List.forall_mem_cons.mpr ⟨zfl_X4 (fun w h => List.mem_cons_of_mem _ (List.mem_append_right _ h)) (List.mem_of_getElem? (i := 2) rfl) (by decide) (by decide), List.forall_mem_cons.mpr ⟨zfl_X4 (fun w h => List.mem_cons_of_mem _ (List.mem_append_right _ h)) (List.mem_of_getElem? (i := 3) rfl) (by decide) (by decide), fun _ h => absurd h List.not_mem_nil⟩⟩⟩))
    (zco_all (fun _ h => absurd h List.not_mem_nil)) (zlc_all (fun _ h => absurd h List.not_mem_nil))
    (fun _ h => absurd h List.not_mem_nil)
    (fun _ h => absurd h List.not_mem_nil)
    (zmm_all (fun _ h => absurd h List.not_mem_nil)) (zpr_all hp_X4_setHabit) ck_X4_setHabit
def pr_X4_makeNew : List (Nat × Instr × Nat) := [(0, .aload_n 0, 1), (1, .iconst 3, 1), (2, .putfield 9, 3), (5, .aload_n 0, 1), (6, .iconst 0, 1), (7, .putfield 61, 3), (10, .aload_n 0, 1), (11, .iconst 0, 1), (12, .putfield 58, 3), (15, .aload_n 0, 1), (16, .iconst 0, 1), (17, .putfield 65, 3), (20, .iconst 0, 1), (21, .istore_n 1, 1), (22, .iload_n 1, 1), (23, .bipush 7, 2), (25, .if_icmp .ge 31, 3), (28, .aload_n 0, 1), (29, .getfield 19, 3), (32, .iload_n 1, 1), (33, .iconst 0, 1), (34, .iastore, 1), (35, .aload_n 0, 1), (36, .getfield 22, 3), (39, .iload_n 1, 1), (40, .iconst 0, 1), (41, .iastore, 1), (42, .aload_n 0, 1), (43, .iload_n 1, 1), (44, .iconst 0, 1), (45, .iconst 0, 1), (46, .iconst 0, 1), (47, .invokevirtual 68, 3), (50, .iinc 1 1, 3), (53, .goto (-31), 3), (56, .iconst 0, 1), (57, .istore_n 1, 1), (58, .iload_n 1, 1), (59, .bipush 35, 2), (61, .if_icmp .ge 16, 3), (64, .aload_n 0, 1), (65, .getfield 34, 3), (68, .iload_n 1, 1), (69, .iconst 0, 1), (70, .iastore, 1), (71, .iinc 1 1, 3), (74, .goto (-16), 3), (77, .aload_n 0, 1), (78, .getfield 40, 3), (81, .iconst 0, 1), (82, .putfield 72, 3), (85, .aload_n 0, 1), (86, .getfield 50, 3), (89, .iconst 0, 1), (90, .putfield 75, 3), (93, .aload_n 0, 1), (94, .iconst 0, 1), (95, .putfield 76, 3), (98, .aload_n 0, 1), (99, .iconst 0, 1), (100, .putfield 79, 3), (103, .aload_n 0, 1), (104, .iconst 0, 1), (105, .putfield 82, 3), (108, .aload_n 0, 1), (109, .iconst 0, 1), (110, .putfield 85, 3), (113, .return_, 1)]
set_option maxRecDepth 100000 in
theorem hp_X4_makeNew : pr_X4_makeNew.all (fun x => decide (decode cX4_makeNew x.1 = .ok x.2)) = true := by decide +kernel
def ze_X4_makeNew : zE := [(1, (2, 7)), (2, (0, 1)), (3, (0, 5)), (4, ((-2147483648), 2147483647)), (5, ((-2147483648), 2147483647)), (6, ((-2147483648), 2147483647)), (7, ((-2147483648), 2147483647)), (8, ((-2147483648), 2147483647)), (9, (0, 10)), (10, (0, 10)), (11, (0, 4))]
def k_X4_makeNew : zK := (12, [0, 1, 2, 3, 4, 5, 6, 7, 8, 9, 10, 11, 12, 13, 14, 15, 16, 17, 18, 19, 20], (ze_X4_makeNew, [], [], [zr 0], zw4c, []), [([], [], [], [], zfs (zfs (zfs (zfs (zfs (zfs (zfs (zfs (zfs (zfs (zw4c) 0 0 (zi 0 3)) 0 1 (zi 0 0)) 0 2 (zi 0 0)) 0 6 (zi 0 0)) 0 14 (zi 0 0)) 0 15 (zi 0 0)) 0 16 (zi 0 0)) 0 17 (zi 0 0)) 8 0 (zi 0 0)) 18 0 (zi 0 0), [])])
def b0_X4_makeNew : Nat × zS := (22, ([(12, (0, 7))] ++ ze_X4_makeNew, [], [(1, zi 12 0), (0, zr 0)], [], zfs (zfs (zfs (zfs (zw4c) 0 0 (zi 0 3)) 0 1 (zi 0 0)) 0 2 (zi 0 0)) 0 6 (zi 0 0), [(false, (0, 99978)), (true, (12, 7)), (false, (0, 200000)), (false, (0, 0))]))
def b1_X4_makeNew : Nat × zS := (58, ([(12, (0, 35))] ++ ze_X4_makeNew, [], [(1, zi 12 0), (0, zr 0)], [], zfs (zfs (zfs (zfs (zw4c) 0 0 (zi 0 3)) 0 1 (zi 0 0)) 0 2 (zi 0 0)) 0 6 (zi 0 0), [(false, (0, 99942)), (true, (12, 35)), (false, (0, 200000)), (false, (0, 0))]))
def bl_X4_makeNew : List (Nat × zS) := [b0_X4_makeNew, b1_X4_makeNew]
def tb_X4_makeNew : zTb := ([(9, 4, 0, 0), (19, 4, 4, 3), (22, 4, 5, 3), (34, 4, 10, 3), (40, 4, 11, 2), (50, 4, 13, 3), (58, 4, 2, 0), (61, 4, 1, 1), (65, 4, 6, 0), (72, 5, 0, 0), (75, 6, 0, 0), (76, 4, 14, 0), (79, 4, 15, 0), (82, 4, 16, 0), (85, 4, 17, 0)], [], [], [(68, k_X4_setHabit)], [], [])
def sp_X4_makeNew : zSp := []
set_option maxRecDepth 1000000 in
theorem ck0_X4_makeNew : zrun tb_X4_makeNew sp_X4_makeNew pr_X4_makeNew 2 0 k_X4_makeNew.1 k_X4_makeNew.2.1 k_X4_makeNew.2.2.2 bl_X4_makeNew false 2000 5012 (zst0 k_X4_makeNew) 0 = true := by decide +kernel
set_option maxRecDepth 1000000 in
theorem ck1_X4_makeNew : zrun tb_X4_makeNew sp_X4_makeNew pr_X4_makeNew 2 0 k_X4_makeNew.1 k_X4_makeNew.2.1 k_X4_makeNew.2.2.2 bl_X4_makeNew true 2000 5012 b0_X4_makeNew.2 b0_X4_makeNew.1 = true := by decide +kernel
set_option maxRecDepth 1000000 in
theorem ck2_X4_makeNew : zrun tb_X4_makeNew sp_X4_makeNew pr_X4_makeNew 2 0 k_X4_makeNew.1 k_X4_makeNew.2.1 k_X4_makeNew.2.2.2 bl_X4_makeNew true 2000 5012 b1_X4_makeNew.2 b1_X4_makeNew.1 = true := by decide +kernel
set_option maxRecDepth 1000000 in
theorem ck_X4_makeNew : zcheck tb_X4_makeNew sp_X4_makeNew pr_X4_makeNew 2 0 k_X4_makeNew bl_X4_makeNew 2000 5012 = true := zcheck_of (by decide +kernel) ck0_X4_makeNew (List.forall_mem_cons.mpr ⟨ck1_X4_makeNew, List.forall_mem_cons.mpr ⟨ck2_X4_makeNew, fun _ h => absurd h List.not_mem_nil⟩⟩)
set_option maxRecDepth 100000 in
set_option maxHeartbeats 4000000 in
theorem c_X4_makeNew {X : zXT} (hX : zXok X) (hN : zXn X) (l : Launch) : zMet X vwCl l yX4_makeNew wsX4_makeNew { frames := 2, cells := 0, slots := 0, locals := 88 } k_X4_makeNew :=
  zmeth (tb := tb_X4_makeNew) (pr := pr_X4_makeNew) (bl := bl_X4_makeNew) (rt := 0) (own := RX4) hX (by decide +kernel) rfl rfl ⟨Nat.le_of_ble_eq_true rfl, Nat.le_of_ble_eq_true rfl⟩
    (zfl_all (List.forall_mem_cons.mpr ⟨zfl_X4 (fun w h => List.mem_cons_of_mem _ (List.mem_append_left _ (List.mem_append_left _ (List.mem_append_right _ h)))) (List.mem_of_getElem? (i := 1) rfl) (by decide) (by decide), List.forall_mem_cons.mpr ⟨zfl_X4 (fun w h => List.mem_cons_of_mem _ (List.mem_append_left _ (List.mem_append_left _ (List.mem_append_right _ h)))) (List.mem_of_getElem? (i := 5) rfl) (by decide) (by decide), List.forall_mem_cons.mpr ⟨zfl_X4 (fun w h => List.mem_cons_of_mem _ (List.mem_append_left _ (List.mem_append_left _ (List.mem_append_right _ h)))) (List.mem_of_getElem? (i := 6) rfl) (by decide) (by decide), List.forall_mem_cons.mpr ⟨zfl_X4 (fun w h => List.mem_cons_of_mem _ (List.mem_append_left _ (List.mem_append_left _ (List.mem_append_right _ h)))) (List.mem_of_getElem? (i := 7) rfl) (by decide) (by decide), List.forall_mem_cons.mpr ⟨zfl_X4 (fun w h => List.mem_cons_of_mem _ (List.mem_append_left _ (List.mem_append_left _ (List.mem_append_right _ h)))) (List.mem_of_getElem? (i := 8) rfl) (by decide) (by decide), List.forall_mem_cons.mpr ⟨zfl_X4 (fun w h => List.mem_cons_of_mem _ (List.mem_append_left _ (List.mem_append_left _ (List.mem_append_right _ h)))) (List.mem_of_getElem? (i := 10) rfl) (by decide) (by decide), List.forall_mem_cons.mpr ⟨zfl_X4 (fun w h => List.mem_cons_of_mem _ (List.mem_append_left _ (List.mem_append_left _ (List.mem_append_right _ h)))) (List.mem_of_getElem? (i := 3) rfl) (by decide) (by decide), List.forall_mem_cons.mpr ⟨zfl_X4 (fun w h => List.mem_cons_of_mem _ (List.mem_append_left _ (List.mem_append_left _ (List.mem_append_right _ h)))) (List.mem_of_getElem? (i := 2) rfl) (by decide) (by decide), List.forall_mem_cons.mpr ⟨zfl_X4 (fun w h => List.mem_cons_of_mem _ (List.mem_append_left _ (List.mem_append_left _ (List.mem_append_right _ h)))) (List.mem_of_getElem? (i := 4) rfl) (by decide) (by decide), List.forall_mem_cons.mpr ⟨zfl_X5 (fun w h => List.mem_cons_of_mem _ (List.mem_append_left _ (List.mem_append_right _ h))) (List.mem_of_getElem? (i := 9) rfl) (by decide) (by decide), List.forall_mem_cons.mpr ⟨zfl_X6 (fun w h => List.mem_cons_of_mem _ (List.mem_append_right _ h)) (List.mem_of_getElem? (i := 11) rfl) (by decide) (by decide), List.forall_mem_cons.mpr ⟨zfl_X4 (fun w h => List.mem_cons_of_mem _ (List.mem_append_left _ (List.mem_append_left _ (List.mem_append_right _ h)))) (List.mem_of_getElem? (i := 12) rfl) (by decide) (by decide), List.forall_mem_cons.mpr ⟨zfl_X4 (fun w h => List.mem_cons_of_mem _ (List.mem_append_left _ (List.mem_append_left _ (List.mem_append_right _ h)))) (List.mem_of_getElem? (i := 13) rfl) (by decide) (by decide), List.forall_mem_cons.mpr ⟨zfl_X4 (fun w h => List.mem_cons_of_mem _ (List.mem_append_left _ (List.mem_append_left _ (List.mem_append_right _ h)))) (List.mem_of_getElem? (i := 14) rfl) (by decide) (by decide), List.forall_mem_cons.mpr ⟨zfl_X4 (fun w h => List.mem_cons_of_mem _ (List.mem_append_left _ (List.mem_append_left _ (List.mem_append_right _ h)))) (List.mem_of_getElem? (i := 15) rfl) (by decide) (by decide), fun _ h => absurd h List.not_mem_nil⟩⟩⟩⟩⟩⟩⟩⟩⟩⟩⟩⟩⟩⟩⟩))
    (zco_all (fun _ h => absurd h List.not_mem_nil)) (zlc_all (fun _ h => absurd h List.not_mem_nil))
    (List.forall_mem_cons.mpr ⟨fun p e s m args below meth c A S hx => zcal_V hX S (c_X4_setHabit hX hN l) (cwV 4 S.2.2.2.2 gX4_makeNew_X4_setHabit rfl rfl rfl (by decide +kernel) ⟨Nat.le_of_ble_eq_true rfl, Nat.le_of_ble_eq_true rfl⟩) rfl ⟨0, 4, _, _, _, rfl, rfl⟩ rfl, fun _ h => absurd h List.not_mem_nil⟩)
    (fun _ h => absurd h List.not_mem_nil)
    (zmm_all (fun _ h => absurd h List.not_mem_nil)) (zpr_all hp_X4_makeNew) ck_X4_makeNew
def pr_X4_copyFrom : List (Nat × Instr × Nat) := [(0, .aload_n 0, 1), (1, .aload_n 1, 1), (2, .getfield 9, 3), (5, .putfield 9, 3), (8, .aload_n 0, 1), (9, .aload_n 1, 1), (10, .getfield 61, 3), (13, .putfield 61, 3), (16, .aload_n 0, 1), (17, .aload_n 1, 1), (18, .getfield 58, 3), (21, .putfield 58, 3), (24, .aload_n 0, 1), (25, .aload_n 1, 1), (26, .getfield 65, 3), (29, .putfield 65, 3), (32, .aload_n 1, 1), (33, .getfield 15, 3), (36, .iconst 0, 1), (37, .aload_n 0, 1), (38, .getfield 15, 3), (41, .iconst 0, 1), (42, .iconst 5, 1), (43, .invokestatic 88, 3), (46, .aload_n 1, 1), (47, .getfield 19, 3), (50, .iconst 0, 1), (51, .aload_n 0, 1), (52, .getfield 19, 3), (55, .iconst 0, 1), (56, .bipush 7, 2), (58, .invokestatic 88, 3), (61, .aload_n 1, 1), (62, .getfield 22, 3), (65, .iconst 0, 1), (66, .aload_n 0, 1), (67, .getfield 22, 3), (70, .iconst 0, 1), (71, .bipush 7, 2), (73, .invokestatic 88, 3), (76, .aload_n 1, 1), (77, .getfield 25, 3), (80, .iconst 0, 1), (81, .aload_n 0, 1), (82, .getfield 25, 3), (85, .iconst 0, 1), (86, .bipush 7, 2), (88, .invokestatic 88, 3), (91, .aload_n 1, 1), (92, .getfield 28, 3), (95, .iconst 0, 1), (96, .aload_n 0, 1), (97, .getfield 28, 3), (100, .iconst 0, 1), (101, .bipush 7, 2), (103, .invokestatic 88, 3), (106, .aload_n 1, 1), (107, .getfield 31, 3), (110, .iconst 0, 1), (111, .aload_n 0, 1), (112, .getfield 31, 3), (115, .iconst 0, 1), (116, .bipush 7, 2), (118, .invokestatic 88, 3), (121, .aload_n 1, 1), (122, .getfield 34, 3), (125, .iconst 0, 1), (126, .aload_n 0, 1), (127, .getfield 34, 3), (130, .iconst 0, 1), (131, .bipush 35, 2), (133, .invokestatic 88, 3), (136, .aload_n 0, 1), (137, .getfield 40, 3), (140, .aload_n 1, 1), (141, .getfield 40, 3), (144, .invokevirtual 94, 3), (147, .aload_n 0, 1), (148, .getfield 50, 3), (151, .aload_n 1, 1), (152, .getfield 50, 3), (155, .invokevirtual 98, 3), (158, .aload_n 0, 1), (159, .aload_n 1, 1), (160, .getfield 76, 3), (163, .putfield 76, 3), (166, .aload_n 0, 1), (167, .aload_n 1, 1), (168, .getfield 79, 3), (171, .putfield 79, 3), (174, .aload_n 0, 1), (175, .aload_n 1, 1), (176, .getfield 82, 3), (179, .putfield 82, 3), (182, .aload_n 0, 1), (183, .aload_n 1, 1), (184, .getfield 85, 3), (187, .putfield 85, 3), (190, .return_, 1)]
set_option maxRecDepth 100000 in
theorem hp_X4_copyFrom : pr_X4_copyFrom.all (fun x => decide (decode cX4_copyFrom x.1 = .ok x.2)) = true := by decide +kernel
def zw5c : zW := [(0, .inl (4, [zi 1 0, zi 2 0, zi 3 0, zr 1, zr 2, zr 3, zi 4 0, zr 4, zr 5, zr 6, zr 7, zr 8, zr 13, zr 18, zi 5 0, zi 6 0, zi 7 0, zi 8 0])),
  (1, .inr (.inl (0, 5, [(5, .inl ((-2147483648), 2147483647))], []))),
  (2, .inr (.inl (0, 7, [(7, .inl ((-2147483648), 2147483647))], []))),
  (3, .inr (.inl (0, 7, [(7, .inl ((-2147483648), 2147483647))], []))),
  (4, .inr (.inl (0, 7, [(7, .inl ((-2147483648), 2147483647))], []))),
  (5, .inr (.inl (0, 7, [(7, .inl (0, 4))], []))),
  (6, .inr (.inl (0, 7, [(7, .inl ((-2147483648), 2147483647))], []))),
  (7, .inr (.inl (0, 35, [(35, .inl ((-2147483648), 2147483647))], []))),
  (8, .inl (5, [zi 9 0, zr 9, zr 10, zr 11, zr 12])),
  (9, .inr (.inl (0, 10, [(10, .inl (0, 6))], []))),
  (10, .inr (.inl (0, 10, [(10, .inl ((-2147483648), 2147483647))], []))),
  (11, .inr (.inl (0, 10, [(10, .inl ((-2147483648), 2147483647))], []))),
  (12, .inr (.inl (0, 10, [(10, .inl (0, 4))], []))),
  (13, .inl (5, [zi 10 0, zr 14, zr 15, zr 16, zr 17])),
  (14, .inr (.inl (0, 10, [(10, .inl (0, 6))], []))),
  (15, .inr (.inl (0, 10, [(10, .inl ((-2147483648), 2147483647))], []))),
  (16, .inr (.inl (0, 10, [(10, .inl ((-2147483648), 2147483647))], []))),
  (17, .inr (.inl (0, 10, [(10, .inl (0, 4))], []))),
  (18, .inl (6, [zi 11 0, zr 19, zr 20])),
  (19, .inr (.inl (0, 4, [(4, .inl ((-2147483648), 2147483647))], []))),
  (20, .inr (.inl (0, 4, [(4, .inl ((-2147483648), 2147483647))], []))),
  (30, .inl (4, [zi 12 0, zi 13 0, zi 14 0, zr 31, zr 32, zr 33, zi 15 0, zr 34, zr 35, zr 36, zr 37, zr 38, zr 43, zr 48, zi 16 0, zi 17 0, zi 18 0, zi 19 0])),
  (31, .inr (.inl (0, 5, [(5, .inl ((-2147483648), 2147483647))], []))),
  (32, .inr (.inl (0, 7, [(7, .inl ((-2147483648), 2147483647))], []))),
  (33, .inr (.inl (0, 7, [(7, .inl ((-2147483648), 2147483647))], []))),
  (34, .inr (.inl (0, 7, [(7, .inl ((-2147483648), 2147483647))], []))),
  (35, .inr (.inl (0, 7, [(7, .inl (0, 4))], []))),
  (36, .inr (.inl (0, 7, [(7, .inl ((-2147483648), 2147483647))], []))),
  (37, .inr (.inl (0, 35, [(35, .inl ((-2147483648), 2147483647))], []))),
  (38, .inl (5, [zi 20 0, zr 39, zr 40, zr 41, zr 42])),
  (39, .inr (.inl (0, 10, [(10, .inl (0, 6))], []))),
  (40, .inr (.inl (0, 10, [(10, .inl ((-2147483648), 2147483647))], []))),
  (41, .inr (.inl (0, 10, [(10, .inl ((-2147483648), 2147483647))], []))),
  (42, .inr (.inl (0, 10, [(10, .inl (0, 4))], []))),
  (43, .inl (5, [zi 21 0, zr 44, zr 45, zr 46, zr 47])),
  (44, .inr (.inl (0, 10, [(10, .inl (0, 6))], []))),
  (45, .inr (.inl (0, 10, [(10, .inl ((-2147483648), 2147483647))], []))),
  (46, .inr (.inl (0, 10, [(10, .inl ((-2147483648), 2147483647))], []))),
  (47, .inr (.inl (0, 10, [(10, .inl (0, 4))], []))),
  (48, .inl (6, [zi 22 0, zr 49, zr 50])),
  (49, .inr (.inl (0, 4, [(4, .inl ((-2147483648), 2147483647))], []))),
  (50, .inr (.inl (0, 4, [(4, .inl ((-2147483648), 2147483647))], [])))]
def ze_X4_copyFrom : zE := [(1, (2, 7)), (2, (0, 1)), (3, (0, 5)), (4, ((-2147483648), 2147483647)), (5, ((-2147483648), 2147483647)), (6, ((-2147483648), 2147483647)), (7, ((-2147483648), 2147483647)), (8, ((-2147483648), 2147483647)), (9, (0, 10)), (10, (0, 10)), (11, (0, 4)), (12, (2, 7)), (13, (0, 1)), (14, (0, 5)), (15, ((-2147483648), 2147483647)), (16, ((-2147483648), 2147483647)), (17, ((-2147483648), 2147483647)), (18, ((-2147483648), 2147483647)), (19, ((-2147483648), 2147483647)), (20, (0, 10)), (21, (0, 10)), (22, (0, 4))]
def k_X4_copyFrom : zK := (23, [0, 1, 2, 3, 4, 5, 6, 7, 8, 9, 10, 11, 12, 13, 14, 15, 16, 17, 18, 19, 20, 30, 31, 32, 33, 34, 35, 36, 37, 38, 39, 40, 41, 42, 43, 44, 45, 46, 47, 48, 49, 50], (ze_X4_copyFrom, [], [], [zr 0, zr 30], zw5c, []), [([], [], [], [], zfs (zfs (zfs (zfs (zfs (zfs (zfs (zfs (zfs (zfs (zw5c) 0 0 (zi 12 0)) 0 1 (zi 13 0)) 0 2 (zi 14 0)) 0 6 (zi 15 0)) 0 14 (zi 16 0)) 0 15 (zi 17 0)) 0 16 (zi 18 0)) 0 17 (zi 19 0)) 8 0 (zi 20 0)) 18 0 (zi 22 0), [])])
def bl_X4_copyFrom : List (Nat × zS) := []
def tb_X4_copyFrom : zTb := ([(9, 4, 0, 0), (15, 4, 3, 3), (19, 4, 4, 3), (22, 4, 5, 3), (25, 4, 7, 3), (28, 4, 8, 3), (31, 4, 9, 3), (34, 4, 10, 3), (40, 4, 11, 2), (50, 4, 13, 3), (58, 4, 2, 0), (61, 4, 1, 1), (65, 4, 6, 0), (76, 4, 14, 0), (79, 4, 15, 0), (82, 4, 16, 0), (85, 4, 17, 0)], [], [], [(94, k_X5_copyFrom), (98, k_X6_copyFrom)], [], [(88, 2)])
def sp_X4_copyFrom : zSp := []
set_option maxRecDepth 1000000 in
theorem ck0_X4_copyFrom : zrun tb_X4_copyFrom sp_X4_copyFrom pr_X4_copyFrom 2 0 k_X4_copyFrom.1 k_X4_copyFrom.2.1 k_X4_copyFrom.2.2.2 bl_X4_copyFrom false 2000 5023 (zst0 k_X4_copyFrom) 0 = true := by decide +kernel
set_option maxRecDepth 1000000 in
theorem ck_X4_copyFrom : zcheck tb_X4_copyFrom sp_X4_copyFrom pr_X4_copyFrom 2 0 k_X4_copyFrom bl_X4_copyFrom 2000 5023 = true := zcheck_of (by decide +kernel) ck0_X4_copyFrom (fun _ h => absurd h List.not_mem_nil)
set_option maxRecDepth 100000 in
set_option maxHeartbeats 4000000 in
theorem c_X4_copyFrom {X : zXT} (hX : zXok X) (hN : zXn X) (l : Launch) : zMet X vwCl l yX4_copyFrom wsX4_copyFrom { frames := 2, cells := 0, slots := 0, locals := 85 } k_X4_copyFrom :=
  zmeth (tb := tb_X4_copyFrom) (pr := pr_X4_copyFrom) (bl := bl_X4_copyFrom) (rt := 0) (own := RX4) hX (by decide +kernel) rfl rfl ⟨Nat.le_of_ble_eq_true rfl, Nat.le_of_ble_eq_true rfl⟩
    (zfl_all (List.forall_mem_cons.mpr ⟨zfl_X4 (fun w h => List.mem_cons_of_mem _ (List.mem_append_left _ (List.mem_append_left _ (List.mem_append_right _ h)))) (List.mem_of_getElem? (i := 1) rfl) (by decide) (by decide), List.forall_mem_cons.mpr ⟨zfl_X4 (fun w h => List.mem_cons_of_mem _ (List.mem_append_left _ (List.mem_append_left _ (List.mem_append_right _ h)))) (List.mem_of_getElem? (i := 5) rfl) (by decide) (by decide), List.forall_mem_cons.mpr ⟨zfl_X4 (fun w h => List.mem_cons_of_mem _ (List.mem_append_left _ (List.mem_append_left _ (List.mem_append_right _ h)))) (List.mem_of_getElem? (i := 10) rfl) (by decide) (by decide), List.forall_mem_cons.mpr ⟨zfl_X4 (fun w h => List.mem_cons_of_mem _ (List.mem_append_left _ (List.mem_append_left _ (List.mem_append_right _ h)))) (List.mem_of_getElem? (i := 11) rfl) (by decide) (by decide), List.forall_mem_cons.mpr ⟨zfl_X4 (fun w h => List.mem_cons_of_mem _ (List.mem_append_left _ (List.mem_append_left _ (List.mem_append_right _ h)))) (List.mem_of_getElem? (i := 12) rfl) (by decide) (by decide), List.forall_mem_cons.mpr ⟨zfl_X4 (fun w h => List.mem_cons_of_mem _ (List.mem_append_left _ (List.mem_append_left _ (List.mem_append_right _ h)))) (List.mem_of_getElem? (i := 13) rfl) (by decide) (by decide), List.forall_mem_cons.mpr ⟨zfl_X4 (fun w h => List.mem_cons_of_mem _ (List.mem_append_left _ (List.mem_append_left _ (List.mem_append_right _ h)))) (List.mem_of_getElem? (i := 14) rfl) (by decide) (by decide), List.forall_mem_cons.mpr ⟨zfl_X4 (fun w h => List.mem_cons_of_mem _ (List.mem_append_left _ (List.mem_append_left _ (List.mem_append_right _ h)))) (List.mem_of_getElem? (i := 15) rfl) (by decide) (by decide), List.forall_mem_cons.mpr ⟨zfl_X4 (fun w h => List.mem_cons_of_mem _ (List.mem_append_left _ (List.mem_append_left _ (List.mem_append_right _ h)))) (List.mem_of_getElem? (i := 16) rfl) (by decide) (by decide), List.forall_mem_cons.mpr ⟨zfl_X4 (fun w h => List.mem_cons_of_mem _ (List.mem_append_left _ (List.mem_append_left _ (List.mem_append_right _ h)))) (List.mem_of_getElem? (i := 17) rfl) (by decide) (by decide), List.forall_mem_cons.mpr ⟨zfl_X4 (fun w h => List.mem_cons_of_mem _ (List.mem_append_left _ (List.mem_append_left _ (List.mem_append_right _ h)))) (List.mem_of_getElem? (i := 3) rfl) (by decide) (by decide), List.forall_mem_cons.mpr ⟨zfl_X4 (fun w h => List.mem_cons_of_mem _ (List.mem_append_left _ (List.mem_append_left _ (List.mem_append_right _ h)))) (List.mem_of_getElem? (i := 2) rfl) (by decide) (by decide), List.forall_mem_cons.mpr ⟨zfl_X4 (fun w h => List.mem_cons_of_mem _ (List.mem_append_left _ (List.mem_append_left _ (List.mem_append_right _ h)))) (List.mem_of_getElem? (i := 4) rfl) (by decide) (by decide), List.forall_mem_cons.mpr ⟨zfl_X4 (fun w h => List.mem_cons_of_mem _ (List.mem_append_left _ (List.mem_append_left _ (List.mem_append_right _ h)))) (List.mem_of_getElem? (i := 18) rfl) (by decide) (by decide), List.forall_mem_cons.mpr ⟨zfl_X4 (fun w h => List.mem_cons_of_mem _ (List.mem_append_left _ (List.mem_append_left _ (List.mem_append_right _ h)))) (List.mem_of_getElem? (i := 19) rfl) (by decide) (by decide), List.forall_mem_cons.mpr ⟨zfl_X4 (fun w h => List.mem_cons_of_mem _ (List.mem_append_left _ (List.mem_append_left _ (List.mem_append_right _ h)))) (List.mem_of_getElem? (i := 20) rfl) (by decide) (by decide), List.forall_mem_cons.mpr ⟨zfl_X4 (fun w h => List.mem_cons_of_mem _ (List.mem_append_left _ (List.mem_append_left _ (List.mem_append_right _ h)))) (List.mem_of_getElem? (i := 21) rfl) (by decide) (by decide), fun _ h => absurd h List.not_mem_nil⟩⟩⟩⟩⟩⟩⟩⟩⟩⟩⟩⟩⟩⟩⟩⟩⟩))
    (zco_all (fun _ h => absurd h List.not_mem_nil)) (zlc_all (fun _ h => absurd h List.not_mem_nil))
    (List.forall_mem_cons.mpr ⟨fun p e s m args below meth c A S hx => zcal_V hX S (c_X5_copyFrom hX hN l) (cwV 1 S.2.2.2.2 gX4_copyFrom_X5_copyFrom rfl rfl rfl (by decide +kernel) ⟨Nat.le_of_ble_eq_true rfl, Nat.le_of_ble_eq_true rfl⟩) rfl ⟨0, 5, _, _, _, rfl, rfl⟩ rfl, List.forall_mem_cons.mpr ⟨fun p e s m args below meth c A S hx => zcal_V hX S (c_X6_copyFrom hX hN l) (cwV 1 S.2.2.2.2 gX4_copyFrom_X6_copyFrom rfl rfl rfl (by decide +kernel) ⟨Nat.le_of_ble_eq_true rfl, Nat.le_of_ble_eq_true rfl⟩) rfl ⟨0, 6, _, _, _, rfl, rfl⟩ rfl, fun _ h => absurd h List.not_mem_nil⟩⟩)
    (fun _ h => absurd h List.not_mem_nil)
    (zmm_all (List.forall_mem_cons.mpr ⟨⟨List.mem_of_getElem? (i := 6) rfl, List.mem_of_getElem? (i := 7) rfl, List.mem_of_getElem? (i := 8) rfl, List.mem_of_getElem? (i := 9) rfl⟩, fun _ h => absurd h List.not_mem_nil⟩)) (zpr_all hp_X4_copyFrom) ck_X4_copyFrom
def pr_X4_addDeed : List (Nat × Instr × Nat) := [(0, .aload_n 0, 1), (1, .getfield 58, 3), (4, .iconst 5, 1), (5, .if_icmp .ge 23, 3), (8, .aload_n 0, 1), (9, .getfield 15, 3), (12, .aload_n 0, 1), (13, .getfield 58, 3), (16, .iload_n 1, 1), (17, .iastore, 1), (18, .aload_n 0, 1), (19, .dup, 1), (20, .getfield 58, 3), (23, .iconst 1, 1), (24, .iadd, 1), (25, .putfield 58, 3), (28, .return_, 1)]
set_option maxRecDepth 100000 in
theorem hp_X4_addDeed : pr_X4_addDeed.all (fun x => decide (decode cX4_addDeed x.1 = .ok x.2)) = true := by decide +kernel
def ze_X4_addDeed : zE := [(1, (2, 7)), (2, (0, 1)), (3, (0, 5)), (4, ((-2147483648), 2147483647)), (5, ((-2147483648), 2147483647)), (6, ((-2147483648), 2147483647)), (7, ((-2147483648), 2147483647)), (8, ((-2147483648), 2147483647)), (9, (0, 10)), (10, (0, 10)), (11, (0, 4)), (12, ((-2147483648), 2147483647))]
def k_X4_addDeed : zK := (13, [0, 1, 2, 3, 4, 5, 6, 7, 8, 9, 10, 11, 12, 13, 14, 15, 16, 17, 18, 19, 20], (ze_X4_addDeed, [], [], [zr 0, zi 12 0], zw4c, []), [([(13, (1, 5))], [(3, 13, 0), (13, 3, 1)], [], [], zfs (zw4c) 0 2 (zi 13 0), [])])
def bl_X4_addDeed : List (Nat × zS) := []
def tb_X4_addDeed : zTb := ([(15, 4, 3, 3), (58, 4, 2, 0)], [], [], [], [], [])
def sp_X4_addDeed : zSp := []
set_option maxRecDepth 1000000 in
theorem ck0_X4_addDeed : zrun tb_X4_addDeed sp_X4_addDeed pr_X4_addDeed 2 0 k_X4_addDeed.1 k_X4_addDeed.2.1 k_X4_addDeed.2.2.2 bl_X4_addDeed false 2000 5013 (zst0 k_X4_addDeed) 0 = true := by decide +kernel
set_option maxRecDepth 1000000 in
theorem ck_X4_addDeed : zcheck tb_X4_addDeed sp_X4_addDeed pr_X4_addDeed 2 0 k_X4_addDeed bl_X4_addDeed 2000 5013 = true := zcheck_of (by decide +kernel) ck0_X4_addDeed (fun _ h => absurd h List.not_mem_nil)
set_option maxRecDepth 100000 in
set_option maxHeartbeats 4000000 in
theorem c_X4_addDeed {X : zXT} (hX : zXok X) (hN : zXn X) (l : Launch) : zMet X vwCl l yX4_addDeed wsX4_addDeed { frames := 1, cells := 0, slots := 0, locals := 64 } k_X4_addDeed :=
  zmeth (tb := tb_X4_addDeed) (pr := pr_X4_addDeed) (bl := bl_X4_addDeed) (rt := 0) (own := RX4) hX (by decide +kernel) rfl rfl ⟨Nat.le_of_ble_eq_true rfl, Nat.le_of_ble_eq_true rfl⟩
    (zfl_all (List.forall_mem_cons.mpr ⟨zfl_X4 (fun w h => List.mem_cons_of_mem _ (List.mem_append_right _ h)) (List.mem_of_getElem? (i := 2) rfl) (by decide) (by decide), List.forall_mem_cons.mpr ⟨zfl_X4 (fun w h => List.mem_cons_of_mem _ (List.mem_append_right _ h)) (List.mem_of_getElem? (i := 1) rfl) (by decide) (by decide), fun _ h => absurd h List.not_mem_nil⟩⟩))
    (zco_all (fun _ h => absurd h List.not_mem_nil)) (zlc_all (fun _ h => absurd h List.not_mem_nil))
    (fun _ h => absurd h List.not_mem_nil)
    (fun _ h => absurd h List.not_mem_nil)
    (zmm_all (fun _ h => absurd h List.not_mem_nil)) (zpr_all hp_X4_addDeed) ck_X4_addDeed
def pr_X4_changeHouses : List (Nat × Instr × Nat) := [(0, .aload_n 0, 1), (1, .getfield 19, 3), (4, .iload_n 1, 1), (5, .iaload, 1), (6, .istore_n 3, 1), (7, .aload_n 0, 1), (8, .getfield 19, 3), (11, .iload_n 1, 1), (12, .aload_n 0, 1), (13, .getfield 19, 3), (16, .iload_n 2, 1), (17, .iaload, 1), (18, .iastore, 1), (19, .aload_n 0, 1), (20, .getfield 19, 3), (23, .iload_n 2, 1), (24, .iload_n 3, 1), (25, .iastore, 1), (26, .aload_n 0, 1), (27, .getfield 22, 3), (30, .iload_n 1, 1), (31, .iaload, 1), (32, .istore 4, 2), (34, .aload_n 0, 1), (35, .getfield 22, 3), (38, .iload_n 1, 1), (39, .aload_n 0, 1), (40, .getfield 22, 3), (43, .iload_n 2, 1), (44, .iaload, 1), (45, .iastore, 1), (46, .aload_n 0, 1), (47, .getfield 22, 3), (50, .iload_n 2, 1), (51, .iload 4, 2), (53, .iastore, 1), (54, .return_, 1)]
set_option maxRecDepth 100000 in
theorem hp_X4_changeHouses : pr_X4_changeHouses.all (fun x => decide (decode cX4_changeHouses x.1 = .ok x.2)) = true := by decide +kernel
def ze_X4_changeHouses : zE := [(1, (2, 7)), (2, (0, 1)), (3, (0, 5)), (4, ((-2147483648), 2147483647)), (5, ((-2147483648), 2147483647)), (6, ((-2147483648), 2147483647)), (7, ((-2147483648), 2147483647)), (8, ((-2147483648), 2147483647)), (9, (0, 10)), (10, (0, 10)), (11, (0, 4)), (12, (0, 6)), (13, (0, 6))]
def k_X4_changeHouses : zK := (14, [0, 1, 2, 3, 4, 5, 6, 7, 8, 9, 10, 11, 12, 13, 14, 15, 16, 17, 18, 19, 20], (ze_X4_changeHouses, [], [], [zr 0, zi 12 0, zi 13 0], zw4c, []), [([], [], [], [], zw4c, [])])
def bl_X4_changeHouses : List (Nat × zS) := []
def tb_X4_changeHouses : zTb := ([(19, 4, 4, 3), (22, 4, 5, 3)], [], [], [], [], [])
def sp_X4_changeHouses : zSp := []
set_option maxRecDepth 1000000 in
theorem ck0_X4_changeHouses : zrun tb_X4_changeHouses sp_X4_changeHouses pr_X4_changeHouses 5 0 k_X4_changeHouses.1 k_X4_changeHouses.2.1 k_X4_changeHouses.2.2.2 bl_X4_changeHouses false 2000 5014 (zst0 k_X4_changeHouses) 0 = true := by decide +kernel
set_option maxRecDepth 1000000 in
theorem ck_X4_changeHouses : zcheck tb_X4_changeHouses sp_X4_changeHouses pr_X4_changeHouses 5 0 k_X4_changeHouses bl_X4_changeHouses 2000 5014 = true := zcheck_of (by decide +kernel) ck0_X4_changeHouses (fun _ h => absurd h List.not_mem_nil)
set_option maxRecDepth 100000 in
set_option maxHeartbeats 4000000 in
theorem c_X4_changeHouses {X : zXT} (hX : zXok X) (hN : zXn X) (l : Launch) : zMet X vwCl l yX4_changeHouses wsX4_changeHouses { frames := 1, cells := 0, slots := 0, locals := 64 } k_X4_changeHouses :=
  zmeth (tb := tb_X4_changeHouses) (pr := pr_X4_changeHouses) (bl := bl_X4_changeHouses) (rt := 0) (own := RX4) hX (by decide +kernel) rfl rfl ⟨Nat.le_of_ble_eq_true rfl, Nat.le_of_ble_eq_true rfl⟩
    (zfl_all (List.forall_mem_cons.mpr ⟨zfl_X4 (fun w h => List.mem_cons_of_mem _ (List.mem_append_right _ h)) (List.mem_of_getElem? (i := 1) rfl) (by decide) (by decide), List.forall_mem_cons.mpr ⟨zfl_X4 (fun w h => List.mem_cons_of_mem _ (List.mem_append_right _ h)) (List.mem_of_getElem? (i := 2) rfl) (by decide) (by decide), fun _ h => absurd h List.not_mem_nil⟩⟩))
    (zco_all (fun _ h => absurd h List.not_mem_nil)) (zlc_all (fun _ h => absurd h List.not_mem_nil))
    (fun _ h => absurd h List.not_mem_nil)
    (fun _ h => absurd h List.not_mem_nil)
    (zmm_all (fun _ h => absurd h List.not_mem_nil)) (zpr_all hp_X4_changeHouses) ck_X4_changeHouses
def pr_X4_allDone : List (Nat × Instr × Nat) := [(0, .iconst 0, 1), (1, .istore_n 1, 1), (2, .iconst 0, 1), (3, .istore_n 2, 1), (4, .iload_n 2, 1), (5, .bipush 35, 2), (7, .if_icmp .ge 18, 3), (10, .iload_n 1, 1), (11, .aload_n 0, 1), (12, .getfield 34, 3), (15, .iload_n 2, 1), (16, .iaload, 1), (17, .iadd, 1), (18, .istore_n 1, 1), (19, .iinc 2 1, 3), (22, .goto (-18), 3), (25, .iload_n 1, 1), (26, .ireturn, 1)]
set_option maxRecDepth 100000 in
theorem hp_X4_allDone : pr_X4_allDone.all (fun x => decide (decode cX4_allDone x.1 = .ok x.2)) = true := by decide +kernel
def ze_X4_allDone : zE := [(1, (2, 7)), (2, (0, 1)), (3, (0, 5)), (4, ((-2147483648), 2147483647)), (5, ((-2147483648), 2147483647)), (6, ((-2147483648), 2147483647)), (7, ((-2147483648), 2147483647)), (8, ((-2147483648), 2147483647)), (9, (0, 10)), (10, (0, 10)), (11, (0, 4))]
def k_X4_allDone : zK := (12, [0, 1, 2, 3, 4, 5, 6, 7, 8, 9, 10, 11, 12, 13, 14, 15, 16, 17, 18, 19, 20], (ze_X4_allDone, [], [], [zr 0], zw4c, []), [([(12, ((-2147483648), 2147483647))], [], [], [zi 12 0], zw4c, [])])
def b0_X4_allDone : Nat × zS := (4, ([(12, (0, 35)), (13, ((-2147483648), 2147483647))] ++ ze_X4_allDone, [], [(2, zi 12 0), (1, zi 13 0), (0, zr 0)], [], zw4c, [(false, (0, 99996)), (true, (12, 35)), (false, (0, 200000)), (false, (0, 0))]))
def bl_X4_allDone : List (Nat × zS) := [b0_X4_allDone]
def tb_X4_allDone : zTb := ([(34, 4, 10, 3)], [], [], [], [], [])
def sp_X4_allDone : zSp := []
set_option maxRecDepth 1000000 in
theorem ck0_X4_allDone : zrun tb_X4_allDone sp_X4_allDone pr_X4_allDone 3 1 k_X4_allDone.1 k_X4_allDone.2.1 k_X4_allDone.2.2.2 bl_X4_allDone false 2000 5012 (zst0 k_X4_allDone) 0 = true := by decide +kernel
set_option maxRecDepth 1000000 in
theorem ck1_X4_allDone : zrun tb_X4_allDone sp_X4_allDone pr_X4_allDone 3 1 k_X4_allDone.1 k_X4_allDone.2.1 k_X4_allDone.2.2.2 bl_X4_allDone true 2000 5012 b0_X4_allDone.2 b0_X4_allDone.1 = true := by decide +kernel
set_option maxRecDepth 1000000 in
theorem ck_X4_allDone : zcheck tb_X4_allDone sp_X4_allDone pr_X4_allDone 3 1 k_X4_allDone bl_X4_allDone 2000 5012 = true := zcheck_of (by decide +kernel) ck0_X4_allDone (List.forall_mem_cons.mpr ⟨ck1_X4_allDone, fun _ h => absurd h List.not_mem_nil⟩)
set_option maxRecDepth 100000 in
set_option maxHeartbeats 4000000 in
theorem c_X4_allDone {X : zXT} (hX : zXok X) (hN : zXn X) (l : Launch) : zMet X vwCl l yX4_allDone wsX4_allDone { frames := 1, cells := 0, slots := 0, locals := 64 } k_X4_allDone :=
  zmeth (tb := tb_X4_allDone) (pr := pr_X4_allDone) (bl := bl_X4_allDone) (rt := 1) (own := RX4) hX (by decide +kernel) rfl rfl ⟨Nat.le_of_ble_eq_true rfl, Nat.le_of_ble_eq_true rfl⟩
    (zfl_all (List.forall_mem_cons.mpr ⟨zfl_X4 (fun w h => List.mem_cons_of_mem _ (List.mem_append_right _ h)) (List.mem_of_getElem? (i := 1) rfl) (by decide) (by decide), fun _ h => absurd h List.not_mem_nil⟩))
    (zco_all (fun _ h => absurd h List.not_mem_nil)) (zlc_all (fun _ h => absurd h List.not_mem_nil))
    (fun _ h => absurd h List.not_mem_nil)
    (fun _ h => absurd h List.not_mem_nil)
    (zmm_all (fun _ h => absurd h List.not_mem_nil)) (zpr_all hp_X4_allDone) ck_X4_allDone
def pr_X4_allPurses : List (Nat × Instr × Nat) := [(0, .iconst 0, 1), (1, .istore_n 1, 1), (2, .iconst 0, 1), (3, .istore_n 2, 1), (4, .iload_n 2, 1), (5, .aload_n 0, 1), (6, .getfield 9, 3), (9, .if_icmp .ge 18, 3), (12, .iload_n 1, 1), (13, .aload_n 0, 1), (14, .getfield 19, 3), (17, .iload_n 2, 1), (18, .iaload, 1), (19, .iadd, 1), (20, .istore_n 1, 1), (21, .iinc 2 1, 3), (24, .goto (-20), 3), (27, .iload_n 1, 1), (28, .ireturn, 1)]
set_option maxRecDepth 100000 in
theorem hp_X4_allPurses : pr_X4_allPurses.all (fun x => decide (decode cX4_allPurses x.1 = .ok x.2)) = true := by decide +kernel
def ze_X4_allPurses : zE := [(1, (2, 7)), (2, (0, 1)), (3, (0, 5)), (4, ((-2147483648), 2147483647)), (5, ((-2147483648), 2147483647)), (6, ((-2147483648), 2147483647)), (7, ((-2147483648), 2147483647)), (8, ((-2147483648), 2147483647)), (9, (0, 10)), (10, (0, 10)), (11, (0, 4))]
def k_X4_allPurses : zK := (12, [0, 1, 2, 3, 4, 5, 6, 7, 8, 9, 10, 11, 12, 13, 14, 15, 16, 17, 18, 19, 20], (ze_X4_allPurses, [], [], [zr 0], zw4c, []), [([(12, ((-2147483648), 2147483647))], [], [], [zi 12 0], zw4c, [])])
def b0_X4_allPurses : Nat × zS := (4, ([(12, (0, 7)), (13, ((-2147483648), 2147483647))] ++ ze_X4_allPurses, [], [(2, zi 12 0), (1, zi 13 0), (0, zr 0)], [], zw4c, [(false, (0, 99996)), (true, (12, 7)), (false, (0, 200000)), (false, (0, 0))]))
def bl_X4_allPurses : List (Nat × zS) := [b0_X4_allPurses]
def tb_X4_allPurses : zTb := ([(9, 4, 0, 0), (19, 4, 4, 3)], [], [], [], [], [])
def sp_X4_allPurses : zSp := []
set_option maxRecDepth 1000000 in
theorem ck0_X4_allPurses : zrun tb_X4_allPurses sp_X4_allPurses pr_X4_allPurses 3 1 k_X4_allPurses.1 k_X4_allPurses.2.1 k_X4_allPurses.2.2.2 bl_X4_allPurses false 2000 5012 (zst0 k_X4_allPurses) 0 = true := by decide +kernel
set_option maxRecDepth 1000000 in
theorem ck1_X4_allPurses : zrun tb_X4_allPurses sp_X4_allPurses pr_X4_allPurses 3 1 k_X4_allPurses.1 k_X4_allPurses.2.1 k_X4_allPurses.2.2.2 bl_X4_allPurses true 2000 5012 b0_X4_allPurses.2 b0_X4_allPurses.1 = true := by decide +kernel
set_option maxRecDepth 1000000 in
theorem ck_X4_allPurses : zcheck tb_X4_allPurses sp_X4_allPurses pr_X4_allPurses 3 1 k_X4_allPurses bl_X4_allPurses 2000 5012 = true := zcheck_of (by decide +kernel) ck0_X4_allPurses (List.forall_mem_cons.mpr ⟨ck1_X4_allPurses, fun _ h => absurd h List.not_mem_nil⟩)
set_option maxRecDepth 100000 in
set_option maxHeartbeats 4000000 in
theorem c_X4_allPurses {X : zXT} (hX : zXok X) (hN : zXn X) (l : Launch) : zMet X vwCl l yX4_allPurses wsX4_allPurses { frames := 1, cells := 0, slots := 0, locals := 64 } k_X4_allPurses :=
  zmeth (tb := tb_X4_allPurses) (pr := pr_X4_allPurses) (bl := bl_X4_allPurses) (rt := 1) (own := RX4) hX (by decide +kernel) rfl rfl ⟨Nat.le_of_ble_eq_true rfl, Nat.le_of_ble_eq_true rfl⟩
    (zfl_all (List.forall_mem_cons.mpr ⟨zfl_X4 (fun w h => List.mem_cons_of_mem _ (List.mem_append_right _ h)) (List.mem_of_getElem? (i := 1) rfl) (by decide) (by decide), List.forall_mem_cons.mpr ⟨zfl_X4 (fun w h => List.mem_cons_of_mem _ (List.mem_append_right _ h)) (List.mem_of_getElem? (i := 2) rfl) (by decide) (by decide), fun _ h => absurd h List.not_mem_nil⟩⟩))
    (zco_all (fun _ h => absurd h List.not_mem_nil)) (zlc_all (fun _ h => absurd h List.not_mem_nil))
    (fun _ h => absurd h List.not_mem_nil)
    (fun _ h => absurd h List.not_mem_nil)
    (zmm_all (fun _ h => absurd h List.not_mem_nil)) (zpr_all hp_X4_allPurses) ck_X4_allPurses
def pr_X4_whereFalls : List (Nat × Instr × Nat) := [(0, .iload_n 1, 1), (1, .iload_n 2, 1), (2, .iadd, 1), (3, .istore_n 3, 1), (4, .aload_n 0, 1), (5, .getfield 61, 3), (8, .ifCond .eq 22, 3), (11, .aload_n 0, 1), (12, .getfield 9, 3), (15, .ifCond .le 15, 3), (18, .iload_n 3, 1), (19, .aload_n 0, 1), (20, .getfield 9, 3), (23, .iadd, 1), (24, .aload_n 0, 1), (25, .getfield 9, 3), (28, .irem, 1), (29, .ireturn, 1), (30, .iconst 0, 1), (31, .iload_n 3, 1), (32, .if_icmp .gt 15, 3), (35, .iload_n 3, 1), (36, .aload_n 0, 1), (37, .getfield 9, 3), (40, .if_icmp .ge 7, 3), (43, .iload_n 3, 1), (44, .goto 4, 3), (47, .iconst (-1), 1), (48, .ireturn, 1)]
set_option maxRecDepth 100000 in
theorem hp_X4_whereFalls : pr_X4_whereFalls.all (fun x => decide (decode cX4_whereFalls x.1 = .ok x.2)) = true := by decide +kernel
def ze_X4_whereFalls : zE := [(1, (2, 7)), (2, (0, 1)), (3, (0, 5)), (4, ((-2147483648), 2147483647)), (5, ((-2147483648), 2147483647)), (6, ((-2147483648), 2147483647)), (7, ((-2147483648), 2147483647)), (8, ((-2147483648), 2147483647)), (9, (0, 10)), (10, (0, 10)), (11, (0, 4)), (12, (0, 6)), (13, ((-1), 2))]
def k_X4_whereFalls : zK := (14, [0, 1, 2, 3, 4, 5, 6, 7, 8, 9, 10, 11, 12, 13, 14, 15, 16, 17, 18, 19, 20], (ze_X4_whereFalls, [], [], [zr 0, zi 12 0, zi 13 0], zw4c, []), [([(2, (0, 0))], [], [], [zi 0 (-1)], zw4c, []),
  ([(14, (0, 6))], [], [], [zi 14 0], zw4c, [])])
def bl_X4_whereFalls : List (Nat × zS) := []
def tb_X4_whereFalls : zTb := ([(9, 4, 0, 0), (61, 4, 1, 1)], [], [], [], [], [])
def sp_X4_whereFalls : zSp := []
set_option maxRecDepth 1000000 in
theorem ck0_X4_whereFalls : zrun tb_X4_whereFalls sp_X4_whereFalls pr_X4_whereFalls 4 1 k_X4_whereFalls.1 k_X4_whereFalls.2.1 k_X4_whereFalls.2.2.2 bl_X4_whereFalls false 2000 5014 (zst0 k_X4_whereFalls) 0 = true := by decide +kernel
set_option maxRecDepth 1000000 in
theorem ck_X4_whereFalls : zcheck tb_X4_whereFalls sp_X4_whereFalls pr_X4_whereFalls 4 1 k_X4_whereFalls bl_X4_whereFalls 2000 5014 = true := zcheck_of (by decide +kernel) ck0_X4_whereFalls (fun _ h => absurd h List.not_mem_nil)
set_option maxRecDepth 100000 in
set_option maxHeartbeats 4000000 in
theorem c_X4_whereFalls {X : zXT} (hX : zXok X) (hN : zXn X) (l : Launch) : zMet X vwCl l yX4_whereFalls wsX4_whereFalls { frames := 1, cells := 0, slots := 0, locals := 64 } k_X4_whereFalls :=
  zmeth (tb := tb_X4_whereFalls) (pr := pr_X4_whereFalls) (bl := bl_X4_whereFalls) (rt := 1) (own := RX4) hX (by decide +kernel) rfl rfl ⟨Nat.le_of_ble_eq_true rfl, Nat.le_of_ble_eq_true rfl⟩
    (zfl_all (List.forall_mem_cons.mpr ⟨zfl_X4 (fun w h => List.mem_cons_of_mem _ (List.mem_append_right _ h)) (List.mem_of_getElem? (i := 2) rfl) (by decide) (by decide), List.forall_mem_cons.mpr ⟨zfl_X4 (fun w h => List.mem_cons_of_mem _ (List.mem_append_right _ h)) (List.mem_of_getElem? (i := 1) rfl) (by decide) (by decide), fun _ h => absurd h List.not_mem_nil⟩⟩))
    (zco_all (fun _ h => absurd h List.not_mem_nil)) (zlc_all (fun _ h => absurd h List.not_mem_nil))
    (fun _ h => absurd h List.not_mem_nil)
    (fun _ h => absurd h List.not_mem_nil)
    (zmm_all (fun _ h => absurd h List.not_mem_nil)) (zpr_all hp_X4_whereFalls) ck_X4_whereFalls
def pr_X4_comesTrue : List (Nat × Instr × Nat) := [(0, .iload_n 1, 1), (1, .iload_n 3, 1), (2, .invokestatic 142, 3), (5, .istore 4, 2), (7, .iload_n 2, 1), (8, .iconst 4, 1), (9, .if_icmp .ne 25, 3), (12, .aload_n 0, 1), (13, .getfield 34, 3), (16, .iload 4, 2), (18, .iconst 0, 1), (19, .aload_n 0, 1), (20, .getfield 34, 3), (23, .iload 4, 2), (25, .iaload, 1), (26, .iconst 1, 1), (27, .isub, 1), (28, .invokestatic 145, 3), (31, .iastore, 1), (32, .iconst 0, 1), (33, .ireturn, 1), (34, .aload_n 0, 1), (35, .getfield 22, 3), (38, .iload_n 1, 1), (39, .iaload, 1), (40, .iload_n 3, 1), (41, .invokestatic 126, 3), (44, .ifCond .eq 18, 3), (47, .aload_n 0, 1), (48, .getfield 19, 3), (51, .iload_n 1, 1), (52, .iaload, 1), (53, .aload_n 0, 1), (54, .getfield 15, 3), (57, .iload_n 3, 1), (58, .iaload, 1), (59, .if_icmp .ge 15, 3), (62, .aload_n 0, 1), (63, .dup, 1), (64, .getfield 85, 3), (67, .iconst 1, 1), (68, .iadd, 1), (69, .putfield 85, 3), (72, .iconst 0, 1), (73, .ireturn, 1), (74, .aload_n 0, 1), (75, .getfield 34, 3), (78, .iload 4, 2), (80, .bipush 99, 2), (82, .aload_n 0, 1), (83, .getfield 34, 3), (86, .iload 4, 2), (88, .iaload, 1), (89, .iconst 1, 1), (90, .iadd, 1), (91, .invokestatic 150, 3), (94, .iastore, 1), (95, .aload_n 0, 1), (96, .getfield 19, 3), (99, .iload_n 1, 1), (100, .dup2, 1), (101, .iaload, 1), (102, .aload_n 0, 1), (103, .getfield 15, 3), (106, .iload_n 3, 1), (107, .iaload, 1), (108, .isub, 1), (109, .iastore, 1), (110, .iconst 1, 1), (111, .ireturn, 1)]
set_option maxRecDepth 100000 in
theorem hp_X4_comesTrue : pr_X4_comesTrue.all (fun x => decide (decode cX4_comesTrue x.1 = .ok x.2)) = true := by decide +kernel
def ze_X4_comesTrue : zE := [(1, (2, 7)), (2, (0, 1)), (3, (0, 5)), (4, ((-2147483648), 2147483647)), (5, ((-2147483648), 2147483647)), (6, ((-2147483648), 2147483647)), (7, ((-2147483648), 2147483647)), (8, ((-2147483648), 2147483647)), (9, (0, 10)), (10, (0, 10)), (11, (0, 4)), (12, (0, 6)), (13, ((-2147483648), 2147483647)), (14, (0, 4))]
def k_X4_comesTrue : zK := (15, [0, 1, 2, 3, 4, 5, 6, 7, 8, 9, 10, 11, 12, 13, 14, 15, 16, 17, 18, 19, 20], (ze_X4_comesTrue, [], [], [zr 0, zi 12 0, zi 13 0, zi 14 0], zw4c, []), [([(15, ((-2147483648), 2147483647))], [(15, 8, 1)], [], [zi 0 0], zfs (zw4c) 0 17 (zi 15 0), []),
  ([], [], [], [zi 0 1], zw4c, [])])
def bl_X4_comesTrue : List (Nat × zS) := []
def tb_X4_comesTrue : zTb := ([(15, 4, 3, 3), (19, 4, 4, 3), (22, 4, 5, 3), (34, 4, 10, 3), (85, 4, 17, 0)], [], [], [], [(126, k_X7_bit), (142, k_X7_doneAt)], [(145, 0), (150, 1)])
def sp_X4_comesTrue : zSp := []
set_option maxRecDepth 1000000 in
theorem ck0_X4_comesTrue : zrun tb_X4_comesTrue sp_X4_comesTrue pr_X4_comesTrue 5 2 k_X4_comesTrue.1 k_X4_comesTrue.2.1 k_X4_comesTrue.2.2.2 bl_X4_comesTrue false 2000 5015 (zst0 k_X4_comesTrue) 0 = true := by decide +kernel
set_option maxRecDepth 1000000 in
theorem ck_X4_comesTrue : zcheck tb_X4_comesTrue sp_X4_comesTrue pr_X4_comesTrue 5 2 k_X4_comesTrue bl_X4_comesTrue 2000 5015 = true := zcheck_of (by decide +kernel) ck0_X4_comesTrue (fun _ h => absurd h List.not_mem_nil)
set_option maxRecDepth 100000 in
set_option maxHeartbeats 4000000 in
theorem c_X4_comesTrue {X : zXT} (hX : zXok X) (hN : zXn X) (l : Launch) : zMet X vwCl l yX4_comesTrue wsX4_comesTrue { frames := 2, cells := 0, slots := 0, locals := 85 } k_X4_comesTrue :=
  zmeth (tb := tb_X4_comesTrue) (pr := pr_X4_comesTrue) (bl := bl_X4_comesTrue) (rt := 2) (own := RX4) hX (by decide +kernel) rfl rfl ⟨Nat.le_of_ble_eq_true rfl, Nat.le_of_ble_eq_true rfl⟩
    (zfl_all (List.forall_mem_cons.mpr ⟨zfl_X4 (fun w h => List.mem_cons_of_mem _ (List.mem_append_right _ h)) (List.mem_of_getElem? (i := 8) rfl) (by decide) (by decide), List.forall_mem_cons.mpr ⟨zfl_X4 (fun w h => List.mem_cons_of_mem _ (List.mem_append_right _ h)) (List.mem_of_getElem? (i := 7) rfl) (by decide) (by decide), List.forall_mem_cons.mpr ⟨zfl_X4 (fun w h => List.mem_cons_of_mem _ (List.mem_append_right _ h)) (List.mem_of_getElem? (i := 6) rfl) (by decide) (by decide), List.forall_mem_cons.mpr ⟨zfl_X4 (fun w h => List.mem_cons_of_mem _ (List.mem_append_right _ h)) (List.mem_of_getElem? (i := 1) rfl) (by decide) (by decide), List.forall_mem_cons.mpr ⟨zfl_X4 (fun w h => List.mem_cons_of_mem _ (List.mem_append_right _ h)) (List.mem_of_getElem? (i := 9) rfl) (by decide) (by decide), fun _ h => absurd h List.not_mem_nil⟩⟩⟩⟩⟩))
    (zco_all (fun _ h => absurd h List.not_mem_nil)) (zlc_all (fun _ h => absurd h List.not_mem_nil))
    (fun _ h => absurd h List.not_mem_nil)
    (List.forall_mem_cons.mpr ⟨fun p e s m args below meth c A S hx => zcal_SN hX S (c_X7_bit hX hN l) ⟨va_cnB 2 S.2.2.2.2 ggX4_comesTrue_X7_bit rfl rfl rfl (hN A s s.heap hx RX4 126 yX7_bit RX7 (by decide +kernel)) (S.2.2.2.2 _ (List.mem_of_getElem? (i := 14) rfl)) (by decide +kernel) ⟨Nat.le_of_ble_eq_true rfl, Nat.le_of_ble_eq_true rfl⟩, S.2.2.2.2 _ (List.mem_of_getElem? (i := 16) rfl), trivial⟩ rfl, List.forall_mem_cons.mpr ⟨fun p e s m args below meth c A S hx => zcal_SN hX S (c_X7_doneAt hX hN l) ⟨va_cnB 2 S.2.2.2.2 ggX4_comesTrue_X7_doneAt rfl rfl rfl (hN A s s.heap hx RX4 142 yX7_doneAt RX7 (by decide +kernel)) (S.2.2.2.2 _ (List.mem_of_getElem? (i := 14) rfl)) (by decide +kernel) ⟨Nat.le_of_ble_eq_true rfl, Nat.le_of_ble_eq_true rfl⟩, S.2.2.2.2 _ (List.mem_of_getElem? (i := 13) rfl), trivial⟩ rfl, fun _ h => absurd h List.not_mem_nil⟩⟩)
    (zmm_all (List.forall_mem_cons.mpr ⟨⟨List.mem_of_getElem? (i := 2) rfl, List.mem_of_getElem? (i := 3) rfl, List.mem_of_getElem? (i := 4) rfl, List.mem_of_getElem? (i := 5) rfl⟩, List.forall_mem_cons.mpr ⟨⟨List.mem_of_getElem? (i := 10) rfl, List.mem_of_getElem? (i := 11) rfl, List.mem_of_getElem? (i := 4) rfl, List.mem_of_getElem? (i := 12) rfl⟩, fun _ h => absurd h List.not_mem_nil⟩⟩)) (zpr_all hp_X4_comesTrue) ck_X4_comesTrue
def pr_X4_letFall : List (Nat × Instr × Nat) := [(0, .iload_n 2, 1), (1, .iconst (-1), 1), (2, .if_icmp .ne 15, 3), (5, .aload_n 0, 1), (6, .dup, 1), (7, .getfield 79, 3), (10, .iconst 1, 1), (11, .iadd, 1), (12, .putfield 79, 3), (15, .iconst 0, 1), (16, .ireturn, 1), (17, .aload_n 0, 1), (18, .getfield 65, 3), (21, .iload_n 2, 1), (22, .invokestatic 126, 3), (25, .iconst 1, 1), (26, .if_icmp .ne 15, 3), (29, .aload_n 0, 1), (30, .dup, 1), (31, .getfield 82, 3), (34, .iconst 1, 1), (35, .iadd, 1), (36, .putfield 82, 3), (39, .iconst 0, 1), (40, .ireturn, 1), (41, .aload_n 0, 1), (42, .getfield 40, 3), (45, .getfield 129, 3), (48, .iload_n 1, 1), (49, .iaload, 1), (50, .istore_n 3, 1), (51, .iload_n 3, 1), (52, .ifCond .le 62, 3), (55, .iload_n 3, 1), (56, .bipush 9, 2), (58, .if_icmp .ne 8, 3), (61, .bipush 9, 2), (63, .goto 6, 3), (66, .iload_n 3, 1), (67, .iconst 1, 1), (68, .isub, 1), (69, .istore 4, 2), (71, .aload_n 0, 1), (72, .getfield 44, 3), (75, .iload_n 2, 1), (76, .aload_n 0, 1), (77, .getfield 40, 3), (80, .getfield 105, 3), (83, .iload_n 1, 1), (84, .iaload, 1), (85, .iload 4, 2), (87, .aload_n 0, 1), (88, .getfield 40, 3), (91, .getfield 132, 3), (94, .iload_n 1, 1), (95, .iaload, 1), (96, .invokevirtual 135, 3), (99, .ifCond .ne 13, 3), (102, .aload_n 0, 1), (103, .dup, 1), (104, .getfield 79, 3), (107, .iconst 1, 1), (108, .iadd, 1), (109, .putfield 79, 3), (112, .iconst 0, 1), (113, .ireturn, 1), (114, .aload_n 0, 1), (115, .iload_n 2, 1), (116, .aload_n 0, 1), (117, .getfield 40, 3), (120, .getfield 105, 3), (123, .iload_n 1, 1), (124, .iaload, 1), (125, .aload_n 0, 1), (126, .getfield 40, 3), (129, .getfield 132, 3), (132, .iload_n 1, 1), (133, .iaload, 1), (134, .invokevirtual 139, 3), (137, .ireturn, 1)]
set_option maxRecDepth 100000 in
theorem hp_X4_letFall : pr_X4_letFall.all (fun x => decide (decode cX4_letFall x.1 = .ok x.2)) = true := by decide +kernel
def ze_X4_letFall : zE := [(1, (2, 7)), (2, (0, 1)), (3, (0, 5)), (4, ((-2147483648), 2147483647)), (5, ((-2147483648), 2147483647)), (6, ((-2147483648), 2147483647)), (7, ((-2147483648), 2147483647)), (8, ((-2147483648), 2147483647)), (9, (0, 10)), (10, (0, 10)), (11, (0, 4)), (12, (0, 9)), (13, ((-1), 6))]
def k_X4_letFall : zK := (14, [0, 1, 2, 3, 4, 5, 6, 7, 8, 9, 10, 11, 12, 13, 14, 15, 16, 17, 18, 19, 20], (ze_X4_letFall, [], [], [zr 0, zi 12 0, zi 13 0], zw4c, []), [([(14, ((-2147483648), 2147483647)), (15, ((-2147483648), 2147483647)), (16, ((-2147483648), 2147483647)), (17, (0, 10))], [(10, 17, 0), (14, 6, 1), (15, 7, 1), (16, 8, 1), (17, 10, 1)], [], [zi 0 0], zfs (zfs (zfs (zfs (zw4c) 0 15 (zi 14 0)) 0 16 (zi 15 0)) 0 17 (zi 16 0)) 13 0 (zi 17 0), []),
  ([(13, (0, 6))], [], [], [zi 0 1], zw4c, [])])
def bl_X4_letFall : List (Nat × zS) := []
def tb_X4_letFall : zTb := ([(40, 4, 11, 2), (44, 4, 12, 2), (65, 4, 6, 0), (79, 4, 15, 0), (82, 4, 16, 0), (105, 5, 2, 3), (129, 5, 3, 3), (132, 5, 4, 3)], [], [], [(135, k_X5_append), (139, k_X4_comesTrue)], [(126, k_X7_bit)], [])
def sp_X4_letFall : zSp := []
set_option maxRecDepth 1000000 in
theorem ck0_X4_letFall : zrun tb_X4_letFall sp_X4_letFall pr_X4_letFall 5 2 k_X4_letFall.1 k_X4_letFall.2.1 k_X4_letFall.2.2.2 bl_X4_letFall false 2000 5014 (zst0 k_X4_letFall) 0 = true := by decide +kernel
set_option maxRecDepth 1000000 in
theorem ck_X4_letFall : zcheck tb_X4_letFall sp_X4_letFall pr_X4_letFall 5 2 k_X4_letFall bl_X4_letFall 2000 5014 = true := zcheck_of (by decide +kernel) ck0_X4_letFall (fun _ h => absurd h List.not_mem_nil)
set_option maxRecDepth 100000 in
set_option maxHeartbeats 4000000 in
theorem c_X4_letFall {X : zXT} (hX : zXok X) (hN : zXn X) (l : Launch) : zMet X vwCl l yX4_letFall wsX4_letFall { frames := 3, cells := 0, slots := 0, locals := 109 } k_X4_letFall :=
  zmeth (tb := tb_X4_letFall) (pr := pr_X4_letFall) (bl := bl_X4_letFall) (rt := 2) (own := RX4) hX (by decide +kernel) rfl rfl ⟨Nat.le_of_ble_eq_true rfl, Nat.le_of_ble_eq_true rfl⟩
    (zfl_all (List.forall_mem_cons.mpr ⟨zfl_X4 (fun w h => List.mem_cons_of_mem _ (List.mem_append_left _ (List.mem_append_right _ h))) (List.mem_of_getElem? (i := 4) rfl) (by decide) (by decide), List.forall_mem_cons.mpr ⟨zfl_X4 (fun w h => List.mem_cons_of_mem _ (List.mem_append_left _ (List.mem_append_right _ h))) (List.mem_of_getElem? (i := 6) rfl) (by decide) (by decide), List.forall_mem_cons.mpr ⟨zfl_X4 (fun w h => List.mem_cons_of_mem _ (List.mem_append_left _ (List.mem_append_right _ h))) (List.mem_of_getElem? (i := 2) rfl) (by decide) (by decide), List.forall_mem_cons.mpr ⟨zfl_X4 (fun w h => List.mem_cons_of_mem _ (List.mem_append_left _ (List.mem_append_right _ h))) (List.mem_of_getElem? (i := 1) rfl) (by decide) (by decide), List.forall_mem_cons.mpr ⟨zfl_X4 (fun w h => List.mem_cons_of_mem _ (List.mem_append_left _ (List.mem_append_right _ h))) (List.mem_of_getElem? (i := 3) rfl) (by decide) (by decide), List.forall_mem_cons.mpr ⟨zfl_X5 (fun w h => List.mem_cons_of_mem _ (List.mem_append_right _ h)) (List.mem_of_getElem? (i := 7) rfl) (by decide) (by decide), List.forall_mem_cons.mpr ⟨zfl_X5 (fun w h => List.mem_cons_of_mem _ (List.mem_append_right _ h)) (List.mem_of_getElem? (i := 5) rfl) (by decide) (by decide), List.forall_mem_cons.mpr ⟨zfl_X5 (fun w h => List.mem_cons_of_mem _ (List.mem_append_right _ h)) (List.mem_of_getElem? (i := 8) rfl) (by decide) (by decide), fun _ h => absurd h List.not_mem_nil⟩⟩⟩⟩⟩⟩⟩⟩))
    (zco_all (fun _ h => absurd h List.not_mem_nil)) (zlc_all (fun _ h => absurd h List.not_mem_nil))
    (List.forall_mem_cons.mpr ⟨fun p e s m args below meth c A S hx => zcal_V hX S (c_X5_append hX hN l) (cwV 4 S.2.2.2.2 gX4_letFall_X5_append rfl rfl rfl (by decide +kernel) ⟨Nat.le_of_ble_eq_true rfl, Nat.le_of_ble_eq_true rfl⟩) rfl ⟨0, 5, _, _, _, rfl, rfl⟩ rfl, List.forall_mem_cons.mpr ⟨fun p e s m args below meth c A S hx => zcal_V hX S (c_X4_comesTrue hX hN l) (cwV 3 S.2.2.2.2 gX4_letFall_X4_comesTrue rfl rfl rfl (by decide +kernel) ⟨Nat.le_of_ble_eq_true rfl, Nat.le_of_ble_eq_true rfl⟩) rfl ⟨0, 4, _, _, _, rfl, rfl⟩ rfl, fun _ h => absurd h List.not_mem_nil⟩⟩)
    (List.forall_mem_cons.mpr ⟨fun p e s m args below meth c A S hx => zcal_SN hX S (c_X7_bit hX hN l) ⟨va_cnB 2 S.2.2.2.2 ggX4_letFall_X7_bit rfl rfl rfl (hN A s s.heap hx RX4 126 yX7_bit RX7 (by decide +kernel)) (S.2.2.2.2 _ (List.mem_of_getElem? (i := 10) rfl)) (by decide +kernel) ⟨Nat.le_of_ble_eq_true rfl, Nat.le_of_ble_eq_true rfl⟩, S.2.2.2.2 _ (List.mem_of_getElem? (i := 9) rfl), trivial⟩ rfl, fun _ h => absurd h List.not_mem_nil⟩)
    (zmm_all (fun _ h => absurd h List.not_mem_nil)) (zpr_all hp_X4_letFall) ck_X4_letFall
def pr_X4_passDay : List (Nat × Instr × Nat) := [(0, .iconst 0, 1), (1, .istore_n 1, 1), (2, .aload_n 0, 1), (3, .getfield 44, 3), (6, .iconst 0, 1), (7, .putfield 72, 3), (10, .iconst 0, 1), (11, .istore_n 2, 1), (12, .iload_n 2, 1), (13, .aload_n 0, 1), (14, .getfield 40, 3), (17, .getfield 72, 3), (20, .if_icmp .ge 76, 3), (23, .aload_n 0, 1), (24, .getfield 40, 3), (27, .getfield 105, 3), (30, .iload_n 2, 1), (31, .iaload, 1), (32, .istore_n 3, 1), (33, .iconst 0, 1), (34, .istore 4, 2), (36, .iload 4, 2), (38, .iload_n 3, 1), (39, .invokestatic 108, 3), (42, .if_icmp .ge 48, 3), (45, .aload_n 0, 1), (46, .aload_n 0, 1), (47, .getfield 40, 3), (50, .getfield 112, 3), (53, .iload_n 2, 1), (54, .iaload, 1), (55, .iload_n 3, 1), (56, .iload 4, 2), (58, .invokestatic 115, 3), (61, .invokevirtual 119, 3), (64, .istore 5, 2), (66, .iload_n 1, 1), (67, .aload_n 0, 1), (68, .iload_n 2, 1), (69, .iload 5, 2), (71, .invokevirtual 122, 3), (74, .ifCond .eq 7, 3), (77, .iconst 1, 1), (78, .goto 4, 3), (81, .iconst 0, 1), (82, .iadd, 1), (83, .istore_n 1, 1), (84, .iinc 4 1, 3), (87, .goto (-51), 3), (90, .iinc 2 1, 3), (93, .goto (-81), 3), (96, .aload_n 0, 1), (97, .getfield 40, 3), (100, .astore_n 2, 1), (101, .aload_n 0, 1), (102, .aload_n 0, 1), (103, .getfield 44, 3), (106, .putfield 40, 3), (109, .aload_n 0, 1), (110, .aload_n 2, 1), (111, .putfield 44, 3), (114, .aload_n 0, 1), (115, .dup, 1), (116, .getfield 76, 3), (119, .iconst 1, 1), (120, .iadd, 1), (121, .putfield 76, 3), (124, .iload_n 1, 1), (125, .ireturn, 1)]
set_option maxRecDepth 100000 in
theorem hp_X4_passDay : pr_X4_passDay.all (fun x => decide (decode cX4_passDay x.1 = .ok x.2)) = true := by decide +kernel
def ze_X4_passDay : zE := [(1, (2, 7)), (2, (0, 1)), (3, (0, 5)), (4, ((-2147483648), 2147483647)), (5, ((-2147483648), 2147483647)), (6, ((-2147483648), 2147483647)), (7, ((-2147483648), 2147483647)), (8, ((-2147483648), 2147483647)), (9, (0, 10)), (10, (0, 10)), (11, (0, 4))]
def k_X4_passDay : zK := (12, [0, 1, 2, 3, 4, 5, 6, 7, 18, 19, 20], (ze_X4_passDay, [], [], [zr 0], zw4c, []), [([(12, ((-2147483648), 2147483647)), (13, ((-2147483648), 2147483647)), (14, ((-2147483648), 2147483647)), (15, ((-2147483648), 2147483647)), (16, ((-2147483648), 2147483647)), (17, (0, 10))], [(13, 5, 1)], [], [zi 12 0], zfs (zfs (zfs (zfs (zfs (zfs (zw4c) 0 14 (zi 13 0)) 0 15 (zi 14 0)) 0 16 (zi 15 0)) 0 17 (zi 16 0)) 8 0 (zi 17 0)) 13 0 (zi 9 0), [])])
def b0_X4_passDay : Nat × zS := (12, ([(12, (0, 10)), (13, ((-2147483648), 2147483647)), (14, ((-2147483648), 2147483647)), (15, ((-2147483648), 2147483647)), (16, ((-2147483648), 2147483647)), (17, (0, 10))] ++ ze_X4_passDay, [], [(2, zi 12 0), (1, zi 13 0), (0, zr 0)], [], zfs (zfs (zfs (zfs (zw4c) 0 15 (zi 14 0)) 0 16 (zi 15 0)) 0 17 (zi 16 0)) 13 0 (zi 17 0), [(false, (0, 99988)), (true, (12, 10)), (false, (0, 200000)), (false, (0, 0)), (false, (0, 0)), (false, (0, 0))]))
def b1_X4_passDay : Nat × zS := (36, ([(12, (0, 2)), (13, ((-2147483648), 2147483647)), (14, (0, 9)), (15, ((-2147483648), 2147483647)), (16, ((-2147483648), 2147483647)), (17, ((-2147483648), 2147483647)), (18, ((-2147483648), 2147483647)), (19, (0, 10)), (9, (1, 10))] ++ ze_X4_passDay, [], [(4, zi 12 0), (3, zi 13 0), (2, zi 14 0), (1, zi 15 0), (0, zr 0)], [], zfs (zfs (zfs (zfs (zw4c) 0 15 (zi 16 0)) 0 16 (zi 17 0)) 0 17 (zi 18 0)) 13 0 (zi 19 0), [(false, (0, 99988)), (true, (14, 10)), (false, (0, 99964)), (true, (12, 2)), (false, (0, 200000)), (false, (0, 0))]))
def bl_X4_passDay : List (Nat × zS) := [b0_X4_passDay, b1_X4_passDay]
def tb_X4_passDay : zTb := ([(40, 4, 11, 2), (44, 4, 12, 2), (72, 5, 0, 0), (76, 4, 14, 0), (105, 5, 2, 3), (112, 5, 1, 3)], [], [], [(119, k_X4_whereFalls), (122, k_X4_letFall)], [(108, k_X4_fallsOf), (115, k_X4_stepOf)], [])
def sp_X4_passDay : zSp := []
set_option maxRecDepth 1000000 in
theorem ck0_X4_passDay : zrun tb_X4_passDay sp_X4_passDay pr_X4_passDay 6 1 k_X4_passDay.1 k_X4_passDay.2.1 k_X4_passDay.2.2.2 bl_X4_passDay false 2000 5012 (zst0 k_X4_passDay) 0 = true := by decide +kernel
set_option maxRecDepth 1000000 in
theorem ck1_X4_passDay : zrun tb_X4_passDay sp_X4_passDay pr_X4_passDay 6 1 k_X4_passDay.1 k_X4_passDay.2.1 k_X4_passDay.2.2.2 bl_X4_passDay true 2000 5012 b0_X4_passDay.2 b0_X4_passDay.1 = true := by decide +kernel
set_option maxRecDepth 1000000 in
theorem ck2_X4_passDay : zrun tb_X4_passDay sp_X4_passDay pr_X4_passDay 6 1 k_X4_passDay.1 k_X4_passDay.2.1 k_X4_passDay.2.2.2 bl_X4_passDay true 2000 5012 b1_X4_passDay.2 b1_X4_passDay.1 = true := by decide +kernel
set_option maxRecDepth 1000000 in
theorem ck_X4_passDay : zcheck tb_X4_passDay sp_X4_passDay pr_X4_passDay 6 1 k_X4_passDay bl_X4_passDay 2000 5012 = true := zcheck_of (by decide +kernel) ck0_X4_passDay (List.forall_mem_cons.mpr ⟨ck1_X4_passDay, List.forall_mem_cons.mpr ⟨ck2_X4_passDay, fun _ h => absurd h List.not_mem_nil⟩⟩)
set_option maxRecDepth 100000 in
set_option maxHeartbeats 4000000 in
theorem c_X4_passDay {X : zXT} (hX : zXok X) (hN : zXn X) (l : Launch) : zMet X vwCl l yX4_passDay wsX4_passDay { frames := 4, cells := 0, slots := 0, locals := 133 } k_X4_passDay :=
  zmeth (tb := tb_X4_passDay) (pr := pr_X4_passDay) (bl := bl_X4_passDay) (rt := 1) (own := RX4) hX (by decide +kernel) rfl rfl ⟨Nat.le_of_ble_eq_true rfl, Nat.le_of_ble_eq_true rfl⟩
    (zfl_all (List.forall_mem_cons.mpr ⟨zfl_X4 (fun w h => List.mem_cons_of_mem _ (List.mem_append_left _ (List.mem_append_right _ h))) (List.mem_of_getElem? (i := 3) rfl) (by decide) (by decide), List.forall_mem_cons.mpr ⟨zfl_X4 (fun w h => List.mem_cons_of_mem _ (List.mem_append_left _ (List.mem_append_right _ h))) (List.mem_of_getElem? (i := 1) rfl) (by decide) (by decide), List.forall_mem_cons.mpr ⟨zfl_X5 (fun w h => List.mem_cons_of_mem _ (List.mem_append_right _ h)) (List.mem_of_getElem? (i := 2) rfl) (by decide) (by decide), List.forall_mem_cons.mpr ⟨zfl_X4 (fun w h => List.mem_cons_of_mem _ (List.mem_append_left _ (List.mem_append_right _ h))) (List.mem_of_getElem? (i := 6) rfl) (by decide) (by decide), List.forall_mem_cons.mpr ⟨zfl_X5 (fun w h => List.mem_cons_of_mem _ (List.mem_append_right _ h)) (List.mem_of_getElem? (i := 4) rfl) (by decide) (by decide), List.forall_mem_cons.mpr ⟨zfl_X5 (fun w h => List.mem_cons_of_mem _ (List.mem_append_right _ h)) (List.mem_of_getElem? (i := 5) rfl) (by decide) (by decide), fun _ h => absurd h List.not_mem_nil⟩⟩⟩⟩⟩⟩))
    (zco_all (fun _ h => absurd h List.not_mem_nil)) (zlc_all (fun _ h => absurd h List.not_mem_nil))
    (List.forall_mem_cons.mpr ⟨fun p e s m args below meth c A S hx => zcal_V hX S (c_X4_whereFalls hX hN l) (cwV 2 S.2.2.2.2 gX4_passDay_X4_whereFalls rfl rfl rfl (by decide +kernel) ⟨Nat.le_of_ble_eq_true rfl, Nat.le_of_ble_eq_true rfl⟩) rfl ⟨0, 4, _, _, _, rfl, rfl⟩ rfl, List.forall_mem_cons.mpr ⟨fun p e s m args below meth c A S hx => zcal_V hX S (c_X4_letFall hX hN l) (cwV 2 S.2.2.2.2 gX4_passDay_X4_letFall rfl rfl rfl (by decide +kernel) ⟨Nat.le_of_ble_eq_true rfl, Nat.le_of_ble_eq_true rfl⟩) rfl ⟨0, 4, _, _, _, rfl, rfl⟩ rfl, fun _ h => absurd h List.not_mem_nil⟩⟩)
    (List.forall_mem_cons.mpr ⟨fun p e s m args below meth c A S hx => zcal_S hX S (c_X4_fallsOf hX hN l) (va_cwS 1 S.2.2.2.2 gX4_passDay_X4_fallsOf rfl rfl rfl (by decide +kernel) ⟨Nat.le_of_ble_eq_true rfl, Nat.le_of_ble_eq_true rfl⟩) rfl, List.forall_mem_cons.mpr ⟨fun p e s m args below meth c A S hx => zcal_S hX S (c_X4_stepOf hX hN l) (va_cwS 2 S.2.2.2.2 gX4_passDay_X4_stepOf rfl rfl rfl (by decide +kernel) ⟨Nat.le_of_ble_eq_true rfl, Nat.le_of_ble_eq_true rfl⟩) rfl, fun _ h => absurd h List.not_mem_nil⟩⟩)
    (zmm_all (fun _ h => absurd h List.not_mem_nil)) (zpr_all hp_X4_passDay) ck_X4_passDay
def pr_X4_passDays : List (Nat × Instr × Nat) := [(0, .iconst 0, 1), (1, .istore_n 2, 1), (2, .iconst 0, 1), (3, .istore_n 3, 1), (4, .iload_n 3, 1), (5, .iload_n 1, 1), (6, .if_icmp .ge 16, 3), (9, .iload_n 2, 1), (10, .aload_n 0, 1), (11, .invokevirtual 101, 3), (14, .iadd, 1), (15, .istore_n 2, 1), (16, .iinc 3 1, 3), (19, .goto (-15), 3), (22, .iload_n 2, 1), (23, .ireturn, 1)]
set_option maxRecDepth 100000 in
theorem hp_X4_passDays : pr_X4_passDays.all (fun x => decide (decode cX4_passDays x.1 = .ok x.2)) = true := by decide +kernel
def ze_X4_passDays : zE := [(1, (2, 7)), (2, (0, 1)), (3, (0, 5)), (4, ((-2147483648), 2147483647)), (5, ((-2147483648), 2147483647)), (6, ((-2147483648), 2147483647)), (7, ((-2147483648), 2147483647)), (8, ((-2147483648), 2147483647)), (9, (0, 10)), (10, (0, 10)), (11, (0, 4)), (12, (0, 60))]
def k_X4_passDays : zK := (13, [0, 1, 2, 3, 4, 5, 6, 7, 18, 19, 20], (ze_X4_passDays, [], [], [zr 0, zi 12 0], zw4c, []), [([(13, ((-2147483648), 2147483647)), (14, ((-2147483648), 2147483647)), (15, ((-2147483648), 2147483647)), (16, ((-2147483648), 2147483647)), (17, ((-2147483648), 2147483647)), (18, (0, 10)), (19, (0, 10))], [], [], [zi 13 0], zfs (zfs (zfs (zfs (zfs (zfs (zw4c) 0 14 (zi 14 0)) 0 15 (zi 15 0)) 0 16 (zi 16 0)) 0 17 (zi 17 0)) 8 0 (zi 18 0)) 13 0 (zi 19 0), [])])
def b0_X4_passDays : Nat × zS := (4, ([(13, (0, 60)), (14, ((-2147483648), 2147483647)), (15, ((-2147483648), 2147483647)), (16, ((-2147483648), 2147483647)), (17, ((-2147483648), 2147483647)), (18, ((-2147483648), 2147483647)), (19, (0, 10)), (20, (0, 10))] ++ ze_X4_passDays, [(13, 12, 0)], [(3, zi 13 0), (2, zi 14 0), (0, zr 0), (1, zi 12 0)], [], zfs (zfs (zfs (zfs (zfs (zfs (zw4c) 0 14 (zi 15 0)) 0 15 (zi 16 0)) 0 16 (zi 17 0)) 0 17 (zi 18 0)) 8 0 (zi 19 0)) 13 0 (zi 20 0), [(false, (0, 99996)), (true, (13, 60)), (false, (0, 200000)), (false, (0, 0))]))
def bl_X4_passDays : List (Nat × zS) := [b0_X4_passDays]
def tb_X4_passDays : zTb := ([], [], [], [(101, k_X4_passDay)], [], [])
def sp_X4_passDays : zSp := []
set_option maxRecDepth 1000000 in
theorem ck0_X4_passDays : zrun tb_X4_passDays sp_X4_passDays pr_X4_passDays 4 1 k_X4_passDays.1 k_X4_passDays.2.1 k_X4_passDays.2.2.2 bl_X4_passDays false 2000 5013 (zst0 k_X4_passDays) 0 = true := by decide +kernel
set_option maxRecDepth 1000000 in
theorem ck1_X4_passDays : zrun tb_X4_passDays sp_X4_passDays pr_X4_passDays 4 1 k_X4_passDays.1 k_X4_passDays.2.1 k_X4_passDays.2.2.2 bl_X4_passDays true 2000 5013 b0_X4_passDays.2 b0_X4_passDays.1 = true := by decide +kernel
set_option maxRecDepth 1000000 in
theorem ck_X4_passDays : zcheck tb_X4_passDays sp_X4_passDays pr_X4_passDays 4 1 k_X4_passDays bl_X4_passDays 2000 5013 = true := zcheck_of (by decide +kernel) ck0_X4_passDays (List.forall_mem_cons.mpr ⟨ck1_X4_passDays, fun _ h => absurd h List.not_mem_nil⟩)
set_option maxRecDepth 100000 in
set_option maxHeartbeats 4000000 in
theorem c_X4_passDays {X : zXT} (hX : zXok X) (hN : zXn X) (l : Launch) : zMet X vwCl l yX4_passDays wsX4_passDays { frames := 5, cells := 0, slots := 0, locals := 158 } k_X4_passDays :=
  zmeth (tb := tb_X4_passDays) (pr := pr_X4_passDays) (bl := bl_X4_passDays) (rt := 1) (own := RX4) hX (by decide +kernel) rfl rfl ⟨Nat.le_of_ble_eq_true rfl, Nat.le_of_ble_eq_true rfl⟩
    (zfl_all (fun _ h => absurd h List.not_mem_nil))
    (zco_all (fun _ h => absurd h List.not_mem_nil)) (zlc_all (fun _ h => absurd h List.not_mem_nil))
    (List.forall_mem_cons.mpr ⟨fun p e s m args below meth c A S hx => zcal_V hX S (c_X4_passDay hX hN l) (cwV 0 S.2.2.2.2 gX4_passDays_X4_passDay rfl rfl rfl (by decide +kernel) ⟨Nat.le_of_ble_eq_true rfl, Nat.le_of_ble_eq_true rfl⟩) rfl ⟨0, 4, _, _, _, rfl, rfl⟩ rfl, fun _ h => absurd h List.not_mem_nil⟩)
    (fun _ h => absurd h List.not_mem_nil)
    (zmm_all (fun _ h => absurd h List.not_mem_nil)) (zpr_all hp_X4_passDays) ck_X4_passDays
def pr_X4_shiftSet : List (Nat × Instr × Nat) := [(0, .iconst 1, 1), (1, .aload_n 0, 1), (2, .getfield 9, 3), (5, .ishl, 1), (6, .iconst 1, 1), (7, .isub, 1), (8, .istore_n 3, 1), (9, .aload_n 0, 1), (10, .getfield 61, 3), (13, .ifCond .eq 40, 3), (16, .aload_n 0, 1), (17, .getfield 9, 3), (20, .ifCond .le 33, 3), (23, .iload_n 2, 1), (24, .aload_n 0, 1), (25, .getfield 9, 3), (28, .iadd, 1), (29, .aload_n 0, 1), (30, .getfield 9, 3), (33, .irem, 1), (34, .istore 4, 2), (36, .iload_n 1, 1), (37, .iload 4, 2), (39, .ishl, 1), (40, .iload_n 1, 1), (41, .aload_n 0, 1), (42, .getfield 9, 3), (45, .iload 4, 2), (47, .isub, 1), (48, .ishr, 1), (49, .ior, 1), (50, .iload_n 3, 1), (51, .iand, 1), (52, .ireturn, 1), (53, .iload_n 2, 1), (54, .ifCond .ge 10, 3), (57, .iload_n 1, 1), (58, .iload_n 2, 1), (59, .ineg, 1), (60, .ishr, 1), (61, .goto 6, 3), (64, .iload_n 1, 1), (65, .iload_n 2, 1), (66, .ishl, 1), (67, .iload_n 3, 1), (68, .iand, 1), (69, .ireturn, 1)]
set_option maxRecDepth 100000 in
theorem hp_X4_shiftSet : pr_X4_shiftSet.all (fun x => decide (decode cX4_shiftSet x.1 = .ok x.2)) = true := by decide +kernel
def ze_X4_shiftSet : zE := [(1, (2, 7)), (2, (0, 1)), (3, (0, 5)), (4, ((-2147483648), 2147483647)), (5, ((-2147483648), 2147483647)), (6, ((-2147483648), 2147483647)), (7, ((-2147483648), 2147483647)), (8, ((-2147483648), 2147483647)), (9, (0, 10)), (10, (0, 10)), (11, (0, 4)), (12, ((-2147483648), 2147483647)), (13, ((-1), 2))]
def k_X4_shiftSet : zK := (14, [0, 1, 2, 3, 4, 5, 6, 7, 8, 9, 10, 11, 12, 13, 14, 15, 16, 17, 18, 19, 20], (ze_X4_shiftSet, [], [], [zr 0, zi 12 0, zi 13 0], zw4c, []), [([(14, (0, 127))], [], [], [zi 14 0], zw4c, [])])
def bl_X4_shiftSet : List (Nat × zS) := []
def tb_X4_shiftSet : zTb := ([(9, 4, 0, 0), (61, 4, 1, 1)], [], [], [], [], [])
def sp_X4_shiftSet : zSp := []
set_option maxRecDepth 1000000 in
theorem ck0_X4_shiftSet : zrun tb_X4_shiftSet sp_X4_shiftSet pr_X4_shiftSet 5 1 k_X4_shiftSet.1 k_X4_shiftSet.2.1 k_X4_shiftSet.2.2.2 bl_X4_shiftSet false 2000 5014 (zst0 k_X4_shiftSet) 0 = true := by decide +kernel
set_option maxRecDepth 1000000 in
theorem ck_X4_shiftSet : zcheck tb_X4_shiftSet sp_X4_shiftSet pr_X4_shiftSet 5 1 k_X4_shiftSet bl_X4_shiftSet 2000 5014 = true := zcheck_of (by decide +kernel) ck0_X4_shiftSet (fun _ h => absurd h List.not_mem_nil)
set_option maxRecDepth 100000 in
set_option maxHeartbeats 4000000 in
theorem c_X4_shiftSet {X : zXT} (hX : zXok X) (hN : zXn X) (l : Launch) : zMet X vwCl l yX4_shiftSet wsX4_shiftSet { frames := 1, cells := 0, slots := 0, locals := 64 } k_X4_shiftSet :=
  zmeth (tb := tb_X4_shiftSet) (pr := pr_X4_shiftSet) (bl := bl_X4_shiftSet) (rt := 1) (own := RX4) hX (by decide +kernel) rfl rfl ⟨Nat.le_of_ble_eq_true rfl, Nat.le_of_ble_eq_true rfl⟩
    (zfl_all (List.forall_mem_cons.mpr ⟨zfl_X4 (fun w h => List.mem_cons_of_mem _ (List.mem_append_right _ h)) (List.mem_of_getElem? (i := 1) rfl) (by decide) (by decide), List.forall_mem_cons.mpr ⟨zfl_X4 (fun w h => List.mem_cons_of_mem _ (List.mem_append_right _ h)) (List.mem_of_getElem? (i := 2) rfl) (by decide) (by decide), fun _ h => absurd h List.not_mem_nil⟩⟩))
    (zco_all (fun _ h => absurd h List.not_mem_nil)) (zlc_all (fun _ h => absurd h List.not_mem_nil))
    (fun _ h => absurd h List.not_mem_nil)
    (fun _ h => absurd h List.not_mem_nil)
    (zmm_all (fun _ h => absurd h List.not_mem_nil)) (zpr_all hp_X4_shiftSet) ck_X4_shiftSet
def pr_X4_fallSet : List (Nat × Instr × Nat) := [(0, .iconst 0, 1), (1, .istore 4, 2), (3, .iconst 0, 1), (4, .istore 5, 2), (6, .iload 5, 2), (8, .iload_n 2, 1), (9, .invokestatic 108, 3), (12, .if_icmp .ge 25, 3), (15, .iload 4, 2), (17, .aload_n 0, 1), (18, .iload_n 1, 1), (19, .iload_n 2, 1), (20, .iload 5, 2), (22, .invokestatic 115, 3), (25, .invokevirtual 153, 3), (28, .ior, 1), (29, .istore 4, 2), (31, .iinc 5 1, 3), (34, .goto (-28), 3), (37, .iload 4, 2), (39, .iload_n 3, 1), (40, .iconst (-1), 1), (41, .ixor, 1), (42, .iand, 1), (43, .ireturn, 1)]
set_option maxRecDepth 100000 in
theorem hp_X4_fallSet : pr_X4_fallSet.all (fun x => decide (decode cX4_fallSet x.1 = .ok x.2)) = true := by decide +kernel
def ze_X4_fallSet : zE := [(1, (2, 7)), (2, (0, 1)), (3, (0, 5)), (4, ((-2147483648), 2147483647)), (5, ((-2147483648), 2147483647)), (6, ((-2147483648), 2147483647)), (7, ((-2147483648), 2147483647)), (8, ((-2147483648), 2147483647)), (9, (0, 10)), (10, (0, 10)), (11, (0, 4)), (12, ((-2147483648), 2147483647)), (13, ((-2147483648), 2147483647)), (14, ((-2147483648), 2147483647))]
def k_X4_fallSet : zK := (15, [0, 1, 2, 3, 4, 5, 6, 7, 8, 9, 10, 11, 12, 13, 14, 15, 16, 17, 18, 19, 20], (ze_X4_fallSet, [], [], [zr 0, zi 12 0, zi 13 0, zi 14 0], zw4c, []), [([(15, (0, 127))], [], [], [zi 15 0], zw4c, [])])
def b0_X4_fallSet : Nat × zS := (6, ([(15, (0, 2)), (16, (0, 127))] ++ ze_X4_fallSet, [(16, 15, 126)], [(5, zi 15 0), (4, zi 16 0), (0, zr 0), (1, zi 12 0), (2, zi 13 0), (3, zi 14 0)], [], zw4c, [(false, (0, 99994)), (true, (15, 2)), (false, (0, 200000)), (false, (0, 0))]))
def bl_X4_fallSet : List (Nat × zS) := [b0_X4_fallSet]
def tb_X4_fallSet : zTb := ([], [], [], [(153, k_X4_shiftSet)], [(108, k_X4_fallsOf), (115, k_X4_stepOf)], [])
def sp_X4_fallSet : zSp := []
set_option maxRecDepth 1000000 in
theorem ck0_X4_fallSet : zrun tb_X4_fallSet sp_X4_fallSet pr_X4_fallSet 6 1 k_X4_fallSet.1 k_X4_fallSet.2.1 k_X4_fallSet.2.2.2 bl_X4_fallSet false 2000 5015 (zst0 k_X4_fallSet) 0 = true := by decide +kernel
set_option maxRecDepth 1000000 in
theorem ck1_X4_fallSet : zrun tb_X4_fallSet sp_X4_fallSet pr_X4_fallSet 6 1 k_X4_fallSet.1 k_X4_fallSet.2.1 k_X4_fallSet.2.2.2 bl_X4_fallSet true 2000 5015 b0_X4_fallSet.2 b0_X4_fallSet.1 = true := by decide +kernel
set_option maxRecDepth 1000000 in
theorem ck_X4_fallSet : zcheck tb_X4_fallSet sp_X4_fallSet pr_X4_fallSet 6 1 k_X4_fallSet bl_X4_fallSet 2000 5015 = true := zcheck_of (by decide +kernel) ck0_X4_fallSet (List.forall_mem_cons.mpr ⟨ck1_X4_fallSet, fun _ h => absurd h List.not_mem_nil⟩)
set_option maxRecDepth 100000 in
set_option maxHeartbeats 4000000 in
theorem c_X4_fallSet {X : zXT} (hX : zXok X) (hN : zXn X) (l : Launch) : zMet X vwCl l yX4_fallSet wsX4_fallSet { frames := 2, cells := 0, slots := 0, locals := 88 } k_X4_fallSet :=
  zmeth (tb := tb_X4_fallSet) (pr := pr_X4_fallSet) (bl := bl_X4_fallSet) (rt := 1) (own := RX4) hX (by decide +kernel) rfl rfl ⟨Nat.le_of_ble_eq_true rfl, Nat.le_of_ble_eq_true rfl⟩
    (zfl_all (fun _ h => absurd h List.not_mem_nil))
    (zco_all (fun _ h => absurd h List.not_mem_nil)) (zlc_all (fun _ h => absurd h List.not_mem_nil))
    (List.forall_mem_cons.mpr ⟨fun p e s m args below meth c A S hx => zcal_V hX S (c_X4_shiftSet hX hN l) (cwV 2 S.2.2.2.2 gX4_fallSet_X4_shiftSet rfl rfl rfl (by decide +kernel) ⟨Nat.le_of_ble_eq_true rfl, Nat.le_of_ble_eq_true rfl⟩) rfl ⟨0, 4, _, _, _, rfl, rfl⟩ rfl, fun _ h => absurd h List.not_mem_nil⟩)
    (List.forall_mem_cons.mpr ⟨fun p e s m args below meth c A S hx => zcal_S hX S (c_X4_fallsOf hX hN l) (va_cwS 1 S.2.2.2.2 gX4_fallSet_X4_fallsOf rfl rfl rfl (by decide +kernel) ⟨Nat.le_of_ble_eq_true rfl, Nat.le_of_ble_eq_true rfl⟩) rfl, List.forall_mem_cons.mpr ⟨fun p e s m args below meth c A S hx => zcal_S hX S (c_X4_stepOf hX hN l) (va_cwS 2 S.2.2.2.2 gX4_fallSet_X4_stepOf rfl rfl rfl (by decide +kernel) ⟨Nat.le_of_ble_eq_true rfl, Nat.le_of_ble_eq_true rfl⟩) rfl, fun _ h => absurd h List.not_mem_nil⟩⟩)
    (zmm_all (fun _ h => absurd h List.not_mem_nil)) (zpr_all hp_X4_fallSet) ck_X4_fallSet
def pr_X4_broughtBy : List (Nat × Instr × Nat) := [(0, .iload_n 1, 1), (1, .bipush 20, 2), (3, .idiv, 1), (4, .iconst 5, 1), (5, .irem, 1), (6, .istore_n 2, 1), (7, .iload_n 2, 1), (8, .iconst 4, 1), (9, .if_icmp .ne 5, 3), (12, .iconst 0, 1), (13, .ireturn, 1), (14, .iconst 1, 1), (15, .iload_n 1, 1), (16, .bipush 100, 2), (18, .idiv, 1), (19, .ishl, 1), (20, .istore_n 3, 1), (21, .iload_n 1, 1), (22, .iconst 5, 1), (23, .idiv, 1), (24, .iconst 4, 1), (25, .irem, 1), (26, .istore 4, 2), (28, .iload 4, 2), (30, .ifCond .lt 20, 3), (33, .aload_n 0, 1), (34, .iload_n 3, 1), (35, .iload_n 2, 1), (36, .aload_n 0, 1), (37, .getfield 65, 3), (40, .invokevirtual 156, 3), (43, .istore_n 3, 1), (44, .iinc 4 (-1), 3), (47, .goto (-19), 3), (50, .iconst 0, 1), (51, .istore 4, 2), (53, .iload 4, 2), (55, .aload_n 0, 1), (56, .getfield 9, 3), (59, .if_icmp .ge 33, 3), (62, .aload_n 0, 1), (63, .getfield 22, 3), (66, .iload 4, 2), (68, .iaload, 1), (69, .iload_n 1, 1), (70, .iconst 5, 1), (71, .irem, 1), (72, .invokestatic 126, 3), (75, .ifCond .ne 11, 3), (78, .iload_n 3, 1), (79, .iload 4, 2), (81, .iconst 0, 1), (82, .invokestatic 160, 3), (85, .istore_n 3, 1), (86, .iinc 4 1, 3), (89, .goto (-36), 3), (92, .iload_n 3, 1), (93, .ireturn, 1)]
set_option maxRecDepth 100000 in
theorem hp_X4_broughtBy : pr_X4_broughtBy.all (fun x => decide (decode cX4_broughtBy x.1 = .ok x.2)) = true := by decide +kernel
def ze_X4_broughtBy : zE := [(1, (2, 7)), (2, (0, 1)), (3, (0, 5)), (4, ((-2147483648), 2147483647)), (5, ((-2147483648), 2147483647)), (6, ((-2147483648), 2147483647)), (7, ((-2147483648), 2147483647)), (8, ((-2147483648), 2147483647)), (9, (0, 10)), (10, (0, 10)), (11, (0, 4)), (12, (0, 699))]
def k_X4_broughtBy : zK := (13, [0, 1, 2, 3, 4, 5, 6, 7, 8, 9, 10, 11, 12, 13, 14, 15, 16, 17, 18, 19, 20], (ze_X4_broughtBy, [], [], [zr 0, zi 12 0], zw4c, []), [([(13, ((-2147483648), 2147483647))], [], [], [zi 13 0], zw4c, [])])
def b0_X4_broughtBy : Nat × zS := (28, ([(13, ((-1), 3)), (14, (0, 127)), (15, (0, 3))] ++ ze_X4_broughtBy, [(13, 14, 2)], [(4, zi 13 0), (3, zi 14 0), (2, zi 15 0), (0, zr 0), (1, zi 12 0)], [], zw4c, [(false, (0, 99972)), (false, (13, 1)), (false, (0, 200000)), (false, (0, 0))]))
def b1_X4_broughtBy : Nat × zS := (53, ([(13, (0, 7)), (14, ((-2147483648), 2147483647))] ++ ze_X4_broughtBy, [], [(4, zi 13 0), (3, zi 14 0), (0, zr 0), (1, zi 12 0)], [], zw4c, [(false, (0, 99947)), (true, (13, 7)), (false, (0, 200000)), (false, (0, 0))]))
def bl_X4_broughtBy : List (Nat × zS) := [b0_X4_broughtBy, b1_X4_broughtBy]
def tb_X4_broughtBy : zTb := ([(9, 4, 0, 0), (22, 4, 5, 3), (65, 4, 6, 0)], [], [], [(156, k_X4_fallSet)], [(126, k_X7_bit), (160, k_X7_withBit_2)], [])
def sp_X4_broughtBy : zSp := []
set_option maxRecDepth 1000000 in
theorem ck0_X4_broughtBy : zrun tb_X4_broughtBy sp_X4_broughtBy pr_X4_broughtBy 5 1 k_X4_broughtBy.1 k_X4_broughtBy.2.1 k_X4_broughtBy.2.2.2 bl_X4_broughtBy false 2000 5013 (zst0 k_X4_broughtBy) 0 = true := by decide +kernel
set_option maxRecDepth 1000000 in
theorem ck1_X4_broughtBy : zrun tb_X4_broughtBy sp_X4_broughtBy pr_X4_broughtBy 5 1 k_X4_broughtBy.1 k_X4_broughtBy.2.1 k_X4_broughtBy.2.2.2 bl_X4_broughtBy true 2000 5013 b0_X4_broughtBy.2 b0_X4_broughtBy.1 = true := by decide +kernel
set_option maxRecDepth 1000000 in
theorem ck2_X4_broughtBy : zrun tb_X4_broughtBy sp_X4_broughtBy pr_X4_broughtBy 5 1 k_X4_broughtBy.1 k_X4_broughtBy.2.1 k_X4_broughtBy.2.2.2 bl_X4_broughtBy true 2000 5013 b1_X4_broughtBy.2 b1_X4_broughtBy.1 = true := by decide +kernel
set_option maxRecDepth 1000000 in
theorem ck_X4_broughtBy : zcheck tb_X4_broughtBy sp_X4_broughtBy pr_X4_broughtBy 5 1 k_X4_broughtBy bl_X4_broughtBy 2000 5013 = true := zcheck_of (by decide +kernel) ck0_X4_broughtBy (List.forall_mem_cons.mpr ⟨ck1_X4_broughtBy, List.forall_mem_cons.mpr ⟨ck2_X4_broughtBy, fun _ h => absurd h List.not_mem_nil⟩⟩)
set_option maxRecDepth 100000 in
set_option maxHeartbeats 4000000 in
theorem c_X4_broughtBy {X : zXT} (hX : zXok X) (hN : zXn X) (l : Launch) : zMet X vwCl l yX4_broughtBy wsX4_broughtBy { frames := 3, cells := 0, slots := 0, locals := 113 } k_X4_broughtBy :=
  zmeth (tb := tb_X4_broughtBy) (pr := pr_X4_broughtBy) (bl := bl_X4_broughtBy) (rt := 1) (own := RX4) hX (by decide +kernel) rfl rfl ⟨Nat.le_of_ble_eq_true rfl, Nat.le_of_ble_eq_true rfl⟩
    (zfl_all (List.forall_mem_cons.mpr ⟨zfl_X4 (fun w h => List.mem_cons_of_mem _ (List.mem_append_right _ h)) (List.mem_of_getElem? (i := 2) rfl) (by decide) (by decide), List.forall_mem_cons.mpr ⟨zfl_X4 (fun w h => List.mem_cons_of_mem _ (List.mem_append_right _ h)) (List.mem_of_getElem? (i := 3) rfl) (by decide) (by decide), List.forall_mem_cons.mpr ⟨zfl_X4 (fun w h => List.mem_cons_of_mem _ (List.mem_append_right _ h)) (List.mem_of_getElem? (i := 1) rfl) (by decide) (by decide), fun _ h => absurd h List.not_mem_nil⟩⟩⟩))
    (zco_all (fun _ h => absurd h List.not_mem_nil)) (zlc_all (fun _ h => absurd h List.not_mem_nil))
    (List.forall_mem_cons.mpr ⟨fun p e s m args below meth c A S hx => zcal_V hX S (c_X4_fallSet hX hN l) (cwV 3 S.2.2.2.2 gX4_broughtBy_X4_fallSet rfl rfl rfl (by decide +kernel) ⟨Nat.le_of_ble_eq_true rfl, Nat.le_of_ble_eq_true rfl⟩) rfl ⟨0, 4, _, _, _, rfl, rfl⟩ rfl, fun _ h => absurd h List.not_mem_nil⟩)
    (List.forall_mem_cons.mpr ⟨fun p e s m args below meth c A S hx => zcal_SN hX S (c_X7_bit hX hN l) ⟨va_cnB 2 S.2.2.2.2 ggX4_broughtBy_X7_bit rfl rfl rfl (hN A s s.heap hx RX4 126 yX7_bit RX7 (by decide +kernel)) (S.2.2.2.2 _ (List.mem_of_getElem? (i := 21) rfl)) (by decide +kernel) ⟨Nat.le_of_ble_eq_true rfl, Nat.le_of_ble_eq_true rfl⟩, S.2.2.2.2 _ (List.mem_of_getElem? (i := 20) rfl), trivial⟩ rfl, List.forall_mem_cons.mpr ⟨fun p e s m args below meth c A S hx => zcal_SN hX S (c_X7_withBit_2 hX hN l) ⟨va_cnB 3 S.2.2.2.2 ggX4_broughtBy_X7_withBit rfl rfl rfl (hN A s s.heap hx RX4 160 yX7_withBit RX7 (by decide +kernel)) (S.2.2.2.2 _ (List.mem_of_getElem? (i := 21) rfl)) (by decide +kernel) ⟨Nat.le_of_ble_eq_true rfl, Nat.le_of_ble_eq_true rfl⟩, S.2.2.2.2 _ (List.mem_of_getElem? (i := 23) rfl), trivial⟩ rfl, fun _ h => absurd h List.not_mem_nil⟩⟩)
    (zmm_all (fun _ h => absurd h List.not_mem_nil)) (zpr_all hp_X4_broughtBy) ck_X4_broughtBy
def pr_X4_isEndless : List (Nat × Instr × Nat) := [(0, .aload_n 0, 1), (1, .getfield 40, 3), (4, .getfield 129, 3), (7, .iload_n 1, 1), (8, .iaload, 1), (9, .bipush 9, 2), (11, .if_icmp .eq 5, 3), (14, .iconst 0, 1), (15, .ireturn, 1), (16, .iconst 1, 1), (17, .aload_n 0, 1), (18, .getfield 40, 3), (21, .getfield 112, 3), (24, .iload_n 1, 1), (25, .iaload, 1), (26, .ishl, 1), (27, .istore_n 3, 1), (28, .iconst 0, 1), (29, .istore 4, 2), (31, .iload 4, 2), (33, .bipush 7, 2), (35, .if_icmp .ge 25, 3), (38, .aload_n 0, 1), (39, .iload_n 3, 1), (40, .aload_n 0, 1), (41, .getfield 40, 3), (44, .getfield 105, 3), (47, .iload_n 1, 1), (48, .iaload, 1), (49, .iload_n 2, 1), (50, .invokevirtual 156, 3), (53, .istore_n 3, 1), (54, .iinc 4 1, 3), (57, .goto (-26), 3), (60, .iload_n 3, 1), (61, .ifCond .eq 7, 3), (64, .iconst 1, 1), (65, .goto 4, 3), (68, .iconst 0, 1), (69, .ireturn, 1)]
set_option maxRecDepth 100000 in
theorem hp_X4_isEndless : pr_X4_isEndless.all (fun x => decide (decode cX4_isEndless x.1 = .ok x.2)) = true := by decide +kernel
def ze_X4_isEndless : zE := [(1, (2, 7)), (2, (0, 1)), (3, (0, 5)), (4, ((-2147483648), 2147483647)), (5, ((-2147483648), 2147483647)), (6, ((-2147483648), 2147483647)), (7, ((-2147483648), 2147483647)), (8, ((-2147483648), 2147483647)), (9, (0, 10)), (10, (0, 10)), (11, (0, 4)), (12, (0, 9)), (13, ((-2147483648), 2147483647))]
def k_X4_isEndless : zK := (14, [0, 1, 2, 3, 4, 5, 6, 7, 8, 9, 10, 11, 12, 13, 14, 15, 16, 17, 18, 19, 20], (ze_X4_isEndless, [], [], [zr 0, zi 12 0, zi 13 0], zw4c, []), [([], [], [], [zi 0 0], zw4c, []),
  ([], [], [], [zi 0 1], zw4c, [])])
def b0_X4_isEndless : Nat × zS := (31, ([(14, (0, 7)), (15, (0, 127))] ++ ze_X4_isEndless, [(15, 14, 126)], [(4, zi 14 0), (3, zi 15 0), (0, zr 0), (1, zi 12 0), (2, zi 13 0)], [], zw4c, [(false, (0, 99969)), (true, (14, 7)), (false, (0, 200000)), (false, (0, 0))]))
def bl_X4_isEndless : List (Nat × zS) := [b0_X4_isEndless]
def tb_X4_isEndless : zTb := ([(40, 4, 11, 2), (105, 5, 2, 3), (112, 5, 1, 3), (129, 5, 3, 3)], [], [], [(156, k_X4_fallSet)], [], [])
def sp_X4_isEndless : zSp := []
set_option maxRecDepth 1000000 in
theorem ck0_X4_isEndless : zrun tb_X4_isEndless sp_X4_isEndless pr_X4_isEndless 5 2 k_X4_isEndless.1 k_X4_isEndless.2.1 k_X4_isEndless.2.2.2 bl_X4_isEndless false 2000 5014 (zst0 k_X4_isEndless) 0 = true := by decide +kernel
set_option maxRecDepth 1000000 in
theorem ck1_X4_isEndless : zrun tb_X4_isEndless sp_X4_isEndless pr_X4_isEndless 5 2 k_X4_isEndless.1 k_X4_isEndless.2.1 k_X4_isEndless.2.2.2 bl_X4_isEndless true 2000 5014 b0_X4_isEndless.2 b0_X4_isEndless.1 = true := by decide +kernel
set_option maxRecDepth 1000000 in
theorem ck_X4_isEndless : zcheck tb_X4_isEndless sp_X4_isEndless pr_X4_isEndless 5 2 k_X4_isEndless bl_X4_isEndless 2000 5014 = true := zcheck_of (by decide +kernel) ck0_X4_isEndless (List.forall_mem_cons.mpr ⟨ck1_X4_isEndless, fun _ h => absurd h List.not_mem_nil⟩)
set_option maxRecDepth 100000 in
set_option maxHeartbeats 4000000 in
theorem c_X4_isEndless {X : zXT} (hX : zXok X) (hN : zXn X) (l : Launch) : zMet X vwCl l yX4_isEndless wsX4_isEndless { frames := 3, cells := 0, slots := 0, locals := 113 } k_X4_isEndless :=
  zmeth (tb := tb_X4_isEndless) (pr := pr_X4_isEndless) (bl := bl_X4_isEndless) (rt := 2) (own := RX4) hX (by decide +kernel) rfl rfl ⟨Nat.le_of_ble_eq_true rfl, Nat.le_of_ble_eq_true rfl⟩
    (zfl_all (List.forall_mem_cons.mpr ⟨zfl_X4 (fun w h => List.mem_cons_of_mem _ (List.mem_append_left _ (List.mem_append_right _ h))) (List.mem_of_getElem? (i := 1) rfl) (by decide) (by decide), List.forall_mem_cons.mpr ⟨zfl_X5 (fun w h => List.mem_cons_of_mem _ (List.mem_append_right _ h)) (List.mem_of_getElem? (i := 4) rfl) (by decide) (by decide), List.forall_mem_cons.mpr ⟨zfl_X5 (fun w h => List.mem_cons_of_mem _ (List.mem_append_right _ h)) (List.mem_of_getElem? (i := 3) rfl) (by decide) (by decide), List.forall_mem_cons.mpr ⟨zfl_X5 (fun w h => List.mem_cons_of_mem _ (List.mem_append_right _ h)) (List.mem_of_getElem? (i := 2) rfl) (by decide) (by decide), fun _ h => absurd h List.not_mem_nil⟩⟩⟩⟩))
    (zco_all (fun _ h => absurd h List.not_mem_nil)) (zlc_all (fun _ h => absurd h List.not_mem_nil))
    (List.forall_mem_cons.mpr ⟨fun p e s m args below meth c A S hx => zcal_V hX S (c_X4_fallSet hX hN l) (cwV 3 S.2.2.2.2 gX4_isEndless_X4_fallSet rfl rfl rfl (by decide +kernel) ⟨Nat.le_of_ble_eq_true rfl, Nat.le_of_ble_eq_true rfl⟩) rfl ⟨0, 4, _, _, _, rfl, rfl⟩ rfl, fun _ h => absurd h List.not_mem_nil⟩)
    (fun _ h => absurd h List.not_mem_nil)
    (zmm_all (fun _ h => absurd h List.not_mem_nil)) (zpr_all hp_X4_isEndless) ck_X4_isEndless
def pr_X4_hasEndless : List (Nat × Instr × Nat) := [(0, .iconst 0, 1), (1, .istore_n 2, 1), (2, .iload_n 2, 1), (3, .aload_n 0, 1), (4, .getfield 40, 3), (7, .getfield 72, 3), (10, .if_icmp .ge 20, 3), (13, .aload_n 0, 1), (14, .iload_n 2, 1), (15, .iload_n 1, 1), (16, .invokevirtual 164, 3), (19, .ifCond .eq 5, 3), (22, .iconst 1, 1), (23, .ireturn, 1), (24, .iinc 2 1, 3), (27, .goto (-25), 3), (30, .iconst 0, 1), (31, .ireturn, 1)]
set_option maxRecDepth 100000 in
theorem hp_X4_hasEndless : pr_X4_hasEndless.all (fun x => decide (decode cX4_hasEndless x.1 = .ok x.2)) = true := by decide +kernel
def ze_X4_hasEndless : zE := [(1, (2, 7)), (2, (0, 1)), (3, (0, 5)), (4, ((-2147483648), 2147483647)), (5, ((-2147483648), 2147483647)), (6, ((-2147483648), 2147483647)), (7, ((-2147483648), 2147483647)), (8, ((-2147483648), 2147483647)), (9, (0, 10)), (10, (0, 10)), (11, (0, 4)), (12, ((-2147483648), 2147483647))]
def k_X4_hasEndless : zK := (13, [0, 1, 2, 3, 4, 5, 6, 7, 8, 9, 10, 11, 12, 13, 14, 15, 16, 17, 18, 19, 20], (ze_X4_hasEndless, [], [], [zr 0, zi 12 0], zw4c, []), [([], [], [], [zi 0 0], zw4c, []),
  ([(9, (1, 10))], [], [], [zi 0 1], zw4c, [])])
def b0_X4_hasEndless : Nat × zS := (2, ([(13, (0, 10))] ++ ze_X4_hasEndless, [(13, 9, 0)], [(2, zi 13 0), (0, zr 0), (1, zi 12 0)], [], zw4c, [(false, (0, 99998)), (true, (13, 10)), (false, (0, 200000)), (false, (0, 0))]))
def bl_X4_hasEndless : List (Nat × zS) := [b0_X4_hasEndless]
def tb_X4_hasEndless : zTb := ([(40, 4, 11, 2), (72, 5, 0, 0)], [], [], [(164, k_X4_isEndless)], [], [])
def sp_X4_hasEndless : zSp := []
set_option maxRecDepth 1000000 in
theorem ck0_X4_hasEndless : zrun tb_X4_hasEndless sp_X4_hasEndless pr_X4_hasEndless 3 2 k_X4_hasEndless.1 k_X4_hasEndless.2.1 k_X4_hasEndless.2.2.2 bl_X4_hasEndless false 2000 5013 (zst0 k_X4_hasEndless) 0 = true := by decide +kernel
set_option maxRecDepth 1000000 in
theorem ck1_X4_hasEndless : zrun tb_X4_hasEndless sp_X4_hasEndless pr_X4_hasEndless 3 2 k_X4_hasEndless.1 k_X4_hasEndless.2.1 k_X4_hasEndless.2.2.2 bl_X4_hasEndless true 2000 5013 b0_X4_hasEndless.2 b0_X4_hasEndless.1 = true := by decide +kernel
set_option maxRecDepth 1000000 in
theorem ck_X4_hasEndless : zcheck tb_X4_hasEndless sp_X4_hasEndless pr_X4_hasEndless 3 2 k_X4_hasEndless bl_X4_hasEndless 2000 5013 = true := zcheck_of (by decide +kernel) ck0_X4_hasEndless (List.forall_mem_cons.mpr ⟨ck1_X4_hasEndless, fun _ h => absurd h List.not_mem_nil⟩)
set_option maxRecDepth 100000 in
set_option maxHeartbeats 4000000 in
theorem c_X4_hasEndless {X : zXT} (hX : zXok X) (hN : zXn X) (l : Launch) : zMet X vwCl l yX4_hasEndless wsX4_hasEndless { frames := 4, cells := 0, slots := 0, locals := 137 } k_X4_hasEndless :=
  zmeth (tb := tb_X4_hasEndless) (pr := pr_X4_hasEndless) (bl := bl_X4_hasEndless) (rt := 2) (own := RX4) hX (by decide +kernel) rfl rfl ⟨Nat.le_of_ble_eq_true rfl, Nat.le_of_ble_eq_true rfl⟩
    (zfl_all (List.forall_mem_cons.mpr ⟨zfl_X4 (fun w h => List.mem_cons_of_mem _ (List.mem_append_left _ (List.mem_append_right _ h))) (List.mem_of_getElem? (i := 1) rfl) (by decide) (by decide), List.forall_mem_cons.mpr ⟨zfl_X5 (fun w h => List.mem_cons_of_mem _ (List.mem_append_right _ h)) (List.mem_of_getElem? (i := 2) rfl) (by decide) (by decide), fun _ h => absurd h List.not_mem_nil⟩⟩))
    (zco_all (fun _ h => absurd h List.not_mem_nil)) (zlc_all (fun _ h => absurd h List.not_mem_nil))
    (List.forall_mem_cons.mpr ⟨fun p e s m args below meth c A S hx => zcal_V hX S (c_X4_isEndless hX hN l) (cwV 2 S.2.2.2.2 gX4_hasEndless_X4_isEndless rfl rfl rfl (by decide +kernel) ⟨Nat.le_of_ble_eq_true rfl, Nat.le_of_ble_eq_true rfl⟩) rfl ⟨0, 4, _, _, _, rfl, rfl⟩ rfl, fun _ h => absurd h List.not_mem_nil⟩)
    (fun _ h => absurd h List.not_mem_nil)
    (zmm_all (fun _ h => absurd h List.not_mem_nil)) (zpr_all hp_X4_hasEndless) ck_X4_hasEndless
