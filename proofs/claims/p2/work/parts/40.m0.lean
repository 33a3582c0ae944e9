def pr_X8_in : List (Nat × Instr × Nat) := [(0, .lload_n 0, 1), (1, .lload_n 2, 1), (2, .lcmp, 1), (3, .ifCond .lt 14, 3), (6, .lload_n 0, 1), (7, .lload 4, 2), (9, .lcmp, 1), (10, .ifCond .gt 7, 3), (13, .iconst 1, 1), (14, .goto 4, 3), (17, .iconst 0, 1), (18, .ireturn, 1)]
set_option maxRecDepth 100000 in
theorem hp_X8_in : pr_X8_in.all (fun x => decide (decode cX8_in x.1 = .ok x.2)) = true := by decide +kernel
def ze_X8_in : zE := [(1, ((-9223372036854775808), 9223372036854775807)), (2, ((-9223372036854775808), 9223372036854775807)), (3, ((-9223372036854775808), 9223372036854775807))]
def k_X8_in : zK := (4, [], (ze_X8_in, [], [], [zl 1 0, zl 2 0, zl 3 0], [], []), [([(1, ((-9223372036854775808), 9223372036854775806)), (2, ((-9223372036854775807), 9223372036854775807))], [(1, 2, (-1))], [], [zi 0 0], [], []),
  ([(1, ((-9223372036854775807), 9223372036854775807)), (3, ((-9223372036854775808), 9223372036854775806))], [(2, 1, 0), (3, 1, (-1))], [], [zi 0 0], [], []),
  ([], [(1, 3, 0), (2, 1, 0)], [], [zi 0 1], [], [])])
def bl_X8_in : List (Nat × zS) := []
def tb_X8_in : zTb := ([], [], [], [], [], [])
def sp_X8_in : zSp := []
set_option maxRecDepth 1000000 in
theorem ck0_X8_in : zrun tb_X8_in sp_X8_in pr_X8_in 6 2 k_X8_in.1 k_X8_in.2.1 k_X8_in.2.2.2 bl_X8_in false 2000 5004 (zst0 k_X8_in) 0 = true := by decide +kernel
set_option maxRecDepth 1000000 in
theorem ck_X8_in : zcheck tb_X8_in sp_X8_in pr_X8_in 6 2 k_X8_in bl_X8_in 2000 5004 = true := zcheck_of (by decide +kernel) ck0_X8_in (fun _ h => absurd h List.not_mem_nil)
set_option maxRecDepth 100000 in
set_option maxHeartbeats 4000000 in
theorem c_X8_in {X : zXT} (hX : zXok X) (hN : zXn X) (l : Launch) : zMet X vwCl l yX8_in wsX8_in { frames := 1, cells := 0, slots := 0, locals := 64 } k_X8_in :=
  zmeth (tb := tb_X8_in) (pr := pr_X8_in) (bl := bl_X8_in) (rt := 2) (own := RX8) hX (by decide +kernel) rfl rfl ⟨Nat.le_of_ble_eq_true rfl, Nat.le_of_ble_eq_true rfl⟩
    (zfl_all (fun _ h => absurd h List.not_mem_nil))
    (zco_all (fun _ h => absurd h List.not_mem_nil)) (zlc_all (fun _ h => absurd h List.not_mem_nil))
    (fun _ h => absurd h List.not_mem_nil)
    (fun _ h => absurd h List.not_mem_nil)
    (zmm_all (fun _ h => absurd h List.not_mem_nil)) (zpr_all hp_X8_in) ck_X8_in
def pr_X8_flag : List (Nat × Instr × Nat) := [(0, .iload_n 0, 1), (1, .ifCond .eq 7, 3), (4, .iconst 1, 1), (5, .goto 4, 3), (8, .iconst 0, 1), (9, .ireturn, 1)]
set_option maxRecDepth 100000 in
theorem hp_X8_flag : pr_X8_flag.all (fun x => decide (decode cX8_flag x.1 = .ok x.2)) = true := by decide +kernel
def ze_X8_flag : zE := [(1, (0, 1))]
def k_X8_flag : zK := (2, [], (ze_X8_flag, [], [], [zi 1 0], [], []), [([(1, (0, 0))], [], [], [zi 0 0], [], []),
  ([(1, (1, 1))], [], [], [zi 0 1], [], [])])
def bl_X8_flag : List (Nat × zS) := []
def tb_X8_flag : zTb := ([], [], [], [], [], [])
def sp_X8_flag : zSp := []
set_option maxRecDepth 1000000 in
theorem ck0_X8_flag : zrun tb_X8_flag sp_X8_flag pr_X8_flag 1 1 k_X8_flag.1 k_X8_flag.2.1 k_X8_flag.2.2.2 bl_X8_flag false 2000 5002 (zst0 k_X8_flag) 0 = true := by decide +kernel
set_option maxRecDepth 1000000 in
theorem ck_X8_flag : zcheck tb_X8_flag sp_X8_flag pr_X8_flag 1 1 k_X8_flag bl_X8_flag 2000 5002 = true := zcheck_of (by decide +kernel) ck0_X8_flag (fun _ h => absurd h List.not_mem_nil)
set_option maxRecDepth 100000 in
set_option maxHeartbeats 4000000 in
theorem c_X8_flag {X : zXT} (hX : zXok X) (hN : zXn X) (l : Launch) : zMet X vwCl l yX8_flag wsX8_flag { frames := 1, cells := 0, slots := 0, locals := 64 } k_X8_flag :=
  zmeth (tb := tb_X8_flag) (pr := pr_X8_flag) (bl := bl_X8_flag) (rt := 1) (own := RX8) hX (by decide +kernel) rfl rfl ⟨Nat.le_of_ble_eq_true rfl, Nat.le_of_ble_eq_true rfl⟩
    (zfl_all (fun _ h => absurd h List.not_mem_nil))
    (zco_all (fun _ h => absurd h List.not_mem_nil)) (zlc_all (fun _ h => absurd h List.not_mem_nil))
    (fun _ h => absurd h List.not_mem_nil)
    (fun _ h => absurd h List.not_mem_nil)
    (zmm_all (fun _ h => absurd h List.not_mem_nil)) (zpr_all hp_X8_flag) ck_X8_flag
def pr_X8_isKind : List (Nat × Instr × Nat) := [(0, .iload_n 0, 1), (1, .i2l, 1), (2, .lconst 0, 1), (3, .ldc2_w 193, 3), (6, .invokestatic 90, 3), (9, .ireturn, 1)]
set_option maxRecDepth 100000 in
theorem hp_X8_isKind : pr_X8_isKind.all (fun x => decide (decode cX8_isKind x.1 = .ok x.2)) = true := by decide +kernel
def ze_X8_isKind : zE := [(1, ((-2147483648), 2147483647))]
def k_X8_isKind : zK := (2, [], (ze_X8_isKind, [], [], [zi 1 0], [], []), [([], [], [], [zi 0 0], [], []),
  ([(1, (0, 4))], [], [], [zi 0 1], [], [])])
def bl_X8_isKind : List (Nat × zS) := []
def tb_X8_isKind : zTb := ([], [], [(193, 4)], [], [(90, k_X8_in)], [])
def sp_X8_isKind : zSp := []
set_option maxRecDepth 1000000 in
theorem ck0_X8_isKind : zrun tb_X8_isKind sp_X8_isKind pr_X8_isKind 1 2 k_X8_isKind.1 k_X8_isKind.2.1 k_X8_isKind.2.2.2 bl_X8_isKind false 2000 5002 (zst0 k_X8_isKind) 0 = true := by decide +kernel
set_option maxRecDepth 1000000 in
theorem ck_X8_isKind : zcheck tb_X8_isKind sp_X8_isKind pr_X8_isKind 1 2 k_X8_isKind bl_X8_isKind 2000 5002 = true := zcheck_of (by decide +kernel) ck0_X8_isKind (fun _ h => absurd h List.not_mem_nil)
set_option maxRecDepth 100000 in
set_option maxHeartbeats 4000000 in
theorem c_X8_isKind {X : zXT} (hX : zXok X) (hN : zXn X) (l : Launch) : zMet X vwCl l yX8_isKind wsX8_isKind { frames := 2, cells := 0, slots := 0, locals := 89 } k_X8_isKind :=
  zmeth (tb := tb_X8_isKind) (pr := pr_X8_isKind) (bl := bl_X8_isKind) (rt := 2) (own := RX8) hX (by decide +kernel) rfl rfl ⟨Nat.le_of_ble_eq_true rfl, Nat.le_of_ble_eq_true rfl⟩
    (zfl_all (fun _ h => absurd h List.not_mem_nil))
    (zco_all (fun _ h => absurd h List.not_mem_nil)) (zlc_all (List.forall_mem_cons.mpr ⟨(List.mem_of_getElem? (i := 1) rfl), fun _ h => absurd h List.not_mem_nil⟩))
    (fun _ h => absurd h List.not_mem_nil)
    (List.forall_mem_cons.mpr ⟨fun p e s m args below meth c A S hx => zcal_S hX S (c_X8_in hX hN l) (va_cwS 3 S.2.2.2.2 gX8_isKind_X8_in rfl rfl rfl (by decide +kernel) ⟨Nat.le_of_ble_eq_true rfl, Nat.le_of_ble_eq_true rfl⟩) rfl, fun _ h => absurd h List.not_mem_nil⟩)
    (zmm_all (fun _ h => absurd h List.not_mem_nil)) (zpr_all hp_X8_isKind) ck_X8_isKind
def pr_X8_isDeep : List (Nat × Instr × Nat) := [(0, .iload_n 0, 1), (1, .i2l, 1), (2, .lconst 0, 1), (3, .ldc2_w 195, 3), (6, .invokestatic 90, 3), (9, .ifCond .ne 9, 3), (12, .iload_n 0, 1), (13, .bipush 9, 2), (15, .if_icmp .ne 7, 3), (18, .iconst 1, 1), (19, .goto 4, 3), (22, .iconst 0, 1), (23, .ireturn, 1)]
set_option maxRecDepth 100000 in
theorem hp_X8_isDeep : pr_X8_isDeep.all (fun x => decide (decode cX8_isDeep x.1 = .ok x.2)) = true := by decide +kernel
def ze_X8_isDeep : zE := [(1, ((-2147483648), 2147483647))]
def k_X8_isDeep : zK := (2, [], (ze_X8_isDeep, [], [], [zi 1 0], [], []), [([], [], [], [zi 0 0], [], []),
  ([(1, (0, 9))], [], [], [zi 0 1], [], [])])
def bl_X8_isDeep : List (Nat × zS) := []
def tb_X8_isDeep : zTb := ([], [], [(195, 3)], [], [(90, k_X8_in)], [])
def sp_X8_isDeep : zSp := []
set_option maxRecDepth 1000000 in
theorem ck0_X8_isDeep : zrun tb_X8_isDeep sp_X8_isDeep pr_X8_isDeep 1 2 k_X8_isDeep.1 k_X8_isDeep.2.1 k_X8_isDeep.2.2.2 bl_X8_isDeep false 2000 5002 (zst0 k_X8_isDeep) 0 = true := by decide +kernel
set_option maxRecDepth 1000000 in
theorem ck_X8_isDeep : zcheck tb_X8_isDeep sp_X8_isDeep pr_X8_isDeep 1 2 k_X8_isDeep bl_X8_isDeep 2000 5002 = true := zcheck_of (by decide +kernel) ck0_X8_isDeep (fun _ h => absurd h List.not_mem_nil)
set_option maxRecDepth 100000 in
set_option maxHeartbeats 4000000 in
theorem c_X8_isDeep {X : zXT} (hX : zXok X) (hN : zXn X) (l : Launch) : zMet X vwCl l yX8_isDeep wsX8_isDeep { frames := 2, cells := 0, slots := 0, locals := 89 } k_X8_isDeep :=
  zmeth (tb := tb_X8_isDeep) (pr := pr_X8_isDeep) (bl := bl_X8_isDeep) (rt := 2) (own := RX8) hX (by decide +kernel) rfl rfl ⟨Nat.le_of_ble_eq_true rfl, Nat.le_of_ble_eq_true rfl⟩
    (zfl_all (fun _ h => absurd h List.not_mem_nil))
    (zco_all (fun _ h => absurd h List.not_mem_nil)) (zlc_all (List.forall_mem_cons.mpr ⟨(List.mem_of_getElem? (i := 1) rfl), fun _ h => absurd h List.not_mem_nil⟩))
    (fun _ h => absurd h List.not_mem_nil)
    (List.forall_mem_cons.mpr ⟨fun p e s m args below meth c A S hx => zcal_S hX S (c_X8_in hX hN l) (va_cwS 3 S.2.2.2.2 gX8_isDeep_X8_in rfl rfl rfl (by decide +kernel) ⟨Nat.le_of_ble_eq_true rfl, Nat.le_of_ble_eq_true rfl⟩) rfl, fun _ h => absurd h List.not_mem_nil⟩)
    (zmm_all (fun _ h => absurd h List.not_mem_nil)) (zpr_all hp_X8_isDeep) ck_X8_isDeep
def pr_X8_bitsOf : List (Nat × Instr × Nat) := [(0, .iconst 0, 1), (1, .istore_n 1, 1), (2, .iconst 0, 1), (3, .istore_n 2, 1), (4, .iload_n 2, 1), (5, .bipush 7, 2), (7, .if_icmp .ge 17, 3), (10, .iload_n 1, 1), (11, .iload_n 0, 1), (12, .iload_n 2, 1), (13, .ishr, 1), (14, .iconst 1, 1), (15, .iand, 1), (16, .iadd, 1), (17, .istore_n 1, 1), (18, .iinc 2 1, 3), (21, .goto (-17), 3), (24, .iload_n 1, 1), (25, .ireturn, 1)]
set_option maxRecDepth 100000 in
theorem hp_X8_bitsOf : pr_X8_bitsOf.all (fun x => decide (decode cX8_bitsOf x.1 = .ok x.2)) = true := by decide +kernel
def ze_X8_bitsOf : zE := [(1, ((-2147483648), 2147483647))]
def k_X8_bitsOf : zK := (2, [], (ze_X8_bitsOf, [], [], [zi 1 0], [], []), [([(2, ((-2147483648), 2147483647))], [], [], [zi 2 0], [], [])])
def b0_X8_bitsOf : Nat × zS := (4, ([(2, (0, 7)), (3, ((-2147483648), 2147483647))] ++ ze_X8_bitsOf, [], [(2, zi 2 0), (1, zi 3 0), (0, zi 1 0)], [], [], [(false, (0, 99996)), (true, (2, 7)), (false, (0, 200000)), (false, (0, 0))]))
def bl_X8_bitsOf : List (Nat × zS) := [b0_X8_bitsOf]
def tb_X8_bitsOf : zTb := ([], [], [], [], [], [])
def sp_X8_bitsOf : zSp := []
set_option maxRecDepth 1000000 in
theorem ck0_X8_bitsOf : zrun tb_X8_bitsOf sp_X8_bitsOf pr_X8_bitsOf 3 1 k_X8_bitsOf.1 k_X8_bitsOf.2.1 k_X8_bitsOf.2.2.2 bl_X8_bitsOf false 2000 5002 (zst0 k_X8_bitsOf) 0 = true := by decide +kernel
set_option maxRecDepth 1000000 in
theorem ck1_X8_bitsOf : zrun tb_X8_bitsOf sp_X8_bitsOf pr_X8_bitsOf 3 1 k_X8_bitsOf.1 k_X8_bitsOf.2.1 k_X8_bitsOf.2.2.2 bl_X8_bitsOf true 2000 5002 b0_X8_bitsOf.2 b0_X8_bitsOf.1 = true := by decide +kernel
set_option maxRecDepth 1000000 in
theorem ck_X8_bitsOf : zcheck tb_X8_bitsOf sp_X8_bitsOf pr_X8_bitsOf 3 1 k_X8_bitsOf bl_X8_bitsOf 2000 5002 = true := zcheck_of (by decide +kernel) ck0_X8_bitsOf (List.forall_mem_cons.mpr ⟨ck1_X8_bitsOf, fun _ h => absurd h List.not_mem_nil⟩)
set_option maxRecDepth 100000 in
set_option maxHeartbeats 4000000 in
theorem c_X8_bitsOf {X : zXT} (hX : zXok X) (hN : zXn X) (l : Launch) : zMet X vwCl l yX8_bitsOf wsX8_bitsOf { frames := 1, cells := 0, slots := 0, locals := 64 } k_X8_bitsOf :=
  zmeth (tb := tb_X8_bitsOf) (pr := pr_X8_bitsOf) (bl := bl_X8_bitsOf) (rt := 1) (own := RX8) hX (by decide +kernel) rfl rfl ⟨Nat.le_of_ble_eq_true rfl, Nat.le_of_ble_eq_true rfl⟩
    (zfl_all (fun _ h => absurd h List.not_mem_nil))
    (zco_all (fun _ h => absurd h List.not_mem_nil)) (zlc_all (fun _ h => absurd h List.not_mem_nil))
    (fun _ h => absurd h List.not_mem_nil)
    (fun _ h => absurd h List.not_mem_nil)
    (zmm_all (fun _ h => absurd h List.not_mem_nil)) (zpr_all hp_X8_bitsOf) ck_X8_bitsOf
def pr_X8_isSheet : List (Nat × Instr × Nat) := [(0, .iload_n 0, 1), (1, .i2l, 1), (2, .lconst 0, 1), (3, .ldc2_w 195, 3), (6, .invokestatic 90, 3), (9, .ifCond .eq 19, 3), (12, .iload_n 1, 1), (13, .i2l, 1), (14, .lconst 0, 1), (15, .ldc2_w 321, 3), (18, .invokestatic 90, 3), (21, .ifCond .eq 7, 3), (24, .iconst 1, 1), (25, .goto 4, 3), (28, .iconst 0, 1), (29, .ireturn, 1)]
set_option maxRecDepth 100000 in
theorem hp_X8_isSheet : pr_X8_isSheet.all (fun x => decide (decode cX8_isSheet x.1 = .ok x.2)) = true := by decide +kernel
def ze_X8_isSheet : zE := [(1, ((-2147483648), 2147483647)), (2, ((-2147483648), 2147483647))]
def k_X8_isSheet : zK := (3, [], (ze_X8_isSheet, [], [], [zi 1 0, zi 2 0], [], []), [([], [], [], [zi 0 0], [], []),
  ([(1, (0, 3)), (2, (0, 2))], [], [], [zi 0 1], [], [])])
def bl_X8_isSheet : List (Nat × zS) := []
def tb_X8_isSheet : zTb := ([], [], [(195, 3), (321, 2)], [], [(90, k_X8_in)], [])
def sp_X8_isSheet : zSp := []
set_option maxRecDepth 1000000 in
theorem ck0_X8_isSheet : zrun tb_X8_isSheet sp_X8_isSheet pr_X8_isSheet 2 2 k_X8_isSheet.1 k_X8_isSheet.2.1 k_X8_isSheet.2.2.2 bl_X8_isSheet false 2000 5003 (zst0 k_X8_isSheet) 0 = true := by decide +kernel
set_option maxRecDepth 1000000 in
theorem ck_X8_isSheet : zcheck tb_X8_isSheet sp_X8_isSheet pr_X8_isSheet 2 2 k_X8_isSheet bl_X8_isSheet 2000 5003 = true := zcheck_of (by decide +kernel) ck0_X8_isSheet (fun _ h => absurd h List.not_mem_nil)
set_option maxRecDepth 100000 in
set_option maxHeartbeats 4000000 in
theorem c_X8_isSheet {X : zXT} (hX : zXok X) (hN : zXn X) (l : Launch) : zMet X vwCl l yX8_isSheet wsX8_isSheet { frames := 2, cells := 0, slots := 0, locals := 89 } k_X8_isSheet :=
  zmeth (tb := tb_X8_isSheet) (pr := pr_X8_isSheet) (bl := bl_X8_isSheet) (rt := 2) (own := RX8) hX (by decide +kernel) rfl rfl ⟨Nat.le_of_ble_eq_true rfl, Nat.le_of_ble_eq_true rfl⟩
    (zfl_all (fun _ h => absurd h List.not_mem_nil))
    (zco_all (fun _ h => absurd h List.not_mem_nil)) (zlc_all (List.forall_mem_cons.mpr ⟨(List.mem_of_getElem? (i := 1) rfl), List.forall_mem_cons.mpr ⟨(List.mem_of_getElem? (i := 2) rfl), fun _ h => absurd h List.not_mem_nil⟩⟩))
    (fun _ h => absurd h List.not_mem_nil)
    (List.forall_mem_cons.mpr ⟨fun p e s m args below meth c A S hx => zcal_S hX S (c_X8_in hX hN l) (va_cwS 3 S.2.2.2.2 gX8_isSheet_X8_in rfl rfl rfl (by decide +kernel) ⟨Nat.le_of_ble_eq_true rfl, Nat.le_of_ble_eq_true rfl⟩) rfl, fun _ h => absurd h List.not_mem_nil⟩)
    (zmm_all (fun _ h => absurd h List.not_mem_nil)) (zpr_all hp_X8_isSheet) ck_X8_isSheet
def pr_X8_fallsOf : List (Nat × Instr × Nat) := [(0, .iload_n 0, 1), (1, .iconst 3, 1), (2, .if_icmp .ne 7, 3), (5, .iconst 2, 1), (6, .goto 4, 3), (9, .iconst 1, 1), (10, .ireturn, 1)]
set_option maxRecDepth 100000 in
theorem hp_X8_fallsOf : pr_X8_fallsOf.all (fun x => decide (decode cX8_fallsOf x.1 = .ok x.2)) = true := by decide +kernel
def ze_X8_fallsOf : zE := [(1, ((-2147483648), 2147483647))]
def k_X8_fallsOf : zK := (2, [], (ze_X8_fallsOf, [], [], [zi 1 0], [], []), [([], [], [], [zi 0 1], [], []),
  ([(1, (3, 3))], [], [], [zi 0 2], [], [])])
def bl_X8_fallsOf : List (Nat × zS) := []
def tb_X8_fallsOf : zTb := ([], [], [], [], [], [])
def sp_X8_fallsOf : zSp := []
set_option maxRecDepth 1000000 in
theorem ck0_X8_fallsOf : zrun tb_X8_fallsOf sp_X8_fallsOf pr_X8_fallsOf 1 1 k_X8_fallsOf.1 k_X8_fallsOf.2.1 k_X8_fallsOf.2.2.2 bl_X8_fallsOf false 2000 5002 (zst0 k_X8_fallsOf) 0 = true := by decide +kernel
set_option maxRecDepth 1000000 in
theorem ck_X8_fallsOf : zcheck tb_X8_fallsOf sp_X8_fallsOf pr_X8_fallsOf 1 1 k_X8_fallsOf bl_X8_fallsOf 2000 5002 = true := zcheck_of (by decide +kernel) ck0_X8_fallsOf (fun _ h => absurd h List.not_mem_nil)
set_option maxRecDepth 100000 in
set_option maxHeartbeats 4000000 in
theorem c_X8_fallsOf {X : zXT} (hX : zXok X) (hN : zXn X) (l : Launch) : zMet X vwCl l yX8_fallsOf wsX8_fallsOf { frames := 1, cells := 0, slots := 0, locals := 64 } k_X8_fallsOf :=
  zmeth (tb := tb_X8_fallsOf) (pr := pr_X8_fallsOf) (bl := bl_X8_fallsOf) (rt := 1) (own := RX8) hX (by decide +kernel) rfl rfl ⟨Nat.le_of_ble_eq_true rfl, Nat.le_of_ble_eq_true rfl⟩
    (zfl_all (fun _ h => absurd h List.not_mem_nil))
    (zco_all (fun _ h => absurd h List.not_mem_nil)) (zlc_all (fun _ h => absurd h List.not_mem_nil))
    (fun _ h => absurd h List.not_mem_nil)
    (fun _ h => absurd h List.not_mem_nil)
    (zmm_all (fun _ h => absurd h List.not_mem_nil)) (zpr_all hp_X8_fallsOf) ck_X8_fallsOf
def pr_X8_byOf : List (Nat × Instr × Nat) := [(0, .iload_n 0, 1), (1, .iconst 3, 1), (2, .if_icmp .ne 13, 3), (5, .iload_n 1, 1), (6, .ifCond .ne 7, 3), (9, .iconst (-1), 1), (10, .goto 4, 3), (13, .iconst 1, 1), (14, .ireturn, 1), (15, .iload_n 0, 1), (16, .iconst 1, 1), (17, .if_icmp .ne 7, 3), (20, .iconst (-1), 1), (21, .goto 13, 3), (24, .iload_n 0, 1), (25, .iconst 2, 1), (26, .if_icmp .ne 7, 3), (29, .iconst 2, 1), (30, .goto 4, 3), (33, .iconst 1, 1), (34, .ireturn, 1)]
set_option maxRecDepth 100000 in
theorem hp_X8_byOf : pr_X8_byOf.all (fun x => decide (decode cX8_byOf x.1 = .ok x.2)) = true := by decide +kernel
def ze_X8_byOf : zE := [(1, ((-2147483648), 2147483647)), (2, ((-2147483648), 2147483647))]
def k_X8_byOf : zK := (3, [], (ze_X8_byOf, [], [], [zi 1 0, zi 2 0], [], []), [([], [], [], [zi 0 1], [], []),
  ([(1, (2, 2))], [], [], [zi 0 2], [], []),
  ([(1, (1, 3))], [], [], [zi 0 (-1)], [], [])])
def bl_X8_byOf : List (Nat × zS) := []
def tb_X8_byOf : zTb := ([], [], [], [], [], [])
def sp_X8_byOf : zSp := []
set_option maxRecDepth 1000000 in
theorem ck0_X8_byOf : zrun tb_X8_byOf sp_X8_byOf pr_X8_byOf 2 1 k_X8_byOf.1 k_X8_byOf.2.1 k_X8_byOf.2.2.2 bl_X8_byOf false 2000 5003 (zst0 k_X8_byOf) 0 = true := by decide +kernel
set_option maxRecDepth 1000000 in
theorem ck_X8_byOf : zcheck tb_X8_byOf sp_X8_byOf pr_X8_byOf 2 1 k_X8_byOf bl_X8_byOf 2000 5003 = true := zcheck_of (by decide +kernel) ck0_X8_byOf (fun _ h => absurd h List.not_mem_nil)
set_option maxRecDepth 100000 in
set_option maxHeartbeats 4000000 in
theorem c_X8_byOf {X : zXT} (hX : zXok X) (hN : zXn X) (l : Launch) : zMet X vwCl l yX8_byOf wsX8_byOf { frames := 1, cells := 0, slots := 0, locals := 64 } k_X8_byOf :=
  zmeth (tb := tb_X8_byOf) (pr := pr_X8_byOf) (bl := bl_X8_byOf) (rt := 1) (own := RX8) hX (by decide +kernel) rfl rfl ⟨Nat.le_of_ble_eq_true rfl, Nat.le_of_ble_eq_true rfl⟩
    (zfl_all (fun _ h => absurd h List.not_mem_nil))
    (zco_all (fun _ h => absurd h List.not_mem_nil)) (zlc_all (fun _ h => absurd h List.not_mem_nil))
    (fun _ h => absurd h List.not_mem_nil)
    (fun _ h => absurd h List.not_mem_nil)
    (zmm_all (fun _ h => absurd h List.not_mem_nil)) (zpr_all hp_X8_byOf) ck_X8_byOf
def pr_X8_look : List (Nat × Instr × Nat) := [(0, .iload_n 1, 1), (1, .aload_n 0, 1), (2, .getfield 94, 3), (5, .if_icmp .ge 12, 3), (8, .aload_n 0, 1), (9, .getfield 32, 3), (12, .iload_n 1, 1), (13, .iaload, 1), (14, .goto 4, 3), (17, .iconst (-1), 1), (18, .ireturn, 1)]
set_option maxRecDepth 100000 in
theorem hp_X8_look : pr_X8_look.all (fun x => decide (decode cX8_look x.1 = .ok x.2)) = true := by decide +kernel
def zw0 : zW := [(0, .inl (8, [zr 1, zr 2, zr 3, zi 3 0, zi 4 0, zi 5 0, zr 4, zr 5, zi 6 0, zi 7 0, zi 8 0, zi 9 0, zr 6, zr 7, zi 10 0, zi 11 0, zr 8, zi 12 0, zi 13 0, zi 14 0, zi 15 0, zi 16 0, zi 17 0, zi 18 0, zr 9, zi 19 0, zi 20 0, zr 10, zr 11, zr 12, zr 13, zr 14, zi 21 0])),
  (1, .inr (.inl (0, 393, [(28, .inl ((-2147483648), 2147483647)), (7, .inl (0, 4)), (42, .inl ((-2147483648), 2147483647)), (1, .inr (22, 0)), (1, .inl (0, 6)), (2, .inl ((-2147483648), 2147483647)), (1, .inl (0, 4)), (1, .inl (0, 6)), (2, .inl ((-2147483648), 2147483647)), (1, .inl (0, 4)), (1, .inl (0, 6)), (2, .inl ((-2147483648), 2147483647)), (1, .inl (0, 4)), (1, .inl (0, 6)), (2, .inl ((-2147483648), 2147483647)), (1, .inl (0, 4)), (1, .inl (0, 6)), (2, .inl ((-2147483648), 2147483647)), (1, .inl (0, 4)), (1, .inl (0, 6)), (2, .inl ((-2147483648), 2147483647)), (1, .inl (0, 4)), (1, .inl (0, 6)), (2, .inl ((-2147483648), 2147483647)), (1, .inl (0, 4)), (1, .inl (0, 6)), (2, .inl ((-2147483648), 2147483647)), (1, .inl (0, 4)), (1, .inl (0, 6)), (2, .inl ((-2147483648), 2147483647)), (1, .inl (0, 4)), (1, .inl (0, 6)), (2, .inl ((-2147483648), 2147483647)), (1, .inl (0, 4)), (1, .inr (23, 0)), (8, .inl (0, 6)), (4, .inl ((-2147483648), 2147483647)), (28, .inl ((-2147483648), 2147483647)), (7, .inl (0, 4)), (42, .inl ((-2147483648), 2147483647)), (1, .inr (24, 0)), (1, .inl (0, 6)), (2, .inl ((-2147483648), 2147483647)), (1, .inl (0, 4)), (1, .inl (0, 6)), (2, .inl ((-2147483648), 2147483647)), (1, .inl (0, 4)), (1, .inl (0, 6)), (2, .inl ((-2147483648), 2147483647)), (1, .inl (0, 4)), (1, .inl (0, 6)), (2, .inl ((-2147483648), 2147483647)), (1, .inl (0, 4)), (1, .inl (0, 6)), (2, .inl ((-2147483648), 2147483647)), (1, .inl (0, 4)), (1, .inl (0, 6)), (2, .inl ((-2147483648), 2147483647)), (1, .inl (0, 4)), (1, .inl (0, 6)), (2, .inl ((-2147483648), 2147483647)), (1, .inl (0, 4)), (1, .inl (0, 6)), (2, .inl ((-2147483648), 2147483647)), (1, .inl (0, 4)), (1, .inl (0, 6)), (2, .inl ((-2147483648), 2147483647)), (1, .inl (0, 4)), (1, .inl (0, 6)), (2, .inl ((-2147483648), 2147483647)), (1, .inl (0, 4)), (1, .inr (25, 0)), (8, .inl (0, 6)), (4, .inl ((-2147483648), 2147483647)), (28, .inl ((-2147483648), 2147483647)), (7, .inl (0, 4)), (42, .inl ((-2147483648), 2147483647)), (1, .inr (26, 0)), (1, .inl (0, 6)), (2, .inl ((-2147483648), 2147483647)), (1, .inl (0, 4)), (1, .inl (0, 6)), (2, .inl ((-2147483648), 2147483647)), (1, .inl (0, 4)), (1, .inl (0, 6)), (2, .inl ((-2147483648), 2147483647)), (1, .inl (0, 4)), (1, .inl (0, 6)), (2, .inl ((-2147483648), 2147483647)), (1, .inl (0, 4)), (1, .inl (0, 6)), (2, .inl ((-2147483648), 2147483647)), (1, .inl (0, 4)), (1, .inl (0, 6)), (2, .inl ((-2147483648), 2147483647)), (1, .inl (0, 4)), (1, .inl (0, 6)), (2, .inl ((-2147483648), 2147483647)), (1, .inl (0, 4)), (1, .inl (0, 6)), (2, .inl ((-2147483648), 2147483647)), (1, .inl (0, 4)), (1, .inl (0, 6)), (2, .inl ((-2147483648), 2147483647)), (1, .inl (0, 4)), (1, .inl (0, 6)), (2, .inl ((-2147483648), 2147483647)), (1, .inl (0, 4)), (1, .inr (27, 0)), (8, .inl (0, 6)), (4, .inl ((-2147483648), 2147483647))], []))),
  (2, .inr (.inl (0, 131, [(28, .inl ((-2147483648), 2147483647)), (7, .inl (0, 4)), (42, .inl ((-2147483648), 2147483647)), (1, .inr (28, 0)), (1, .inl (0, 6)), (2, .inl ((-2147483648), 2147483647)), (1, .inl (0, 4)), (1, .inl (0, 6)), (2, .inl ((-2147483648), 2147483647)), (1, .inl (0, 4)), (1, .inl (0, 6)), (2, .inl ((-2147483648), 2147483647)), (1, .inl (0, 4)), (1, .inl (0, 6)), (2, .inl ((-2147483648), 2147483647)), (1, .inl (0, 4)), (1, .inl (0, 6)), (2, .inl ((-2147483648), 2147483647)), (1, .inl (0, 4)), (1, .inl (0, 6)), (2, .inl ((-2147483648), 2147483647)), (1, .inl (0, 4)), (1, .inl (0, 6)), (2, .inl ((-2147483648), 2147483647)), (1, .inl (0, 4)), (1, .inl (0, 6)), (2, .inl ((-2147483648), 2147483647)), (1, .inl (0, 4)), (1, .inl (0, 6)), (2, .inl ((-2147483648), 2147483647)), (1, .inl (0, 4)), (1, .inl (0, 6)), (2, .inl ((-2147483648), 2147483647)), (1, .inl (0, 4)), (1, .inr (29, 0)), (8, .inl (0, 6)), (4, .inl ((-2147483648), 2147483647))], []))),
  (3, .inr (.inl (1, 2, [(2, .inl (0, 1))], []))),
  (4, .inr (.inl (0, 5, [(5, .inl ((-2147483648), 2147483647))], []))),
  (5, .inr (.inl (0, 131, [(28, .inl ((-2147483648), 2147483647)), (7, .inl (0, 4)), (42, .inl ((-2147483648), 2147483647)), (1, .inr (30, 0)), (1, .inl (0, 6)), (2, .inl ((-2147483648), 2147483647)), (1, .inl (0, 4)), (1, .inl (0, 6)), (2, .inl ((-2147483648), 2147483647)), (1, .inl (0, 4)), (1, .inl (0, 6)), (2, .inl ((-2147483648), 2147483647)), (1, .inl (0, 4)), (1, .inl (0, 6)), (2, .inl ((-2147483648), 2147483647)), (1, .inl (0, 4)), (1, .inl (0, 6)), (2, .inl ((-2147483648), 2147483647)), (1, .inl (0, 4)), (1, .inl (0, 6)), (2, .inl ((-2147483648), 2147483647)), (1, .inl (0, 4)), (1, .inl (0, 6)), (2, .inl ((-2147483648), 2147483647)), (1, .inl (0, 4)), (1, .inl (0, 6)), (2, .inl ((-2147483648), 2147483647)), (1, .inl (0, 4)), (1, .inl (0, 6)), (2, .inl ((-2147483648), 2147483647)), (1, .inl (0, 4)), (1, .inl (0, 6)), (2, .inl ((-2147483648), 2147483647)), (1, .inl (0, 4)), (1, .inr (31, 0)), (8, .inl (0, 6)), (4, .inl ((-2147483648), 2147483647))], []))),
  (6, .inr (.inl (0, 5, [(5, .inl ((-2147483648), 2147483647))], []))),
  (7, .inr (.inl (0, 3, [(3, .inl ((-2147483648), 2147483647))], []))),
  (8, .inr (.inl (0, 160, [(160, .inl ((-2147483648), 2147483647))], [((1, 0), (2, 0))]))),
  (9, .inr (.inl (0, 40, [(1, .inl (0, 6)), (2, .inl ((-2147483648), 2147483647)), (1, .inl (0, 4)), (1, .inl (0, 6)), (2, .inl ((-2147483648), 2147483647)), (1, .inl (0, 4)), (1, .inl (0, 6)), (2, .inl ((-2147483648), 2147483647)), (1, .inl (0, 4)), (1, .inl (0, 6)), (2, .inl ((-2147483648), 2147483647)), (1, .inl (0, 4)), (1, .inl (0, 6)), (2, .inl ((-2147483648), 2147483647)), (1, .inl (0, 4)), (1, .inl (0, 6)), (2, .inl ((-2147483648), 2147483647)), (1, .inl (0, 4)), (1, .inl (0, 6)), (2, .inl ((-2147483648), 2147483647)), (1, .inl (0, 4)), (1, .inl (0, 6)), (2, .inl ((-2147483648), 2147483647)), (1, .inl (0, 4)), (1, .inl (0, 6)), (2, .inl ((-2147483648), 2147483647)), (1, .inl (0, 4)), (1, .inl (0, 6)), (2, .inl ((-2147483648), 2147483647)), (1, .inl (0, 4))], []))),
  (10, .inr (.inl (0, 700, [(700, .inl ((-2147483648), 2147483647))], []))),
  (11, .inr (.inl (0, 11216, [(11216, .inl ((-2147483648), 2147483647))], []))),
  (12, .inr (.inl (0, 4, [(4, .inl ((-2147483648), 2147483647))], []))),
  (13, .inr (.inl (0, 4, [(4, .inl (0, 40))], []))),
  (14, .inr (.inl (0, 160, [(160, .inl ((-2147483648), 2147483647))], [])))]
def ze_X8_look : zE := [(1, (0, 200)), (2, ((-2147483648), 2147483647)), (3, (2, 7)), (4, (0, 1)), (5, (0, 5)), (6, (0, 7)), (7, (0, 1)), (8, (0, 1)), (9, (0, 5)), (10, ((-2147483648), 2147483647)), (11, ((-2147483648), 2147483647)), (12, (0, 160)), (13, (0, 160)), (14, (0, 160)), (15, (0, 3)), (16, ((-2147483648), 2147483647)), (17, (0, 6)), (18, ((-2147483648), 2147483647)), (19, (0, 10)), (20, ((-2147483648), 2147483647)), (21, ((-2147483648), 2147483647)), (22, (0, 10)), (23, (0, 4)), (24, (0, 10)), (25, (0, 4)), (26, (0, 10)), (27, (0, 4)), (28, (0, 10)), (29, (0, 4)), (30, (0, 10)), (31, (0, 4))]
def k_X8_look : zK := (32, [0, 1, 2, 3, 4, 5, 6, 7, 8, 9, 10, 11, 12, 13, 14], (ze_X8_look, [], [], [zr 0, zi 1 0], zw0, []), [([], [(12, 1, 0)], [], [zi 0 (-1)], zw0, []),
  ([(1, (0, 159)), (12, (1, 160))], [(1, 12, (-1))], [], [zi 2 0], zw0, [])])
def bl_X8_look : List (Nat × zS) := []
def tb_X8_look : zTb := ([(32, 8, 16, 3), (94, 8, 17, 0)], [], [], [], [], [])
def sp_X8_look : zSp := []
set_option maxRecDepth 1000000 in
theorem ck0_X8_look : zrun tb_X8_look sp_X8_look pr_X8_look 2 1 k_X8_look.1 k_X8_look.2.1 k_X8_look.2.2.2 bl_X8_look false 2000 5032 (zst0 k_X8_look) 0 = true := by decide +kernel
set_option maxRecDepth 1000000 in
theorem ck_X8_look : zcheck tb_X8_look sp_X8_look pr_X8_look 2 1 k_X8_look bl_X8_look 2000 5032 = true := zcheck_of (by decide +kernel) ck0_X8_look (fun _ h => absurd h List.not_mem_nil)
set_option maxRecDepth 100000 in
set_option maxHeartbeats 4000000 in
theorem c_X8_look {X : zXT} (hX : zXok X) (hN : zXn X) (l : Launch) : zMet X vwCl l yX8_look wsX8_look { frames := 1, cells := 0, slots := 0, locals := 64 } k_X8_look :=
  zmeth (tb := tb_X8_look) (pr := pr_X8_look) (bl := bl_X8_look) (rt := 1) (own := RX8) hX (by decide +kernel) rfl rfl ⟨Nat.le_of_ble_eq_true rfl, Nat.le_of_ble_eq_true rfl⟩
    (zfl_all (List.forall_mem_cons.mpr ⟨zfl_X8 (fun w h => List.mem_cons_of_mem _ (List.mem_append_right _ h)) (List.mem_of_getElem? (i := 2) rfl) (by decide) (by decide), List.forall_mem_cons.mpr ⟨zfl_X8 (fun w h => List.mem_cons_of_mem _ (List.mem_append_right _ h)) (List.mem_of_getElem? (i := 1) rfl) (by decide) (by decide), fun _ h => absurd h List.not_mem_nil⟩⟩))
    (zco_all (fun _ h => absurd h List.not_mem_nil)) (zlc_all (fun _ h => absurd h List.not_mem_nil))
    (fun _ h => absurd h List.not_mem_nil)
    (fun _ h => absurd h List.not_mem_nil)
    (zmm_all (fun _ h => absurd h List.not_mem_nil)) (zpr_all hp_X8_look) ck_X8_look
def zw1 : zW := [(0, .inl (8, [zr 1, zr 2, zr 3, zi 1 0, zi 2 0, zi 3 0, zr 4, zr 5, zi 4 0, zi 5 0, zi 6 0, zi 7 0, zr 6, zr 7, zi 8 0, zi 9 0, zr 8, zi 10 0, zi 11 0, zi 12 0, zi 13 0, zi 14 0, zi 15 0, zi 16 0, zr 9, zi 17 0, zi 18 0, zr 10, zr 11, zr 12, zr 13, zr 14, zi 19 0])),
  (1, .inr (.inl (0, 393, [(28, .inl ((-2147483648), 2147483647)), (7, .inl (0, 4)), (42, .inl ((-2147483648), 2147483647)), (1, .inr (20, 0)), (1, .inl (0, 6)), (2, .inl ((-2147483648), 2147483647)), (1, .inl (0, 4)), (1, .inl (0, 6)), (2, .inl ((-2147483648), 2147483647)), (1, .inl (0, 4)), (1, .inl (0, 6)), (2, .inl ((-2147483648), 2147483647)), (1, .inl (0, 4)), (1, .inl (0, 6)), (2, .inl ((-2147483648), 2147483647)), (1, .inl (0, 4)), (1, .inl (0, 6)), (2, .inl ((-2147483648), 2147483647)), (1, .inl (0, 4)), (1, .inl (0, 6)), (2, .inl ((-2147483648), 2147483647)), (1, .inl (0, 4)), (1, .inl (0, 6)), (2, .inl ((-2147483648), 2147483647)), (1, .inl (0, 4)), (1, .inl (0, 6)), (2, .inl ((-2147483648), 2147483647)), (1, .inl (0, 4)), (1, .inl (0, 6)), (2, .inl ((-2147483648), 2147483647)), (1, .inl (0, 4)), (1, .inl (0, 6)), (2, .inl ((-2147483648), 2147483647)), (1, .inl (0, 4)), (1, .inr (21, 0)), (8, .inl (0, 6)), (4, .inl ((-2147483648), 2147483647)), (28, .inl ((-2147483648), 2147483647)), (7, .inl (0, 4)), (42, .inl ((-2147483648), 2147483647)), (1, .inr (22, 0)), (1, .inl (0, 6)), (2, .inl ((-2147483648), 2147483647)), (1, .inl (0, 4)), (1, .inl (0, 6)), (2, .inl ((-2147483648), 2147483647)), (1, .inl (0, 4)), (1, .inl (0, 6)), (2, .inl ((-2147483648), 2147483647)), (1, .inl (0, 4)), (1, .inl (0, 6)), (2, .inl ((-2147483648), 2147483647)), (1, .inl (0, 4)), (1, .inl (0, 6)), (2, .inl ((-2147483648), 2147483647)), (1, .inl (0, 4)), (1, .inl (0, 6)), (2, .inl ((-2147483648), 2147483647)), (1, .inl (0, 4)), (1, .inl (0, 6)), (2, .inl ((-2147483648), 2147483647)), (1, .inl (0, 4)), (1, .inl (0, 6)), (2, .inl ((-2147483648), 2147483647)), (1, .inl (0, 4)), (1, .inl (0, 6)), (2, .inl ((-2147483648), 2147483647)), (1, .inl (0, 4)), (1, .inl (0, 6)), (2, .inl ((-2147483648), 2147483647)), (1, .inl (0, 4)), (1, .inr (23, 0)), (8, .inl (0, 6)), (4, .inl ((-2147483648), 2147483647)), (28, .inl ((-2147483648), 2147483647)), (7, .inl (0, 4)), (42, .inl ((-2147483648), 2147483647)), (1, .inr (24, 0)), (1, .inl (0, 6)), (2, .inl ((-2147483648), 2147483647)), (1, .inl (0, 4)), (1, .inl (0, 6)), (2, .inl ((-2147483648), 2147483647)), (1, .inl (0, 4)), (1, .inl (0, 6)), (2, .inl ((-2147483648), 2147483647)), (1, .inl (0, 4)), (1, .inl (0, 6)), (2, .inl ((-2147483648), 2147483647)), (1, .inl (0, 4)), (1, .inl (0, 6)), (2, .inl ((-2147483648), 2147483647)), (1, .inl (0, 4)), (1, .inl (0, 6)), (2, .inl ((-2147483648), 2147483647)), (1, .inl (0, 4)), (1, .inl (0, 6)), (2, .inl ((-2147483648), 2147483647)), (1, .inl (0, 4)), (1, .inl (0, 6)), (2, .inl ((-2147483648), 2147483647)), (1, .inl (0, 4)), (1, .inl (0, 6)), (2, .inl ((-2147483648), 2147483647)), (1, .inl (0, 4)), (1, .inl (0, 6)), (2, .inl ((-2147483648), 2147483647)), (1, .inl (0, 4)), (1, .inr (25, 0)), (8, .inl (0, 6)), (4, .inl ((-2147483648), 2147483647))], []))),
  (2, .inr (.inl (0, 131, [(28, .inl ((-2147483648), 2147483647)), (7, .inl (0, 4)), (42, .inl ((-2147483648), 2147483647)), (1, .inr (26, 0)), (1, .inl (0, 6)), (2, .inl ((-2147483648), 2147483647)), (1, .inl (0, 4)), (1, .inl (0, 6)), (2, .inl ((-2147483648), 2147483647)), (1, .inl (0, 4)), (1, .inl (0, 6)), (2, .inl ((-2147483648), 2147483647)), (1, .inl (0, 4)), (1, .inl (0, 6)), (2, .inl ((-2147483648), 2147483647)), (1, .inl (0, 4)), (1, .inl (0, 6)), (2, .inl ((-2147483648), 2147483647)), (1, .inl (0, 4)), (1, .inl (0, 6)), (2, .inl ((-2147483648), 2147483647)), (1, .inl (0, 4)), (1, .inl (0, 6)), (2, .inl ((-2147483648), 2147483647)), (1, .inl (0, 4)), (1, .inl (0, 6)), (2, .inl ((-2147483648), 2147483647)), (1, .inl (0, 4)), (1, .inl (0, 6)), (2, .inl ((-2147483648), 2147483647)), (1, .inl (0, 4)), (1, .inl (0, 6)), (2, .inl ((-2147483648), 2147483647)), (1, .inl (0, 4)), (1, .inr (27, 0)), (8, .inl (0, 6)), (4, .inl ((-2147483648), 2147483647))], []))),
  (3, .inr (.inl (1, 2, [(2, .inl (0, 1))], []))),
  (4, .inr (.inl (0, 5, [(5, .inl ((-2147483648), 2147483647))], []))),
  (5, .inr (.inl (0, 131, [(28, .inl ((-2147483648), 2147483647)), (7, .inl (0, 4)), (42, .inl ((-2147483648), 2147483647)), (1, .inr (28, 0)), (1, .inl (0, 6)), (2, .inl ((-2147483648), 2147483647)), (1, .inl (0, 4)), (1, .inl (0, 6)), (2, .inl ((-2147483648), 2147483647)), (1, .inl (0, 4)), (1, .inl (0, 6)), (2, .inl ((-2147483648), 2147483647)), (1, .inl (0, 4)), (1, .inl (0, 6)), (2, .inl ((-2147483648), 2147483647)), (1, .inl (0, 4)), (1, .inl (0, 6)), (2, .inl ((-2147483648), 2147483647)), (1, .inl (0, 4)), (1, .inl (0, 6)), (2, .inl ((-2147483648), 2147483647)), (1, .inl (0, 4)), (1, .inl (0, 6)), (2, .inl ((-2147483648), 2147483647)), (1, .inl (0, 4)), (1, .inl (0, 6)), (2, .inl ((-2147483648), 2147483647)), (1, .inl (0, 4)), (1, .inl (0, 6)), (2, .inl ((-2147483648), 2147483647)), (1, .inl (0, 4)), (1, .inl (0, 6)), (2, .inl ((-2147483648), 2147483647)), (1, .inl (0, 4)), (1, .inr (29, 0)), (8, .inl (0, 6)), (4, .inl ((-2147483648), 2147483647))], []))),
  (6, .inr (.inl (0, 5, [(5, .inl ((-2147483648), 2147483647))], []))),
  (7, .inr (.inl (0, 3, [(3, .inl ((-2147483648), 2147483647))], []))),
  (8, .inr (.inl (0, 160, [(160, .inl ((-2147483648), 2147483647))], []))),
  (9, .inr (.inl (0, 40, [(1, .inl (0, 6)), (2, .inl ((-2147483648), 2147483647)), (1, .inl (0, 4)), (1, .inl (0, 6)), (2, .inl ((-2147483648), 2147483647)), (1, .inl (0, 4)), (1, .inl (0, 6)), (2, .inl ((-2147483648), 2147483647)), (1, .inl (0, 4)), (1, .inl (0, 6)), (2, .inl ((-2147483648), 2147483647)), (1, .inl (0, 4)), (1, .inl (0, 6)), (2, .inl ((-2147483648), 2147483647)), (1, .inl (0, 4)), (1, .inl (0, 6)), (2, .inl ((-2147483648), 2147483647)), (1, .inl (0, 4)), (1, .inl (0, 6)), (2, .inl ((-2147483648), 2147483647)), (1, .inl (0, 4)), (1, .inl (0, 6)), (2, .inl ((-2147483648), 2147483647)), (1, .inl (0, 4)), (1, .inl (0, 6)), (2, .inl ((-2147483648), 2147483647)), (1, .inl (0, 4)), (1, .inl (0, 6)), (2, .inl ((-2147483648), 2147483647)), (1, .inl (0, 4))], []))),
  (10, .inr (.inl (0, 700, [(700, .inl ((-2147483648), 2147483647))], []))),
  (11, .inr (.inl (0, 11216, [(11216, .inl ((-2147483648), 2147483647))], []))),
  (12, .inr (.inl (0, 4, [(4, .inl ((-2147483648), 2147483647))], []))),
  (13, .inr (.inl (0, 4, [(4, .inl (0, 40))], []))),
  (14, .inr (.inl (0, 160, [(160, .inl ((-2147483648), 2147483647))], [])))]
def ze_X8_look_2 : zE := [(1, (2, 7)), (2, (0, 1)), (3, (0, 5)), (4, (0, 7)), (5, (0, 1)), (6, (0, 1)), (7, (0, 5)), (8, ((-2147483648), 2147483647)), (9, ((-2147483648), 2147483647)), (10, (0, 160)), (11, (0, 160)), (12, (0, 160)), (13, (0, 3)), (14, ((-2147483648), 2147483647)), (15, (0, 6)), (16, ((-2147483648), 2147483647)), (17, (0, 10)), (18, ((-2147483648), 2147483647)), (19, ((-2147483648), 2147483647)), (20, (0, 10)), (21, (0, 4)), (22, (0, 10)), (23, (0, 4)), (24, (0, 10)), (25, (0, 4)), (26, (0, 10)), (27, (0, 4)), (28, (0, 10)), (29, (0, 4)), (30, (0, 200))]
def k_X8_look_2 : zK := (31, [0, 1, 2, 3, 4, 5, 6, 7, 8, 9, 10, 11, 12, 13, 14], (ze_X8_look_2, [], [], [zr 0, zi 30 0], zw1, []), [([], [(10, 30, 0)], [], [zi 0 (-1)], zw1, []),
  ([(31, ((-2147483648), 2147483647)), (10, (1, 160)), (30, (0, 159))], [(30, 10, (-1))], [], [zi 31 0], zms (zw1) 8 [((30, 0), (31, 0))], [])])
def bl_X8_look_2 : List (Nat × zS) := []
def tb_X8_look_2 : zTb := ([(32, 8, 16, 3), (94, 8, 17, 0)], [], [], [], [], [])
def sp_X8_look_2 : zSp := []
set_option maxRecDepth 1000000 in
theorem ck0_X8_look_2 : zrun tb_X8_look_2 sp_X8_look_2 pr_X8_look 2 1 k_X8_look_2.1 k_X8_look_2.2.1 k_X8_look_2.2.2.2 bl_X8_look_2 false 2000 5031 (zst0 k_X8_look_2) 0 = true := by decide +kernel
set_option maxRecDepth 1000000 in
theorem ck_X8_look_2 : zcheck tb_X8_look_2 sp_X8_look_2 pr_X8_look 2 1 k_X8_look_2 bl_X8_look_2 2000 5031 = true := zcheck_of (by decide +kernel) ck0_X8_look_2 (fun _ h => absurd h List.not_mem_nil)
set_option maxRecDepth 100000 in
set_option maxHeartbeats 4000000 in
theorem c_X8_look_2 {X : zXT} (hX : zXok X) (hN : zXn X) (l : Launch) : zMet X vwCl l yX8_look wsX8_look { frames := 1, cells := 0, slots := 0, locals := 64 } k_X8_look_2 :=
  zmeth (tb := tb_X8_look_2) (pr := pr_X8_look) (bl := bl_X8_look_2) (rt := 1) (own := RX8) hX (by decide +kernel) rfl rfl ⟨Nat.le_of_ble_eq_true rfl, Nat.le_of_ble_eq_true rfl⟩
    (zfl_all (List.forall_mem_cons.mpr ⟨zfl_X8 (fun w h => List.mem_cons_of_mem _ (List.mem_append_right _ h)) (List.mem_of_getElem? (i := 2) rfl) (by decide) (by decide), List.forall_mem_cons.mpr ⟨zfl_X8 (fun w h => List.mem_cons_of_mem _ (List.mem_append_right _ h)) (List.mem_of_getElem? (i := 1) rfl) (by decide) (by decide), fun _ h => absurd h List.not_mem_nil⟩⟩))
    (zco_all (fun _ h => absurd h List.not_mem_nil)) (zlc_all (fun _ h => absurd h List.not_mem_nil))
    (fun _ h => absurd h List.not_mem_nil)
    (fun _ h => absurd h List.not_mem_nil)
    (zmm_all (fun _ h => absurd h List.not_mem_nil)) (zpr_all hp_X8_look) ck_X8_look_2
def pr_X8_needs : List (Nat × Instr × Nat) := [(0, .iload_n 1, 1), (1, .ifCond .ne 23, 3), (4, .aload_n 0, 1), (5, .getfield 97, 3), (8, .ifCond .ne 16, 3), (11, .aload_n 0, 1), (12, .iload_n 2, 1), (13, .putfield 97, 3), (16, .aload_n 0, 1), (17, .aload_n 0, 1), (18, .getfield 100, 3), (21, .putfield 103, 3), (24, .return_, 1)]
set_option maxRecDepth 100000 in
theorem hp_X8_needs : pr_X8_needs.all (fun x => decide (decode cX8_needs x.1 = .ok x.2)) = true := by decide +kernel
def ze_X8_needs : zE := [(1, (2, 7)), (2, (0, 1)), (3, (0, 5)), (4, (0, 7)), (5, (0, 1)), (6, (0, 1)), (7, (0, 5)), (8, ((-2147483648), 2147483647)), (9, ((-2147483648), 2147483647)), (10, (0, 160)), (11, (0, 160)), (12, (0, 160)), (13, (0, 3)), (14, ((-2147483648), 2147483647)), (15, (0, 6)), (16, ((-2147483648), 2147483647)), (17, (0, 10)), (18, ((-2147483648), 2147483647)), (19, ((-2147483648), 2147483647)), (20, (0, 10)), (21, (0, 4)), (22, (0, 10)), (23, (0, 4)), (24, (0, 10)), (25, (0, 4)), (26, (0, 10)), (27, (0, 4)), (28, (0, 10)), (29, (0, 4)), (30, (0, 1)), (31, (1, 6))]
def k_X8_needs : zK := (32, [0, 1, 2, 3, 4, 5, 6, 7, 8, 9, 10, 11, 12, 13, 14], (ze_X8_needs, [], [], [zr 0, zi 30 0, zi 31 0], zw1, []), [([(30, (1, 1))], [], [], [], zw1, []),
  ([(32, (1, 6)), (33, ((-2147483648), 2147483647)), (30, (0, 0))], [(15, 32, 0)], [], [], zfs (zfs (zw1) 0 22 (zi 32 0)) 0 23 (zi 33 0), [])])
def bl_X8_needs : List (Nat × zS) := []
def tb_X8_needs : zTb := ([(97, 8, 22, 0), (100, 8, 19, 0), (103, 8, 23, 0)], [], [], [], [], [])
def sp_X8_needs : zSp := []
set_option maxRecDepth 1000000 in
theorem ck0_X8_needs : zrun tb_X8_needs sp_X8_needs pr_X8_needs 3 0 k_X8_needs.1 k_X8_needs.2.1 k_X8_needs.2.2.2 bl_X8_needs false 2000 5032 (zst0 k_X8_needs) 0 = true := by decide +kernel
set_option maxRecDepth 1000000 in
theorem ck_X8_needs : zcheck tb_X8_needs sp_X8_needs pr_X8_needs 3 0 k_X8_needs bl_X8_needs 2000 5032 = true := zcheck_of (by decide +kernel) ck0_X8_needs (fun _ h => absurd h List.not_mem_nil)
set_option maxRecDepth 100000 in
set_option maxHeartbeats 4000000 in
theorem c_X8_needs {X : zXT} (hX : zXok X) (hN : zXn X) (l : Launch) : zMet X vwCl l yX8_needs wsX8_needs { frames := 1, cells := 0, slots := 0, locals := 64 } k_X8_needs :=
  zmeth (tb := tb_X8_needs) (pr := pr_X8_needs) (bl := bl_X8_needs) (rt := 0) (own := RX8) hX (by decide +kernel) rfl rfl ⟨Nat.le_of_ble_eq_true rfl, Nat.le_of_ble_eq_true rfl⟩
    (zfl_all (List.forall_mem_cons.mpr ⟨zfl_X8 (fun w h => List.mem_cons_of_mem _ (List.mem_append_right _ h)) (List.mem_of_getElem? (i := 1) rfl) (by decide) (by decide), List.forall_mem_cons.mpr ⟨zfl_X8 (fun w h => List.mem_cons_of_mem _ (List.mem_append_right _ h)) (List.mem_of_getElem? (i := 2) rfl) (by decide) (by decide), List.forall_mem_cons.mpr ⟨zfl_X8 (fun w h => List.mem_cons_of_mem _ (List.mem_append_right _ h)) (List.mem_of_getElem? (i := 3) rfl) (by decide) (by decide), fun _ h => absurd h List.not_mem_nil⟩⟩⟩))
    (zco_all (fun _ h => absurd h List.not_mem_nil)) (zlc_all (fun _ h => absurd h List.not_mem_nil))
    (fun _ h => absurd h List.not_mem_nil)
    (fun _ h => absurd h List.not_mem_nil)
    (zmm_all (fun _ h => absurd h List.not_mem_nil)) (zpr_all hp_X8_needs) ck_X8_needs
def pr_X8_isHouse : List (Nat × Instr × Nat) := [(0, .iload_n 1, 1), (1, .i2l, 1), (2, .lconst 0, 1), (3, .aload_n 0, 1), (4, .getfield 79, 3), (7, .iconst 1, 1), (8, .isub, 1), (9, .i2l, 1), (10, .invokestatic 90, 3), (13, .ireturn, 1)]
set_option maxRecDepth 100000 in
theorem hp_X8_isHouse : pr_X8_isHouse.all (fun x => decide (decode cX8_isHouse x.1 = .ok x.2)) = true := by decide +kernel
def ze_X8_isHouse : zE := [(1, (2, 7)), (2, (0, 1)), (3, (0, 5)), (4, (0, 7)), (5, (0, 1)), (6, (0, 1)), (7, (0, 5)), (8, ((-2147483648), 2147483647)), (9, ((-2147483648), 2147483647)), (10, (0, 160)), (11, (0, 160)), (12, (0, 160)), (13, (0, 3)), (14, ((-2147483648), 2147483647)), (15, (0, 6)), (16, ((-2147483648), 2147483647)), (17, (0, 10)), (18, ((-2147483648), 2147483647)), (19, ((-2147483648), 2147483647)), (20, (0, 10)), (21, (0, 4)), (22, (0, 10)), (23, (0, 4)), (24, (0, 10)), (25, (0, 4)), (26, (0, 10)), (27, (0, 4)), (28, (0, 10)), (29, (0, 4)), (30, ((-2147483648), 2147483647))]
def k_X8_isHouse : zK := (31, [0, 1, 2, 3, 4, 5, 6, 7, 8, 9, 10, 11, 12, 13, 14], (ze_X8_isHouse, [], [], [zr 0, zi 30 0], zw1, []), [([], [], [], [zi 0 0], zw1, []),
  ([(30, (0, 6))], [(30, 1, (-1))], [], [zi 0 1], zw1, [])])
def bl_X8_isHouse : List (Nat × zS) := []
def tb_X8_isHouse : zTb := ([(79, 8, 3, 0)], [], [], [], [(90, k_X8_in)], [])
def sp_X8_isHouse : zSp := []
set_option maxRecDepth 1000000 in
theorem ck0_X8_isHouse : zrun tb_X8_isHouse sp_X8_isHouse pr_X8_isHouse 2 2 k_X8_isHouse.1 k_X8_isHouse.2.1 k_X8_isHouse.2.2.2 bl_X8_isHouse false 2000 5031 (zst0 k_X8_isHouse) 0 = true := by decide +kernel
set_option maxRecDepth 1000000 in
theorem ck_X8_isHouse : zcheck tb_X8_isHouse sp_X8_isHouse pr_X8_isHouse 2 2 k_X8_isHouse bl_X8_isHouse 2000 5031 = true := zcheck_of (by decide +kernel) ck0_X8_isHouse (fun _ h => absurd h List.not_mem_nil)
set_option maxRecDepth 100000 in
set_option maxHeartbeats 4000000 in
theorem c_X8_isHouse {X : zXT} (hX : zXok X) (hN : zXn X) (l : Launch) : zMet X vwCl l yX8_isHouse wsX8_isHouse { frames := 2, cells := 0, slots := 0, locals := 89 } k_X8_isHouse :=
  zmeth (tb := tb_X8_isHouse) (pr := pr_X8_isHouse) (bl := bl_X8_isHouse) (rt := 2) (own := RX8) hX (by decide +kernel) rfl rfl ⟨Nat.le_of_ble_eq_true rfl, Nat.le_of_ble_eq_true rfl⟩
    (zfl_all (List.forall_mem_cons.mpr ⟨zfl_X8 (fun w h => List.mem_cons_of_mem _ (List.mem_append_right _ h)) (List.mem_of_getElem? (i := 1) rfl) (by decide) (by decide), fun _ h => absurd h List.not_mem_nil⟩))
    (zco_all (fun _ h => absurd h List.not_mem_nil)) (zlc_all (fun _ h => absurd h List.not_mem_nil))
    (fun _ h => absurd h List.not_mem_nil)
    (List.forall_mem_cons.mpr ⟨fun p e s m args below meth c A S hx => zcal_S hX S (c_X8_in hX hN l) (va_cwS 3 S.2.2.2.2 gX8_isHouse_X8_in rfl rfl rfl (by decide +kernel) ⟨Nat.le_of_ble_eq_true rfl, Nat.le_of_ble_eq_true rfl⟩) rfl, fun _ h => absurd h List.not_mem_nil⟩)
    (zmm_all (fun _ h => absurd h List.not_mem_nil)) (zpr_all hp_X8_isHouse) ck_X8_isHouse
def pr_X8_isDeed : List (Nat × Instr × Nat) := [(0, .iload_n 1, 1), (1, .i2l, 1), (2, .lconst 0, 1), (3, .aload_n 0, 1), (4, .getfield 85, 3), (7, .iconst 1, 1), (8, .isub, 1), (9, .i2l, 1), (10, .invokestatic 90, 3), (13, .ireturn, 1)]
set_option maxRecDepth 100000 in
theorem hp_X8_isDeed : pr_X8_isDeed.all (fun x => decide (decode cX8_isDeed x.1 = .ok x.2)) = true := by decide +kernel
def ze_X8_isDeed : zE := [(1, (2, 7)), (2, (0, 1)), (3, (0, 5)), (4, (0, 7)), (5, (0, 1)), (6, (0, 1)), (7, (0, 5)), (8, ((-2147483648), 2147483647)), (9, ((-2147483648), 2147483647)), (10, (0, 160)), (11, (0, 160)), (12, (0, 160)), (13, (0, 3)), (14, ((-2147483648), 2147483647)), (15, (0, 6)), (16, ((-2147483648), 2147483647)), (17, (0, 10)), (18, ((-2147483648), 2147483647)), (19, ((-2147483648), 2147483647)), (20, (0, 10)), (21, (0, 4)), (22, (0, 10)), (23, (0, 4)), (24, (0, 10)), (25, (0, 4)), (26, (0, 10)), (27, (0, 4)), (28, (0, 10)), (29, (0, 4)), (30, ((-2147483648), 2147483647))]
def k_X8_isDeed : zK := (31, [0, 1, 2, 3, 4, 5, 6, 7, 8, 9, 10, 11, 12, 13, 14], (ze_X8_isDeed, [], [], [zr 0, zi 30 0], zw1, []), [([], [], [], [zi 0 0], zw1, []),
  ([(30, (0, 4))], [(30, 3, (-1))], [], [zi 0 1], zw1, [])])
def bl_X8_isDeed : List (Nat × zS) := []
def tb_X8_isDeed : zTb := ([(85, 8, 5, 0)], [], [], [], [(90, k_X8_in)], [])
def sp_X8_isDeed : zSp := []
set_option maxRecDepth 1000000 in
theorem ck0_X8_isDeed : zrun tb_X8_isDeed sp_X8_isDeed pr_X8_isDeed 2 2 k_X8_isDeed.1 k_X8_isDeed.2.1 k_X8_isDeed.2.2.2 bl_X8_isDeed false 2000 5031 (zst0 k_X8_isDeed) 0 = true := by decide +kernel
set_option maxRecDepth 1000000 in
theorem ck_X8_isDeed : zcheck tb_X8_isDeed sp_X8_isDeed pr_X8_isDeed 2 2 k_X8_isDeed bl_X8_isDeed 2000 5031 = true := zcheck_of (by decide +kernel) ck0_X8_isDeed (fun _ h => absurd h List.not_mem_nil)
set_option maxRecDepth 100000 in
set_option maxHeartbeats 4000000 in
theorem c_X8_isDeed {X : zXT} (hX : zXok X) (hN : zXn X) (l : Launch) : zMet X vwCl l yX8_isDeed wsX8_isDeed { frames := 2, cells := 0, slots := 0, locals := 89 } k_X8_isDeed :=
  zmeth (tb := tb_X8_isDeed) (pr := pr_X8_isDeed) (bl := bl_X8_isDeed) (rt := 2) (own := RX8) hX (by decide +kernel) rfl rfl ⟨Nat.le_of_ble_eq_true rfl, Nat.le_of_ble_eq_true rfl⟩
    (zfl_all (List.forall_mem_cons.mpr ⟨zfl_X8 (fun w h => List.mem_cons_of_mem _ (List.mem_append_right _ h)) (List.mem_of_getElem? (i := 1) rfl) (by decide) (by decide), fun _ h => absurd h List.not_mem_nil⟩))
    (zco_all (fun _ h => absurd h List.not_mem_nil)) (zlc_all (fun _ h => absurd h List.not_mem_nil))
    (fun _ h => absurd h List.not_mem_nil)
    (List.forall_mem_cons.mpr ⟨fun p e s m args below meth c A S hx => zcal_S hX S (c_X8_in hX hN l) (va_cwS 3 S.2.2.2.2 gX8_isDeed_X8_in rfl rfl rfl (by decide +kernel) ⟨Nat.le_of_ble_eq_true rfl, Nat.le_of_ble_eq_true rfl⟩) rfl, fun _ h => absurd h List.not_mem_nil⟩)
    (zmm_all (fun _ h => absurd h List.not_mem_nil)) (zpr_all hp_X8_isDeed) ck_X8_isDeed
def pr_X8_feed : List (Nat × Instr × Nat) := [(0, .iload_n 1, 1), (1, .i2l, 1), (2, .lconst 0, 1), (3, .ldc2_w 88, 3), (6, .invokestatic 90, 3), (9, .ifCond .ne 5, 3), (12, .iconst (-1), 1), (13, .ireturn, 1), (14, .aload_n 0, 1), (15, .getfield 94, 3), (18, .sipush 160, 3), (21, .if_icmp .ne 6, 3), (24, .bipush (-3), 2), (26, .ireturn, 1), (27, .aload_n 0, 1), (28, .getfield 32, 3), (31, .aload_n 0, 1), (32, .getfield 94, 3), (35, .iload_n 1, 1), (36, .iastore, 1), (37, .aload_n 0, 1), (38, .dup, 1), (39, .getfield 94, 3), (42, .iconst 1, 1), (43, .iadd, 1), (44, .putfield 94, 3), (47, .aload_n 0, 1), (48, .getfield 94, 3), (51, .ireturn, 1)]
set_option maxRecDepth 100000 in
theorem hp_X8_feed : pr_X8_feed.all (fun x => decide (decode cX8_feed x.1 = .ok x.2)) = true := by decide +kernel
def ze_X8_feed : zE := [(1, (2, 7)), (2, (0, 1)), (3, (0, 5)), (4, (0, 7)), (5, (0, 1)), (6, (0, 1)), (7, (0, 5)), (8, ((-2147483648), 2147483647)), (9, ((-2147483648), 2147483647)), (10, (0, 160)), (11, (0, 160)), (12, (0, 160)), (13, (0, 3)), (14, ((-2147483648), 2147483647)), (15, (0, 6)), (16, ((-2147483648), 2147483647)), (17, (0, 10)), (18, ((-2147483648), 2147483647)), (19, ((-2147483648), 2147483647)), (20, (0, 10)), (21, (0, 4)), (22, (0, 10)), (23, (0, 4)), (24, (0, 10)), (25, (0, 4)), (26, (0, 10)), (27, (0, 4)), (28, (0, 10)), (29, (0, 4)), (30, ((-2147483648), 2147483647))]
def k_X8_feed : zK := (31, [0, 1, 2, 3, 4, 5, 6, 7, 8, 9, 10, 11, 12, 13, 14], (ze_X8_feed, [], [], [zr 0, zi 30 0], zw1, []), [([], [], [], [zi 0 (-1)], zw1, []),
  ([(10, (0, 159)), (30, (0, 127))], [], [], [zi 10 1], zfs (zw1) 0 17 (zi 10 1), []),
  ([(10, (160, 160)), (30, (0, 127))], [], [], [zi 0 (-3)], zw1, [])])
def bl_X8_feed : List (Nat × zS) := []
def tb_X8_feed : zTb := ([(32, 8, 16, 3), (94, 8, 17, 0)], [], [(88, 127)], [], [(90, k_X8_in)], [])
def sp_X8_feed : zSp := []
set_option maxRecDepth 1000000 in
theorem ck0_X8_feed : zrun tb_X8_feed sp_X8_feed pr_X8_feed 2 1 k_X8_feed.1 k_X8_feed.2.1 k_X8_feed.2.2.2 bl_X8_feed false 2000 5031 (zst0 k_X8_feed) 0 = true := by decide +kernel
set_option maxRecDepth 1000000 in
theorem ck_X8_feed : zcheck tb_X8_feed sp_X8_feed pr_X8_feed 2 1 k_X8_feed bl_X8_feed 2000 5031 = true := zcheck_of (by decide +kernel) ck0_X8_feed (fun _ h => absurd h List.not_mem_nil)
set_option maxRecDepth 100000 in
set_option maxHeartbeats 4000000 in
theorem c_X8_feed {X : zXT} (hX : zXok X) (hN : zXn X) (l : Launch) : zMet X vwCl l yX8_feed wsX8_feed { frames := 2, cells := 0, slots := 0, locals := 89 } k_X8_feed :=
  zmeth (tb := tb_X8_feed) (pr := pr_X8_feed) (bl := bl_X8_feed) (rt := 1) (own := RX8) hX (by decide +kernel) rfl rfl ⟨Nat.le_of_ble_eq_true rfl, Nat.le_of_ble_eq_true rfl⟩
    (zfl_all (List.forall_mem_cons.mpr ⟨zfl_X8 (fun w h => List.mem_cons_of_mem _ (List.mem_append_right _ h)) (List.mem_of_getElem? (i := 3) rfl) (by decide) (by decide), List.forall_mem_cons.mpr ⟨zfl_X8 (fun w h => List.mem_cons_of_mem _ (List.mem_append_right _ h)) (List.mem_of_getElem? (i := 2) rfl) (by decide) (by decide), fun _ h => absurd h List.not_mem_nil⟩⟩))
    (zco_all (fun _ h => absurd h List.not_mem_nil)) (zlc_all (List.forall_mem_cons.mpr ⟨(List.mem_of_getElem? (i := 1) rfl), fun _ h => absurd h List.not_mem_nil⟩))
    (fun _ h => absurd h List.not_mem_nil)
    (List.forall_mem_cons.mpr ⟨fun p e s m args below meth c A S hx => zcal_S hX S (c_X8_in hX hN l) (va_cwS 3 S.2.2.2.2 gX8_feed_X8_in rfl rfl rfl (by decide +kernel) ⟨Nat.le_of_ble_eq_true rfl, Nat.le_of_ble_eq_true rfl⟩) rfl, fun _ h => absurd h List.not_mem_nil⟩)
    (zmm_all (fun _ h => absurd h List.not_mem_nil)) (zpr_all hp_X8_feed) ck_X8_feed
def pr_X8_end : List (Nat × Instr × Nat) := [(0, .iload_n 1, 1), (1, .i2l, 1), (2, .lconst 0, 1), (3, .aload_n 0, 1), (4, .getfield 94, 3), (7, .i2l, 1), (8, .invokestatic 90, 3), (11, .ifCond .ne 5, 3), (14, .iconst (-1), 1), (15, .ireturn, 1), (16, .aload_n 0, 1), (17, .getfield 94, 3), (20, .istore_n 2, 1), (21, .aload_n 0, 1), (22, .iload_n 1, 1), (23, .putfield 94, 3), (26, .iload_n 2, 1), (27, .ireturn, 1)]
set_option maxRecDepth 100000 in
theorem hp_X8_end : pr_X8_end.all (fun x => decide (decode cX8_end x.1 = .ok x.2)) = true := by decide +kernel
def ze_X8_end : zE := [(1, (2, 7)), (2, (0, 1)), (3, (0, 5)), (4, (0, 7)), (5, (0, 1)), (6, (0, 1)), (7, (0, 5)), (8, ((-2147483648), 2147483647)), (9, ((-2147483648), 2147483647)), (10, (0, 160)), (11, (0, 160)), (12, (0, 160)), (13, (0, 3)), (14, ((-2147483648), 2147483647)), (15, (0, 6)), (16, ((-2147483648), 2147483647)), (17, (0, 10)), (18, ((-2147483648), 2147483647)), (19, ((-2147483648), 2147483647)), (20, (0, 10)), (21, (0, 4)), (22, (0, 10)), (23, (0, 4)), (24, (0, 10)), (25, (0, 4)), (26, (0, 10)), (27, (0, 4)), (28, (0, 10)), (29, (0, 4)), (30, ((-2147483648), 2147483647))]
def k_X8_end : zK := (31, [0, 1, 2, 3, 4, 5, 6, 7, 8, 9, 10, 11, 12, 13, 14], (ze_X8_end, [], [], [zr 0, zi 30 0], zw1, []), [([], [], [], [zi 0 (-1)], zw1, []),
  ([(30, (0, 160))], [(30, 10, 0)], [], [zi 10 0], zfs (zw1) 0 17 (zi 30 0), [])])
def bl_X8_end : List (Nat × zS) := []
def tb_X8_end : zTb := ([(94, 8, 17, 0)], [], [], [], [(90, k_X8_in)], [])
def sp_X8_end : zSp := []
set_option maxRecDepth 1000000 in
theorem ck0_X8_end : zrun tb_X8_end sp_X8_end pr_X8_end 3 1 k_X8_end.1 k_X8_end.2.1 k_X8_end.2.2.2 bl_X8_end false 2000 5031 (zst0 k_X8_end) 0 = true := by decide +kernel
set_option maxRecDepth 1000000 in
theorem ck_X8_end : zcheck tb_X8_end sp_X8_end pr_X8_end 3 1 k_X8_end bl_X8_end 2000 5031 = true := zcheck_of (by decide +kernel) ck0_X8_end (fun _ h => absurd h List.not_mem_nil)
set_option maxRecDepth 100000 in
set_option maxHeartbeats 4000000 in
theorem c_X8_end {X : zXT} (hX : zXok X) (hN : zXn X) (l : Launch) : zMet X vwCl l yX8_end wsX8_end { frames := 2, cells := 0, slots := 0, locals := 89 } k_X8_end :=
  zmeth (tb := tb_X8_end) (pr := pr_X8_end) (bl := bl_X8_end) (rt := 1) (own := RX8) hX (by decide +kernel) rfl rfl ⟨Nat.le_of_ble_eq_true rfl, Nat.le_of_ble_eq_true rfl⟩
    (zfl_all (List.forall_mem_cons.mpr ⟨zfl_X8 (fun w h => List.mem_cons_of_mem _ (List.mem_append_right _ h)) (List.mem_of_getElem? (i := 1) rfl) (by decide) (by decide), fun _ h => absurd h List.not_mem_nil⟩))
    (zco_all (fun _ h => absurd h List.not_mem_nil)) (zlc_all (fun _ h => absurd h List.not_mem_nil))
    (fun _ h => absurd h List.not_mem_nil)
    (List.forall_mem_cons.mpr ⟨fun p e s m args below meth c A S hx => zcal_S hX S (c_X8_in hX hN l) (va_cwS 3 S.2.2.2.2 gX8_end_X8_in rfl rfl rfl (by decide +kernel) ⟨Nat.le_of_ble_eq_true rfl, Nat.le_of_ble_eq_true rfl⟩) rfl, fun _ h => absurd h List.not_mem_nil⟩)
    (zmm_all (fun _ h => absurd h List.not_mem_nil)) (zpr_all hp_X8_end) ck_X8_end
def pr_X8_fault : List (Nat × Instr × Nat) := [(0, .aload_n 0, 1), (1, .getfield 97, 3), (4, .ireturn, 1)]
set_option maxRecDepth 100000 in
theorem hp_X8_fault : pr_X8_fault.all (fun x => decide (decode cX8_fault x.1 = .ok x.2)) = true := by decide +kernel
def ze_X8_fault : zE := [(1, (2, 7)), (2, (0, 1)), (3, (0, 5)), (4, (0, 7)), (5, (0, 1)), (6, (0, 1)), (7, (0, 5)), (8, ((-2147483648), 2147483647)), (9, ((-2147483648), 2147483647)), (10, (0, 160)), (11, (0, 160)), (12, (0, 160)), (13, (0, 3)), (14, ((-2147483648), 2147483647)), (15, (0, 6)), (16, ((-2147483648), 2147483647)), (17, (0, 10)), (18, ((-2147483648), 2147483647)), (19, ((-2147483648), 2147483647)), (20, (0, 10)), (21, (0, 4)), (22, (0, 10)), (23, (0, 4)), (24, (0, 10)), (25, (0, 4)), (26, (0, 10)), (27, (0, 4)), (28, (0, 10)), (29, (0, 4))]
def k_X8_fault : zK := (30, [0, 1, 2, 3, 4, 5, 6, 7, 8, 9, 10, 11, 12, 13, 14], (ze_X8_fault, [], [], [zr 0], zw1, []), [([], [], [], [zi 15 0], zw1, [])])
def bl_X8_fault : List (Nat × zS) := []
def tb_X8_fault : zTb := ([(97, 8, 22, 0)], [], [], [], [], [])
def sp_X8_fault : zSp := []
set_option maxRecDepth 1000000 in
theorem ck0_X8_fault : zrun tb_X8_fault sp_X8_fault pr_X8_fault 1 1 k_X8_fault.1 k_X8_fault.2.1 k_X8_fault.2.2.2 bl_X8_fault false 2000 5030 (zst0 k_X8_fault) 0 = true := by decide +kernel
set_option maxRecDepth 1000000 in
theorem ck_X8_fault : zcheck tb_X8_fault sp_X8_fault pr_X8_fault 1 1 k_X8_fault bl_X8_fault 2000 5030 = true := zcheck_of (by decide +kernel) ck0_X8_fault (fun _ h => absurd h List.not_mem_nil)
set_option maxRecDepth 100000 in
set_option maxHeartbeats 4000000 in
theorem c_X8_fault {X : zXT} (hX : zXok X) (hN : zXn X) (l : Launch) : zMet X vwCl l yX8_fault wsX8_fault { frames := 1, cells := 0, slots := 0, locals := 64 } k_X8_fault :=
  zmeth (tb := tb_X8_fault) (pr := pr_X8_fault) (bl := bl_X8_fault) (rt := 1) (own := RX8) hX (by decide +kernel) rfl rfl ⟨Nat.le_of_ble_eq_true rfl, Nat.le_of_ble_eq_true rfl⟩
    (zfl_all (List.forall_mem_cons.mpr ⟨zfl_X8 (fun w h => List.mem_cons_of_mem _ (List.mem_append_right _ h)) (List.mem_of_getElem? (i := 1) rfl) (by decide) (by decide), fun _ h => absurd h List.not_mem_nil⟩))
    (zco_all (fun _ h => absurd h List.not_mem_nil)) (zlc_all (fun _ h => absurd h List.not_mem_nil))
    (fun _ h => absurd h List.not_mem_nil)
    (fun _ h => absurd h List.not_mem_nil)
    (zmm_all (fun _ h => absurd h List.not_mem_nil)) (zpr_all hp_X8_fault) ck_X8_fault
def pr_X8_rule : List (Nat × Instr × Nat) := [(0, .iload_n 1, 1), (1, .tableswitch 69 0 4 #[35, 40, 48, 53, 61], 35), (36, .aload_n 0, 1), (37, .getfield 79, 3), (40, .ireturn, 1), (41, .aload_n 0, 1), (42, .getfield 82, 3), (45, .invokestatic 197, 3), (48, .ireturn, 1), (49, .aload_n 0, 1), (50, .getfield 85, 3), (53, .ireturn, 1), (54, .aload_n 0, 1), (55, .getfield 7, 3), (58, .bipush 77, 2), (60, .iaload, 1), (61, .ireturn, 1), (62, .aload_n 0, 1), (63, .getfield 7, 3), (66, .bipush 118, 2), (68, .iaload, 1), (69, .ireturn, 1), (70, .iload_n 1, 1), (71, .i2l, 1), (72, .ldc2_w 201, 3), (75, .ldc2_w 203, 3), (78, .invokestatic 90, 3), (81, .ifCond .eq 17, 3), (84, .aload_n 0, 1), (85, .getfield 7, 3), (88, .bipush 127, 2), (90, .iload_n 1, 1), (91, .iadd, 1), (92, .iconst 5, 1), (93, .isub, 1), (94, .iaload, 1), (95, .goto 4, 3), (98, .iconst (-1), 1), (99, .ireturn, 1)]
set_option maxRecDepth 100000 in
theorem hp_X8_rule : pr_X8_rule.all (fun x => decide (decode cX8_rule x.1 = .ok x.2)) = true := by decide +kernel
def ze_X8_rule : zE := [(1, (2, 7)), (2, (0, 1)), (3, (0, 5)), (4, (0, 7)), (5, (0, 1)), (6, (0, 1)), (7, (0, 5)), (8, ((-2147483648), 2147483647)), (9, ((-2147483648), 2147483647)), (10, (0, 160)), (11, (0, 160)), (12, (0, 160)), (13, (0, 3)), (14, ((-2147483648), 2147483647)), (15, (0, 6)), (16, ((-2147483648), 2147483647)), (17, (0, 10)), (18, ((-2147483648), 2147483647)), (19, ((-2147483648), 2147483647)), (20, (0, 10)), (21, (0, 4)), (22, (0, 10)), (23, (0, 4)), (24, (0, 10)), (25, (0, 4)), (26, (0, 10)), (27, (0, 4)), (28, (0, 10)), (29, (0, 4)), (30, ((-2147483648), 2147483647))]
def k_X8_rule : zK := (31, [0, 1, 2, 3, 4, 5, 6, 7, 8, 9, 10, 11, 12, 13, 14], (ze_X8_rule, [], [], [zr 0, zi 30 0], zw1, []), [([], [], [], [zi 0 (-1)], zw1, []),
  ([(31, ((-2147483648), 2147483647)), (30, (0, 8))], [], [], [zi 31 0], zw1, []),
  ([(2, (0, 0)), (30, (1, 1))], [], [], [zi 0 0], zw1, []),
  ([(2, (1, 1)), (30, (1, 1))], [], [], [zi 0 1], zw1, [])])
def bl_X8_rule : List (Nat × zS) := []
def tb_X8_rule : zTb := ([(7, 8, 0, 3), (79, 8, 3, 0), (82, 8, 4, 1), (85, 8, 5, 0)], [], [(201, 5), (203, 8)], [], [(90, k_X8_in), (197, k_X8_flag)], [])
def sp_X8_rule : zSp := []
set_option maxRecDepth 1000000 in
theorem ck0_X8_rule : zrun tb_X8_rule sp_X8_rule pr_X8_rule 2 1 k_X8_rule.1 k_X8_rule.2.1 k_X8_rule.2.2.2 bl_X8_rule false 2000 5031 (zst0 k_X8_rule) 0 = true := by decide +kernel
set_option maxRecDepth 1000000 in
theorem ck_X8_rule : zcheck tb_X8_rule sp_X8_rule pr_X8_rule 2 1 k_X8_rule bl_X8_rule 2000 5031 = true := zcheck_of (by decide +kernel) ck0_X8_rule (fun _ h => absurd h List.not_mem_nil)
set_option maxRecDepth 100000 in
set_option maxHeartbeats 4000000 in
theorem c_X8_rule {X : zXT} (hX : zXok X) (hN : zXn X) (l : Launch) : zMet X vwCl l yX8_rule wsX8_rule { frames := 2, cells := 0, slots := 0, locals := 89 } k_X8_rule :=
  zmeth (tb := tb_X8_rule) (pr := pr_X8_rule) (bl := bl_X8_rule) (rt := 1) (own := RX8) hX (by decide +kernel) rfl rfl ⟨Nat.le_of_ble_eq_true rfl, Nat.le_of_ble_eq_true rfl⟩
    (zfl_all (List.forall_mem_cons.mpr ⟨zfl_X8 (fun w h => List.mem_cons_of_mem _ (List.mem_append_right _ h)) (List.mem_of_getElem? (i := 4) rfl) (by decide) (by decide), List.forall_mem_cons.mpr ⟨zfl_X8 (fun w h => List.mem_cons_of_mem _ (List.mem_append_right _ h)) (List.mem_of_getElem? (i := 1) rfl) (by decide) (by decide), List.forall_mem_cons.mpr ⟨zfl_X8 (fun w h => List.mem_cons_of_mem _ (List.mem_append_right _ h)) (List.mem_of_getElem? (i := 2) rfl) (by decide) (by decide), List.forall_mem_cons.mpr ⟨zfl_X8 (fun w h => List.mem_cons_of_mem _ (List.mem_append_right _ h)) (List.mem_of_getElem? (i := 3) rfl) (by decide) (by decide), fun _ h => absurd h List.not_mem_nil⟩⟩⟩⟩))
    (zco_all (fun _ h => absurd h List.not_mem_nil)) (zlc_all (List.forall_mem_cons.mpr ⟨(List.mem_of_getElem? (i := 5) rfl), List.forall_mem_cons.mpr ⟨(List.mem_of_getElem? (i := 6) rfl), fun _ h => absurd h List.not_mem_nil⟩⟩))
    (fun _ h => absurd h List.not_mem_nil)
    (List.forall_mem_cons.mpr ⟨fun p e s m args below meth c A S hx => zcal_S hX S (c_X8_in hX hN l) (va_cwS 3 S.2.2.2.2 gX8_rule_X8_in rfl rfl rfl (by decide +kernel) ⟨Nat.le_of_ble_eq_true rfl, Nat.le_of_ble_eq_true rfl⟩) rfl, List.forall_mem_cons.mpr ⟨fun p e s m args below meth c A S hx => zcal_S hX S (c_X8_flag hX hN l) (va_cwS 1 S.2.2.2.2 gX8_rule_X8_flag rfl rfl rfl (by decide +kernel) ⟨Nat.le_of_ble_eq_true rfl, Nat.le_of_ble_eq_true rfl⟩) rfl, fun _ h => absurd h List.not_mem_nil⟩⟩)
    (zmm_all (fun _ h => absurd h List.not_mem_nil)) (zpr_all hp_X8_rule) ck_X8_rule
def pr_X8_house : List (Nat × Instr × Nat) := [(0, .aload_n 0, 1), (1, .iload_n 1, 1), (2, .invokevirtual 205, 3), (5, .ifCond .ne 5, 3), (8, .iconst (-1), 1), (9, .ireturn, 1), (10, .iload_n 2, 1), (11, .i2l, 1), (12, .lconst 0, 1), (13, .ldc2_w 201, 3), (16, .invokestatic 90, 3), (19, .ifCond .eq 15, 3), (22, .aload_n 0, 1), (23, .getfield 7, 3), (26, .bipush 7, 2), (28, .iload_n 2, 1), (29, .imul, 1), (30, .iload_n 1, 1), (31, .iadd, 1), (32, .iaload, 1), (33, .ireturn, 1), (34, .aload_n 0, 1), (35, .iload_n 2, 1), (36, .bipush 10, 2), (38, .isub, 1), (39, .invokevirtual 209, 3), (42, .ifCond .eq 22, 3), (45, .aload_n 0, 1), (46, .getfield 7, 3), (49, .bipush 42, 2), (51, .iconst 5, 1), (52, .iload_n 1, 1), (53, .imul, 1), (54, .iadd, 1), (55, .iload_n 2, 1), (56, .iadd, 1), (57, .bipush 10, 2), (59, .isub, 1), (60, .iaload, 1), (61, .goto 4, 3), (64, .iconst (-1), 1), (65, .ireturn, 1)]
set_option maxRecDepth 100000 in
theorem hp_X8_house : pr_X8_house.all (fun x => decide (decode cX8_house x.1 = .ok x.2)) = true := by decide +kernel
def ze_X8_house : zE := [(1, (2, 7)), (2, (0, 1)), (3, (0, 5)), (4, (0, 7)), (5, (0, 1)), (6, (0, 1)), (7, (0, 5)), (8, ((-2147483648), 2147483647)), (9, ((-2147483648), 2147483647)), (10, (0, 160)), (11, (0, 160)), (12, (0, 160)), (13, (0, 3)), (14, ((-2147483648), 2147483647)), (15, (0, 6)), (16, ((-2147483648), 2147483647)), (17, (0, 10)), (18, ((-2147483648), 2147483647)), (19, ((-2147483648), 2147483647)), (20, (0, 10)), (21, (0, 4)), (22, (0, 10)), (23, (0, 4)), (24, (0, 10)), (25, (0, 4)), (26, (0, 10)), (27, (0, 4)), (28, (0, 10)), (29, (0, 4)), (30, ((-2147483648), 2147483647)), (31, ((-2147483648), 2147483647))]
def k_X8_house : zK := (32, [0, 1, 2, 3, 4, 5, 6, 7, 8, 9, 10, 11, 12, 13, 14], (ze_X8_house, [], [], [zr 0, zi 30 0, zi 31 0], zw1, []), [([], [], [], [zi 0 (-1)], zw1, []),
  ([(32, ((-2147483648), 2147483647)), (30, (0, 6)), (31, (0, 14))], [(30, 1, (-1)), (31, 3, 9)], [], [zi 32 0], zw1, [])])
def bl_X8_house : List (Nat × zS) := []
def tb_X8_house : zTb := ([(7, 8, 0, 3)], [], [(201, 5)], [(205, k_X8_isHouse), (209, k_X8_isDeed)], [(90, k_X8_in)], [])
def sp_X8_house : zSp := []
set_option maxRecDepth 1000000 in
theorem ck0_X8_house : zrun tb_X8_house sp_X8_house pr_X8_house 3 1 k_X8_house.1 k_X8_house.2.1 k_X8_house.2.2.2 bl_X8_house false 2000 5032 (zst0 k_X8_house) 0 = true := by decide +kernel
set_option maxRecDepth 1000000 in
theorem ck_X8_house : zcheck tb_X8_house sp_X8_house pr_X8_house 3 1 k_X8_house bl_X8_house 2000 5032 = true := zcheck_of (by decide +kernel) ck0_X8_house (fun _ h => absurd h List.not_mem_nil)
set_option maxRecDepth 100000 in
set_option maxHeartbeats 4000000 in
theorem c_X8_house {X : zXT} (hX : zXok X) (hN : zXn X) (l : Launch) : zMet X vwCl l yX8_house wsX8_house { frames := 3, cells := 0, slots := 0, locals := 110 } k_X8_house :=
  zmeth (tb := tb_X8_house) (pr := pr_X8_house) (bl := bl_X8_house) (rt := 1) (own := RX8) hX (by decide +kernel) rfl rfl ⟨Nat.le_of_ble_eq_true rfl, Nat.le_of_ble_eq_true rfl⟩
    (zfl_all (List.forall_mem_cons.mpr ⟨zfl_X8 (fun w h => List.mem_cons_of_mem _ (List.mem_append_right _ h)) (List.mem_of_getElem? (i := 2) rfl) (by decide) (by decide), fun _ h => absurd h List.not_mem_nil⟩))
    (zco_all (fun _ h => absurd h List.not_mem_nil)) (zlc_all (List.forall_mem_cons.mpr ⟨(List.mem_of_getElem? (i := 1) rfl), fun _ h => absurd h List.not_mem_nil⟩))
    (List.forall_mem_cons.mpr ⟨fun p e s m args below meth c A S hx => zcal_V hX S (c_X8_isHouse hX hN l) (cwV 1 S.2.2.2.2 gX8_house_X8_isHouse rfl rfl rfl (by decide +kernel) ⟨Nat.le_of_ble_eq_true rfl, Nat.le_of_ble_eq_true rfl⟩) rfl ⟨0, 8, _, _, _, rfl, rfl⟩ rfl, List.forall_mem_cons.mpr ⟨fun p e s m args below meth c A S hx => zcal_V hX S (c_X8_isDeed hX hN l) (cwV 1 S.2.2.2.2 gX8_house_X8_isDeed rfl rfl rfl (by decide +kernel) ⟨Nat.le_of_ble_eq_true rfl, Nat.le_of_ble_eq_true rfl⟩) rfl ⟨0, 8, _, _, _, rfl, rfl⟩ rfl, fun _ h => absurd h List.not_mem_nil⟩⟩)
    (List.forall_mem_cons.mpr ⟨fun p e s m args below meth c A S hx => zcal_S hX S (c_X8_in hX hN l) (va_cwS 3 S.2.2.2.2 gX8_house_X8_in rfl rfl rfl (by decide +kernel) ⟨Nat.le_of_ble_eq_true rfl, Nat.le_of_ble_eq_true rfl⟩) rfl, fun _ h => absurd h List.not_mem_nil⟩)
    (zmm_all (fun _ h => absurd h List.not_mem_nil)) (zpr_all hp_X8_house) ck_X8_house
def pr_X8_cost : List (Nat × Instr × Nat) := [(0, .aload_n 0, 1), (1, .iload_n 1, 1), (2, .invokevirtual 209, 3), (5, .ifCond .eq 12, 3), (8, .aload_n 0, 1), (9, .getfield 20, 3), (12, .iload_n 1, 1), (13, .iaload, 1), (14, .goto 4, 3), (17, .iconst (-1), 1), (18, .ireturn, 1)]
set_option maxRecDepth 100000 in
theorem hp_X8_cost : pr_X8_cost.all (fun x => decide (decode cX8_cost x.1 = .ok x.2)) = true := by decide +kernel
def ze_X8_cost : zE := [(1, (2, 7)), (2, (0, 1)), (3, (0, 5)), (4, (0, 7)), (5, (0, 1)), (6, (0, 1)), (7, (0, 5)), (8, ((-2147483648), 2147483647)), (9, ((-2147483648), 2147483647)), (10, (0, 160)), (11, (0, 160)), (12, (0, 160)), (13, (0, 3)), (14, ((-2147483648), 2147483647)), (15, (0, 6)), (16, ((-2147483648), 2147483647)), (17, (0, 10)), (18, ((-2147483648), 2147483647)), (19, ((-2147483648), 2147483647)), (20, (0, 10)), (21, (0, 4)), (22, (0, 10)), (23, (0, 4)), (24, (0, 10)), (25, (0, 4)), (26, (0, 10)), (27, (0, 4)), (28, (0, 10)), (29, (0, 4)), (30, ((-2147483648), 2147483647))]
def k_X8_cost : zK := (31, [0, 1, 2, 3, 4, 5, 6, 7, 8, 9, 10, 11, 12, 13, 14], (ze_X8_cost, [], [], [zr 0, zi 30 0], zw1, []), [([], [], [], [zi 0 (-1)], zw1, []),
  ([(31, ((-2147483648), 2147483647)), (3, (1, 5)), (30, (0, 4))], [(30, 3, (-1))], [], [zi 31 0], zw1, [])])
def bl_X8_cost : List (Nat × zS) := []
def tb_X8_cost : zTb := ([(20, 8, 6, 3)], [], [], [(209, k_X8_isDeed)], [], [])
def sp_X8_cost : zSp := []
set_option maxRecDepth 1000000 in
theorem ck0_X8_cost : zrun tb_X8_cost sp_X8_cost pr_X8_cost 2 1 k_X8_cost.1 k_X8_cost.2.1 k_X8_cost.2.2.2 bl_X8_cost false 2000 5031 (zst0 k_X8_cost) 0 = true := by decide +kernel
set_option maxRecDepth 1000000 in
theorem ck_X8_cost : zcheck tb_X8_cost sp_X8_cost pr_X8_cost 2 1 k_X8_cost bl_X8_cost 2000 5031 = true := zcheck_of (by decide +kernel) ck0_X8_cost (fun _ h => absurd h List.not_mem_nil)
set_option maxRecDepth 100000 in
set_option maxHeartbeats 4000000 in
theorem c_X8_cost {X : zXT} (hX : zXok X) (hN : zXn X) (l : Launch) : zMet X vwCl l yX8_cost wsX8_cost { frames := 3, cells := 0, slots := 0, locals := 110 } k_X8_cost :=
  zmeth (tb := tb_X8_cost) (pr := pr_X8_cost) (bl := bl_X8_cost) (rt := 1) (own := RX8) hX (by decide +kernel) rfl rfl ⟨Nat.le_of_ble_eq_true rfl, Nat.le_of_ble_eq_true rfl⟩
    (zfl_all (List.forall_mem_cons.mpr ⟨zfl_X8 (fun w h => List.mem_cons_of_mem _ (List.mem_append_right _ h)) (List.mem_of_getElem? (i := 1) rfl) (by decide) (by decide), fun _ h => absurd h List.not_mem_nil⟩))
    (zco_all (fun _ h => absurd h List.not_mem_nil)) (zlc_all (fun _ h => absurd h List.not_mem_nil))
    (List.forall_mem_cons.mpr ⟨fun p e s m args below meth c A S hx => zcal_V hX S (c_X8_isDeed hX hN l) (cwV 1 S.2.2.2.2 gX8_cost_X8_isDeed rfl rfl rfl (by decide +kernel) ⟨Nat.le_of_ble_eq_true rfl, Nat.le_of_ble_eq_true rfl⟩) rfl ⟨0, 8, _, _, _, rfl, rfl⟩ rfl, fun _ h => absurd h List.not_mem_nil⟩)
    (fun _ h => absurd h List.not_mem_nil)
    (zmm_all (fun _ h => absurd h List.not_mem_nil)) (zpr_all hp_X8_cost) ck_X8_cost
def pr_X8_vow : List (Nat × Instr × Nat) := [(0, .iload_n 1, 1), (1, .i2l, 1), (2, .lconst 0, 1), (3, .aload_n 0, 1), (4, .getfield 7, 3), (7, .bipush 77, 2), (9, .iaload, 1), (10, .iconst 1, 1), (11, .isub, 1), (12, .i2l, 1), (13, .invokestatic 90, 3), (16, .ifCond .eq 31, 3), (19, .iload_n 2, 1), (20, .i2l, 1), (21, .lconst 0, 1), (22, .ldc2_w 195, 3), (25, .invokestatic 90, 3), (28, .ifCond .eq 19, 3), (31, .aload_n 0, 1), (32, .getfield 7, 3), (35, .bipush 78, 2), (37, .iconst 4, 1), (38, .iload_n 1, 1), (39, .imul, 1), (40, .iadd, 1), (41, .iload_n 2, 1), (42, .iadd, 1), (43, .iaload, 1), (44, .goto 4, 3), (47, .iconst (-1), 1), (48, .ireturn, 1)]
set_option maxRecDepth 100000 in
theorem hp_X8_vow : pr_X8_vow.all (fun x => decide (decode cX8_vow x.1 = .ok x.2)) = true := by decide +kernel
def ze_X8_vow : zE := [(1, (2, 7)), (2, (0, 1)), (3, (0, 5)), (4, (0, 7)), (5, (0, 1)), (6, (0, 1)), (7, (0, 5)), (8, ((-2147483648), 2147483647)), (9, ((-2147483648), 2147483647)), (10, (0, 160)), (11, (0, 160)), (12, (0, 160)), (13, (0, 3)), (14, ((-2147483648), 2147483647)), (15, (0, 6)), (16, ((-2147483648), 2147483647)), (17, (0, 10)), (18, ((-2147483648), 2147483647)), (19, ((-2147483648), 2147483647)), (20, (0, 10)), (21, (0, 4)), (22, (0, 10)), (23, (0, 4)), (24, (0, 10)), (25, (0, 4)), (26, (0, 10)), (27, (0, 4)), (28, (0, 10)), (29, (0, 4)), (30, ((-2147483648), 2147483647)), (31, ((-2147483648), 2147483647))]
def k_X8_vow : zK := (32, [0, 1, 2, 3, 4, 5, 6, 7, 8, 9, 10, 11, 12, 13, 14], (ze_X8_vow, [], [], [zr 0, zi 30 0, zi 31 0], zw1, []), [([], [], [], [zi 0 (-1)], zw1, []),
  ([(32, ((-2147483648), 2147483647)), (30, (0, 9)), (31, (0, 3))], [(30, 20, (-1))], [], [zi 32 0], zw1, [])])
def bl_X8_vow : List (Nat × zS) := []
def tb_X8_vow : zTb := ([(7, 8, 0, 3)], [], [(195, 3)], [], [(90, k_X8_in)], [])
def sp_X8_vow : zSp := []
set_option maxRecDepth 1000000 in
theorem ck0_X8_vow : zrun tb_X8_vow sp_X8_vow pr_X8_vow 3 1 k_X8_vow.1 k_X8_vow.2.1 k_X8_vow.2.2.2 bl_X8_vow false 2000 5032 (zst0 k_X8_vow) 0 = true := by decide +kernel
set_option maxRecDepth 1000000 in
theorem ck_X8_vow : zcheck tb_X8_vow sp_X8_vow pr_X8_vow 3 1 k_X8_vow bl_X8_vow 2000 5032 = true := zcheck_of (by decide +kernel) ck0_X8_vow (fun _ h => absurd h List.not_mem_nil)
set_option maxRecDepth 100000 in
set_option maxHeartbeats 4000000 in
theorem c_X8_vow {X : zXT} (hX : zXok X) (hN : zXn X) (l : Launch) : zMet X vwCl l yX8_vow wsX8_vow { frames := 2, cells := 0, slots := 0, locals := 89 } k_X8_vow :=
  zmeth (tb := tb_X8_vow) (pr := pr_X8_vow) (bl := bl_X8_vow) (rt := 1) (own := RX8) hX (by decide +kernel) rfl rfl ⟨Nat.le_of_ble_eq_true rfl, Nat.le_of_ble_eq_true rfl⟩
    (zfl_all (List.forall_mem_cons.mpr ⟨zfl_X8 (fun w h => List.mem_cons_of_mem _ (List.mem_append_right _ h)) (List.mem_of_getElem? (i := 1) rfl) (by decide) (by decide), fun _ h => absurd h List.not_mem_nil⟩))
    (zco_all (fun _ h => absurd h List.not_mem_nil)) (zlc_all (List.forall_mem_cons.mpr ⟨(List.mem_of_getElem? (i := 2) rfl), fun _ h => absurd h List.not_mem_nil⟩))
    (fun _ h => absurd h List.not_mem_nil)
    (List.forall_mem_cons.mpr ⟨fun p e s m args below meth c A S hx => zcal_S hX S (c_X8_in hX hN l) (va_cwS 3 S.2.2.2.2 gX8_vow_X8_in rfl rfl rfl (by decide +kernel) ⟨Nat.le_of_ble_eq_true rfl, Nat.le_of_ble_eq_true rfl⟩) rfl, fun _ h => absurd h List.not_mem_nil⟩)
    (zmm_all (fun _ h => absurd h List.not_mem_nil)) (zpr_all hp_X8_vow) ck_X8_vow
def pr_X8_want : List (Nat × Instr × Nat) := [(0, .iload_n 1, 1), (1, .i2l, 1), (2, .lconst 0, 1), (3, .aload_n 0, 1), (4, .getfield 7, 3), (7, .bipush 118, 2), (9, .iaload, 1), (10, .iconst 1, 1), (11, .isub, 1), (12, .i2l, 1), (13, .invokestatic 90, 3), (16, .ifCond .eq 29, 3), (19, .iload_n 2, 1), (20, .i2l, 1), (21, .lconst 0, 1), (22, .lconst 1, 1), (23, .invokestatic 90, 3), (26, .ifCond .eq 19, 3), (29, .aload_n 0, 1), (30, .getfield 7, 3), (33, .bipush 119, 2), (35, .iconst 2, 1), (36, .iload_n 1, 1), (37, .imul, 1), (38, .iadd, 1), (39, .iload_n 2, 1), (40, .iadd, 1), (41, .iaload, 1), (42, .goto 4, 3), (45, .iconst (-1), 1), (46, .ireturn, 1)]
set_option maxRecDepth 100000 in
theorem hp_X8_want : pr_X8_want.all (fun x => decide (decode cX8_want x.1 = .ok x.2)) = true := by decide +kernel
def ze_X8_want : zE := [(1, (2, 7)), (2, (0, 1)), (3, (0, 5)), (4, (0, 7)), (5, (0, 1)), (6, (0, 1)), (7, (0, 5)), (8, ((-2147483648), 2147483647)), (9, ((-2147483648), 2147483647)), (10, (0, 160)), (11, (0, 160)), (12, (0, 160)), (13, (0, 3)), (14, ((-2147483648), 2147483647)), (15, (0, 6)), (16, ((-2147483648), 2147483647)), (17, (0, 10)), (18, ((-2147483648), 2147483647)), (19, ((-2147483648), 2147483647)), (20, (0, 10)), (21, (0, 4)), (22, (0, 10)), (23, (0, 4)), (24, (0, 10)), (25, (0, 4)), (26, (0, 10)), (27, (0, 4)), (28, (0, 10)), (29, (0, 4)), (30, ((-2147483648), 2147483647)), (31, ((-2147483648), 2147483647))]
def k_X8_want : zK := (32, [0, 1, 2, 3, 4, 5, 6, 7, 8, 9, 10, 11, 12, 13, 14], (ze_X8_want, [], [], [zr 0, zi 30 0, zi 31 0], zw1, []), [([], [], [], [zi 0 (-1)], zw1, []),
  ([(32, (0, 6)), (30, (0, 3)), (31, (0, 1))], [(30, 21, (-1))], [], [zi 32 0], zw1, [])])
def bl_X8_want : List (Nat × zS) := []
def tb_X8_want : zTb := ([(7, 8, 0, 3)], [], [], [], [(90, k_X8_in)], [])
def sp_X8_want : zSp := []
set_option maxRecDepth 1000000 in
theorem ck0_X8_want : zrun tb_X8_want sp_X8_want pr_X8_want 3 1 k_X8_want.1 k_X8_want.2.1 k_X8_want.2.2.2 bl_X8_want false 2000 5032 (zst0 k_X8_want) 0 = true := by decide +kernel
set_option maxRecDepth 1000000 in
theorem ck_X8_want : zcheck tb_X8_want sp_X8_want pr_X8_want 3 1 k_X8_want bl_X8_want 2000 5032 = true := zcheck_of (by decide +kernel) ck0_X8_want (fun _ h => absurd h List.not_mem_nil)
set_option maxRecDepth 100000 in
set_option maxHeartbeats 4000000 in
theorem c_X8_want {X : zXT} (hX : zXok X) (hN : zXn X) (l : Launch) : zMet X vwCl l yX8_want wsX8_want { frames := 2, cells := 0, slots := 0, locals := 89 } k_X8_want :=
  zmeth (tb := tb_X8_want) (pr := pr_X8_want) (bl := bl_X8_want) (rt := 1) (own := RX8) hX (by decide +kernel) rfl rfl ⟨Nat.le_of_ble_eq_true rfl, Nat.le_of_ble_eq_true rfl⟩
    (zfl_all (List.forall_mem_cons.mpr ⟨zfl_X8 (fun w h => List.mem_cons_of_mem _ (List.mem_append_right _ h)) (List.mem_of_getElem? (i := 1) rfl) (by decide) (by decide), fun _ h => absurd h List.not_mem_nil⟩))
    (zco_all (fun _ h => absurd h List.not_mem_nil)) (zlc_all (fun _ h => absurd h List.not_mem_nil))
    (fun _ h => absurd h List.not_mem_nil)
    (List.forall_mem_cons.mpr ⟨fun p e s m args below meth c A S hx => zcal_S hX S (c_X8_in hX hN l) (va_cwS 3 S.2.2.2.2 gX8_want_X8_in rfl rfl rfl (by decide +kernel) ⟨Nat.le_of_ble_eq_true rfl, Nat.le_of_ble_eq_true rfl⟩) rfl, fun _ h => absurd h List.not_mem_nil⟩)
    (zmm_all (fun _ h => absurd h List.not_mem_nil)) (zpr_all hp_X8_want) ck_X8_want
def pr_X8_torn : List (Nat × Instr × Nat) := [(0, .aload_n 0, 1), (1, .getfield 330, 3), (4, .ireturn, 1)]
set_option maxRecDepth 100000 in
theorem hp_X8_torn : pr_X8_torn.all (fun x => decide (decode cX8_torn x.1 = .ok x.2)) = true := by decide +kernel
def ze_X8_torn : zE := [(1, (2, 7)), (2, (0, 1)), (3, (0, 5)), (4, (0, 7)), (5, (0, 1)), (6, (0, 1)), (7, (0, 5)), (8, ((-2147483648), 2147483647)), (9, ((-2147483648), 2147483647)), (10, (0, 160)), (11, (0, 160)), (12, (0, 160)), (13, (0, 3)), (14, ((-2147483648), 2147483647)), (15, (0, 6)), (16, ((-2147483648), 2147483647)), (17, (0, 10)), (18, ((-2147483648), 2147483647)), (19, ((-2147483648), 2147483647)), (20, (0, 10)), (21, (0, 4)), (22, (0, 10)), (23, (0, 4)), (24, (0, 10)), (25, (0, 4)), (26, (0, 10)), (27, (0, 4)), (28, (0, 10)), (29, (0, 4))]
def k_X8_torn : zK := (30, [0, 1, 2, 3, 4, 5, 6, 7, 8, 9, 10, 11, 12, 13, 14], (ze_X8_torn, [], [], [zr 0], zw1, []), [([], [], [], [zi 19 0], zw1, [])])
def bl_X8_torn : List (Nat × zS) := []
def tb_X8_torn : zTb := ([(330, 8, 32, 0)], [], [], [], [], [])
def sp_X8_torn : zSp := []
set_option maxRecDepth 1000000 in
theorem ck0_X8_torn : zrun tb_X8_torn sp_X8_torn pr_X8_torn 1 1 k_X8_torn.1 k_X8_torn.2.1 k_X8_torn.2.2.2 bl_X8_torn false 2000 5030 (zst0 k_X8_torn) 0 = true := by decide +kernel
set_option maxRecDepth 1000000 in
theorem ck_X8_torn : zcheck tb_X8_torn sp_X8_torn pr_X8_torn 1 1 k_X8_torn bl_X8_torn 2000 5030 = true := zcheck_of (by decide +kernel) ck0_X8_torn (fun _ h => absurd h List.not_mem_nil)
set_option maxRecDepth 100000 in
set_option maxHeartbeats 4000000 in
theorem c_X8_torn {X : zXT} (hX : zXok X) (hN : zXn X) (l : Launch) : zMet X vwCl l yX8_torn wsX8_torn { frames := 1, cells := 0, slots := 0, locals := 64 } k_X8_torn :=
  zmeth (tb := tb_X8_torn) (pr := pr_X8_torn) (bl := bl_X8_torn) (rt := 1) (own := RX8) hX (by decide +kernel) rfl rfl ⟨Nat.le_of_ble_eq_true rfl, Nat.le_of_ble_eq_true rfl⟩
    (zfl_all (List.forall_mem_cons.mpr ⟨zfl_X8 (fun w h => List.mem_cons_of_mem _ (List.mem_append_right _ h)) (List.mem_of_getElem? (i := 1) rfl) (by decide) (by decide), fun _ h => absurd h List.not_mem_nil⟩))
    (zco_all (fun _ h => absurd h List.not_mem_nil)) (zlc_all (fun _ h => absurd h List.not_mem_nil))
    (fun _ h => absurd h List.not_mem_nil)
    (fun _ h => absurd h List.not_mem_nil)
    (zmm_all (fun _ h => absurd h List.not_mem_nil)) (zpr_all hp_X8_torn) ck_X8_torn
def pr_X8_becomes : List (Nat × Instr × Nat) := [(0, .aload_n 0, 1), (1, .getfield 7, 3), (4, .iload_n 1, 1), (5, .iaload, 1), (6, .istore_n 3, 1), (7, .aload_n 0, 1), (8, .getfield 7, 3), (11, .iload_n 1, 1), (12, .iload_n 2, 1), (13, .iastore, 1), (14, .iload_n 3, 1), (15, .ireturn, 1)]
set_option maxRecDepth 100000 in
theorem hp_X8_becomes : pr_X8_becomes.all (fun x => decide (decode cX8_becomes x.1 = .ok x.2)) = true := by decide +kernel
def ze_X8_becomes : zE := [(1, (2, 7)), (2, (0, 1)), (3, (0, 5)), (4, (0, 7)), (5, (0, 1)), (6, (0, 1)), (7, (0, 5)), (8, ((-2147483648), 2147483647)), (9, ((-2147483648), 2147483647)), (10, (0, 160)), (11, (0, 160)), (12, (0, 160)), (13, (0, 3)), (14, ((-2147483648), 2147483647)), (15, (0, 6)), (16, ((-2147483648), 2147483647)), (17, (0, 10)), (18, ((-2147483648), 2147483647)), (19, ((-2147483648), 2147483647)), (20, (0, 10)), (21, (0, 4)), (22, (0, 10)), (23, (0, 4)), (24, (0, 10)), (25, (0, 4)), (26, (0, 10)), (27, (0, 4)), (28, (0, 10)), (29, (0, 4)), (30, (0, 27)), (31, ((-2147483648), 2147483647))]
def k_X8_becomes : zK := (32, [0, 1, 2, 3, 4, 5, 6, 7, 8, 9, 10, 11, 12, 13, 14], (ze_X8_becomes, [], [], [zr 0, zi 30 0, zi 31 0], zw1, []), [([(32, ((-2147483648), 2147483647))], [], [], [zi 32 0], zw1, [])])
def bl_X8_becomes : List (Nat × zS) := []
def tb_X8_becomes : zTb := ([(7, 8, 0, 3)], [], [], [], [], [])
def sp_X8_becomes : zSp := []
set_option maxRecDepth 1000000 in
theorem ck0_X8_becomes : zrun tb_X8_becomes sp_X8_becomes pr_X8_becomes 4 1 k_X8_becomes.1 k_X8_becomes.2.1 k_X8_becomes.2.2.2 bl_X8_becomes false 2000 5032 (zst0 k_X8_becomes) 0 = true := by decide +kernel
set_option maxRecDepth 1000000 in
theorem ck_X8_becomes : zcheck tb_X8_becomes sp_X8_becomes pr_X8_becomes 4 1 k_X8_becomes bl_X8_becomes 2000 5032 = true := zcheck_of (by decide +kernel) ck0_X8_becomes (fun _ h => absurd h List.not_mem_nil)
set_option maxRecDepth 100000 in
set_option maxHeartbeats 4000000 in
theorem c_X8_becomes {X : zXT} (hX : zXok X) (hN : zXn X) (l : Launch) : zMet X vwCl l yX8_becomes wsX8_becomes { frames := 1, cells := 0, slots := 0, locals := 64 } k_X8_becomes :=
  zmeth (tb := tb_X8_becomes) (pr := pr_X8_becomes) (bl := bl_X8_becomes) (rt := 1) (own := RX8) hX (by decide +kernel) rfl rfl ⟨Nat.le_of_ble_eq_true rfl, Nat.le_of_ble_eq_true rfl⟩
    (zfl_all (List.forall_mem_cons.mpr ⟨zfl_X8 (fun w h => List.mem_cons_of_mem _ (List.mem_append_right _ h)) (List.mem_of_getElem? (i := 1) rfl) (by decide) (by decide), fun _ h => absurd h List.not_mem_nil⟩))
    (zco_all (fun _ h => absurd h List.not_mem_nil)) (zlc_all (fun _ h => absurd h List.not_mem_nil))
    (fun _ h => absurd h List.not_mem_nil)
    (fun _ h => absurd h List.not_mem_nil)
    (zmm_all (fun _ h => absurd h List.not_mem_nil)) (zpr_all hp_X8_becomes) ck_X8_becomes
def ze_X8_becomes_2 : zE := [(1, (2, 7)), (2, (0, 1)), (3, (0, 5)), (4, (0, 7)), (5, (0, 1)), (6, (0, 1)), (7, (0, 5)), (8, ((-2147483648), 2147483647)), (9, ((-2147483648), 2147483647)), (10, (0, 160)), (11, (0, 160)), (12, (0, 160)), (13, (0, 3)), (14, ((-2147483648), 2147483647)), (15, (0, 6)), (16, ((-2147483648), 2147483647)), (17, (0, 10)), (18, ((-2147483648), 2147483647)), (19, ((-2147483648), 2147483647)), (20, (0, 10)), (21, (0, 4)), (22, (0, 10)), (23, (0, 4)), (24, (0, 10)), (25, (0, 4)), (26, (0, 10)), (27, (0, 4)), (28, (0, 10)), (29, (0, 4)), (30, (35, 76)), (31, ((-2147483648), 2147483647))]
def k_X8_becomes_2 : zK := (32, [0, 1, 2, 3, 4, 5, 6, 7, 8, 9, 10, 11, 12, 13, 14], (ze_X8_becomes_2, [], [], [zr 0, zi 30 0, zi 31 0], zw1, []), [([(32, ((-2147483648), 2147483647))], [], [], [zi 32 0], zw1, [])])
def bl_X8_becomes_2 : List (Nat × zS) := []
def tb_X8_becomes_2 : zTb := ([(7, 8, 0, 3)], [], [], [], [], [])
def sp_X8_becomes_2 : zSp := []
set_option maxRecDepth 1000000 in
theorem ck0_X8_becomes_2 : zrun tb_X8_becomes_2 sp_X8_becomes_2 pr_X8_becomes 4 1 k_X8_becomes_2.1 k_X8_becomes_2.2.1 k_X8_becomes_2.2.2.2 bl_X8_becomes_2 false 2000 5032 (zst0 k_X8_becomes_2) 0 = true := by decide +kernel
set_option maxRecDepth 1000000 in
theorem ck_X8_becomes_2 : zcheck tb_X8_becomes_2 sp_X8_becomes_2 pr_X8_becomes 4 1 k_X8_becomes_2 bl_X8_becomes_2 2000 5032 = true := zcheck_of (by decide +kernel) ck0_X8_becomes_2 (fun _ h => absurd h List.not_mem_nil)
set_option maxRecDepth 100000 in
set_option maxHeartbeats 4000000 in
theorem c_X8_becomes_2 {X : zXT} (hX : zXok X) (hN : zXn X) (l : Launch) : zMet X vwCl l yX8_becomes wsX8_becomes { frames := 1, cells := 0, slots := 0, locals := 64 } k_X8_becomes_2 :=
  zmeth (tb := tb_X8_becomes_2) (pr := pr_X8_becomes) (bl := bl_X8_becomes_2) (rt := 1) (own := RX8) hX (by decide +kernel) rfl rfl ⟨Nat.le_of_ble_eq_true rfl, Nat.le_of_ble_eq_true rfl⟩
    (zfl_all (List.forall_mem_cons.mpr ⟨zfl_X8 (fun w h => List.mem_cons_of_mem _ (List.mem_append_right _ h)) (List.mem_of_getElem? (i := 1) rfl) (by decide) (by decide), fun _ h => absurd h List.not_mem_nil⟩))
    (zco_all (fun _ h => absurd h List.not_mem_nil)) (zlc_all (fun _ h => absurd h List.not_mem_nil))
    (fun _ h => absurd h List.not_mem_nil)
    (fun _ h => absurd h List.not_mem_nil)
    (zmm_all (fun _ h => absurd h List.not_mem_nil)) (zpr_all hp_X8_becomes) ck_X8_becomes_2
def ze_X8_becomes_3 : zE := [(1, (2, 7)), (2, (0, 1)), (3, (0, 5)), (4, (0, 7)), (5, (0, 1)), (6, (0, 1)), (7, (0, 5)), (8, ((-2147483648), 2147483647)), (9, ((-2147483648), 2147483647)), (10, (0, 160)), (11, (0, 160)), (12, (0, 160)), (13, (0, 3)), (14, ((-2147483648), 2147483647)), (15, (0, 6)), (16, ((-2147483648), 2147483647)), (17, (0, 10)), (18, ((-2147483648), 2147483647)), (19, ((-2147483648), 2147483647)), (20, (0, 10)), (21, (0, 4)), (22, (0, 10)), (23, (0, 4)), (24, (0, 10)), (25, (0, 4)), (26, (0, 10)), (27, (0, 4)), (28, (0, 10)), (29, (0, 4)), (30, (77, 77)), (31, (0, 10))]
def k_X8_becomes_3 : zK := (32, [0, 1, 2, 3, 4, 5, 6, 7, 8, 9, 10, 11, 12, 13, 14], (ze_X8_becomes_3, [], [], [zr 0, zi 30 0, zi 31 0], zw1, []), [([], [], [], [zi 20 0], zgs (zw1) 1 3 (.inr (31, 0)), [])])
def bl_X8_becomes_3 : List (Nat × zS) := []
def tb_X8_becomes_3 : zTb := ([(7, 8, 0, 3)], [], [], [], [], [])
def sp_X8_becomes_3 : zSp := []
set_option maxRecDepth 1000000 in
theorem ck0_X8_becomes_3 : zrun tb_X8_becomes_3 sp_X8_becomes_3 pr_X8_becomes 4 1 k_X8_becomes_3.1 k_X8_becomes_3.2.1 k_X8_becomes_3.2.2.2 bl_X8_becomes_3 false 2000 5032 (zst0 k_X8_becomes_3) 0 = true := by decide +kernel
set_option maxRecDepth 1000000 in
theorem ck_X8_becomes_3 : zcheck tb_X8_becomes_3 sp_X8_becomes_3 pr_X8_becomes 4 1 k_X8_becomes_3 bl_X8_becomes_3 2000 5032 = true := zcheck_of (by decide +kernel) ck0_X8_becomes_3 (fun _ h => absurd h List.not_mem_nil)
set_option maxRecDepth 100000 in
set_option maxHeartbeats 4000000 in
theorem c_X8_becomes_3 {X : zXT} (hX : zXok X) (hN : zXn X) (l : Launch) : zMet X vwCl l yX8_becomes wsX8_becomes { frames := 1, cells := 0, slots := 0, locals := 64 } k_X8_becomes_3 :=
  zmeth (tb := tb_X8_becomes_3) (pr := pr_X8_becomes) (bl := bl_X8_becomes_3) (rt := 1) (own := RX8) hX (by decide +kernel) rfl rfl ⟨Nat.le_of_ble_eq_true rfl, Nat.le_of_ble_eq_true rfl⟩
    (zfl_all (List.forall_mem_cons.mpr ⟨zfl_X8 (fun w h => List.mem_cons_of_mem _ (List.mem_append_right _ h)) (List.mem_of_getElem? (i := 1) rfl) (by decide) (by decide), fun _ h => absurd h List.not_mem_nil⟩))
    (zco_all (fun _ h => absurd h List.not_mem_nil)) (zlc_all (fun _ h => absurd h List.not_mem_nil))
    (fun _ h => absurd h List.not_mem_nil)
    (fun _ h => absurd h List.not_mem_nil)
    (zmm_all (fun _ h => absurd h List.not_mem_nil)) (zpr_all hp_X8_becomes) ck_X8_becomes_3
def ze_X8_becomes_4 : zE := [(1, (2, 7)), (2, (0, 1)), (3, (0, 5)), (4, (0, 7)), (5, (0, 1)), (6, (0, 1)), (7, (0, 5)), (8, ((-2147483648), 2147483647)), (9, ((-2147483648), 2147483647)), (10, (0, 160)), (11, (0, 160)), (12, (0, 160)), (13, (0, 3)), (14, ((-2147483648), 2147483647)), (15, (0, 6)), (16, ((-2147483648), 2147483647)), (17, (0, 10)), (18, ((-2147483648), 2147483647)), (19, ((-2147483648), 2147483647)), (20, (0, 10)), (21, (0, 4)), (22, (0, 10)), (23, (0, 4)), (24, (0, 10)), (25, (0, 4)), (26, (0, 10)), (27, (0, 4)), (28, (0, 10)), (29, (0, 4)), (30, (118, 118)), (31, (0, 4))]
def k_X8_becomes_4 : zK := (32, [0, 1, 2, 3, 4, 5, 6, 7, 8, 9, 10, 11, 12, 13, 14], (ze_X8_becomes_4, [], [], [zr 0, zi 30 0, zi 31 0], zw1, []), [([], [], [], [zi 21 0], zgs (zw1) 1 34 (.inr (31, 0)), [])])
def bl_X8_becomes_4 : List (Nat × zS) := []
def tb_X8_becomes_4 : zTb := ([(7, 8, 0, 3)], [], [], [], [], [])
def sp_X8_becomes_4 : zSp := []
set_option maxRecDepth 1000000 in
theorem ck0_X8_becomes_4 : zrun tb_X8_becomes_4 sp_X8_becomes_4 pr_X8_becomes 4 1 k_X8_becomes_4.1 k_X8_becomes_4.2.1 k_X8_becomes_4.2.2.2 bl_X8_becomes_4 false 2000 5032 (zst0 k_X8_becomes_4) 0 = true := by decide +kernel
set_option maxRecDepth 1000000 in
theorem ck_X8_becomes_4 : zcheck tb_X8_becomes_4 sp_X8_becomes_4 pr_X8_becomes 4 1 k_X8_becomes_4 bl_X8_becomes_4 2000 5032 = true := zcheck_of (by decide +kernel) ck0_X8_becomes_4 (fun _ h => absurd h List.not_mem_nil)
set_option maxRecDepth 100000 in
set_option maxHeartbeats 4000000 in
theorem c_X8_becomes_4 {X : zXT} (hX : zXok X) (hN : zXn X) (l : Launch) : zMet X vwCl l yX8_becomes wsX8_becomes { frames := 1, cells := 0, slots := 0, locals := 64 } k_X8_becomes_4 :=
  zmeth (tb := tb_X8_becomes_4) (pr := pr_X8_becomes) (bl := bl_X8_becomes_4) (rt := 1) (own := RX8) hX (by decide +kernel) rfl rfl ⟨Nat.le_of_ble_eq_true rfl, Nat.le_of_ble_eq_true rfl⟩
    (zfl_all (List.forall_mem_cons.mpr ⟨zfl_X8 (fun w h => List.mem_cons_of_mem _ (List.mem_append_right _ h)) (List.mem_of_getElem? (i := 1) rfl) (by decide) (by decide), fun _ h => absurd h List.not_mem_nil⟩))
    (zco_all (fun _ h => absurd h List.not_mem_nil)) (zlc_all (fun _ h => absurd h List.not_mem_nil))
    (fun _ h => absurd h List.not_mem_nil)
    (fun _ h => absurd h List.not_mem_nil)
    (zmm_all (fun _ h => absurd h List.not_mem_nil)) (zpr_all hp_X8_becomes) ck_X8_becomes_4
def pr_X8_fund : List (Nat × Instr × Nat) := [(0, .aload_n 0, 1), (1, .iload_n 1, 1), (2, .invokevirtual 205, 3), (5, .ifCond .eq 26, 3), (8, .iload_n 2, 1), (9, .i2l, 1), (10, .lconst 0, 1), (11, .ldc2_w 212, 3), (14, .invokestatic 90, 3), (17, .ifCond .eq 14, 3), (20, .aload_n 0, 1), (21, .iconst 0, 1), (22, .iload_n 1, 1), (23, .iadd, 1), (24, .iload_n 2, 1), (25, .invokevirtual 214, 3), (28, .goto 4, 3), (31, .iconst (-1), 1), (32, .ireturn, 1)]
set_option maxRecDepth 100000 in
theorem hp_X8_fund : pr_X8_fund.all (fun x => decide (decode cX8_fund x.1 = .ok x.2)) = true := by decide +kernel
def ze_X8_fund : zE := [(1, (2, 7)), (2, (0, 1)), (3, (0, 5)), (4, (0, 7)), (5, (0, 1)), (6, (0, 1)), (7, (0, 5)), (8, ((-2147483648), 2147483647)), (9, ((-2147483648), 2147483647)), (10, (0, 160)), (11, (0, 160)), (12, (0, 160)), (13, (0, 3)), (14, ((-2147483648), 2147483647)), (15, (0, 6)), (16, ((-2147483648), 2147483647)), (17, (0, 10)), (18, ((-2147483648), 2147483647)), (19, ((-2147483648), 2147483647)), (20, (0, 10)), (21, (0, 4)), (22, (0, 10)), (23, (0, 4)), (24, (0, 10)), (25, (0, 4)), (26, (0, 10)), (27, (0, 4)), (28, (0, 10)), (29, (0, 4)), (30, ((-2147483648), 2147483647)), (31, ((-2147483648), 2147483647))]
def k_X8_fund : zK := (32, [0, 1, 2, 3, 4, 5, 6, 7, 8, 9, 10, 11, 12, 13, 14], (ze_X8_fund, [], [], [zr 0, zi 30 0, zi 31 0], zw1, []), [([], [], [], [zi 0 (-1)], zw1, []),
  ([(32, ((-2147483648), 2147483647)), (30, (0, 6)), (31, (0, 99))], [(30, 1, (-1))], [], [zi 32 0], zw1, [])])
def bl_X8_fund : List (Nat × zS) := []
def tb_X8_fund : zTb := ([], [], [(212, 99)], [(205, k_X8_isHouse), (214, k_X8_becomes)], [(90, k_X8_in)], [])
def sp_X8_fund : zSp := []
set_option maxRecDepth 1000000 in
theorem ck0_X8_fund : zrun tb_X8_fund sp_X8_fund pr_X8_fund 3 1 k_X8_fund.1 k_X8_fund.2.1 k_X8_fund.2.2.2 bl_X8_fund false 2000 5032 (zst0 k_X8_fund) 0 = true := by decide +kernel
set_option maxRecDepth 1000000 in
theorem ck_X8_fund : zcheck tb_X8_fund sp_X8_fund pr_X8_fund 3 1 k_X8_fund bl_X8_fund 2000 5032 = true := zcheck_of (by decide +kernel) ck0_X8_fund (fun _ h => absurd h List.not_mem_nil)
set_option maxRecDepth 100000 in
set_option maxHeartbeats 4000000 in
theorem c_X8_fund {X : zXT} (hX : zXok X) (hN : zXn X) (l : Launch) : zMet X vwCl l yX8_fund wsX8_fund { frames := 3, cells := 0, slots := 0, locals := 110 } k_X8_fund :=
  zmeth (tb := tb_X8_fund) (pr := pr_X8_fund) (bl := bl_X8_fund) (rt := 1) (own := RX8) hX (by decide +kernel) rfl rfl ⟨Nat.le_of_ble_eq_true rfl, Nat.le_of_ble_eq_true rfl⟩
    (zfl_all (fun _ h => absurd h List.not_mem_nil))
    (zco_all (fun _ h => absurd h List.not_mem_nil)) (zlc_all (List.forall_mem_cons.mpr ⟨(List.mem_of_getElem? (i := 1) rfl), fun _ h => absurd h List.not_mem_nil⟩))
    (List.forall_mem_cons.mpr ⟨fun p e s m args below meth c A S hx => zcal_V hX S (c_X8_isHouse hX hN l) (cwV 1 S.2.2.2.2 gX8_fund_X8_isHouse rfl rfl rfl (by decide +kernel) ⟨Nat.le_of_ble_eq_true rfl, Nat.le_of_ble_eq_true rfl⟩) rfl ⟨0, 8, _, _, _, rfl, rfl⟩ rfl, List.forall_mem_cons.mpr ⟨fun p e s m args below meth c A S hx => zcal_V hX S (c_X8_becomes hX hN l) (cwV 2 S.2.2.2.2 gX8_fund_X8_becomes rfl rfl rfl (by decide +kernel) ⟨Nat.le_of_ble_eq_true rfl, Nat.le_of_ble_eq_true rfl⟩) rfl ⟨0, 8, _, _, _, rfl, rfl⟩ rfl, fun _ h => absurd h List.not_mem_nil⟩⟩)
    (List.forall_mem_cons.mpr ⟨fun p e s m args below meth c A S hx => zcal_S hX S (c_X8_in hX hN l) (va_cwS 3 S.2.2.2.2 gX8_fund_X8_in rfl rfl rfl (by decide +kernel) ⟨Nat.le_of_ble_eq_true rfl, Nat.le_of_ble_eq_true rfl⟩) rfl, fun _ h => absurd h List.not_mem_nil⟩)
    (zmm_all (fun _ h => absurd h List.not_mem_nil)) (zpr_all hp_X8_fund) ck_X8_fund
def pr_X8_can : List (Nat × Instr × Nat) := [(0, .aload_n 0, 1), (1, .iload_n 1, 1), (2, .invokevirtual 205, 3), (5, .ifCond .eq 11, 3), (8, .aload_n 0, 1), (9, .iload_n 2, 1), (10, .invokevirtual 209, 3), (13, .ifCond .ne 5, 3), (16, .iconst (-1), 1), (17, .ireturn, 1), (18, .aload_n 0, 1), (19, .getfield 7, 3), (22, .bipush 7, 2), (24, .iload_n 1, 1), (25, .iadd, 1), (26, .iaload, 1), (27, .iload_n 2, 1), (28, .ishr, 1), (29, .iconst 1, 1), (30, .iand, 1), (31, .istore 4, 2), (33, .aload_n 0, 1), (34, .getfield 7, 3), (37, .bipush 7, 2), (39, .iload_n 1, 1), (40, .iadd, 1), (41, .iload_n 3, 1), (42, .ifCond .eq 19, 3), (45, .aload_n 0, 1), (46, .getfield 7, 3), (49, .bipush 7, 2), (51, .iload_n 1, 1), (52, .iadd, 1), (53, .iaload, 1), (54, .iconst 1, 1), (55, .iload_n 2, 1), (56, .ishl, 1), (57, .ior, 1), (58, .goto 18, 3), (61, .aload_n 0, 1), (62, .getfield 7, 3), (65, .bipush 7, 2), (67, .iload_n 1, 1), (68, .iadd, 1), (69, .iaload, 1), (70, .iconst 1, 1), (71, .iload_n 2, 1), (72, .ishl, 1), (73, .iconst (-1), 1), (74, .ixor, 1), (75, .iand, 1), (76, .iastore, 1), (77, .iload 4, 2), (79, .ireturn, 1)]
set_option maxRecDepth 100000 in
theorem hp_X8_can : pr_X8_can.all (fun x => decide (decode cX8_can x.1 = .ok x.2)) = true := by decide +kernel
def ze_X8_can : zE := [(1, (2, 7)), (2, (0, 1)), (3, (0, 5)), (4, (0, 7)), (5, (0, 1)), (6, (0, 1)), (7, (0, 5)), (8, ((-2147483648), 2147483647)), (9, ((-2147483648), 2147483647)), (10, (0, 160)), (11, (0, 160)), (12, (0, 160)), (13, (0, 3)), (14, ((-2147483648), 2147483647)), (15, (0, 6)), (16, ((-2147483648), 2147483647)), (17, (0, 10)), (18, ((-2147483648), 2147483647)), (19, ((-2147483648), 2147483647)), (20, (0, 10)), (21, (0, 4)), (22, (0, 10)), (23, (0, 4)), (24, (0, 10)), (25, (0, 4)), (26, (0, 10)), (27, (0, 4)), (28, (0, 10)), (29, (0, 4)), (30, ((-2147483648), 2147483647)), (31, ((-2147483648), 2147483647)), (32, (0, 1))]
def k_X8_can : zK := (33, [0, 1, 2, 3, 4, 5, 6, 7, 8, 9, 10, 11, 12, 13, 14], (ze_X8_can, [], [], [zr 0, zi 30 0, zi 31 0, zi 32 0], zw1, []), [([], [], [], [zi 0 (-1)], zw1, []),
  ([(33, (0, 1)), (3, (1, 5)), (30, (0, 6)), (31, (0, 4))], [(30, 1, (-1)), (31, 3, (-1))], [], [zi 33 0], zw1, [])])
def bl_X8_can : List (Nat × zS) := []
def tb_X8_can : zTb := ([(7, 8, 0, 3)], [], [], [(205, k_X8_isHouse), (209, k_X8_isDeed)], [], [])
def sp_X8_can : zSp := []
set_option maxRecDepth 1000000 in
theorem ck0_X8_can : zrun tb_X8_can sp_X8_can pr_X8_can 5 1 k_X8_can.1 k_X8_can.2.1 k_X8_can.2.2.2 bl_X8_can false 2000 5033 (zst0 k_X8_can) 0 = true := by decide +kernel
set_option maxRecDepth 1000000 in
theorem ck_X8_can : zcheck tb_X8_can sp_X8_can pr_X8_can 5 1 k_X8_can bl_X8_can 2000 5033 = true := zcheck_of (by decide +kernel) ck0_X8_can (fun _ h => absurd h List.not_mem_nil)
set_option maxRecDepth 100000 in
set_option maxHeartbeats 4000000 in
theorem c_X8_can {X : zXT} (hX : zXok X) (hN : zXn X) (l : Launch) : zMet X vwCl l yX8_can wsX8_can { frames := 3, cells := 0, slots := 0, locals := 110 } k_X8_can :=
  zmeth (tb := tb_X8_can) (pr := pr_X8_can) (bl := bl_X8_can) (rt := 1) (own := RX8) hX (by decide +kernel) rfl rfl ⟨Nat.le_of_ble_eq_true rfl, Nat.le_of_ble_eq_true rfl⟩
    (zfl_all (List.forall_mem_cons.mpr ⟨zfl_X8 (fun w h => List.mem_cons_of_mem _ (List.mem_append_right _ h)) (List.mem_of_getElem? (i := 1) rfl) (by decide) (by decide), fun _ h => absurd h List.not_mem_nil⟩))
    (zco_all (fun _ h => absurd h List.not_mem_nil)) (zlc_all (fun _ h => absurd h List.not_mem_nil))
    (List.forall_mem_cons.mpr ⟨fun p e s m args below meth c A S hx => zcal_V hX S (c_X8_isHouse hX hN l) (cwV 1 S.2.2.2.2 gX8_can_X8_isHouse rfl rfl rfl (by decide +kernel) ⟨Nat.le_of_ble_eq_true rfl, Nat.le_of_ble_eq_true rfl⟩) rfl ⟨0, 8, _, _, _, rfl, rfl⟩ rfl, List.forall_mem_cons.mpr ⟨fun p e s m args below meth c A S hx => zcal_V hX S (c_X8_isDeed hX hN l) (cwV 1 S.2.2.2.2 gX8_can_X8_isDeed rfl rfl rfl (by decide +kernel) ⟨Nat.le_of_ble_eq_true rfl, Nat.le_of_ble_eq_true rfl⟩) rfl ⟨0, 8, _, _, _, rfl, rfl⟩ rfl, fun _ h => absurd h List.not_mem_nil⟩⟩)
    (fun _ h => absurd h List.not_mem_nil)
    (zmm_all (fun _ h => absurd h List.not_mem_nil)) (zpr_all hp_X8_can) ck_X8_can
def pr_X8_lawyer : List (Nat × Instr × Nat) := [(0, .aload_n 0, 1), (1, .iload_n 1, 1), (2, .invokevirtual 205, 3), (5, .ifCond .eq 18, 3), (8, .aload_n 0, 1), (9, .bipush 14, 2), (11, .iload_n 1, 1), (12, .iadd, 1), (13, .iload_n 2, 1), (14, .invokestatic 197, 3), (17, .invokevirtual 214, 3), (20, .goto 4, 3), (23, .iconst (-1), 1), (24, .ireturn, 1)]
set_option maxRecDepth 100000 in
theorem hp_X8_lawyer : pr_X8_lawyer.all (fun x => decide (decode cX8_lawyer x.1 = .ok x.2)) = true := by decide +kernel
def ze_X8_lawyer : zE := [(1, (2, 7)), (2, (0, 1)), (3, (0, 5)), (4, (0, 7)), (5, (0, 1)), (6, (0, 1)), (7, (0, 5)), (8, ((-2147483648), 2147483647)), (9, ((-2147483648), 2147483647)), (10, (0, 160)), (11, (0, 160)), (12, (0, 160)), (13, (0, 3)), (14, ((-2147483648), 2147483647)), (15, (0, 6)), (16, ((-2147483648), 2147483647)), (17, (0, 10)), (18, ((-2147483648), 2147483647)), (19, ((-2147483648), 2147483647)), (20, (0, 10)), (21, (0, 4)), (22, (0, 10)), (23, (0, 4)), (24, (0, 10)), (25, (0, 4)), (26, (0, 10)), (27, (0, 4)), (28, (0, 10)), (29, (0, 4)), (30, ((-2147483648), 2147483647)), (31, (0, 1))]
def k_X8_lawyer : zK := (32, [0, 1, 2, 3, 4, 5, 6, 7, 8, 9, 10, 11, 12, 13, 14], (ze_X8_lawyer, [], [], [zr 0, zi 30 0, zi 31 0], zw1, []), [([], [], [], [zi 0 (-1)], zw1, []),
  ([(32, ((-2147483648), 2147483647)), (30, (0, 6))], [(30, 1, (-1))], [], [zi 32 0], zw1, [])])
def bl_X8_lawyer : List (Nat × zS) := []
def tb_X8_lawyer : zTb := ([], [], [], [(205, k_X8_isHouse), (214, k_X8_becomes)], [(197, k_X8_flag)], [])
def sp_X8_lawyer : zSp := []
set_option maxRecDepth 1000000 in
theorem ck0_X8_lawyer : zrun tb_X8_lawyer sp_X8_lawyer pr_X8_lawyer 3 1 k_X8_lawyer.1 k_X8_lawyer.2.1 k_X8_lawyer.2.2.2 bl_X8_lawyer false 2000 5032 (zst0 k_X8_lawyer) 0 = true := by decide +kernel
set_option maxRecDepth 1000000 in
theorem ck_X8_lawyer : zcheck tb_X8_lawyer sp_X8_lawyer pr_X8_lawyer 3 1 k_X8_lawyer bl_X8_lawyer 2000 5032 = true := zcheck_of (by decide +kernel) ck0_X8_lawyer (fun _ h => absurd h List.not_mem_nil)
set_option maxRecDepth 100000 in
set_option maxHeartbeats 4000000 in
theorem c_X8_lawyer {X : zXT} (hX : zXok X) (hN : zXn X) (l : Launch) : zMet X vwCl l yX8_lawyer wsX8_lawyer { frames := 3, cells := 0, slots := 0, locals := 110 } k_X8_lawyer :=
  zmeth (tb := tb_X8_lawyer) (pr := pr_X8_lawyer) (bl := bl_X8_lawyer) (rt := 1) (own := RX8) hX (by decide +kernel) rfl rfl ⟨Nat.le_of_ble_eq_true rfl, Nat.le_of_ble_eq_true rfl⟩
    (zfl_all (fun _ h => absurd h List.not_mem_nil))
    (zco_all (fun _ h => absurd h List.not_mem_nil)) (zlc_all (fun _ h => absurd h List.not_mem_nil))
    (List.forall_mem_cons.mpr ⟨fun p e s m args below meth c A S hx => zcal_V hX S (c_X8_isHouse hX hN l) (cwV 1 S.2.2.2.2 gX8_lawyer_X8_isHouse rfl rfl rfl (by decide +kernel) ⟨Nat.le_of_ble_eq_true rfl, Nat.le_of_ble_eq_true rfl⟩) rfl ⟨0, 8, _, _, _, rfl, rfl⟩ rfl, List.forall_mem_cons.mpr ⟨fun p e s m args below meth c A S hx => zcal_V hX S (c_X8_becomes hX hN l) (cwV 2 S.2.2.2.2 gX8_lawyer_X8_becomes rfl rfl rfl (by decide +kernel) ⟨Nat.le_of_ble_eq_true rfl, Nat.le_of_ble_eq_true rfl⟩) rfl ⟨0, 8, _, _, _, rfl, rfl⟩ rfl, fun _ h => absurd h List.not_mem_nil⟩⟩)
    (List.forall_mem_cons.mpr ⟨fun p e s m args below meth c A S hx => zcal_S hX S (c_X8_flag hX hN l) (va_cwS 1 S.2.2.2.2 gX8_lawyer_X8_flag rfl rfl rfl (by decide +kernel) ⟨Nat.le_of_ble_eq_true rfl, Nat.le_of_ble_eq_true rfl⟩) rfl, fun _ h => absurd h List.not_mem_nil⟩)
    (zmm_all (fun _ h => absurd h List.not_mem_nil)) (zpr_all hp_X8_lawyer) ck_X8_lawyer
def pr_X8_habit : List (Nat × Instr × Nat) := [(0, .aload_n 0, 1), (1, .iload_n 1, 1), (2, .invokevirtual 205, 3), (5, .ifCond .eq 31, 3), (8, .iload_n 2, 1), (9, .invokestatic 217, 3), (12, .ifCond .eq 24, 3), (15, .aload_n 0, 1), (16, .iload_n 3, 1), (17, .invokevirtual 209, 3), (20, .ifCond .eq 16, 3), (23, .iload 4, 2), (25, .i2l, 1), (26, .lconst 0, 1), (27, .ldc2_w 220, 3), (30, .invokestatic 90, 3), (33, .ifCond .ne 5, 3), (36, .iconst (-1), 1), (37, .ireturn, 1), (38, .aload_n 0, 1), (39, .getfield 7, 3), (42, .bipush 21, 2), (44, .iload_n 1, 1), (45, .iadd, 1), (46, .iload_n 2, 1), (47, .iastore, 1), (48, .aload_n 0, 1), (49, .getfield 7, 3), (52, .bipush 28, 2), (54, .iload_n 1, 1), (55, .iadd, 1), (56, .iload_n 3, 1), (57, .iastore, 1), (58, .aload_n 0, 1), (59, .bipush 35, 2), (61, .iload_n 1, 1), (62, .iadd, 1), (63, .iload 4, 2), (65, .invokevirtual 214, 3), (68, .ireturn, 1)]
set_option maxRecDepth 100000 in
theorem hp_X8_habit : pr_X8_habit.all (fun x => decide (decode cX8_habit x.1 = .ok x.2)) = true := by decide +kernel
def ze_X8_habit : zE := [(1, (2, 7)), (2, (0, 1)), (3, (0, 5)), (4, (0, 7)), (5, (0, 1)), (6, (0, 1)), (7, (0, 5)), (8, ((-2147483648), 2147483647)), (9, ((-2147483648), 2147483647)), (10, (0, 160)), (11, (0, 160)), (12, (0, 160)), (13, (0, 3)), (14, ((-2147483648), 2147483647)), (15, (0, 6)), (16, ((-2147483648), 2147483647)), (17, (0, 10)), (18, ((-2147483648), 2147483647)), (19, ((-2147483648), 2147483647)), (20, (0, 10)), (21, (0, 4)), (22, (0, 10)), (23, (0, 4)), (24, (0, 10)), (25, (0, 4)), (26, (0, 10)), (27, (0, 4)), (28, (0, 10)), (29, (0, 4)), (30, ((-2147483648), 2147483647)), (31, ((-2147483648), 2147483647)), (32, ((-2147483648), 2147483647)), (33, ((-2147483648), 2147483647))]
def k_X8_habit : zK := (34, [0, 1, 2, 3, 4, 5, 6, 7, 8, 9, 10, 11, 12, 13, 14], (ze_X8_habit, [], [], [zr 0, zi 30 0, zi 31 0, zi 32 0, zi 33 0], zw1, []), [([], [], [], [zi 0 (-1)], zw1, []),
  ([(34, ((-2147483648), 2147483647)), (3, (1, 5)), (30, (0, 6)), (31, (0, 4)), (32, (0, 4)), (33, (0, 10))], [(30, 1, (-1)), (32, 3, (-1))], [], [zi 34 0], zw1, [])])
def bl_X8_habit : List (Nat × zS) := []
def tb_X8_habit : zTb := ([(7, 8, 0, 3)], [], [(220, 10)], [(205, k_X8_isHouse), (209, k_X8_isDeed), (214, k_X8_becomes_2)], [(90, k_X8_in), (217, k_X8_isKind)], [])
def sp_X8_habit : zSp := []
set_option maxRecDepth 1000000 in
theorem ck0_X8_habit : zrun tb_X8_habit sp_X8_habit pr_X8_habit 5 1 k_X8_habit.1 k_X8_habit.2.1 k_X8_habit.2.2.2 bl_X8_habit false 2000 5034 (zst0 k_X8_habit) 0 = true := by decide +kernel
set_option maxRecDepth 1000000 in
theorem ck_X8_habit : zcheck tb_X8_habit sp_X8_habit pr_X8_habit 5 1 k_X8_habit bl_X8_habit 2000 5034 = true := zcheck_of (by decide +kernel) ck0_X8_habit (fun _ h => absurd h List.not_mem_nil)
set_option maxRecDepth 100000 in
set_option maxHeartbeats 4000000 in
theorem c_X8_habit {X : zXT} (hX : zXok X) (hN : zXn X) (l : Launch) : zMet X vwCl l yX8_habit wsX8_habit { frames := 3, cells := 0, slots := 0, locals := 110 } k_X8_habit :=
  zmeth (tb := tb_X8_habit) (pr := pr_X8_habit) (bl := bl_X8_habit) (rt := 1) (own := RX8) hX (by decide +kernel) rfl rfl ⟨Nat.le_of_ble_eq_true rfl, Nat.le_of_ble_eq_true rfl⟩
    (zfl_all (List.forall_mem_cons.mpr ⟨zfl_X8 (fun w h => List.mem_cons_of_mem _ (List.mem_append_right _ h)) (List.mem_of_getElem? (i := 2) rfl) (by decide) (by decide), fun _ h => absurd h List.not_mem_nil⟩))
    (zco_all (fun _ h => absurd h List.not_mem_nil)) (zlc_all (List.forall_mem_cons.mpr ⟨(List.mem_of_getElem? (i := 1) rfl), fun _ h => absurd h List.not_mem_nil⟩))
    (List.forall_mem_cons.mpr ⟨fun p e s m args below meth c A S hx => zcal_V hX S (c_X8_isHouse hX hN l) (cwV 1 S.2.2.2.2 gX8_habit_X8_isHouse rfl rfl rfl (by decide +kernel) ⟨Nat.le_of_ble_eq_true rfl, Nat.le_of_ble_eq_true rfl⟩) rfl ⟨0, 8, _, _, _, rfl, rfl⟩ rfl, List.forall_mem_cons.mpr ⟨fun p e s m args below meth c A S hx => zcal_V hX S (c_X8_isDeed hX hN l) (cwV 1 S.2.2.2.2 gX8_habit_X8_isDeed rfl rfl rfl (by decide +kernel) ⟨Nat.le_of_ble_eq_true rfl, Nat.le_of_ble_eq_true rfl⟩) rfl ⟨0, 8, _, _, _, rfl, rfl⟩ rfl, List.forall_mem_cons.mpr ⟨fun p e s m args below meth c A S hx => zcal_V hX S (c_X8_becomes_2 hX hN l) (cwV 2 S.2.2.2.2 gX8_habit_X8_becomes rfl rfl rfl (by decide +kernel) ⟨Nat.le_of_ble_eq_true rfl, Nat.le_of_ble_eq_true rfl⟩) rfl ⟨0, 8, _, _, _, rfl, rfl⟩ rfl, fun _ h => absurd h List.not_mem_nil⟩⟩⟩)
    (List.forall_mem_cons.mpr ⟨fun p e s m args below meth c A S hx => zcal_S hX S (c_X8_in hX hN l) (va_cwS 3 S.2.2.2.2 gX8_habit_X8_in rfl rfl rfl (by decide +kernel) ⟨Nat.le_of_ble_eq_true rfl, Nat.le_of_ble_eq_true rfl⟩) rfl, List.forall_mem_cons.mpr ⟨fun p e s m args below meth c A S hx => zcal_S hX S (c_X8_isKind hX hN l) (va_cwS 1 S.2.2.2.2 gX8_habit_X8_isKind rfl rfl rfl (by decide +kernel) ⟨Nat.le_of_ble_eq_true rfl, Nat.le_of_ble_eq_true rfl⟩) rfl, fun _ h => absurd h List.not_mem_nil⟩⟩)
    (zmm_all (fun _ h => absurd h List.not_mem_nil)) (zpr_all hp_X8_habit) ck_X8_habit
def pr_X8_vows : List (Nat × Instr × Nat) := [(0, .aload_n 0, 1), (1, .iload_n 1, 1), (2, .invokevirtual 205, 3), (5, .ifCond .eq 26, 3), (8, .iload_n 2, 1), (9, .invokestatic 217, 3), (12, .ifCond .eq 19, 3), (15, .iload_n 3, 1), (16, .invokestatic 222, 3), (19, .ifCond .eq 12, 3), (22, .aload_n 0, 1), (23, .iload 4, 2), (25, .invokevirtual 209, 3), (28, .ifCond .ne 5, 3), (31, .iconst (-1), 1), (32, .ireturn, 1), (33, .aload_n 0, 1), (34, .getfield 7, 3), (37, .bipush 77, 2), (39, .iaload, 1), (40, .bipush 10, 2), (42, .if_icmp .ne 6, 3), (45, .bipush (-3), 2), (47, .ireturn, 1), (48, .bipush 78, 2), (50, .iconst 4, 1), (51, .aload_n 0, 1), (52, .getfield 7, 3), (55, .bipush 77, 2), (57, .iaload, 1), (58, .imul, 1), (59, .iadd, 1), (60, .istore 5, 2), (62, .aload_n 0, 1), (63, .getfield 7, 3), (66, .iload 5, 2), (68, .iload_n 1, 1), (69, .iastore, 1), (70, .aload_n 0, 1), (71, .getfield 7, 3), (74, .iload 5, 2), (76, .iconst 1, 1), (77, .iadd, 1), (78, .iload_n 2, 1), (79, .iastore, 1), (80, .aload_n 0, 1), (81, .getfield 7, 3), (84, .iload 5, 2), (86, .iconst 2, 1), (87, .iadd, 1), (88, .iload_n 3, 1), (89, .iastore, 1), (90, .aload_n 0, 1), (91, .getfield 7, 3), (94, .iload 5, 2), (96, .iconst 3, 1), (97, .iadd, 1), (98, .iload 4, 2), (100, .iastore, 1), (101, .aload_n 0, 1), (102, .getfield 7, 3), (105, .bipush 77, 2), (107, .dup2, 1), (108, .iaload, 1), (109, .iconst 1, 1), (110, .iadd, 1), (111, .iastore, 1), (112, .aload_n 0, 1), (113, .getfield 7, 3), (116, .bipush 77, 2), (118, .iaload, 1), (119, .ireturn, 1)]
set_option maxRecDepth 100000 in
theorem hp_X8_vows : pr_X8_vows.all (fun x => decide (decode cX8_vows x.1 = .ok x.2)) = true := by decide +kernel
def ze_X8_vows : zE := [(1, (2, 7)), (2, (0, 1)), (3, (0, 5)), (4, (0, 7)), (5, (0, 1)), (6, (0, 1)), (7, (0, 5)), (8, ((-2147483648), 2147483647)), (9, ((-2147483648), 2147483647)), (10, (0, 160)), (11, (0, 160)), (12, (0, 160)), (13, (0, 3)), (14, ((-2147483648), 2147483647)), (15, (0, 6)), (16, ((-2147483648), 2147483647)), (17, (0, 10)), (18, ((-2147483648), 2147483647)), (19, ((-2147483648), 2147483647)), (20, (0, 10)), (21, (0, 4)), (22, (0, 10)), (23, (0, 4)), (24, (0, 10)), (25, (0, 4)), (26, (0, 10)), (27, (0, 4)), (28, (0, 10)), (29, (0, 4)), (30, ((-2147483648), 2147483647)), (31, ((-2147483648), 2147483647)), (32, ((-2147483648), 2147483647)), (33, ((-2147483648), 2147483647))]
def k_X8_vows : zK := (34, [0, 1, 2, 3, 4, 5, 6, 7, 8, 9, 10, 11, 12, 13, 14], (ze_X8_vows, [], [], [zr 0, zi 30 0, zi 31 0, zi 32 0, zi 33 0], zw1, []), [([], [], [], [zi 0 (-1)], zw1, []),
  ([(3, (1, 5)), (20, (0, 9)), (30, (0, 6)), (31, (0, 4)), (32, (0, 9)), (33, (0, 4))], [(30, 1, (-1)), (33, 3, (-1))], [], [zi 20 1], zgs (zw1) 1 3 (.inr (20, 1)), []),
  ([(3, (1, 5)), (20, (10, 10)), (30, (0, 6)), (31, (0, 4)), (32, (0, 9)), (33, (0, 4))], [(30, 1, (-1)), (33, 3, (-1))], [], [zi 0 (-3)], zw1, [])])
def bl_X8_vows : List (Nat × zS) := []
def tb_X8_vows : zTb := ([(7, 8, 0, 3)], [], [], [(205, k_X8_isHouse), (209, k_X8_isDeed)], [(217, k_X8_isKind), (222, k_X8_isDeep)], [])
def sp_X8_vows : zSp := [(58, 0, [(0, 0), (1, 1), (2, 2), (3, 3), (4, 4), (5, 5), (6, 6), (7, 7), (8, 8), (9, 9)])]
set_option maxRecDepth 1000000 in
theorem ck0_X8_vows : zrun tb_X8_vows sp_X8_vows pr_X8_vows 6 1 k_X8_vows.1 k_X8_vows.2.1 k_X8_vows.2.2.2 bl_X8_vows false 2000 5034 (zst0 k_X8_vows) 0 = true := by decide +kernel
set_option maxRecDepth 1000000 in
theorem ck_X8_vows : zcheck tb_X8_vows sp_X8_vows pr_X8_vows 6 1 k_X8_vows bl_X8_vows 2000 5034 = true := zcheck_of (by decide +kernel) ck0_X8_vows (fun _ h => absurd h List.not_mem_nil)
set_option maxRecDepth 100000 in
set_option maxHeartbeats 4000000 in
theorem c_X8_vows {X : zXT} (hX : zXok X) (hN : zXn X) (l : Launch) : zMet X vwCl l yX8_vows wsX8_vows { frames := 3, cells := 0, slots := 0, locals := 110 } k_X8_vows :=
  zmeth (tb := tb_X8_vows) (pr := pr_X8_vows) (bl := bl_X8_vows) (rt := 1) (own := RX8) hX (by decide +kernel) rfl rfl ⟨Nat.le_of_ble_eq_true rfl, Nat.le_of_ble_eq_true rfl⟩
    (zfl_all (List.forall_mem_cons.mpr ⟨zfl_X8 (fun w h => List.mem_cons_of_mem _ (List.mem_append_right _ h)) (List.mem_of_getElem? (i := 1) rfl) (by decide) (by decide), fun _ h => absurd h List.not_mem_nil⟩))
    (zco_all (fun _ h => absurd h List.not_mem_nil)) (zlc_all (fun _ h => absurd h List.not_mem_nil))
    (List.forall_mem_cons.mpr ⟨fun p e s m args below meth c A S hx => zcal_V hX S (c_X8_isHouse hX hN l) (cwV 1 S.2.2.2.2 gX8_vows_X8_isHouse rfl rfl rfl (by decide +kernel) ⟨Nat.le_of_ble_eq_true rfl, Nat.le_of_ble_eq_true rfl⟩) rfl ⟨0, 8, _, _, _, rfl, rfl⟩ rfl, List.forall_mem_cons.mpr ⟨fun p e s m args below meth c A S hx => zcal_V hX S (c_X8_isDeed hX hN l) (cwV 1 S.2.2.2.2 gX8_vows_X8_isDeed rfl rfl rfl (by decide +kernel) ⟨Nat.le_of_ble_eq_true rfl, Nat.le_of_ble_eq_true rfl⟩) rfl ⟨0, 8, _, _, _, rfl, rfl⟩ rfl, fun _ h => absurd h List.not_mem_nil⟩⟩)
    (List.forall_mem_cons.mpr ⟨fun p e s m args below meth c A S hx => zcal_S hX S (c_X8_isKind hX hN l) (va_cwS 1 S.2.2.2.2 gX8_vows_X8_isKind rfl rfl rfl (by decide +kernel) ⟨Nat.le_of_ble_eq_true rfl, Nat.le_of_ble_eq_true rfl⟩) rfl, List.forall_mem_cons.mpr ⟨fun p e s m args below meth c A S hx => zcal_S hX S (c_X8_isDeep hX hN l) (va_cwS 1 S.2.2.2.2 gX8_vows_X8_isDeep rfl rfl rfl (by decide +kernel) ⟨Nat.le_of_ble_eq_true rfl, Nat.le_of_ble_eq_true rfl⟩) rfl, fun _ h => absurd h List.not_mem_nil⟩⟩)
    (zmm_all (fun _ h => absurd h List.not_mem_nil)) (zpr_all hp_X8_vows) ck_X8_vows
def pr_X8_wish : List (Nat × Instr × Nat) := [(0, .aload_n 0, 1), (1, .iload_n 1, 1), (2, .invokevirtual 205, 3), (5, .ifCond .eq 11, 3), (8, .aload_n 0, 1), (9, .iload_n 2, 1), (10, .invokevirtual 209, 3), (13, .ifCond .ne 5, 3), (16, .iconst (-1), 1), (17, .ireturn, 1), (18, .aload_n 0, 1), (19, .getfield 7, 3), (22, .bipush 118, 2), (24, .iaload, 1), (25, .iconst 4, 1), (26, .if_icmp .ne 6, 3), (29, .bipush (-3), 2), (31, .ireturn, 1), (32, .aload_n 0, 1), (33, .getfield 7, 3), (36, .bipush 119, 2), (38, .iconst 2, 1), (39, .aload_n 0, 1), (40, .getfield 7, 3), (43, .bipush 118, 2), (45, .iaload, 1), (46, .imul, 1), (47, .iadd, 1), (48, .iload_n 1, 1), (49, .iastore, 1), (50, .aload_n 0, 1), (51, .getfield 7, 3), (54, .bipush 119, 2), (56, .iconst 2, 1), (57, .aload_n 0, 1), (58, .getfield 7, 3), (61, .bipush 118, 2), (63, .iaload, 1), (64, .imul, 1), (65, .iadd, 1), (66, .iconst 1, 1), (67, .iadd, 1), (68, .iload_n 2, 1), (69, .iastore, 1), (70, .aload_n 0, 1), (71, .getfield 7, 3), (74, .bipush 118, 2), (76, .dup2, 1), (77, .iaload, 1), (78, .iconst 1, 1), (79, .iadd, 1), (80, .iastore, 1), (81, .aload_n 0, 1), (82, .getfield 7, 3), (85, .bipush 118, 2), (87, .iaload, 1), (88, .ireturn, 1)]
set_option maxRecDepth 100000 in
theorem hp_X8_wish : pr_X8_wish.all (fun x => decide (decode cX8_wish x.1 = .ok x.2)) = true := by decide +kernel
def ze_X8_wish : zE := [(1, (2, 7)), (2, (0, 1)), (3, (0, 5)), (4, (0, 7)), (5, (0, 1)), (6, (0, 1)), (7, (0, 5)), (8, ((-2147483648), 2147483647)), (9, ((-2147483648), 2147483647)), (10, (0, 160)), (11, (0, 160)), (12, (0, 160)), (13, (0, 3)), (14, ((-2147483648), 2147483647)), (15, (0, 6)), (16, ((-2147483648), 2147483647)), (17, (0, 10)), (18, ((-2147483648), 2147483647)), (19, ((-2147483648), 2147483647)), (20, (0, 10)), (21, (0, 4)), (22, (0, 10)), (23, (0, 4)), (24, (0, 10)), (25, (0, 4)), (26, (0, 10)), (27, (0, 4)), (28, (0, 10)), (29, (0, 4)), (30, ((-2147483648), 2147483647)), (31, ((-2147483648), 2147483647))]
def k_X8_wish : zK := (32, [0, 1, 2, 3, 4, 5, 6, 7, 8, 9, 10, 11, 12, 13, 14], (ze_X8_wish, [], [], [zr 0, zi 30 0, zi 31 0], zw1, []), [([], [], [], [zi 0 (-1)], zw1, []),
  ([(3, (1, 5)), (21, (0, 3)), (30, (0, 6)), (31, (0, 4))], [(30, 1, (-1)), (31, 3, (-1))], [], [zi 21 1], zgs (zw1) 1 34 (.inr (21, 1)), []),
  ([(3, (1, 5)), (21, (4, 4)), (30, (0, 6)), (31, (0, 4))], [(30, 1, (-1)), (31, 3, (-1))], [], [zi 0 (-3)], zw1, [])])
def bl_X8_wish : List (Nat × zS) := []
def tb_X8_wish : zTb := ([(7, 8, 0, 3)], [], [], [(205, k_X8_isHouse), (209, k_X8_isDeed)], [], [])
def sp_X8_wish : zSp := []
set_option maxRecDepth 1000000 in
theorem ck0_X8_wish : zrun tb_X8_wish sp_X8_wish pr_X8_wish 3 1 k_X8_wish.1 k_X8_wish.2.1 k_X8_wish.2.2.2 bl_X8_wish false 2000 5032 (zst0 k_X8_wish) 0 = true := by decide +kernel
set_option maxRecDepth 1000000 in
theorem ck_X8_wish : zcheck tb_X8_wish sp_X8_wish pr_X8_wish 3 1 k_X8_wish bl_X8_wish 2000 5032 = true := zcheck_of (by decide +kernel) ck0_X8_wish (fun _ h => absurd h List.not_mem_nil)
set_option maxRecDepth 100000 in
set_option maxHeartbeats 4000000 in
theorem c_X8_wish {X : zXT} (hX : zXok X) (hN : zXn X) (l : Launch) : zMet X vwCl l yX8_wish wsX8_wish { frames := 3, cells := 0, slots := 0, locals := 110 } k_X8_wish :=
  zmeth (tb := tb_X8_wish) (pr := pr_X8_wish) (bl := bl_X8_wish) (rt := 1) (own := RX8) hX (by decide +kernel) rfl rfl ⟨Nat.le_of_ble_eq_true rfl, Nat.le_of_ble_eq_true rfl⟩
    (zfl_all (List.forall_mem_cons.mpr ⟨zfl_X8 (fun w h => List.mem_cons_of_mem _ (List.mem_append_right _ h)) (List.mem_of_getElem? (i := 1) rfl) (by decide) (by decide), fun _ h => absurd h List.not_mem_nil⟩))
    (zco_all (fun _ h => absurd h List.not_mem_nil)) (zlc_all (fun _ h => absurd h List.not_mem_nil))
    (List.forall_mem_cons.mpr ⟨fun p e s m args below meth c A S hx => zcal_V hX S (c_X8_isHouse hX hN l) (cwV 1 S.2.2.2.2 gX8_wish_X8_isHouse rfl rfl rfl (by decide +kernel) ⟨Nat.le_of_ble_eq_true rfl, Nat.le_of_ble_eq_true rfl⟩) rfl ⟨0, 8, _, _, _, rfl, rfl⟩ rfl, List.forall_mem_cons.mpr ⟨fun p e s m args below meth c A S hx => zcal_V hX S (c_X8_isDeed hX hN l) (cwV 1 S.2.2.2.2 gX8_wish_X8_isDeed rfl rfl rfl (by decide +kernel) ⟨Nat.le_of_ble_eq_true rfl, Nat.le_of_ble_eq_true rfl⟩) rfl ⟨0, 8, _, _, _, rfl, rfl⟩ rfl, fun _ h => absurd h List.not_mem_nil⟩⟩)
    (fun _ h => absurd h List.not_mem_nil)
    (zmm_all (fun _ h => absurd h List.not_mem_nil)) (zpr_all hp_X8_wish) ck_X8_wish
def pr_X8_drop : List (Nat × Instr × Nat) := [(0, .iload_n 1, 1), (1, .ifCond .ne 8, 3), (4, .bipush 77, 2), (6, .goto 5, 3), (9, .bipush 118, 2), (11, .istore_n 3, 1), (12, .iload_n 1, 1), (13, .i2l, 1), (14, .lconst 0, 1), (15, .lconst 1, 1), (16, .invokestatic 90, 3), (19, .ifCond .eq 28, 3), (22, .iload_n 2, 1), (23, .i2l, 1), (24, .lconst 0, 1), (25, .aload_n 0, 1), (26, .getfield 7, 3), (29, .iload_n 3, 1), (30, .iaload, 1), (31, .i2l, 1), (32, .invokestatic 90, 3), (35, .ifCond .eq 12, 3), (38, .aload_n 0, 1), (39, .iload_n 3, 1), (40, .iload_n 2, 1), (41, .invokevirtual 214, 3), (44, .goto 4, 3), (47, .iconst (-1), 1), (48, .ireturn, 1)]
set_option maxRecDepth 100000 in
theorem hp_X8_drop : pr_X8_drop.all (fun x => decide (decode cX8_drop x.1 = .ok x.2)) = true := by decide +kernel
def ze_X8_drop : zE := [(1, (2, 7)), (2, (0, 1)), (3, (0, 5)), (4, (0, 7)), (5, (0, 1)), (6, (0, 1)), (7, (0, 5)), (8, ((-2147483648), 2147483647)), (9, ((-2147483648), 2147483647)), (10, (0, 160)), (11, (0, 160)), (12, (0, 160)), (13, (0, 3)), (14, ((-2147483648), 2147483647)), (15, (0, 6)), (16, ((-2147483648), 2147483647)), (17, (0, 10)), (18, ((-2147483648), 2147483647)), (19, ((-2147483648), 2147483647)), (20, (0, 10)), (21, (0, 4)), (22, (0, 10)), (23, (0, 4)), (24, (0, 10)), (25, (0, 4)), (26, (0, 10)), (27, (0, 4)), (28, (0, 10)), (29, (0, 4)), (30, ((-2147483648), 2147483647)), (31, ((-2147483648), 2147483647))]
def k_X8_drop : zK := (32, [0, 1, 2, 3, 4, 5, 6, 7, 8, 9, 10, 11, 12, 13, 14], (ze_X8_drop, [], [], [zr 0, zi 30 0, zi 31 0], zw1, []), [([], [], [], [zi 0 (-1)], zw1, []),
  ([(32, (0, 10)), (33, (0, 10)), (34, (0, 4)), (30, (0, 1)), (31, (0, 10))], [(31, 20, 4), (31, 32, 0), (31, 33, 4), (32, 20, 4), (33, 20, 0), (34, 21, 0)], [], [zi 32 0], zgs (zgs (zw1) 1 3 (.inr (33, 0))) 1 34 (.inr (34, 0)), [])])
def bl_X8_drop : List (Nat × zS) := []
def tb_X8_drop : zTb := ([(7, 8, 0, 3)], [], [], [(214, k_X8_becomes_3), (214, k_X8_becomes_4)], [(90, k_X8_in)], [])
def sp_X8_drop : zSp := []
set_option maxRecDepth 1000000 in
theorem ck0_X8_drop : zrun tb_X8_drop sp_X8_drop pr_X8_drop 4 1 k_X8_drop.1 k_X8_drop.2.1 k_X8_drop.2.2.2 bl_X8_drop false 2000 5032 (zst0 k_X8_drop) 0 = true := by decide +kernel
set_option maxRecDepth 1000000 in
theorem ck_X8_drop : zcheck tb_X8_drop sp_X8_drop pr_X8_drop 4 1 k_X8_drop bl_X8_drop 2000 5032 = true := zcheck_of (by decide +kernel) ck0_X8_drop (fun _ h => absurd h List.not_mem_nil)
set_option maxRecDepth 100000 in
set_option maxHeartbeats 4000000 in
theorem c_X8_drop {X : zXT} (hX : zXok X) (hN : zXn X) (l : Launch) : zMet X vwCl l yX8_drop wsX8_drop { frames := 2, cells := 0, slots := 0, locals := 89 } k_X8_drop :=
  zmeth (tb := tb_X8_drop) (pr := pr_X8_drop) (bl := bl_X8_drop) (rt := 1) (own := RX8) hX (by decide +kernel) rfl rfl ⟨Nat.le_of_ble_eq_true rfl, Nat.le_of_ble_eq_true rfl⟩
    (zfl_all (List.forall_mem_cons.mpr ⟨zfl_X8 (fun w h => List.mem_cons_of_mem _ (List.mem_append_right _ h)) (List.mem_of_getElem? (i := 1) rfl) (by decide) (by decide), fun _ h => absurd h List.not_mem_nil⟩))
    (zco_all (fun _ h => absurd h List.not_mem_nil)) (zlc_all (fun _ h => absurd h List.not_mem_nil))
    (List.forall_mem_cons.mpr ⟨fun p e s m args below meth c A S hx => zcal_V hX S (c_X8_becomes_3 hX hN l) (cwV 2 S.2.2.2.2 gX8_drop_X8_becomes rfl rfl rfl (by decide +kernel) ⟨Nat.le_of_ble_eq_true rfl, Nat.le_of_ble_eq_true rfl⟩) rfl ⟨0, 8, _, _, _, rfl, rfl⟩ rfl, List.forall_mem_cons.mpr ⟨fun p e s m args below meth c A S hx => zcal_V hX S (c_X8_becomes_4 hX hN l) (cwV 2 S.2.2.2.2 gX8_drop_X8_becomes rfl rfl rfl (by decide +kernel) ⟨Nat.le_of_ble_eq_true rfl, Nat.le_of_ble_eq_true rfl⟩) rfl ⟨0, 8, _, _, _, rfl, rfl⟩ rfl, fun _ h => absurd h List.not_mem_nil⟩⟩)
    (List.forall_mem_cons.mpr ⟨fun p e s m args below meth c A S hx => zcal_S hX S (c_X8_in hX hN l) (va_cwS 3 S.2.2.2.2 gX8_drop_X8_in rfl rfl rfl (by decide +kernel) ⟨Nat.le_of_ble_eq_true rfl, Nat.le_of_ble_eq_true rfl⟩) rfl, fun _ h => absurd h List.not_mem_nil⟩)
    (zmm_all (fun _ h => absurd h List.not_mem_nil)) (zpr_all hp_X8_drop) ck_X8_drop
def pr_X8_swaps : List (Nat × Instr × Nat) := [(0, .aload_n 0, 1), (1, .getfield 7, 3), (4, .iload_n 1, 1), (5, .iload_n 2, 1), (6, .iadd, 1), (7, .iaload, 1), (8, .istore 4, 2), (10, .aload_n 0, 1), (11, .getfield 7, 3), (14, .iload_n 1, 1), (15, .iload_n 2, 1), (16, .iadd, 1), (17, .aload_n 0, 1), (18, .getfield 7, 3), (21, .iload_n 1, 1), (22, .iload_n 3, 1), (23, .iadd, 1), (24, .iaload, 1), (25, .iastore, 1), (26, .aload_n 0, 1), (27, .getfield 7, 3), (30, .iload_n 1, 1), (31, .iload_n 3, 1), (32, .iadd, 1), (33, .iload 4, 2), (35, .iastore, 1), (36, .return_, 1)]
set_option maxRecDepth 100000 in
theorem hp_X8_swaps : pr_X8_swaps.all (fun x => decide (decode cX8_swaps x.1 = .ok x.2)) = true := by decide +kernel
def ze_X8_swaps : zE := [(1, (2, 7)), (2, (0, 1)), (3, (0, 5)), (4, (0, 7)), (5, (0, 1)), (6, (0, 1)), (7, (0, 5)), (8, ((-2147483648), 2147483647)), (9, ((-2147483648), 2147483647)), (10, (0, 160)), (11, (0, 160)), (12, (0, 160)), (13, (0, 3)), (14, ((-2147483648), 2147483647)), (15, (0, 6)), (16, ((-2147483648), 2147483647)), (17, (0, 10)), (18, ((-2147483648), 2147483647)), (19, ((-2147483648), 2147483647)), (20, (0, 10)), (21, (0, 4)), (22, (0, 10)), (23, (0, 4)), (24, (0, 10)), (25, (0, 4)), (26, (0, 10)), (27, (0, 4)), (28, (0, 10)), (29, (0, 4)), (30, (0, 7)), (31, (0, 6)), (32, (0, 6))]
def k_X8_swaps : zK := (33, [0, 1, 2, 3, 4, 5, 6, 7, 8, 9, 10, 11, 12, 13, 14], (ze_X8_swaps, [], [], [zr 0, zi 30 0, zi 31 0, zi 32 0], zw1, []), [([], [], [], [], zw1, [])])
def bl_X8_swaps : List (Nat × zS) := []
def tb_X8_swaps : zTb := ([(7, 8, 0, 3)], [], [], [], [], [])
def sp_X8_swaps : zSp := []
set_option maxRecDepth 1000000 in
theorem ck0_X8_swaps : zrun tb_X8_swaps sp_X8_swaps pr_X8_swaps 5 0 k_X8_swaps.1 k_X8_swaps.2.1 k_X8_swaps.2.2.2 bl_X8_swaps false 2000 5033 (zst0 k_X8_swaps) 0 = true := by decide +kernel
set_option maxRecDepth 1000000 in
theorem ck_X8_swaps : zcheck tb_X8_swaps sp_X8_swaps pr_X8_swaps 5 0 k_X8_swaps bl_X8_swaps 2000 5033 = true := zcheck_of (by decide +kernel) ck0_X8_swaps (fun _ h => absurd h List.not_mem_nil)
set_option maxRecDepth 100000 in
set_option maxHeartbeats 4000000 in
theorem c_X8_swaps {X : zXT} (hX : zXok X) (hN : zXn X) (l : Launch) : zMet X vwCl l yX8_swaps wsX8_swaps { frames := 1, cells := 0, slots := 0, locals := 64 } k_X8_swaps :=
  zmeth (tb := tb_X8_swaps) (pr := pr_X8_swaps) (bl := bl_X8_swaps) (rt := 0) (own := RX8) hX (by decide +kernel) rfl rfl ⟨Nat.le_of_ble_eq_true rfl, Nat.le_of_ble_eq_true rfl⟩
    (zfl_all (List.forall_mem_cons.mpr ⟨zfl_X8 (fun w h => List.mem_cons_of_mem _ (List.mem_append_right _ h)) (List.mem_of_getElem? (i := 1) rfl) (by decide) (by decide), fun _ h => absurd h List.not_mem_nil⟩))
    (zco_all (fun _ h => absurd h List.not_mem_nil)) (zlc_all (fun _ h => absurd h List.not_mem_nil))
    (fun _ h => absurd h List.not_mem_nil)
    (fun _ h => absurd h List.not_mem_nil)
    (zmm_all (fun _ h => absurd h List.not_mem_nil)) (zpr_all hp_X8_swaps) ck_X8_swaps
def pr_X8_moves : List (Nat × Instr × Nat) := [(0, .aload_n 0, 1), (1, .bipush 7, 2), (3, .iload_n 1, 1), (4, .iload_n 2, 1), (5, .invokevirtual 225, 3), (8, .aload_n 0, 1), (9, .iconst 0, 1), (10, .iload_n 1, 1), (11, .iload_n 2, 1), (12, .invokevirtual 225, 3), (15, .return_, 1)]
set_option maxRecDepth 100000 in
theorem hp_X8_moves : pr_X8_moves.all (fun x => decide (decode cX8_moves x.1 = .ok x.2)) = true := by decide +kernel
def ze_X8_moves : zE := [(1, (2, 7)), (2, (0, 1)), (3, (0, 5)), (4, (0, 7)), (5, (0, 1)), (6, (0, 1)), (7, (0, 5)), (8, ((-2147483648), 2147483647)), (9, ((-2147483648), 2147483647)), (10, (0, 160)), (11, (0, 160)), (12, (0, 160)), (13, (0, 3)), (14, ((-2147483648), 2147483647)), (15, (0, 6)), (16, ((-2147483648), 2147483647)), (17, (0, 10)), (18, ((-2147483648), 2147483647)), (19, ((-2147483648), 2147483647)), (20, (0, 10)), (21, (0, 4)), (22, (0, 10)), (23, (0, 4)), (24, (0, 10)), (25, (0, 4)), (26, (0, 10)), (27, (0, 4)), (28, (0, 10)), (29, (0, 4)), (30, (0, 6)), (31, (0, 6))]
def k_X8_moves : zK := (32, [0, 1, 2, 3, 4, 5, 6, 7, 8, 9, 10, 11, 12, 13, 14], (ze_X8_moves, [], [], [zr 0, zi 30 0, zi 31 0], zw1, []), [([], [], [], [], zw1, [])])
def bl_X8_moves : List (Nat × zS) := []
def tb_X8_moves : zTb := ([], [], [], [(225, k_X8_swaps)], [], [])
def sp_X8_moves : zSp := []
set_option maxRecDepth 1000000 in
theorem ck0_X8_moves : zrun tb_X8_moves sp_X8_moves pr_X8_moves 3 0 k_X8_moves.1 k_X8_moves.2.1 k_X8_moves.2.2.2 bl_X8_moves false 2000 5032 (zst0 k_X8_moves) 0 = true := by decide +kernel
set_option maxRecDepth 1000000 in
theorem ck_X8_moves : zcheck tb_X8_moves sp_X8_moves pr_X8_moves 3 0 k_X8_moves bl_X8_moves 2000 5032 = true := zcheck_of (by decide +kernel) ck0_X8_moves (fun _ h => absurd h List.not_mem_nil)
set_option maxRecDepth 100000 in
set_option maxHeartbeats 4000000 in
theorem c_X8_moves {X : zXT} (hX : zXok X) (hN : zXn X) (l : Launch) : zMet X vwCl l yX8_moves wsX8_moves { frames := 2, cells := 0, slots := 0, locals := 88 } k_X8_moves :=
  zmeth (tb := tb_X8_moves) (pr := pr_X8_moves) (bl := bl_X8_moves) (rt := 0) (own := RX8) hX (by decide +kernel) rfl rfl ⟨Nat.le_of_ble_eq_true rfl, Nat.le_of_ble_eq_true rfl⟩
    (zfl_all (fun _ h => absurd h List.not_mem_nil))
    (zco_all (fun _ h => absurd h List.not_mem_nil)) (zlc_all (fun _ h => absurd h List.not_mem_nil))
    (List.forall_mem_cons.mpr ⟨fun p e s m args below meth c A S hx => zcal_V hX S (c_X8_swaps hX hN l) (cwV 3 S.2.2.2.2 gX8_moves_X8_swaps rfl rfl rfl (by decide +kernel) ⟨Nat.le_of_ble_eq_true rfl, Nat.le_of_ble_eq_true rfl⟩) rfl ⟨0, 8, _, _, _, rfl, rfl⟩ rfl, fun _ h => absurd h List.not_mem_nil⟩)
    (fun _ h => absurd h List.not_mem_nil)
    (zmm_all (fun _ h => absurd h List.not_mem_nil)) (zpr_all hp_X8_moves) ck_X8_moves
def pr_X8_move : List (Nat × Instr × Nat) := [(0, .aload_n 0, 1), (1, .iload_n 1, 1), (2, .invokevirtual 205, 3), (5, .ifCond .eq 16, 3), (8, .aload_n 0, 1), (9, .iload_n 2, 1), (10, .invokevirtual 205, 3), (13, .ifCond .eq 8, 3), (16, .iload_n 1, 1), (17, .iload_n 2, 1), (18, .if_icmp .ne 5, 3), (21, .iconst (-1), 1), (22, .ireturn, 1), (23, .aload_n 0, 1), (24, .iload_n 1, 1), (25, .iload_n 2, 1), (26, .invokevirtual 229, 3), (29, .aload_n 0, 1), (30, .getfield 7, 3), (33, .bipush 7, 2), (35, .iload_n 1, 1), (36, .iadd, 1), (37, .iaload, 1), (38, .invokestatic 233, 3), (41, .ireturn, 1)]
set_option maxRecDepth 100000 in
theorem hp_X8_move : pr_X8_move.all (fun x => decide (decode cX8_move x.1 = .ok x.2)) = true := by decide +kernel
def ze_X8_move : zE := [(1, (2, 7)), (2, (0, 1)), (3, (0, 5)), (4, (0, 7)), (5, (0, 1)), (6, (0, 1)), (7, (0, 5)), (8, ((-2147483648), 2147483647)), (9, ((-2147483648), 2147483647)), (10, (0, 160)), (11, (0, 160)), (12, (0, 160)), (13, (0, 3)), (14, ((-2147483648), 2147483647)), (15, (0, 6)), (16, ((-2147483648), 2147483647)), (17, (0, 10)), (18, ((-2147483648), 2147483647)), (19, ((-2147483648), 2147483647)), (20, (0, 10)), (21, (0, 4)), (22, (0, 10)), (23, (0, 4)), (24, (0, 10)), (25, (0, 4)), (26, (0, 10)), (27, (0, 4)), (28, (0, 10)), (29, (0, 4)), (30, ((-2147483648), 2147483647)), (31, ((-2147483648), 2147483647))]
def k_X8_move : zK := (32, [0, 1, 2, 3, 4, 5, 6, 7, 8, 9, 10, 11, 12, 13, 14], (ze_X8_move, [], [], [zr 0, zi 30 0, zi 31 0], zw1, []), [([], [], [], [zi 0 (-1)], zw1, []),
  ([(32, ((-2147483648), 2147483647)), (30, (0, 6)), (31, (0, 6))], [(30, 1, (-1)), (31, 1, (-1))], [], [zi 32 0], zw1, [])])
def bl_X8_move : List (Nat × zS) := []
def tb_X8_move : zTb := ([(7, 8, 0, 3)], [], [], [(205, k_X8_isHouse), (229, k_X8_moves)], [(233, k_X8_bitsOf)], [])
def sp_X8_move : zSp := []
set_option maxRecDepth 1000000 in
theorem ck0_X8_move : zrun tb_X8_move sp_X8_move pr_X8_move 3 1 k_X8_move.1 k_X8_move.2.1 k_X8_move.2.2.2 bl_X8_move false 2000 5032 (zst0 k_X8_move) 0 = true := by decide +kernel
set_option maxRecDepth 1000000 in
theorem ck_X8_move : zcheck tb_X8_move sp_X8_move pr_X8_move 3 1 k_X8_move bl_X8_move 2000 5032 = true := zcheck_of (by decide +kernel) ck0_X8_move (fun _ h => absurd h List.not_mem_nil)
set_option maxRecDepth 100000 in
set_option maxHeartbeats 4000000 in
theorem c_X8_move {X : zXT} (hX : zXok X) (hN : zXn X) (l : Launch) : zMet X vwCl l yX8_move wsX8_move { frames := 3, cells := 0, slots := 0, locals := 110 } k_X8_move :=
  zmeth (tb := tb_X8_move) (pr := pr_X8_move) (bl := bl_X8_move) (rt := 1) (own := RX8) hX (by decide +kernel) rfl rfl ⟨Nat.le_of_ble_eq_true rfl, Nat.le_of_ble_eq_true rfl⟩
    (zfl_all (List.forall_mem_cons.mpr ⟨zfl_X8 (fun w h => List.mem_cons_of_mem _ (List.mem_append_right _ h)) (List.mem_of_getElem? (i := 1) rfl) (by decide) (by decide), fun _ h => absurd h List.not_mem_nil⟩))
    (zco_all (fun _ h => absurd h List.not_mem_nil)) (zlc_all (fun _ h => absurd h List.not_mem_nil))
    (List.forall_mem_cons.mpr ⟨fun p e s m args below meth c A S hx => zcal_V hX S (c_X8_isHouse hX hN l) (cwV 1 S.2.2.2.2 gX8_move_X8_isHouse rfl rfl rfl (by decide +kernel) ⟨Nat.le_of_ble_eq_true rfl, Nat.le_of_ble_eq_true rfl⟩) rfl ⟨0, 8, _, _, _, rfl, rfl⟩ rfl, List.forall_mem_cons.mpr ⟨fun p e s m args below meth c A S hx => zcal_V hX S (c_X8_moves hX hN l) (cwV 2 S.2.2.2.2 gX8_move_X8_moves rfl rfl rfl (by decide +kernel) ⟨Nat.le_of_ble_eq_true rfl, Nat.le_of_ble_eq_true rfl⟩) rfl ⟨0, 8, _, _, _, rfl, rfl⟩ rfl, fun _ h => absurd h List.not_mem_nil⟩⟩)
    (List.forall_mem_cons.mpr ⟨fun p e s m args below meth c A S hx => zcal_S hX S (c_X8_bitsOf hX hN l) (va_cwS 1 S.2.2.2.2 gX8_move_X8_bitsOf rfl rfl rfl (by decide +kernel) ⟨Nat.le_of_ble_eq_true rfl, Nat.le_of_ble_eq_true rfl⟩) rfl, fun _ h => absurd h List.not_mem_nil⟩)
    (zmm_all (fun _ h => absurd h List.not_mem_nil)) (zpr_all hp_X8_move) ck_X8_move
def pr_X8_starts : List (Nat × Instr × Nat) := [(0, .iconst 0, 1), (1, .istore_n 1, 1), (2, .iload_n 1, 1), (3, .sipush 131, 3), (6, .if_icmp .ge 21, 3), (9, .aload_n 0, 1), (10, .getfield 13, 3), (13, .iload_n 1, 1), (14, .aload_n 0, 1), (15, .getfield 7, 3), (18, .iload_n 1, 1), (19, .iaload, 1), (20, .iastore, 1), (21, .iinc 1 1, 3), (24, .goto (-22), 3), (27, .return_, 1)]
set_option maxRecDepth 100000 in
theorem hp_X8_starts : pr_X8_starts.all (fun x => decide (decode cX8_starts x.1 = .ok x.2)) = true := by decide +kernel
def ze_X8_starts : zE := [(1, (2, 7)), (2, (0, 1)), (3, (0, 5)), (4, (0, 7)), (5, (0, 1)), (6, (0, 1)), (7, (0, 5)), (8, ((-2147483648), 2147483647)), (9, ((-2147483648), 2147483647)), (10, (0, 160)), (11, (0, 160)), (12, (0, 160)), (13, (0, 3)), (14, ((-2147483648), 2147483647)), (15, (0, 6)), (16, ((-2147483648), 2147483647)), (17, (0, 10)), (18, ((-2147483648), 2147483647)), (19, ((-2147483648), 2147483647)), (20, (0, 10)), (21, (0, 4)), (22, (0, 10)), (23, (0, 4)), (24, (0, 10)), (25, (0, 4)), (26, (0, 10)), (27, (0, 4)), (28, (0, 10)), (29, (0, 4))]
def k_X8_starts : zK := (30, [0, 1, 2, 3, 4, 5, 6, 7, 8, 9, 10, 11, 12, 13, 14], (ze_X8_starts, [], [], [zr 0], zw1, []), [([(30, (0, 6)), (31, (0, 4)), (32, (0, 6)), (33, (0, 4)), (34, (0, 6)), (35, (0, 4)), (36, (0, 6)), (37, (0, 4)), (38, (0, 6)), (39, (0, 4)), (40, (0, 6)), (41, (0, 4)), (42, (0, 6)), (43, (0, 4)), (44, (0, 6)), (45, (0, 4)), (46, (0, 6)), (47, (0, 4)), (48, (0, 6)), (49, (0, 4))], [], [], [], zgs (zgs (zgs (zgs (zgs (zgs (zgs (zgs (zgs (zgs (zgs (zgs (zgs (zgs (zgs (zgs (zgs (zgs (zgs (zgs (zgs (zgs (zw1) 2 3 (.inr (20, 0))) 2 4 (.inr (30, 0))) 2 6 (.inr (31, 0))) 2 7 (.inr (32, 0))) 2 9 (.inr (33, 0))) 2 10 (.inr (34, 0))) 2 12 (.inr (35, 0))) 2 13 (.inr (36, 0))) 2 15 (.inr (37, 0))) 2 16 (.inr (38, 0))) 2 18 (.inr (39, 0))) 2 19 (.inr (40, 0))) 2 21 (.inr (41, 0))) 2 22 (.inr (42, 0))) 2 24 (.inr (43, 0))) 2 25 (.inr (44, 0))) 2 27 (.inr (45, 0))) 2 28 (.inr (46, 0))) 2 30 (.inr (47, 0))) 2 31 (.inr (48, 0))) 2 33 (.inr (49, 0))) 2 34 (.inr (21, 0)), [])])
def b0_X8_starts : Nat × zS := (2, (ze_X8_starts, [], [(1, zi 0 0), (0, zr 0)], [], zw1, [(false, (0, 99998)), (false, (0, 131)), (false, (0, 200000)), (false, (0, 0))]))
def b1_X8_starts : Nat × zS := (2, (ze_X8_starts, [], [(1, zi 0 1), (0, zr 0)], [], zw1, [(false, (0, 99998)), (false, (0, 130)), (false, (0, 200000)), (false, (0, 0))]))
def b2_X8_starts : Nat × zS := (2, (ze_X8_starts, [], [(1, zi 0 2), (0, zr 0)], [], zw1, [(false, (0, 99998)), (false, (0, 129)), (false, (0, 200000)), (false, (0, 0))]))
def b3_X8_starts : Nat × zS := (2, (ze_X8_starts, [], [(1, zi 0 3), (0, zr 0)], [], zw1, [(false, (0, 99998)), (false, (0, 128)), (false, (0, 200000)), (false, (0, 0))]))
def b4_X8_starts : Nat × zS := (2, (ze_X8_starts, [], [(1, zi 0 4), (0, zr 0)], [], zw1, [(false, (0, 99998)), (false, (0, 127)), (false, (0, 200000)), (false, (0, 0))]))
def b5_X8_starts : Nat × zS := (2, (ze_X8_starts, [], [(1, zi 0 5), (0, zr 0)], [], zw1, [(false, (0, 99998)), (false, (0, 126)), (false, (0, 200000)), (false, (0, 0))]))
def b6_X8_starts : Nat × zS := (2, (ze_X8_starts, [], [(1, zi 0 6), (0, zr 0)], [], zw1, [(false, (0, 99998)), (false, (0, 125)), (false, (0, 200000)), (false, (0, 0))]))
def b7_X8_starts : Nat × zS := (2, (ze_X8_starts, [], [(1, zi 0 7), (0, zr 0)], [], zw1, [(false, (0, 99998)), (false, (0, 124)), (false, (0, 200000)), (false, (0, 0))]))
def b8_X8_starts : Nat × zS := (2, (ze_X8_starts, [], [(1, zi 0 8), (0, zr 0)], [], zw1, [(false, (0, 99998)), (false, (0, 123)), (false, (0, 200000)), (false, (0, 0))]))
def b9_X8_starts : Nat × zS := (2, (ze_X8_starts, [], [(1, zi 0 9), (0, zr 0)], [], zw1, [(false, (0, 99998)), (false, (0, 122)), (false, (0, 200000)), (false, (0, 0))]))
def b10_X8_starts : Nat × zS := (2, (ze_X8_starts, [], [(1, zi 0 10), (0, zr 0)], [], zw1, [(false, (0, 99998)), (false, (0, 121)), (false, (0, 200000)), (false, (0, 0))]))
def b11_X8_starts : Nat × zS := (2, (ze_X8_starts, [], [(1, zi 0 11), (0, zr 0)], [], zw1, [(false, (0, 99998)), (false, (0, 120)), (false, (0, 200000)), (false, (0, 0))]))
def b12_X8_starts : Nat × zS := (2, (ze_X8_starts, [], [(1, zi 0 12), (0, zr 0)], [], zw1, [(false, (0, 99998)), (false, (0, 119)), (false, (0, 200000)), (false, (0, 0))]))
def b13_X8_starts : Nat × zS := (2, (ze_X8_starts, [], [(1, zi 0 13), (0, zr 0)], [], zw1, [(false, (0, 99998)), (false, (0, 118)), (false, (0, 200000)), (false, (0, 0))]))
def b14_X8_starts : Nat × zS := (2, (ze_X8_starts, [], [(1, zi 0 14), (0, zr 0)], [], zw1, [(false, (0, 99998)), (false, (0, 117)), (false, (0, 200000)), (false, (0, 0))]))
def b15_X8_starts : Nat × zS := (2, (ze_X8_starts, [], [(1, zi 0 15), (0, zr 0)], [], zw1, [(false, (0, 99998)), (false, (0, 116)), (false, (0, 200000)), (false, (0, 0))]))
def b16_X8_starts : Nat × zS := (2, (ze_X8_starts, [], [(1, zi 0 16), (0, zr 0)], [], zw1, [(false, (0, 99998)), (false, (0, 115)), (false, (0, 200000)), (false, (0, 0))]))
def b17_X8_starts : Nat × zS := (2, (ze_X8_starts, [], [(1, zi 0 17), (0, zr 0)], [], zw1, [(false, (0, 99998)), (false, (0, 114)), (false, (0, 200000)), (false, (0, 0))]))
def b18_X8_starts : Nat × zS := (2, (ze_X8_starts, [], [(1, zi 0 18), (0, zr 0)], [], zw1, [(false, (0, 99998)), (false, (0, 113)), (false, (0, 200000)), (false, (0, 0))]))
def b19_X8_starts : Nat × zS := (2, (ze_X8_starts, [], [(1, zi 0 19), (0, zr 0)], [], zw1, [(false, (0, 99998)), (false, (0, 112)), (false, (0, 200000)), (false, (0, 0))]))
def b20_X8_starts : Nat × zS := (2, (ze_X8_starts, [], [(1, zi 0 20), (0, zr 0)], [], zw1, [(false, (0, 99998)), (false, (0, 111)), (false, (0, 200000)), (false, (0, 0))]))
def b21_X8_starts : Nat × zS := (2, (ze_X8_starts, [], [(1, zi 0 21), (0, zr 0)], [], zw1, [(false, (0, 99998)), (false, (0, 110)), (false, (0, 200000)), (false, (0, 0))]))
def b22_X8_starts : Nat × zS := (2, (ze_X8_starts, [], [(1, zi 0 22), (0, zr 0)], [], zw1, [(false, (0, 99998)), (false, (0, 109)), (false, (0, 200000)), (false, (0, 0))]))
def b23_X8_starts : Nat × zS := (2, (ze_X8_starts, [], [(1, zi 0 23), (0, zr 0)], [], zw1, [(false, (0, 99998)), (false, (0, 108)), (false, (0, 200000)), (false, (0, 0))]))
def b24_X8_starts : Nat × zS := (2, (ze_X8_starts, [], [(1, zi 0 24), (0, zr 0)], [], zw1, [(false, (0, 99998)), (false, (0, 107)), (false, (0, 200000)), (false, (0, 0))]))
def b25_X8_starts : Nat × zS := (2, (ze_X8_starts, [], [(1, zi 0 25), (0, zr 0)], [], zw1, [(false, (0, 99998)), (false, (0, 106)), (false, (0, 200000)), (false, (0, 0))]))
def b26_X8_starts : Nat × zS := (2, (ze_X8_starts, [], [(1, zi 0 26), (0, zr 0)], [], zw1, [(false, (0, 99998)), (false, (0, 105)), (false, (0, 200000)), (false, (0, 0))]))
def b27_X8_starts : Nat × zS := (2, (ze_X8_starts, [], [(1, zi 0 27), (0, zr 0)], [], zw1, [(false, (0, 99998)), (false, (0, 104)), (false, (0, 200000)), (false, (0, 0))]))
def b28_X8_starts : Nat × zS := (2, (ze_X8_starts, [], [(1, zi 0 28), (0, zr 0)], [], zw1, [(false, (0, 99998)), (false, (0, 103)), (false, (0, 200000)), (false, (0, 0))]))
def b29_X8_starts : Nat × zS := (2, (ze_X8_starts, [], [(1, zi 0 29), (0, zr 0)], [], zw1, [(false, (0, 99998)), (false, (0, 102)), (false, (0, 200000)), (false, (0, 0))]))
def b30_X8_starts : Nat × zS := (2, (ze_X8_starts, [], [(1, zi 0 30), (0, zr 0)], [], zw1, [(false, (0, 99998)), (false, (0, 101)), (false, (0, 200000)), (false, (0, 0))]))
def b31_X8_starts : Nat × zS := (2, (ze_X8_starts, [], [(1, zi 0 31), (0, zr 0)], [], zw1, [(false, (0, 99998)), (false, (0, 100)), (false, (0, 200000)), (false, (0, 0))]))
def b32_X8_starts : Nat × zS := (2, (ze_X8_starts, [], [(1, zi 0 32), (0, zr 0)], [], zw1, [(false, (0, 99998)), (false, (0, 99)), (false, (0, 200000)), (false, (0, 0))]))
def b33_X8_starts : Nat × zS := (2, (ze_X8_starts, [], [(1, zi 0 33), (0, zr 0)], [], zw1, [(false, (0, 99998)), (false, (0, 98)), (false, (0, 200000)), (false, (0, 0))]))
def b34_X8_starts : Nat × zS := (2, (ze_X8_starts, [], [(1, zi 0 34), (0, zr 0)], [], zw1, [(false, (0, 99998)), (false, (0, 97)), (false, (0, 200000)), (false, (0, 0))]))
def b35_X8_starts : Nat × zS := (2, (ze_X8_starts, [], [(1, zi 0 35), (0, zr 0)], [], zw1, [(false, (0, 99998)), (false, (0, 96)), (false, (0, 200000)), (false, (0, 0))]))
def b36_X8_starts : Nat × zS := (2, (ze_X8_starts, [], [(1, zi 0 36), (0, zr 0)], [], zw1, [(false, (0, 99998)), (false, (0, 95)), (false, (0, 200000)), (false, (0, 0))]))
def b37_X8_starts : Nat × zS := (2, (ze_X8_starts, [], [(1, zi 0 37), (0, zr 0)], [], zw1, [(false, (0, 99998)), (false, (0, 94)), (false, (0, 200000)), (false, (0, 0))]))
def b38_X8_starts : Nat × zS := (2, (ze_X8_starts, [], [(1, zi 0 38), (0, zr 0)], [], zw1, [(false, (0, 99998)), (false, (0, 93)), (false, (0, 200000)), (false, (0, 0))]))
def b39_X8_starts : Nat × zS := (2, (ze_X8_starts, [], [(1, zi 0 39), (0, zr 0)], [], zw1, [(false, (0, 99998)), (false, (0, 92)), (false, (0, 200000)), (false, (0, 0))]))
def b40_X8_starts : Nat × zS := (2, (ze_X8_starts, [], [(1, zi 0 40), (0, zr 0)], [], zw1, [(false, (0, 99998)), (false, (0, 91)), (false, (0, 200000)), (false, (0, 0))]))
def b41_X8_starts : Nat × zS := (2, (ze_X8_starts, [], [(1, zi 0 41), (0, zr 0)], [], zw1, [(false, (0, 99998)), (false, (0, 90)), (false, (0, 200000)), (false, (0, 0))]))
def b42_X8_starts : Nat × zS := (2, (ze_X8_starts, [], [(1, zi 0 42), (0, zr 0)], [], zw1, [(false, (0, 99998)), (false, (0, 89)), (false, (0, 200000)), (false, (0, 0))]))
def b43_X8_starts : Nat × zS := (2, (ze_X8_starts, [], [(1, zi 0 43), (0, zr 0)], [], zw1, [(false, (0, 99998)), (false, (0, 88)), (false, (0, 200000)), (false, (0, 0))]))
def b44_X8_starts : Nat × zS := (2, (ze_X8_starts, [], [(1, zi 0 44), (0, zr 0)], [], zw1, [(false, (0, 99998)), (false, (0, 87)), (false, (0, 200000)), (false, (0, 0))]))
def b45_X8_starts : Nat × zS := (2, (ze_X8_starts, [], [(1, zi 0 45), (0, zr 0)], [], zw1, [(false, (0, 99998)), (false, (0, 86)), (false, (0, 200000)), (false, (0, 0))]))
def b46_X8_starts : Nat × zS := (2, (ze_X8_starts, [], [(1, zi 0 46), (0, zr 0)], [], zw1, [(false, (0, 99998)), (false, (0, 85)), (false, (0, 200000)), (false, (0, 0))]))
def b47_X8_starts : Nat × zS := (2, (ze_X8_starts, [], [(1, zi 0 47), (0, zr 0)], [], zw1, [(false, (0, 99998)), (false, (0, 84)), (false, (0, 200000)), (false, (0, 0))]))
def b48_X8_starts : Nat × zS := (2, (ze_X8_starts, [], [(1, zi 0 48), (0, zr 0)], [], zw1, [(false, (0, 99998)), (false, (0, 83)), (false, (0, 200000)), (false, (0, 0))]))
def b49_X8_starts : Nat × zS := (2, (ze_X8_starts, [], [(1, zi 0 49), (0, zr 0)], [], zw1, [(false, (0, 99998)), (false, (0, 82)), (false, (0, 200000)), (false, (0, 0))]))
def b50_X8_starts : Nat × zS := (2, (ze_X8_starts, [], [(1, zi 0 50), (0, zr 0)], [], zw1, [(false, (0, 99998)), (false, (0, 81)), (false, (0, 200000)), (false, (0, 0))]))
def b51_X8_starts : Nat × zS := (2, (ze_X8_starts, [], [(1, zi 0 51), (0, zr 0)], [], zw1, [(false, (0, 99998)), (false, (0, 80)), (false, (0, 200000)), (false, (0, 0))]))
def b52_X8_starts : Nat × zS := (2, (ze_X8_starts, [], [(1, zi 0 52), (0, zr 0)], [], zw1, [(false, (0, 99998)), (false, (0, 79)), (false, (0, 200000)), (false, (0, 0))]))
def b53_X8_starts : Nat × zS := (2, (ze_X8_starts, [], [(1, zi 0 53), (0, zr 0)], [], zw1, [(false, (0, 99998)), (false, (0, 78)), (false, (0, 200000)), (false, (0, 0))]))
def b54_X8_starts : Nat × zS := (2, (ze_X8_starts, [], [(1, zi 0 54), (0, zr 0)], [], zw1, [(false, (0, 99998)), (false, (0, 77)), (false, (0, 200000)), (false, (0, 0))]))
def b55_X8_starts : Nat × zS := (2, (ze_X8_starts, [], [(1, zi 0 55), (0, zr 0)], [], zw1, [(false, (0, 99998)), (false, (0, 76)), (false, (0, 200000)), (false, (0, 0))]))
def b56_X8_starts : Nat × zS := (2, (ze_X8_starts, [], [(1, zi 0 56), (0, zr 0)], [], zw1, [(false, (0, 99998)), (false, (0, 75)), (false, (0, 200000)), (false, (0, 0))]))
def b57_X8_starts : Nat × zS := (2, (ze_X8_starts, [], [(1, zi 0 57), (0, zr 0)], [], zw1, [(false, (0, 99998)), (false, (0, 74)), (false, (0, 200000)), (false, (0, 0))]))
def b58_X8_starts : Nat × zS := (2, (ze_X8_starts, [], [(1, zi 0 58), (0, zr 0)], [], zw1, [(false, (0, 99998)), (false, (0, 73)), (false, (0, 200000)), (false, (0, 0))]))
def b59_X8_starts : Nat × zS := (2, (ze_X8_starts, [], [(1, zi 0 59), (0, zr 0)], [], zw1, [(false, (0, 99998)), (false, (0, 72)), (false, (0, 200000)), (false, (0, 0))]))
def b60_X8_starts : Nat × zS := (2, (ze_X8_starts, [], [(1, zi 0 60), (0, zr 0)], [], zw1, [(false, (0, 99998)), (false, (0, 71)), (false, (0, 200000)), (false, (0, 0))]))
def b61_X8_starts : Nat × zS := (2, (ze_X8_starts, [], [(1, zi 0 61), (0, zr 0)], [], zw1, [(false, (0, 99998)), (false, (0, 70)), (false, (0, 200000)), (false, (0, 0))]))
def b62_X8_starts : Nat × zS := (2, (ze_X8_starts, [], [(1, zi 0 62), (0, zr 0)], [], zw1, [(false, (0, 99998)), (false, (0, 69)), (false, (0, 200000)), (false, (0, 0))]))
def b63_X8_starts : Nat × zS := (2, (ze_X8_starts, [], [(1, zi 0 63), (0, zr 0)], [], zw1, [(false, (0, 99998)), (false, (0, 68)), (false, (0, 200000)), (false, (0, 0))]))
def b64_X8_starts : Nat × zS := (2, (ze_X8_starts, [], [(1, zi 0 64), (0, zr 0)], [], zw1, [(false, (0, 99998)), (false, (0, 67)), (false, (0, 200000)), (false, (0, 0))]))
def b65_X8_starts : Nat × zS := (2, (ze_X8_starts, [], [(1, zi 0 65), (0, zr 0)], [], zw1, [(false, (0, 99998)), (false, (0, 66)), (false, (0, 200000)), (false, (0, 0))]))
def b66_X8_starts : Nat × zS := (2, (ze_X8_starts, [], [(1, zi 0 66), (0, zr 0)], [], zw1, [(false, (0, 99998)), (false, (0, 65)), (false, (0, 200000)), (false, (0, 0))]))
def b67_X8_starts : Nat × zS := (2, (ze_X8_starts, [], [(1, zi 0 67), (0, zr 0)], [], zw1, [(false, (0, 99998)), (false, (0, 64)), (false, (0, 200000)), (false, (0, 0))]))
def b68_X8_starts : Nat × zS := (2, (ze_X8_starts, [], [(1, zi 0 68), (0, zr 0)], [], zw1, [(false, (0, 99998)), (false, (0, 63)), (false, (0, 200000)), (false, (0, 0))]))
def b69_X8_starts : Nat × zS := (2, (ze_X8_starts, [], [(1, zi 0 69), (0, zr 0)], [], zw1, [(false, (0, 99998)), (false, (0, 62)), (false, (0, 200000)), (false, (0, 0))]))
def b70_X8_starts : Nat × zS := (2, (ze_X8_starts, [], [(1, zi 0 70), (0, zr 0)], [], zw1, [(false, (0, 99998)), (false, (0, 61)), (false, (0, 200000)), (false, (0, 0))]))
def b71_X8_starts : Nat × zS := (2, (ze_X8_starts, [], [(1, zi 0 71), (0, zr 0)], [], zw1, [(false, (0, 99998)), (false, (0, 60)), (false, (0, 200000)), (false, (0, 0))]))
def b72_X8_starts : Nat × zS := (2, (ze_X8_starts, [], [(1, zi 0 72), (0, zr 0)], [], zw1, [(false, (0, 99998)), (false, (0, 59)), (false, (0, 200000)), (false, (0, 0))]))
def b73_X8_starts : Nat × zS := (2, (ze_X8_starts, [], [(1, zi 0 73), (0, zr 0)], [], zw1, [(false, (0, 99998)), (false, (0, 58)), (false, (0, 200000)), (false, (0, 0))]))
def b74_X8_starts : Nat × zS := (2, (ze_X8_starts, [], [(1, zi 0 74), (0, zr 0)], [], zw1, [(false, (0, 99998)), (false, (0, 57)), (false, (0, 200000)), (false, (0, 0))]))
def b75_X8_starts : Nat × zS := (2, (ze_X8_starts, [], [(1, zi 0 75), (0, zr 0)], [], zw1, [(false, (0, 99998)), (false, (0, 56)), (false, (0, 200000)), (false, (0, 0))]))
def b76_X8_starts : Nat × zS := (2, (ze_X8_starts, [], [(1, zi 0 76), (0, zr 0)], [], zw1, [(false, (0, 99998)), (false, (0, 55)), (false, (0, 200000)), (false, (0, 0))]))
def b77_X8_starts : Nat × zS := (2, (ze_X8_starts, [], [(1, zi 0 77), (0, zr 0)], [], zw1, [(false, (0, 99998)), (false, (0, 54)), (false, (0, 200000)), (false, (0, 0))]))
def b78_X8_starts : Nat × zS := (2, (ze_X8_starts, [], [(1, zi 0 78), (0, zr 0)], [], zgs (zw1) 2 3 (.inr (20, 0)), [(false, (0, 99998)), (false, (0, 53)), (false, (0, 200000)), (false, (0, 0))]))
def b79_X8_starts : Nat × zS := (2, ([(30, (0, 6))] ++ ze_X8_starts, [], [(1, zi 0 79), (0, zr 0)], [], zgs (zgs (zw1) 2 3 (.inr (20, 0))) 2 4 (.inr (30, 0)), [(false, (0, 99998)), (false, (0, 52)), (false, (0, 200000)), (false, (0, 0))]))
def b80_X8_starts : Nat × zS := (2, ([(30, (0, 6))] ++ ze_X8_starts, [], [(1, zi 0 80), (0, zr 0)], [], zgs (zgs (zw1) 2 3 (.inr (20, 0))) 2 4 (.inr (30, 0)), [(false, (0, 99998)), (false, (0, 51)), (false, (0, 200000)), (false, (0, 0))]))
def b81_X8_starts : Nat × zS := (2, ([(30, (0, 6))] ++ ze_X8_starts, [], [(1, zi 0 81), (0, zr 0)], [], zgs (zgs (zw1) 2 3 (.inr (20, 0))) 2 4 (.inr (30, 0)), [(false, (0, 99998)), (false, (0, 50)), (false, (0, 200000)), (false, (0, 0))]))
def b82_X8_starts : Nat × zS := (2, ([(30, (0, 6)), (31, (0, 4))] ++ ze_X8_starts, [], [(1, zi 0 82), (0, zr 0)], [], zgs (zgs (zgs (zw1) 2 3 (.inr (20, 0))) 2 4 (.inr (30, 0))) 2 6 (.inr (31, 0)), [(false, (0, 99998)), (false, (0, 49)), (false, (0, 200000)), (false, (0, 0))]))
def b83_X8_starts : Nat × zS := (2, ([(30, (0, 6)), (31, (0, 4)), (32, (0, 6))] ++ ze_X8_starts, [], [(1, zi 0 83), (0, zr 0)], [], zgs (zgs (zgs (zgs (zw1) 2 3 (.inr (20, 0))) 2 4 (.inr (30, 0))) 2 6 (.inr (31, 0))) 2 7 (.inr (32, 0)), [(false, (0, 99998)), (false, (0, 48)), (false, (0, 200000)), (false, (0, 0))]))
def b84_X8_starts : Nat × zS := (2, ([(30, (0, 6)), (31, (0, 4)), (32, (0, 6))] ++ ze_X8_starts, [], [(1, zi 0 84), (0, zr 0)], [], zgs (zgs (zgs (zgs (zw1) 2 3 (.inr (20, 0))) 2 4 (.inr (30, 0))) 2 6 (.inr (31, 0))) 2 7 (.inr (32, 0)), [(false, (0, 99998)), (false, (0, 47)), (false, (0, 200000)), (false, (0, 0))]))
def b85_X8_starts : Nat × zS := (2, ([(30, (0, 6)), (31, (0, 4)), (32, (0, 6))] ++ ze_X8_starts, [], [(1, zi 0 85), (0, zr 0)], [], zgs (zgs (zgs (zgs (zw1) 2 3 (.inr (20, 0))) 2 4 (.inr (30, 0))) 2 6 (.inr (31, 0))) 2 7 (.inr (32, 0)), [(false, (0, 99998)), (false, (0, 46)), (false, (0, 200000)), (false, (0, 0))]))
def b86_X8_starts : Nat × zS := (2, ([(30, (0, 6)), (31, (0, 4)), (32, (0, 6)), (33, (0, 4))] ++ ze_X8_starts, [], [(1, zi 0 86), (0, zr 0)], [], zgs (zgs (zgs (zgs (zgs (zw1) 2 3 (.inr (20, 0))) 2 4 (.inr (30, 0))) 2 6 (.inr (31, 0))) 2 7 (.inr (32, 0))) 2 9 (.inr (33, 0)), [(false, (0, 99998)), (false, (0, 45)), (false, (0, 200000)), (false, (0, 0))]))
def b87_X8_starts : Nat × zS := (2, ([(30, (0, 6)), (31, (0, 4)), (32, (0, 6)), (33, (0, 4)), (34, (0, 6))] ++ ze_X8_starts, [], [(1, zi 0 87), (0, zr 0)], [], zgs (zgs (zgs (zgs (zgs (zgs (zw1) 2 3 (.inr (20, 0))) 2 4 (.inr (30, 0))) 2 6 (.inr (31, 0))) 2 7 (.inr (32, 0))) 2 9 (.inr (33, 0))) 2 10 (.inr (34, 0)), [(false, (0, 99998)), (false, (0, 44)), (false, (0, 200000)), (false, (0, 0))]))
def b88_X8_starts : Nat × zS := (2, ([(30, (0, 6)), (31, (0, 4)), (32, (0, 6)), (33, (0, 4)), (34, (0, 6))] ++ ze_X8_starts, [], [(1, zi 0 88), (0, zr 0)], [], zgs (zgs (zgs (zgs (zgs (zgs (zw1) 2 3 (.inr (20, 0))) 2 4 (.inr (30, 0))) 2 6 (.inr (31, 0))) 2 7 (.inr (32, 0))) 2 9 (.inr (33, 0))) 2 10 (.inr (34, 0)), [(false, (0, 99998)), (false, (0, 43)), (false, (0, 200000)), (false, (0, 0))]))
def b89_X8_starts : Nat × zS := (2, ([(30, (0, 6)), (31, (0, 4)), (32, (0, 6)), (33, (0, 4)), (34, (0, 6))] ++ ze_X8_starts, [], [(1, zi 0 89), (0, zr 0)], [], zgs (zgs (zgs (zgs (zgs (zgs (zw1) 2 3 (.inr (20, 0))) 2 4 (.inr (30, 0))) 2 6 (.inr (31, 0))) 2 7 (.inr (32, 0))) 2 9 (.inr (33, 0))) 2 10 (.inr (34, 0)), [(false, (0, 99998)), (false, (0, 42)), (false, (0, 200000)), (false, (0, 0))]))
def b90_X8_starts : Nat × zS := (2, ([(30, (0, 6)), (31, (0, 4)), (32, (0, 6)), (33, (0, 4)), (34, (0, 6)), (35, (0, 4))] ++ ze_X8_starts, [], [(1, zi 0 90), (0, zr 0)], [], zgs (zgs (zgs (zgs (zgs (zgs (zgs (zw1) 2 3 (.inr (20, 0))) 2 4 (.inr (30, 0))) 2 6 (.inr (31, 0))) 2 7 (.inr (32, 0))) 2 9 (.inr (33, 0))) 2 10 (.inr (34, 0))) 2 12 (.inr (35, 0)), [(false, (0, 99998)), (false, (0, 41)), (false, (0, 200000)), (false, (0, 0))]))
def b91_X8_starts : Nat × zS := (2, ([(30, (0, 6)), (31, (0, 4)), (32, (0, 6)), (33, (0, 4)), (34, (0, 6)), (35, (0, 4)), (36, (0, 6))] ++ ze_X8_starts, [], [(1, zi 0 91), (0, zr 0)], [], zgs (zgs (zgs (zgs (zgs (zgs (zgs (zgs (zw1) 2 3 (.inr (20, 0))) 2 4 (.inr (30, 0))) 2 6 (.inr (31, 0))) 2 7 (.inr (32, 0))) 2 9 (.inr (33, 0))) 2 10 (.inr (34, 0))) 2 12 (.inr (35, 0))) 2 13 (.inr (36, 0)), [(false, (0, 99998)), (false, (0, 40)), (false, (0, 200000)), (false, (0, 0))]))
def b92_X8_starts : Nat × zS := (2, ([(30, (0, 6)), (31, (0, 4)), (32, (0, 6)), (33, (0, 4)), (34, (0, 6)), (35, (0, 4)), (36, (0, 6))] ++ ze_X8_starts, [], [(1, zi 0 92), (0, zr 0)], [], zgs (zgs (zgs (zgs (zgs (zgs (zgs (zgs (zw1) 2 3 (.inr (20, 0))) 2 4 (.inr (30, 0))) 2 6 (.inr (31, 0))) 2 7 (.inr (32, 0))) 2 9 (.inr (33, 0))) 2 10 (.inr (34, 0))) 2 12 (.inr (35, 0))) 2 13 (.inr (36, 0)), [(false, (0, 99998)), (false, (0, 39)), (false, (0, 200000)), (false, (0, 0))]))
def b93_X8_starts : Nat × zS := (2, ([(30, (0, 6)), (31, (0, 4)), (32, (0, 6)), (33, (0, 4)), (34, (0, 6)), (35, (0, 4)), (36, (0, 6))] ++ ze_X8_starts, [], [(1, zi 0 93), (0, zr 0)], [], zgs (zgs (zgs (zgs (zgs (zgs (zgs (zgs (zw1) 2 3 (.inr (20, 0))) 2 4 (.inr (30, 0))) 2 6 (.inr (31, 0))) 2 7 (.inr (32, 0))) 2 9 (.inr (33, 0))) 2 10 (.inr (34, 0))) 2 12 (.inr (35, 0))) 2 13 (.inr (36, 0)), [(false, (0, 99998)), (false, (0, 38)), (false, (0, 200000)), (false, (0, 0))]))
def b94_X8_starts : Nat × zS := (2, ([(30, (0, 6)), (31, (0, 4)), (32, (0, 6)), (33, (0, 4)), (34, (0, 6)), (35, (0, 4)), (36, (0, 6)), (37, (0, 4))] ++ ze_X8_starts, [], [(1, zi 0 94), (0, zr 0)], [], zgs (zgs (zgs (zgs (zgs (zgs (zgs (zgs (zgs (zw1) 2 3 (.inr (20, 0))) 2 4 (.inr (30, 0))) 2 6 (.inr (31, 0))) 2 7 (.inr (32, 0))) 2 9 (.inr (33, 0))) 2 10 (.inr (34, 0))) 2 12 (.inr (35, 0))) 2 13 (.inr (36, 0))) 2 15 (.inr (37, 0)), [(false, (0, 99998)), (false, (0, 37)), (false, (0, 200000)), (false, (0, 0))]))
def b95_X8_starts : Nat × zS := (2, ([(30, (0, 6)), (31, (0, 4)), (32, (0, 6)), (33, (0, 4)), (34, (0, 6)), (35, (0, 4)), (36, (0, 6)), (37, (0, 4)), (38, (0, 6))] ++ ze_X8_starts, [], [(1, zi 0 95), (0, zr 0)], [], zgs (zgs (zgs (zgs (zgs (zgs (zgs (zgs (zgs (zgs (zw1) 2 3 (.inr (20, 0))) 2 4 (.inr (30, 0))) 2 6 (.inr (31, 0))) 2 7 (.inr (32, 0))) 2 9 (.inr (33, 0))) 2 10 (.inr (34, 0))) 2 12 (.inr (35, 0))) 2 13 (.inr (36, 0))) 2 15 (.inr (37, 0))) 2 16 (.inr (38, 0)), [(false, (0, 99998)), (false, (0, 36)), (false, (0, 200000)), (false, (0, 0))]))
def b96_X8_starts : Nat × zS := (2, ([(30, (0, 6)), (31, (0, 4)), (32, (0, 6)), (33, (0, 4)), (34, (0, 6)), (35, (0, 4)), (36, (0, 6)), (37, (0, 4)), (38, (0, 6))] ++ ze_X8_starts, [], [(1, zi 0 96), (0, zr 0)], [], zgs (zgs (zgs (zgs (zgs (zgs (zgs (zgs (zgs (zgs (zw1) 2 3 (.inr (20, 0))) 2 4 (.inr (30, 0))) 2 6 (.inr (31, 0))) 2 7 (.inr (32, 0))) 2 9 (.inr (33, 0))) 2 10 (.inr (34, 0))) 2 12 (.inr (35, 0))) 2 13 (.inr (36, 0))) 2 15 (.inr (37, 0))) 2 16 (.inr (38, 0)), [(false, (0, 99998)), (false, (0, 35)), (false, (0, 200000)), (false, (0, 0))]))
def b97_X8_starts : Nat × zS := (2, ([(30, (0, 6)), (31, (0, 4)), (32, (0, 6)), (33, (0, 4)), (34, (0, 6)), (35, (0, 4)), (36, (0, 6)), (37, (0, 4)), (38, (0, 6))] ++ ze_X8_starts, [], [(1, zi 0 97), (0, zr 0)], [], zgs (zgs (zgs (zgs (zgs (zgs (zgs (zgs (zgs (zgs (zw1) 2 3 (.inr (20, 0))) 2 4 (.inr (30, 0))) 2 6 (.inr (31, 0))) 2 7 (.inr (32, 0))) 2 9 (.inr (33, 0))) 2 10 (.inr (34, 0))) 2 12 (.inr (35, 0))) 2 13 (.inr (36, 0))) 2 15 (.inr (37, 0))) 2 16 (.inr (38, 0)), [(false, (0, 99998)), (false, (0, 34)), (false, (0, 200000)), (false, (0, 0))]))
def b98_X8_starts : Nat × zS := (2, ([(30, (0, 6)), (31, (0, 4)), (32, (0, 6)), (33, (0, 4)), (34, (0, 6)), (35, (0, 4)), (36, (0, 6)), (37, (0, 4)), (38, (0, 6)), (39, (0, 4))] ++ ze_X8_starts, [], [(1, zi 0 98), (0, zr 0)], [], zgs (zgs (zgs (zgs (zgs (zgs (zgs (zgs (zgs (zgs (zgs (zw1) 2 3 (.inr (20, 0))) 2 4 (.inr (30, 0))) 2 6 (.inr (31, 0))) 2 7 (.inr (32, 0))) 2 9 (.inr (33, 0))) 2 10 (.inr (34, 0))) 2 12 (.inr (35, 0))) 2 13 (.inr (36, 0))) 2 15 (.inr (37, 0))) 2 16 (.inr (38, 0))) 2 18 (.inr (39, 0)), [(false, (0, 99998)), (false, (0, 33)), (false, (0, 200000)), (false, (0, 0))]))
def b99_X8_starts : Nat × zS := (2, ([(30, (0, 6)), (31, (0, 4)), (32, (0, 6)), (33, (0, 4)), (34, (0, 6)), (35, (0, 4)), (36, (0, 6)), (37, (0, 4)), (38, (0, 6)), (39, (0, 4)), (40, (0, 6))] ++ ze_X8_starts, [], [(1, zi 0 99), (0, zr 0)], [], zgs (zgs (zgs (zgs (zgs (zgs (zgs (zgs (zgs (zgs (zgs (zgs (zw1) 2 3 (.inr (20, 0))) 2 4 (.inr (30, 0))) 2 6 (.inr (31, 0))) 2 7 (.inr (32, 0))) 2 9 (.inr (33, 0))) 2 10 (.inr (34, 0))) 2 12 (.inr (35, 0))) 2 13 (.inr (36, 0))) 2 15 (.inr (37, 0))) 2 16 (.inr (38, 0))) 2 18 (.inr (39, 0))) 2 19 (.inr (40, 0)), [(false, (0, 99998)), (false, (0, 32)), (false, (0, 200000)), (false, (0, 0))]))
def b100_X8_starts : Nat × zS := (2, ([(30, (0, 6)), (31, (0, 4)), (32, (0, 6)), (33, (0, 4)), (34, (0, 6)), (35, (0, 4)), (36, (0, 6)), (37, (0, 4)), (38, (0, 6)), (39, (0, 4)), (40, (0, 6))] ++ ze_X8_starts, [], [(1, zi 0 100), (0, zr 0)], [], zgs (zgs (zgs (zgs (zgs (zgs (zgs (zgs (zgs (zgs (zgs (zgs (zw1) 2 3 (.inr (20, 0))) 2 4 (.inr (30, 0))) 2 6 (.inr (31, 0))) 2 7 (.inr (32, 0))) 2 9 (.inr (33, 0))) 2 10 (.inr (34, 0))) 2 12 (.inr (35, 0))) 2 13 (.inr (36, 0))) 2 15 (.inr (37, 0))) 2 16 (.inr (38, 0))) 2 18 (.inr (39, 0))) 2 19 (.inr (40, 0)), [(false, (0, 99998)), (false, (0, 31)), (false, (0, 200000)), (false, (0, 0))]))
def b101_X8_starts : Nat × zS := (2, ([(30, (0, 6)), (31, (0, 4)), (32, (0, 6)), (33, (0, 4)), (34, (0, 6)), (35, (0, 4)), (36, (0, 6)), (37, (0, 4)), (38, (0, 6)), (39, (0, 4)), (40, (0, 6))] ++ ze_X8_starts, [], [(1, zi 0 101), (0, zr 0)], [], zgs (zgs (zgs (zgs (zgs (zgs (zgs (zgs (zgs (zgs (zgs (zgs (zw1) 2 3 (.inr (20, 0))) 2 4 (.inr (30, 0))) 2 6 (.inr (31, 0))) 2 7 (.inr (32, 0))) 2 9 (.inr (33, 0))) 2 10 (.inr (34, 0))) 2 12 (.inr (35, 0))) 2 13 (.inr (36, 0))) 2 15 (.inr (37, 0))) 2 16 (.inr (38, 0))) 2 18 (.inr (39, 0))) 2 19 (.inr (40, 0)), [(false, (0, 99998)), (false, (0, 30)), (false, (0, 200000)), (false, (0, 0))]))
def b102_X8_starts : Nat × zS := (2, ([(30, (0, 6)), (31, (0, 4)), (32, (0, 6)), (33, (0, 4)), (34, (0, 6)), (35, (0, 4)), (36, (0, 6)), (37, (0, 4)), (38, (0, 6)), (39, (0, 4)), (40, (0, 6)), (41, (0, 4))] ++ ze_X8_starts, [], [(1, zi 0 102), (0, zr 0)], [], zgs (zgs (zgs (zgs (zgs (zgs (zgs (zgs (zgs (zgs (zgs (zgs (zgs (zw1) 2 3 (.inr (20, 0))) 2 4 (.inr (30, 0))) 2 6 (.inr (31, 0))) 2 7 (.inr (32, 0))) 2 9 (.inr (33, 0))) 2 10 (.inr (34, 0))) 2 12 (.inr (35, 0))) 2 13 (.inr (36, 0))) 2 15 (.inr (37, 0))) 2 16 (.inr (38, 0))) 2 18 (.inr (39, 0))) 2 19 (.inr (40, 0))) 2 21 (.inr (41, 0)), [(false, (0, 99998)), (false, (0, 29)), (false, (0, 200000)), (false, (0, 0))]))
def b103_X8_starts : Nat × zS := (2, ([(30, (0, 6)), (31, (0, 4)), (32, (0, 6)), (33, (0, 4)), (34, (0, 6)), (35, (0, 4)), (36, (0, 6)), (37, (0, 4)), (38, (0, 6)), (39, (0, 4)), (40, (0, 6)), (41, (0, 4)), (42, (0, 6))] ++ ze_X8_starts, [], [(1, zi 0 103), (0, zr 0)], [], zgs (zgs (zgs (zgs (zgs (zgs (zgs (zgs (zgs (zgs (zgs (zgs (zgs (zgs (zw1) 2 3 (.inr (20, 0))) 2 4 (.inr (30, 0))) 2 6 (.inr (31, 0))) 2 7 (.inr (32, 0))) 2 9 (.inr (33, 0))) 2 10 (.inr (34, 0))) 2 12 (.inr (35, 0))) 2 13 (.inr (36, 0))) 2 15 (.inr (37, 0))) 2 16 (.inr (38, 0))) 2 18 (.inr (39, 0))) 2 19 (.inr (40, 0))) 2 21 (.inr (41, 0))) 2 22 (.inr (42, 0)), [(false, (0, 99998)), (false, (0, 28)), (false, (0, 200000)), (false, (0, 0))]))
def b104_X8_starts : Nat × zS := (2, ([(30, (0, 6)), (31, (0, 4)), (32, (0, 6)), (33, (0, 4)), (34, (0, 6)), (35, (0, 4)), (36, (0, 6)), (37, (0, 4)), (38, (0, 6)), (39, (0, 4)), (40, (0, 6)), (41, (0, 4)), (42, (0, 6))] ++ ze_X8_starts, [], [(1, zi 0 104), (0, zr 0)], [], zgs (zgs (zgs (zgs (zgs (zgs (zgs (zgs (zgs (zgs (zgs (zgs (zgs (zgs (zw1) 2 3 (.inr (20, 0))) 2 4 (.inr (30, 0))) 2 6 (.inr (31, 0))) 2 7 (.inr (32, 0))) 2 9 (.inr (33, 0))) 2 10 (.inr (34, 0))) 2 12 (.inr (35, 0))) 2 13 (.inr (36, 0))) 2 15 (.inr (37, 0))) 2 16 (.inr (38, 0))) 2 18 (.inr (39, 0))) 2 19 (.inr (40, 0))) 2 21 (.inr (41, 0))) 2 22 (.inr (42, 0)), [(false, (0, 99998)), (false, (0, 27)), (false, (0, 200000)), (false, (0, 0))]))
def b105_X8_starts : Nat × zS := (2, ([(30, (0, 6)), (31, (0, 4)), (32, (0, 6)), (33, (0, 4)), (34, (0, 6)), (35, (0, 4)), (36, (0, 6)), (37, (0, 4)), (38, (0, 6)), (39, (0, 4)), (40, (0, 6)), (41, (0, 4)), (42, (0, 6))] ++ ze_X8_starts, [], [(1, zi 0 105), (0, zr 0)], [], zgs (zgs (zgs (zgs (zgs (zgs (zgs (zgs (zgs (zgs (zgs (zgs (zgs (zgs (zw1) 2 3 (.inr (20, 0))) 2 4 (.inr (30, 0))) 2 6 (.inr (31, 0))) 2 7 (.inr (32, 0))) 2 9 (.inr (33, 0))) 2 10 (.inr (34, 0))) 2 12 (.inr (35, 0))) 2 13 (.inr (36, 0))) 2 15 (.inr (37, 0))) 2 16 (.inr (38, 0))) 2 18 (.inr (39, 0))) 2 19 (.inr (40, 0))) 2 21 (.inr (41, 0))) 2 22 (.inr (42, 0)), [(false, (0, 99998)), (false, (0, 26)), (false, (0, 200000)), (false, (0, 0))]))
def b106_X8_starts : Nat × zS := (2, ([(30, (0, 6)), (31, (0, 4)), (32, (0, 6)), (33, (0, 4)), (34, (0, 6)), (35, (0, 4)), (36, (0, 6)), (37, (0, 4)), (38, (0, 6)), (39, (0, 4)), (40, (0, 6)), (41, (0, 4)), (42, (0, 6)), (43, (0, 4))] ++ ze_X8_starts, [], [(1, zi 0 106), (0, zr 0)], [], zgs (zgs (zgs (zgs (zgs (zgs (zgs (zgs (zgs (zgs (zgs (zgs (zgs (zgs (zgs (zw1) 2 3 (.inr (20, 0))) 2 4 (.inr (30, 0))) 2 6 (.inr (31, 0))) 2 7 (.inr (32, 0))) 2 9 (.inr (33, 0))) 2 10 (.inr (34, 0))) 2 12 (.inr (35, 0))) 2 13 (.inr (36, 0))) 2 15 (.inr (37, 0))) 2 16 (.inr (38, 0))) 2 18 (.inr (39, 0))) 2 19 (.inr (40, 0))) 2 21 (.inr (41, 0))) 2 22 (.inr (42, 0))) 2 24 (.inr (43, 0)), [(false, (0, 99998)), (false, (0, 25)), (false, (0, 200000)), (false, (0, 0))]))
def b107_X8_starts : Nat × zS := (2, ([(30, (0, 6)), (31, (0, 4)), (32, (0, 6)), (33, (0, 4)), (34, (0, 6)), (35, (0, 4)), (36, (0, 6)), (37, (0, 4)), (38, (0, 6)), (39, (0, 4)), (40, (0, 6)), (41, (0, 4)), (42, (0, 6)), (43, (0, 4)), (44, (0, 6))] ++ ze_X8_starts, [], [(1, zi 0 107), (0, zr 0)], [], zgs (zgs (zgs (zgs (zgs (zgs (zgs (zgs (zgs (zgs (zgs (zgs (zgs (zgs (zgs (zgs (zw1) 2 3 (.inr (20, 0))) 2 4 (.inr (30, 0))) 2 6 (.inr (31, 0))) 2 7 (.inr (32, 0))) 2 9 (.inr (33, 0))) 2 10 (.inr (34, 0))) 2 12 (.inr (35, 0))) 2 13 (.inr (36, 0))) 2 15 (.inr (37, 0))) 2 16 (.inr (38, 0))) 2 18 (.inr (39, 0))) 2 19 (.inr (40, 0))) 2 21 (.inr (41, 0))) 2 22 (.inr (42, 0))) 2 24 (.inr (43, 0))) 2 25 (.inr (44, 0)), [(false, (0, 99998)), (false, (0, 24)), (false, (0, 200000)), (false, (0, 0))]))
def b108_X8_starts : Nat × zS := (2, ([(30, (0, 6)), (31, (0, 4)), (32, (0, 6)), (33, (0, 4)), (34, (0, 6)), (35, (0, 4)), (36, (0, 6)), (37, (0, 4)), (38, (0, 6)), (39, (0, 4)), (40, (0, 6)), (41, (0, 4)), (42, (0, 6)), (43, (0, 4)), (44, (0, 6))] ++ ze_X8_starts, [], [(1, zi 0 108), (0, zr 0)], [], zgs (zgs (zgs (zgs (zgs (zgs (zgs (zgs (zgs (zgs (zgs (zgs (zgs (zgs (zgs (zgs (zw1) 2 3 (.inr (20, 0))) 2 4 (.inr (30, 0))) 2 6 (.inr (31, 0))) 2 7 (.inr (32, 0))) 2 9 (.inr (33, 0))) 2 10 (.inr (34, 0))) 2 12 (.inr (35, 0))) 2 13 (.inr (36, 0))) 2 15 (.inr (37, 0))) 2 16 (.inr (38, 0))) 2 18 (.inr (39, 0))) 2 19 (.inr (40, 0))) 2 21 (.inr (41, 0))) 2 22 (.inr (42, 0))) 2 24 (.inr (43, 0))) 2 25 (.inr (44, 0)), [(false, (0, 99998)), (false, (0, 23)), (false, (0, 200000)), (false, (0, 0))]))
def b109_X8_starts : Nat × zS := (2, ([(30, (0, 6)), (31, (0, 4)), (32, (0, 6)), (33, (0, 4)), (34, (0, 6)), (35, (0, 4)), (36, (0, 6)), (37, (0, 4)), (38, (0, 6)), (39, (0, 4)), (40, (0, 6)), (41, (0, 4)), (42, (0, 6)), (43, (0, 4)), (44, (0, 6))] ++ ze_X8_starts, [], [(1, zi 0 109), (0, zr 0)], [], zgs (zgs (zgs (zgs (zgs (zgs (zgs (zgs (zgs (zgs (zgs (zgs (zgs (zgs (zgs (zgs (zw1) 2 3 (.inr (20, 0))) 2 4 (.inr (30, 0))) 2 6 (.inr (31, 0))) 2 7 (.inr (32, 0))) 2 9 (.inr (33, 0))) 2 10 (.inr (34, 0))) 2 12 (.inr (35, 0))) 2 13 (.inr (36, 0))) 2 15 (.inr (37, 0))) 2 16 (.inr (38, 0))) 2 18 (.inr (39, 0))) 2 19 (.inr (40, 0))) 2 21 (.inr (41, 0))) 2 22 (.inr (42, 0))) 2 24 (.inr (43, 0))) 2 25 (.inr (44, 0)), [(false, (0, 99998)), (false, (0, 22)), (false, (0, 200000)), (false, (0, 0))]))
def b110_X8_starts : Nat × zS := (2, ([(30, (0, 6)), (31, (0, 4)), (32, (0, 6)), (33, (0, 4)), (34, (0, 6)), (35, (0, 4)), (36, (0, 6)), (37, (0, 4)), (38, (0, 6)), (39, (0, 4)), (40, (0, 6)), (41, (0, 4)), (42, (0, 6)), (43, (0, 4)), (44, (0, 6)), (45, (0, 4))] ++ ze_X8_starts, [], [(1, zi 0 110), (0, zr 0)], [], zgs (zgs (zgs (zgs (zgs (zgs (zgs (zgs (zgs (zgs (zgs (zgs (zgs (zgs (zgs (zgs (zgs (zw1) 2 3 (.inr (20, 0))) 2 4 (.inr (30, 0))) 2 6 (.inr (31, 0))) 2 7 (.inr (32, 0))) 2 9 (.inr (33, 0))) 2 10 (.inr (34, 0))) 2 12 (.inr (35, 0))) 2 13 (.inr (36, 0))) 2 15 (.inr (37, 0))) 2 16 (.inr (38, 0))) 2 18 (.inr (39, 0))) 2 19 (.inr (40, 0))) 2 21 (.inr (41, 0))) 2 22 (.inr (42, 0))) 2 24 (.inr (43, 0))) 2 25 (.inr (44, 0))) 2 27 (.inr (45, 0)), [(false, (0, 99998)), (false, (0, 21)), (false, (0, 200000)), (false, (0, 0))]))
def b111_X8_starts : Nat × zS := (2, ([(30, (0, 6)), (31, (0, 4)), (32, (0, 6)), (33, (0, 4)), (34, (0, 6)), (35, (0, 4)), (36, (0, 6)), (37, (0, 4)), (38, (0, 6)), (39, (0, 4)), (40, (0, 6)), (41, (0, 4)), (42, (0, 6)), (43, (0, 4)), (44, (0, 6)), (45, (0, 4)), (46, (0, 6))] ++ ze_X8_starts, [], [(1, zi 0 111), (0, zr 0)], [], zgs (zgs (zgs (zgs (zgs (zgs (zgs (zgs (zgs (zgs (zgs (zgs (zgs (zgs (zgs (zgs (zgs (zgs (zw1) 2 3 (.inr (20, 0))) 2 4 (.inr (30, 0))) 2 6 (.inr (31, 0))) 2 7 (.inr (32, 0))) 2 9 (.inr (33, 0))) 2 10 (.inr (34, 0))) 2 12 (.inr (35, 0))) 2 13 (.inr (36, 0))) 2 15 (.inr (37, 0))) 2 16 (.inr (38, 0))) 2 18 (.inr (39, 0))) 2 19 (.inr (40, 0))) 2 21 (.inr (41, 0))) 2 22 (.inr (42, 0))) 2 24 (.inr (43, 0))) 2 25 (.inr (44, 0))) 2 27 (.inr (45, 0))) 2 28 (.inr (46, 0)), [(false, (0, 99998)), (false, (0, 20)), (false, (0, 200000)), (false, (0, 0))]))
def b112_X8_starts : Nat × zS := (2, ([(30, (0, 6)), (31, (0, 4)), (32, (0, 6)), (33, (0, 4)), (34, (0, 6)), (35, (0, 4)), (36, (0, 6)), (37, (0, 4)), (38, (0, 6)), (39, (0, 4)), (40, (0, 6)), (41, (0, 4)), (42, (0, 6)), (43, (0, 4)), (44, (0, 6)), (45, (0, 4)), (46, (0, 6))] ++ ze_X8_starts, [], [(1, zi 0 112), (0, zr 0)], [], zgs (zgs (zgs (zgs (zgs (zgs (zgs (zgs (zgs (zgs (zgs (zgs (zgs (zgs (zgs (zgs (zgs (zgs (zw1) 2 3 (.inr (20, 0))) 2 4 (.inr (30, 0))) 2 6 (.inr (31, 0))) 2 7 (.inr (32, 0))) 2 9 (.inr (33, 0))) 2 10 (.inr (34, 0))) 2 12 (.inr (35, 0))) 2 13 (.inr (36, 0))) 2 15 (.inr (37, 0))) 2 16 (.inr (38, 0))) 2 18 (.inr (39, 0))) 2 19 (.inr (40, 0))) 2 21 (.inr (41, 0))) 2 22 (.inr (42, 0))) 2 24 (.inr (43, 0))) 2 25 (.inr (44, 0))) 2 27 (.inr (45, 0))) 2 28 (.inr (46, 0)), [(false, (0, 99998)), (false, (0, 19)), (false, (0, 200000)), (false, (0, 0))]))
def b113_X8_starts : Nat × zS := (2, ([(30, (0, 6)), (31, (0, 4)), (32, (0, 6)), (33, (0, 4)), (34, (0, 6)), (35, (0, 4)), (36, (0, 6)), (37, (0, 4)), (38, (0, 6)), (39, (0, 4)), (40, (0, 6)), (41, (0, 4)), (42, (0, 6)), (43, (0, 4)), (44, (0, 6)), (45, (0, 4)), (46, (0, 6))] ++ ze_X8_starts, [], [(1, zi 0 113), (0, zr 0)], [], zgs (zgs (zgs (zgs (zgs (zgs (zgs (zgs (zgs (zgs (zgs (zgs (zgs (zgs (zgs (zgs (zgs (zgs (zw1) 2 3 (.inr (20, 0))) 2 4 (.inr (30, 0))) 2 6 (.inr (31, 0))) 2 7 (.inr (32, 0))) 2 9 (.inr (33, 0))) 2 10 (.inr (34, 0))) 2 12 (.inr (35, 0))) 2 13 (.inr (36, 0))) 2 15 (.inr (37, 0))) 2 16 (.inr (38, 0))) 2 18 (.inr (39, 0))) 2 19 (.inr (40, 0))) 2 21 (.inr (41, 0))) 2 22 (.inr (42, 0))) 2 24 (.inr (43, 0))) 2 25 (.inr (44, 0))) 2 27 (.inr (45, 0))) 2 28 (.inr (46, 0)), [(false, (0, 99998)), (false, (0, 18)), (false, (0, 200000)), (false, (0, 0))]))
def b114_X8_starts : Nat × zS := (2, ([(30, (0, 6)), (31, (0, 4)), (32, (0, 6)), (33, (0, 4)), (34, (0, 6)), (35, (0, 4)), (36, (0, 6)), (37, (0, 4)), (38, (0, 6)), (39, (0, 4)), (40, (0, 6)), (41, (0, 4)), (42, (0, 6)), (43, (0, 4)), (44, (0, 6)), (45, (0, 4)), (46, (0, 6)), (47, (0, 4))] ++ ze_X8_starts, [], [(1, zi 0 114), (0, zr 0)], [], zgs (zgs (zgs (zgs (zgs (zgs (zgs (zgs (zgs (zgs (zgs (zgs (zgs (zgs (zgs (zgs (zgs (zgs (zgs (zw1) 2 3 (.inr (20, 0))) 2 4 (.inr (30, 0))) 2 6 (.inr (31, 0))) 2 7 (.inr (32, 0))) 2 9 (.inr (33, 0))) 2 10 (.inr (34, 0))) 2 12 (.inr (35, 0))) 2 13 (.inr (36, 0))) 2 15 (.inr (37, 0))) 2 16 (.inr (38, 0))) 2 18 (.inr (39, 0))) 2 19 (.inr (40, 0))) 2 21 (.inr (41, 0))) 2 22 (.inr (42, 0))) 2 24 (.inr (43, 0))) 2 25 (.inr (44, 0))) 2 27 (.inr (45, 0))) 2 28 (.inr (46, 0))) 2 30 (.inr (47, 0)), [(false, (0, 99998)), (false, (0, 17)), (false, (0, 200000)), (false, (0, 0))]))
def b115_X8_starts : Nat × zS := (2, ([(30, (0, 6)), (31, (0, 4)), (32, (0, 6)), (33, (0, 4)), (34, (0, 6)), (35, (0, 4)), (36, (0, 6)), (37, (0, 4)), (38, (0, 6)), (39, (0, 4)), (40, (0, 6)), (41, (0, 4)), (42, (0, 6)), (43, (0, 4)), (44, (0, 6)), (45, (0, 4)), (46, (0, 6)), (47, (0, 4)), (48, (0, 6))] ++ ze_X8_starts, [], [(1, zi 0 115), (0, zr 0)], [], zgs (zgs (zgs (zgs (zgs (zgs (zgs (zgs (zgs (zgs (zgs (zgs (zgs (zgs (zgs (zgs (zgs (zgs (zgs (zgs (zw1) 2 3 (.inr (20, 0))) 2 4 (.inr (30, 0))) 2 6 (.inr (31, 0))) 2 7 (.inr (32, 0))) 2 9 (.inr (33, 0))) 2 10 (.inr (34, 0))) 2 12 (.inr (35, 0))) 2 13 (.inr (36, 0))) 2 15 (.inr (37, 0))) 2 16 (.inr (38, 0))) 2 18 (.inr (39, 0))) 2 19 (.inr (40, 0))) 2 21 (.inr (41, 0))) 2 22 (.inr (42, 0))) 2 24 (.inr (43, 0))) 2 25 (.inr (44, 0))) 2 27 (.inr (45, 0))) 2 28 (.inr (46, 0))) 2 30 (.inr (47, 0))) 2 31 (.inr (48, 0)), [(false, (0, 99998)), (false, (0, 16)), (false, (0, 200000)), (false, (0, 0))]))
def b116_X8_starts : Nat × zS := (2, ([(30, (0, 6)), (31, (0, 4)), (32, (0, 6)), (33, (0, 4)), (34, (0, 6)), (35, (0, 4)), (36, (0, 6)), (37, (0, 4)), (38, (0, 6)), (39, (0, 4)), (40, (0, 6)), (41, (0, 4)), (42, (0, 6)), (43, (0, 4)), (44, (0, 6)), (45, (0, 4)), (46, (0, 6)), (47, (0, 4)), (48, (0, 6))] ++ ze_X8_starts, [], [(1, zi 0 116), (0, zr 0)], [], zgs (zgs (zgs (zgs (zgs (zgs (zgs (zgs (zgs (zgs (zgs (zgs (zgs (zgs (zgs (zgs (zgs (zgs (zgs (zgs (zw1) 2 3 (.inr (20, 0))) 2 4 (.inr (30, 0))) 2 6 (.inr (31, 0))) 2 7 (.inr (32, 0))) 2 9 (.inr (33, 0))) 2 10 (.inr (34, 0))) 2 12 (.inr (35, 0))) 2 13 (.inr (36, 0))) 2 15 (.inr (37, 0))) 2 16 (.inr (38, 0))) 2 18 (.inr (39, 0))) 2 19 (.inr (40, 0))) 2 21 (.inr (41, 0))) 2 22 (.inr (42, 0))) 2 24 (.inr (43, 0))) 2 25 (.inr (44, 0))) 2 27 (.inr (45, 0))) 2 28 (.inr (46, 0))) 2 30 (.inr (47, 0))) 2 31 (.inr (48, 0)), [(false, (0, 99998)), (false, (0, 15)), (false, (0, 200000)), (false, (0, 0))]))
def b117_X8_starts : Nat × zS := (2, ([(30, (0, 6)), (31, (0, 4)), (32, (0, 6)), (33, (0, 4)), (34, (0, 6)), (35, (0, 4)), (36, (0, 6)), (37, (0, 4)), (38, (0, 6)), (39, (0, 4)), (40, (0, 6)), (41, (0, 4)), (42, (0, 6)), (43, (0, 4)), (44, (0, 6)), (45, (0, 4)), (46, (0, 6)), (47, (0, 4)), (48, (0, 6))] ++ ze_X8_starts, [], [(1, zi 0 117), (0, zr 0)], [], zgs (zgs (zgs (zgs (zgs (zgs (zgs (zgs (zgs (zgs (zgs (zgs (zgs (zgs (zgs (zgs (zgs (zgs (zgs (zgs (zw1) 2 3 (.inr (20, 0))) 2 4 (.inr (30, 0))) 2 6 (.inr (31, 0))) 2 7 (.inr (32, 0))) 2 9 (.inr (33, 0))) 2 10 (.inr (34, 0))) 2 12 (.inr (35, 0))) 2 13 (.inr (36, 0))) 2 15 (.inr (37, 0))) 2 16 (.inr (38, 0))) 2 18 (.inr (39, 0))) 2 19 (.inr (40, 0))) 2 21 (.inr (41, 0))) 2 22 (.inr (42, 0))) 2 24 (.inr (43, 0))) 2 25 (.inr (44, 0))) 2 27 (.inr (45, 0))) 2 28 (.inr (46, 0))) 2 30 (.inr (47, 0))) 2 31 (.inr (48, 0)), [(false, (0, 99998)), (false, (0, 14)), (false, (0, 200000)), (false, (0, 0))]))
def b118_X8_starts : Nat × zS := (2, ([(30, (0, 6)), (31, (0, 4)), (32, (0, 6)), (33, (0, 4)), (34, (0, 6)), (35, (0, 4)), (36, (0, 6)), (37, (0, 4)), (38, (0, 6)), (39, (0, 4)), (40, (0, 6)), (41, (0, 4)), (42, (0, 6)), (43, (0, 4)), (44, (0, 6)), (45, (0, 4)), (46, (0, 6)), (47, (0, 4)), (48, (0, 6)), (49, (0, 4))] ++ ze_X8_starts, [], [(1, zi 0 118), (0, zr 0)], [], zgs (zgs (zgs (zgs (zgs (zgs (zgs (zgs (zgs (zgs (zgs (zgs (zgs (zgs (zgs (zgs (zgs (zgs (zgs (zgs (zgs (zw1) 2 3 (.inr (20, 0))) 2 4 (.inr (30, 0))) 2 6 (.inr (31, 0))) 2 7 (.inr (32, 0))) 2 9 (.inr (33, 0))) 2 10 (.inr (34, 0))) 2 12 (.inr (35, 0))) 2 13 (.inr (36, 0))) 2 15 (.inr (37, 0))) 2 16 (.inr (38, 0))) 2 18 (.inr (39, 0))) 2 19 (.inr (40, 0))) 2 21 (.inr (41, 0))) 2 22 (.inr (42, 0))) 2 24 (.inr (43, 0))) 2 25 (.inr (44, 0))) 2 27 (.inr (45, 0))) 2 28 (.inr (46, 0))) 2 30 (.inr (47, 0))) 2 31 (.inr (48, 0))) 2 33 (.inr (49, 0)), [(false, (0, 99998)), (false, (0, 13)), (false, (0, 200000)), (false, (0, 0))]))
def b119_X8_starts : Nat × zS := (2, ([(30, (0, 6)), (31, (0, 4)), (32, (0, 6)), (33, (0, 4)), (34, (0, 6)), (35, (0, 4)), (36, (0, 6)), (37, (0, 4)), (38, (0, 6)), (39, (0, 4)), (40, (0, 6)), (41, (0, 4)), (42, (0, 6)), (43, (0, 4)), (44, (0, 6)), (45, (0, 4)), (46, (0, 6)), (47, (0, 4)), (48, (0, 6)), (49, (0, 4))] ++ ze_X8_starts, [], [(1, zi 0 119), (0, zr 0)], [], zgs (zgs (zgs (zgs (zgs (zgs (zgs (zgs (zgs (zgs (zgs (zgs (zgs (zgs (zgs (zgs (zgs (zgs (zgs (zgs (zgs (zgs (zw1) 2 3 (.inr (20, 0))) 2 4 (.inr (30, 0))) 2 6 (.inr (31, 0))) 2 7 (.inr (32, 0))) 2 9 (.inr (33, 0))) 2 10 (.inr (34, 0))) 2 12 (.inr (35, 0))) 2 13 (.inr (36, 0))) 2 15 (.inr (37, 0))) 2 16 (.inr (38, 0))) 2 18 (.inr (39, 0))) 2 19 (.inr (40, 0))) 2 21 (.inr (41, 0))) 2 22 (.inr (42, 0))) 2 24 (.inr (43, 0))) 2 25 (.inr (44, 0))) 2 27 (.inr (45, 0))) 2 28 (.inr (46, 0))) 2 30 (.inr (47, 0))) 2 31 (.inr (48, 0))) 2 33 (.inr (49, 0))) 2 34 (.inr (21, 0)), [(false, (0, 99998)), (false, (0, 12)), (false, (0, 200000)), (false, (0, 0))]))
def b120_X8_starts : Nat × zS := (2, ([(30, (0, 6)), (31, (0, 4)), (32, (0, 6)), (33, (0, 4)), (34, (0, 6)), (35, (0, 4)), (36, (0, 6)), (37, (0, 4)), (38, (0, 6)), (39, (0, 4)), (40, (0, 6)), (41, (0, 4)), (42, (0, 6)), (43, (0, 4)), (44, (0, 6)), (45, (0, 4)), (46, (0, 6)), (47, (0, 4)), (48, (0, 6)), (49, (0, 4))] ++ ze_X8_starts, [], [(1, zi 0 120), (0, zr 0)], [], zgs (zgs (zgs (zgs (zgs (zgs (zgs (zgs (zgs (zgs (zgs (zgs (zgs (zgs (zgs (zgs (zgs (zgs (zgs (zgs (zgs (zgs (zw1) 2 3 (.inr (20, 0))) 2 4 (.inr (30, 0))) 2 6 (.inr (31, 0))) 2 7 (.inr (32, 0))) 2 9 (.inr (33, 0))) 2 10 (.inr (34, 0))) 2 12 (.inr (35, 0))) 2 13 (.inr (36, 0))) 2 15 (.inr (37, 0))) 2 16 (.inr (38, 0))) 2 18 (.inr (39, 0))) 2 19 (.inr (40, 0))) 2 21 (.inr (41, 0))) 2 22 (.inr (42, 0))) 2 24 (.inr (43, 0))) 2 25 (.inr (44, 0))) 2 27 (.inr (45, 0))) 2 28 (.inr (46, 0))) 2 30 (.inr (47, 0))) 2 31 (.inr (48, 0))) 2 33 (.inr (49, 0))) 2 34 (.inr (21, 0)), [(false, (0, 99998)), (false, (0, 11)), (false, (0, 200000)), (false, (0, 0))]))
def b121_X8_starts : Nat × zS := (2, ([(30, (0, 6)), (31, (0, 4)), (32, (0, 6)), (33, (0, 4)), (34, (0, 6)), (35, (0, 4)), (36, (0, 6)), (37, (0, 4)), (38, (0, 6)), (39, (0, 4)), (40, (0, 6)), (41, (0, 4)), (42, (0, 6)), (43, (0, 4)), (44, (0, 6)), (45, (0, 4)), (46, (0, 6)), (47, (0, 4)), (48, (0, 6)), (49, (0, 4))] ++ ze_X8_starts, [], [(1, zi 0 121), (0, zr 0)], [], zgs (zgs (zgs (zgs (zgs (zgs (zgs (zgs (zgs (zgs (zgs (zgs (zgs (zgs (zgs (zgs (zgs (zgs (zgs (zgs (zgs (zgs (zw1) 2 3 (.inr (20, 0))) 2 4 (.inr (30, 0))) 2 6 (.inr (31, 0))) 2 7 (.inr (32, 0))) 2 9 (.inr (33, 0))) 2 10 (.inr (34, 0))) 2 12 (.inr (35, 0))) 2 13 (.inr (36, 0))) 2 15 (.inr (37, 0))) 2 16 (.inr (38, 0))) 2 18 (.inr (39, 0))) 2 19 (.inr (40, 0))) 2 21 (.inr (41, 0))) 2 22 (.inr (42, 0))) 2 24 (.inr (43, 0))) 2 25 (.inr (44, 0))) 2 27 (.inr (45, 0))) 2 28 (.inr (46, 0))) 2 30 (.inr (47, 0))) 2 31 (.inr (48, 0))) 2 33 (.inr (49, 0))) 2 34 (.inr (21, 0)), [(false, (0, 99998)), (false, (0, 10)), (false, (0, 200000)), (false, (0, 0))]))
def b122_X8_starts : Nat × zS := (2, ([(30, (0, 6)), (31, (0, 4)), (32, (0, 6)), (33, (0, 4)), (34, (0, 6)), (35, (0, 4)), (36, (0, 6)), (37, (0, 4)), (38, (0, 6)), (39, (0, 4)), (40, (0, 6)), (41, (0, 4)), (42, (0, 6)), (43, (0, 4)), (44, (0, 6)), (45, (0, 4)), (46, (0, 6)), (47, (0, 4)), (48, (0, 6)), (49, (0, 4))] ++ ze_X8_starts, [], [(1, zi 0 122), (0, zr 0)], [], zgs (zgs (zgs (zgs (zgs (zgs (zgs (zgs (zgs (zgs (zgs (zgs (zgs (zgs (zgs (zgs (zgs (zgs (zgs (zgs (zgs (zgs (zw1) 2 3 (.inr (20, 0))) 2 4 (.inr (30, 0))) 2 6 (.inr (31, 0))) 2 7 (.inr (32, 0))) 2 9 (.inr (33, 0))) 2 10 (.inr (34, 0))) 2 12 (.inr (35, 0))) 2 13 (.inr (36, 0))) 2 15 (.inr (37, 0))) 2 16 (.inr (38, 0))) 2 18 (.inr (39, 0))) 2 19 (.inr (40, 0))) 2 21 (.inr (41, 0))) 2 22 (.inr (42, 0))) 2 24 (.inr (43, 0))) 2 25 (.inr (44, 0))) 2 27 (.inr (45, 0))) 2 28 (.inr (46, 0))) 2 30 (.inr (47, 0))) 2 31 (.inr (48, 0))) 2 33 (.inr (49, 0))) 2 34 (.inr (21, 0)), [(false, (0, 99998)), (false, (0, 9)), (false, (0, 200000)), (false, (0, 0))]))
def b123_X8_starts : Nat × zS := (2, ([(30, (0, 6)), (31, (0, 4)), (32, (0, 6)), (33, (0, 4)), (34, (0, 6)), (35, (0, 4)), (36, (0, 6)), (37, (0, 4)), (38, (0, 6)), (39, (0, 4)), (40, (0, 6)), (41, (0, 4)), (42, (0, 6)), (43, (0, 4)), (44, (0, 6)), (45, (0, 4)), (46, (0, 6)), (47, (0, 4)), (48, (0, 6)), (49, (0, 4))] ++ ze_X8_starts, [], [(1, zi 0 123), (0, zr 0)], [], zgs (zgs (zgs (zgs (zgs (zgs (zgs (zgs (zgs (zgs (zgs (zgs (zgs (zgs (zgs (zgs (zgs (zgs (zgs (zgs (zgs (zgs (zw1) 2 3 (.inr (20, 0))) 2 4 (.inr (30, 0))) 2 6 (.inr (31, 0))) 2 7 (.inr (32, 0))) 2 9 (.inr (33, 0))) 2 10 (.inr (34, 0))) 2 12 (.inr (35, 0))) 2 13 (.inr (36, 0))) 2 15 (.inr (37, 0))) 2 16 (.inr (38, 0))) 2 18 (.inr (39, 0))) 2 19 (.inr (40, 0))) 2 21 (.inr (41, 0))) 2 22 (.inr (42, 0))) 2 24 (.inr (43, 0))) 2 25 (.inr (44, 0))) 2 27 (.inr (45, 0))) 2 28 (.inr (46, 0))) 2 30 (.inr (47, 0))) 2 31 (.inr (48, 0))) 2 33 (.inr (49, 0))) 2 34 (.inr (21, 0)), [(false, (0, 99998)), (false, (0, 8)), (false, (0, 200000)), (false, (0, 0))]))
def b124_X8_starts : Nat × zS := (2, ([(30, (0, 6)), (31, (0, 4)), (32, (0, 6)), (33, (0, 4)), (34, (0, 6)), (35, (0, 4)), (36, (0, 6)), (37, (0, 4)), (38, (0, 6)), (39, (0, 4)), (40, (0, 6)), (41, (0, 4)), (42, (0, 6)), (43, (0, 4)), (44, (0, 6)), (45, (0, 4)), (46, (0, 6)), (47, (0, 4)), (48, (0, 6)), (49, (0, 4))] ++ ze_X8_starts, [], [(1, zi 0 124), (0, zr 0)], [], zgs (zgs (zgs (zgs (zgs (zgs (zgs (zgs (zgs (zgs (zgs (zgs (zgs (zgs (zgs (zgs (zgs (zgs (zgs (zgs (zgs (zgs (zw1) 2 3 (.inr (20, 0))) 2 4 (.inr (30, 0))) 2 6 (.inr (31, 0))) 2 7 (.inr (32, 0))) 2 9 (.inr (33, 0))) 2 10 (.inr (34, 0))) 2 12 (.inr (35, 0))) 2 13 (.inr (36, 0))) 2 15 (.inr (37, 0))) 2 16 (.inr (38, 0))) 2 18 (.inr (39, 0))) 2 19 (.inr (40, 0))) 2 21 (.inr (41, 0))) 2 22 (.inr (42, 0))) 2 24 (.inr (43, 0))) 2 25 (.inr (44, 0))) 2 27 (.inr (45, 0))) 2 28 (.inr (46, 0))) 2 30 (.inr (47, 0))) 2 31 (.inr (48, 0))) 2 33 (.inr (49, 0))) 2 34 (.inr (21, 0)), [(false, (0, 99998)), (false, (0, 7)), (false, (0, 200000)), (false, (0, 0))]))
def b125_X8_starts : Nat × zS := (2, ([(30, (0, 6)), (31, (0, 4)), (32, (0, 6)), (33, (0, 4)), (34, (0, 6)), (35, (0, 4)), (36, (0, 6)), (37, (0, 4)), (38, (0, 6)), (39, (0, 4)), (40, (0, 6)), (41, (0, 4)), (42, (0, 6)), (43, (0, 4)), (44, (0, 6)), (45, (0, 4)), (46, (0, 6)), (47, (0, 4)), (48, (0, 6)), (49, (0, 4))] ++ ze_X8_starts, [], [(1, zi 0 125), (0, zr 0)], [], zgs (zgs (zgs (zgs (zgs (zgs (zgs (zgs (zgs (zgs (zgs (zgs (zgs (zgs (zgs (zgs (zgs (zgs (zgs (zgs (zgs (zgs (zw1) 2 3 (.inr (20, 0))) 2 4 (.inr (30, 0))) 2 6 (.inr (31, 0))) 2 7 (.inr (32, 0))) 2 9 (.inr (33, 0))) 2 10 (.inr (34, 0))) 2 12 (.inr (35, 0))) 2 13 (.inr (36, 0))) 2 15 (.inr (37, 0))) 2 16 (.inr (38, 0))) 2 18 (.inr (39, 0))) 2 19 (.inr (40, 0))) 2 21 (.inr (41, 0))) 2 22 (.inr (42, 0))) 2 24 (.inr (43, 0))) 2 25 (.inr (44, 0))) 2 27 (.inr (45, 0))) 2 28 (.inr (46, 0))) 2 30 (.inr (47, 0))) 2 31 (.inr (48, 0))) 2 33 (.inr (49, 0))) 2 34 (.inr (21, 0)), [(false, (0, 99998)), (false, (0, 6)), (false, (0, 200000)), (false, (0, 0))]))
def b126_X8_starts : Nat × zS := (2, ([(30, (0, 6)), (31, (0, 4)), (32, (0, 6)), (33, (0, 4)), (34, (0, 6)), (35, (0, 4)), (36, (0, 6)), (37, (0, 4)), (38, (0, 6)), (39, (0, 4)), (40, (0, 6)), (41, (0, 4)), (42, (0, 6)), (43, (0, 4)), (44, (0, 6)), (45, (0, 4)), (46, (0, 6)), (47, (0, 4)), (48, (0, 6)), (49, (0, 4))] ++ ze_X8_starts, [], [(1, zi 0 126), (0, zr 0)], [], zgs (zgs (zgs (zgs (zgs (zgs (zgs (zgs (zgs (zgs (zgs (zgs (zgs (zgs (zgs (zgs (zgs (zgs (zgs (zgs (zgs (zgs (zw1) 2 3 (.inr (20, 0))) 2 4 (.inr (30, 0))) 2 6 (.inr (31, 0))) 2 7 (.inr (32, 0))) 2 9 (.inr (33, 0))) 2 10 (.inr (34, 0))) 2 12 (.inr (35, 0))) 2 13 (.inr (36, 0))) 2 15 (.inr (37, 0))) 2 16 (.inr (38, 0))) 2 18 (.inr (39, 0))) 2 19 (.inr (40, 0))) 2 21 (.inr (41, 0))) 2 22 (.inr (42, 0))) 2 24 (.inr (43, 0))) 2 25 (.inr (44, 0))) 2 27 (.inr (45, 0))) 2 28 (.inr (46, 0))) 2 30 (.inr (47, 0))) 2 31 (.inr (48, 0))) 2 33 (.inr (49, 0))) 2 34 (.inr (21, 0)), [(false, (0, 99998)), (false, (0, 5)), (false, (0, 200000)), (false, (0, 0))]))
def b127_X8_starts : Nat × zS := (2, ([(30, (0, 6)), (31, (0, 4)), (32, (0, 6)), (33, (0, 4)), (34, (0, 6)), (35, (0, 4)), (36, (0, 6)), (37, (0, 4)), (38, (0, 6)), (39, (0, 4)), (40, (0, 6)), (41, (0, 4)), (42, (0, 6)), (43, (0, 4)), (44, (0, 6)), (45, (0, 4)), (46, (0, 6)), (47, (0, 4)), (48, (0, 6)), (49, (0, 4))] ++ ze_X8_starts, [], [(1, zi 0 127), (0, zr 0)], [], zgs (zgs (zgs (zgs (zgs (zgs (zgs (zgs (zgs (zgs (zgs (zgs (zgs (zgs (zgs (zgs (zgs (zgs (zgs (zgs (zgs (zgs (zw1) 2 3 (.inr (20, 0))) 2 4 (.inr (30, 0))) 2 6 (.inr (31, 0))) 2 7 (.inr (32, 0))) 2 9 (.inr (33, 0))) 2 10 (.inr (34, 0))) 2 12 (.inr (35, 0))) 2 13 (.inr (36, 0))) 2 15 (.inr (37, 0))) 2 16 (.inr (38, 0))) 2 18 (.inr (39, 0))) 2 19 (.inr (40, 0))) 2 21 (.inr (41, 0))) 2 22 (.inr (42, 0))) 2 24 (.inr (43, 0))) 2 25 (.inr (44, 0))) 2 27 (.inr (45, 0))) 2 28 (.inr (46, 0))) 2 30 (.inr (47, 0))) 2 31 (.inr (48, 0))) 2 33 (.inr (49, 0))) 2 34 (.inr (21, 0)), [(false, (0, 99998)), (false, (0, 4)), (false, (0, 200000)), (false, (0, 0))]))
def b128_X8_starts : Nat × zS := (2, ([(30, (0, 6)), (31, (0, 4)), (32, (0, 6)), (33, (0, 4)), (34, (0, 6)), (35, (0, 4)), (36, (0, 6)), (37, (0, 4)), (38, (0, 6)), (39, (0, 4)), (40, (0, 6)), (41, (0, 4)), (42, (0, 6)), (43, (0, 4)), (44, (0, 6)), (45, (0, 4)), (46, (0, 6)), (47, (0, 4)), (48, (0, 6)), (49, (0, 4))] ++ ze_X8_starts, [], [(1, zi 0 128), (0, zr 0)], [], zgs (zgs (zgs (zgs (zgs (zgs (zgs (zgs (zgs (zgs (zgs (zgs (zgs (zgs (zgs (zgs (zgs (zgs (zgs (zgs (zgs (zgs (zw1) 2 3 (.inr (20, 0))) 2 4 (.inr (30, 0))) 2 6 (.inr (31, 0))) 2 7 (.inr (32, 0))) 2 9 (.inr (33, 0))) 2 10 (.inr (34, 0))) 2 12 (.inr (35, 0))) 2 13 (.inr (36, 0))) 2 15 (.inr (37, 0))) 2 16 (.inr (38, 0))) 2 18 (.inr (39, 0))) 2 19 (.inr (40, 0))) 2 21 (.inr (41, 0))) 2 22 (.inr (42, 0))) 2 24 (.inr (43, 0))) 2 25 (.inr (44, 0))) 2 27 (.inr (45, 0))) 2 28 (.inr (46, 0))) 2 30 (.inr (47, 0))) 2 31 (.inr (48, 0))) 2 33 (.inr (49, 0))) 2 34 (.inr (21, 0)), [(false, (0, 99998)), (false, (0, 3)), (false, (0, 200000)), (false, (0, 0))]))
def b129_X8_starts : Nat × zS := (2, ([(30, (0, 6)), (31, (0, 4)), (32, (0, 6)), (33, (0, 4)), (34, (0, 6)), (35, (0, 4)), (36, (0, 6)), (37, (0, 4)), (38, (0, 6)), (39, (0, 4)), (40, (0, 6)), (41, (0, 4)), (42, (0, 6)), (43, (0, 4)), (44, (0, 6)), (45, (0, 4)), (46, (0, 6)), (47, (0, 4)), (48, (0, 6)), (49, (0, 4))] ++ ze_X8_starts, [], [(1, zi 0 129), (0, zr 0)], [], zgs (zgs (zgs (zgs (zgs (zgs (zgs (zgs (zgs (zgs (zgs (zgs (zgs (zgs (zgs (zgs (zgs (zgs (zgs (zgs (zgs (zgs (zw1) 2 3 (.inr (20, 0))) 2 4 (.inr (30, 0))) 2 6 (.inr (31, 0))) 2 7 (.inr (32, 0))) 2 9 (.inr (33, 0))) 2 10 (.inr (34, 0))) 2 12 (.inr (35, 0))) 2 13 (.inr (36, 0))) 2 15 (.inr (37, 0))) 2 16 (.inr (38, 0))) 2 18 (.inr (39, 0))) 2 19 (.inr (40, 0))) 2 21 (.inr (41, 0))) 2 22 (.inr (42, 0))) 2 24 (.inr (43, 0))) 2 25 (.inr (44, 0))) 2 27 (.inr (45, 0))) 2 28 (.inr (46, 0))) 2 30 (.inr (47, 0))) 2 31 (.inr (48, 0))) 2 33 (.inr (49, 0))) 2 34 (.inr (21, 0)), [(false, (0, 99998)), (false, (0, 2)), (false, (0, 200000)), (false, (0, 0))]))
def b130_X8_starts : Nat × zS := (2, ([(30, (0, 6)), (31, (0, 4)), (32, (0, 6)), (33, (0, 4)), (34, (0, 6)), (35, (0, 4)), (36, (0, 6)), (37, (0, 4)), (38, (0, 6)), (39, (0, 4)), (40, (0, 6)), (41, (0, 4)), (42, (0, 6)), (43, (0, 4)), (44, (0, 6)), (45, (0, 4)), (46, (0, 6)), (47, (0, 4)), (48, (0, 6)), (49, (0, 4))] ++ ze_X8_starts, [], [(1, zi 0 130), (0, zr 0)], [], zgs (zgs (zgs (zgs (zgs (zgs (zgs (zgs (zgs (zgs (zgs (zgs (zgs (zgs (zgs (zgs (zgs (zgs (zgs (zgs (zgs (zgs (zw1) 2 3 (.inr (20, 0))) 2 4 (.inr (30, 0))) 2 6 (.inr (31, 0))) 2 7 (.inr (32, 0))) 2 9 (.inr (33, 0))) 2 10 (.inr (34, 0))) 2 12 (.inr (35, 0))) 2 13 (.inr (36, 0))) 2 15 (.inr (37, 0))) 2 16 (.inr (38, 0))) 2 18 (.inr (39, 0))) 2 19 (.inr (40, 0))) 2 21 (.inr (41, 0))) 2 22 (.inr (42, 0))) 2 24 (.inr (43, 0))) 2 25 (.inr (44, 0))) 2 27 (.inr (45, 0))) 2 28 (.inr (46, 0))) 2 30 (.inr (47, 0))) 2 31 (.inr (48, 0))) 2 33 (.inr (49, 0))) 2 34 (.inr (21, 0)), [(false, (0, 99998)), (false, (0, 1)), (false, (0, 200000)), (false, (0, 0))]))
def b131_X8_starts : Nat × zS := (2, ([(30, (0, 6)), (31, (0, 4)), (32, (0, 6)), (33, (0, 4)), (34, (0, 6)), (35, (0, 4)), (36, (0, 6)), (37, (0, 4)), (38, (0, 6)), (39, (0, 4)), (40, (0, 6)), (41, (0, 4)), (42, (0, 6)), (43, (0, 4)), (44, (0, 6)), (45, (0, 4)), (46, (0, 6)), (47, (0, 4)), (48, (0, 6)), (49, (0, 4))] ++ ze_X8_starts, [], [(1, zi 0 131), (0, zr 0)], [], zgs (zgs (zgs (zgs (zgs (zgs (zgs (zgs (zgs (zgs (zgs (zgs (zgs (zgs (zgs (zgs (zgs (zgs (zgs (zgs (zgs (zgs (zw1) 2 3 (.inr (20, 0))) 2 4 (.inr (30, 0))) 2 6 (.inr (31, 0))) 2 7 (.inr (32, 0))) 2 9 (.inr (33, 0))) 2 10 (.inr (34, 0))) 2 12 (.inr (35, 0))) 2 13 (.inr (36, 0))) 2 15 (.inr (37, 0))) 2 16 (.inr (38, 0))) 2 18 (.inr (39, 0))) 2 19 (.inr (40, 0))) 2 21 (.inr (41, 0))) 2 22 (.inr (42, 0))) 2 24 (.inr (43, 0))) 2 25 (.inr (44, 0))) 2 27 (.inr (45, 0))) 2 28 (.inr (46, 0))) 2 30 (.inr (47, 0))) 2 31 (.inr (48, 0))) 2 33 (.inr (49, 0))) 2 34 (.inr (21, 0)), [(false, (0, 99998)), (false, (0, 0)), (false, (0, 200000)), (false, (0, 0))]))
def bl_X8_starts : List (Nat × zS) := [b0_X8_starts, b1_X8_starts, b2_X8_starts, b3_X8_starts, b4_X8_starts, b5_X8_starts, b6_X8_starts, b7_X8_starts, b8_X8_starts, b9_X8_starts, b10_X8_starts, b11_X8_starts, b12_X8_starts, b13_X8_starts, b14_X8_starts, b15_X8_starts, b16_X8_starts, b17_X8_starts, b18_X8_starts, b19_X8_starts, b20_X8_starts, b21_X8_starts, b22_X8_starts, b23_X8_starts, b24_X8_starts, b25_X8_starts, b26_X8_starts, b27_X8_starts, b28_X8_starts, b29_X8_starts, b30_X8_starts, b31_X8_starts, b32_X8_starts, b33_X8_starts, b34_X8_starts, b35_X8_starts, b36_X8_starts, b37_X8_starts, b38_X8_starts, b39_X8_starts, b40_X8_starts, b41_X8_starts, b42_X8_starts, b43_X8_starts, b44_X8_starts, b45_X8_starts, b46_X8_starts, b47_X8_starts, b48_X8_starts, b49_X8_starts, b50_X8_starts, b51_X8_starts, b52_X8_starts, b53_X8_starts, b54_X8_starts, b55_X8_starts, b56_X8_starts, b57_X8_starts, b58_X8_starts, b59_X8_starts, b60_X8_starts, b61_X8_starts, b62_X8_starts, b63_X8_starts, b64_X8_starts, b65_X8_starts, b66_X8_starts, b67_X8_starts, b68_X8_starts, b69_X8_starts, b70_X8_starts, b71_X8_starts, b72_X8_starts, b73_X8_starts, b74_X8_starts, b75_X8_starts, b76_X8_starts, b77_X8_starts, b78_X8_starts, b79_X8_starts, b80_X8_starts, b81_X8_starts, b82_X8_starts, b83_X8_starts, b84_X8_starts, b85_X8_starts, b86_X8_starts, b87_X8_starts, b88_X8_starts, b89_X8_starts, b90_X8_starts, b91_X8_starts, b92_X8_starts, b93_X8_starts, b94_X8_starts, b95_X8_starts, b96_X8_starts, b97_X8_starts, b98_X8_starts, b99_X8_starts, b100_X8_starts, b101_X8_starts, b102_X8_starts, b103_X8_starts, b104_X8_starts, b105_X8_starts, b106_X8_starts, b107_X8_starts, b108_X8_starts, b109_X8_starts, b110_X8_starts, b111_X8_starts, b112_X8_starts, b113_X8_starts, b114_X8_starts, b115_X8_starts, b116_X8_starts, b117_X8_starts, b118_X8_starts, b119_X8_starts, b120_X8_starts, b121_X8_starts, b122_X8_starts, b123_X8_starts, b124_X8_starts, b125_X8_starts, b126_X8_starts, b127_X8_starts, b128_X8_starts, b129_X8_starts, b130_X8_starts, b131_X8_starts]
def tb_X8_starts : zTb := ([(7, 8, 0, 3), (13, 8, 1, 3)], [], [], [], [], [])
def sp_X8_starts : zSp := []
set_option maxRecDepth 1000000 in
theorem ck0_X8_starts : zrun tb_X8_starts sp_X8_starts pr_X8_starts 2 0 k_X8_starts.1 k_X8_starts.2.1 k_X8_starts.2.2.2 bl_X8_starts false 2000 5030 (zst0 k_X8_starts) 0 = true := by decide +kernel
set_option maxRecDepth 1000000 in
theorem ck1_X8_starts : zrun tb_X8_starts sp_X8_starts pr_X8_starts 2 0 k_X8_starts.1 k_X8_starts.2.1 k_X8_starts.2.2.2 bl_X8_starts true 2000 5030 b0_X8_starts.2 b0_X8_starts.1 = true := by decide +kernel
set_option maxRecDepth 1000000 in
theorem ck2_X8_starts : zrun tb_X8_starts sp_X8_starts pr_X8_starts 2 0 k_X8_starts.1 k_X8_starts.2.1 k_X8_starts.2.2.2 bl_X8_starts true 2000 5030 b1_X8_starts.2 b1_X8_starts.1 = true := by decide +kernel
set_option maxRecDepth 1000000 in
theorem ck3_X8_starts : zrun tb_X8_starts sp_X8_starts pr_X8_starts 2 0 k_X8_starts.1 k_X8_starts.2.1 k_X8_starts.2.2.2 bl_X8_starts true 2000 5030 b2_X8_starts.2 b2_X8_starts.1 = true := by decide +kernel
set_option maxRecDepth 1000000 in
theorem ck4_X8_starts : zrun tb_X8_starts sp_X8_starts pr_X8_starts 2 0 k_X8_starts.1 k_X8_starts.2.1 k_X8_starts.2.2.2 bl_X8_starts true 2000 5030 b3_X8_starts.2 b3_X8_starts.1 = true := by decide +kernel
set_option maxRecDepth 1000000 in
theorem ck5_X8_starts : zrun tb_X8_starts sp_X8_starts pr_X8_starts 2 0 k_X8_starts.1 k_X8_starts.2.1 k_X8_starts.2.2.2 bl_X8_starts true 2000 5030 b4_X8_starts.2 b4_X8_starts.1 = true := by decide +kernel
set_option maxRecDepth 1000000 in
theorem ck6_X8_starts : zrun tb_X8_starts sp_X8_starts pr_X8_starts 2 0 k_X8_starts.1 k_X8_starts.2.1 k_X8_starts.2.2.2 bl_X8_starts true 2000 5030 b5_X8_starts.2 b5_X8_starts.1 = true := by decide +kernel
set_option maxRecDepth 1000000 in
theorem ck7_X8_starts : zrun tb_X8_starts sp_X8_starts pr_X8_starts 2 0 k_X8_starts.1 k_X8_starts.2.1 k_X8_starts.2.2.2 bl_X8_starts true 2000 5030 b6_X8_starts.2 b6_X8_starts.1 = true := by decide +kernel
set_option maxRecDepth 1000000 in
theorem ck8_X8_starts : zrun tb_X8_starts sp_X8_starts pr_X8_starts 2 0 k_X8_starts.1 k_X8_starts.2.1 k_X8_starts.2.2.2 bl_X8_starts true 2000 5030 b7_X8_starts.2 b7_X8_starts.1 = true := by decide +kernel
set_option maxRecDepth 1000000 in
theorem ck9_X8_starts : zrun tb_X8_starts sp_X8_starts pr_X8_starts 2 0 k_X8_starts.1 k_X8_starts.2.1 k_X8_starts.2.2.2 bl_X8_starts true 2000 5030 b8_X8_starts.2 b8_X8_starts.1 = true := by decide +kernel
set_option maxRecDepth 1000000 in
theorem ck10_X8_starts : zrun tb_X8_starts sp_X8_starts pr_X8_starts 2 0 k_X8_starts.1 k_X8_starts.2.1 k_X8_starts.2.2.2 bl_X8_starts true 2000 5030 b9_X8_starts.2 b9_X8_starts.1 = true := by decide +kernel
set_option maxRecDepth 1000000 in
theorem ck11_X8_starts : zrun tb_X8_starts sp_X8_starts pr_X8_starts 2 0 k_X8_starts.1 k_X8_starts.2.1 k_X8_starts.2.2.2 bl_X8_starts true 2000 5030 b10_X8_starts.2 b10_X8_starts.1 = true := by decide +kernel
set_option maxRecDepth 1000000 in
theorem ck12_X8_starts : zrun tb_X8_starts sp_X8_starts pr_X8_starts 2 0 k_X8_starts.1 k_X8_starts.2.1 k_X8_starts.2.2.2 bl_X8_starts true 2000 5030 b11_X8_starts.2 b11_X8_starts.1 = true := by decide +kernel
set_option maxRecDepth 1000000 in
theorem ck13_X8_starts : zrun tb_X8_starts sp_X8_starts pr_X8_starts 2 0 k_X8_starts.1 k_X8_starts.2.1 k_X8_starts.2.2.2 bl_X8_starts true 2000 5030 b12_X8_starts.2 b12_X8_starts.1 = true := by decide +kernel
set_option maxRecDepth 1000000 in
theorem ck14_X8_starts : zrun tb_X8_starts sp_X8_starts pr_X8_starts 2 0 k_X8_starts.1 k_X8_starts.2.1 k_X8_starts.2.2.2 bl_X8_starts true 2000 5030 b13_X8_starts.2 b13_X8_starts.1 = true := by decide +kernel
set_option maxRecDepth 1000000 in
theorem ck15_X8_starts : zrun tb_X8_starts sp_X8_starts pr_X8_starts 2 0 k_X8_starts.1 k_X8_starts.2.1 k_X8_starts.2.2.2 bl_X8_starts true 2000 5030 b14_X8_starts.2 b14_X8_starts.1 = true := by decide +kernel
set_option maxRecDepth 1000000 in
theorem ck16_X8_starts : zrun tb_X8_starts sp_X8_starts pr_X8_starts 2 0 k_X8_starts.1 k_X8_starts.2.1 k_X8_starts.2.2.2 bl_X8_starts true 2000 5030 b15_X8_starts.2 b15_X8_starts.1 = true := by decide +kernel
set_option maxRecDepth 1000000 in
theorem ck17_X8_starts : zrun tb_X8_starts sp_X8_starts pr_X8_starts 2 0 k_X8_starts.1 k_X8_starts.2.1 k_X8_starts.2.2.2 bl_X8_starts true 2000 5030 b16_X8_starts.2 b16_X8_starts.1 = true := by decide +kernel
set_option maxRecDepth 1000000 in
theorem ck18_X8_starts : zrun tb_X8_starts sp_X8_starts pr_X8_starts 2 0 k_X8_starts.1 k_X8_starts.2.1 k_X8_starts.2.2.2 bl_X8_starts true 2000 5030 b17_X8_starts.2 b17_X8_starts.1 = true := by decide +kernel
set_option maxRecDepth 1000000 in
theorem ck19_X8_starts : zrun tb_X8_starts sp_X8_starts pr_X8_starts 2 0 k_X8_starts.1 k_X8_starts.2.1 k_X8_starts.2.2.2 bl_X8_starts true 2000 5030 b18_X8_starts.2 b18_X8_starts.1 = true := by decide +kernel
set_option maxRecDepth 1000000 in
theorem ck20_X8_starts : zrun tb_X8_starts sp_X8_starts pr_X8_starts 2 0 k_X8_starts.1 k_X8_starts.2.1 k_X8_starts.2.2.2 bl_X8_starts true 2000 5030 b19_X8_starts.2 b19_X8_starts.1 = true := by decide +kernel
set_option maxRecDepth 1000000 in
theorem ck21_X8_starts : zrun tb_X8_starts sp_X8_starts pr_X8_starts 2 0 k_X8_starts.1 k_X8_starts.2.1 k_X8_starts.2.2.2 bl_X8_starts true 2000 5030 b20_X8_starts.2 b20_X8_starts.1 = true := by decide +kernel
set_option maxRecDepth 1000000 in
theorem ck22_X8_starts : zrun tb_X8_starts sp_X8_starts pr_X8_starts 2 0 k_X8_starts.1 k_X8_starts.2.1 k_X8_starts.2.2.2 bl_X8_starts true 2000 5030 b21_X8_starts.2 b21_X8_starts.1 = true := by decide +kernel
set_option maxRecDepth 1000000 in
theorem ck23_X8_starts : zrun tb_X8_starts sp_X8_starts pr_X8_starts 2 0 k_X8_starts.1 k_X8_starts.2.1 k_X8_starts.2.2.2 bl_X8_starts true 2000 5030 b22_X8_starts.2 b22_X8_starts.1 = true := by decide +kernel
set_option maxRecDepth 1000000 in
theorem ck24_X8_starts : zrun tb_X8_starts sp_X8_starts pr_X8_starts 2 0 k_X8_starts.1 k_X8_starts.2.1 k_X8_starts.2.2.2 bl_X8_starts true 2000 5030 b23_X8_starts.2 b23_X8_starts.1 = true := by decide +kernel
set_option maxRecDepth 1000000 in
theorem ck25_X8_starts : zrun tb_X8_starts sp_X8_starts pr_X8_starts 2 0 k_X8_starts.1 k_X8_starts.2.1 k_X8_starts.2.2.2 bl_X8_starts true 2000 5030 b24_X8_starts.2 b24_X8_starts.1 = true := by decide +kernel
set_option maxRecDepth 1000000 in
theorem ck26_X8_starts : zrun tb_X8_starts sp_X8_starts pr_X8_starts 2 0 k_X8_starts.1 k_X8_starts.2.1 k_X8_starts.2.2.2 bl_X8_starts true 2000 5030 b25_X8_starts.2 b25_X8_starts.1 = true := by decide +kernel
set_option maxRecDepth 1000000 in
theorem ck27_X8_starts : zrun tb_X8_starts sp_X8_starts pr_X8_starts 2 0 k_X8_starts.1 k_X8_starts.2.1 k_X8_starts.2.2.2 bl_X8_starts true 2000 5030 b26_X8_starts.2 b26_X8_starts.1 = true := by decide +kernel
set_option maxRecDepth 1000000 in
theorem ck28_X8_starts : zrun tb_X8_starts sp_X8_starts pr_X8_starts 2 0 k_X8_starts.1 k_X8_starts.2.1 k_X8_starts.2.2.2 bl_X8_starts true 2000 5030 b27_X8_starts.2 b27_X8_starts.1 = true := by decide +kernel
set_option maxRecDepth 1000000 in
theorem ck29_X8_starts : zrun tb_X8_starts sp_X8_starts pr_X8_starts 2 0 k_X8_starts.1 k_X8_starts.2.1 k_X8_starts.2.2.2 bl_X8_starts true 2000 5030 b28_X8_starts.2 b28_X8_starts.1 = true := by decide +kernel
set_option maxRecDepth 1000000 in
theorem ck30_X8_starts : zrun tb_X8_starts sp_X8_starts pr_X8_starts 2 0 k_X8_starts.1 k_X8_starts.2.1 k_X8_starts.2.2.2 bl_X8_starts true 2000 5030 b29_X8_starts.2 b29_X8_starts.1 = true := by decide +kernel
set_option maxRecDepth 1000000 in
theorem ck31_X8_starts : zrun tb_X8_starts sp_X8_starts pr_X8_starts 2 0 k_X8_starts.1 k_X8_starts.2.1 k_X8_starts.2.2.2 bl_X8_starts true 2000 5030 b30_X8_starts.2 b30_X8_starts.1 = true := by decide +kernel
set_option maxRecDepth 1000000 in
theorem ck32_X8_starts : zrun tb_X8_starts sp_X8_starts pr_X8_starts 2 0 k_X8_starts.1 k_X8_starts.2.1 k_X8_starts.2.2.2 bl_X8_starts true 2000 5030 b31_X8_starts.2 b31_X8_starts.1 = true := by decide +kernel
set_option maxRecDepth 1000000 in
theorem ck33_X8_starts : zrun tb_X8_starts sp_X8_starts pr_X8_starts 2 0 k_X8_starts.1 k_X8_starts.2.1 k_X8_starts.2.2.2 bl_X8_starts true 2000 5030 b32_X8_starts.2 b32_X8_starts.1 = true := by decide +kernel
set_option maxRecDepth 1000000 in
theorem ck34_X8_starts : zrun tb_X8_starts sp_X8_starts pr_X8_starts 2 0 k_X8_starts.1 k_X8_starts.2.1 k_X8_starts.2.2.2 bl_X8_starts true 2000 5030 b33_X8_starts.2 b33_X8_starts.1 = true := by decide +kernel
set_option maxRecDepth 1000000 in
theorem ck35_X8_starts : zrun tb_X8_starts sp_X8_starts pr_X8_starts 2 0 k_X8_starts.1 k_X8_starts.2.1 k_X8_starts.2.2.2 bl_X8_starts true 2000 5030 b34_X8_starts.2 b34_X8_starts.1 = true := by decide +kernel
set_option maxRecDepth 1000000 in
theorem ck36_X8_starts : zrun tb_X8_starts sp_X8_starts pr_X8_starts 2 0 k_X8_starts.1 k_X8_starts.2.1 k_X8_starts.2.2.2 bl_X8_starts true 2000 5030 b35_X8_starts.2 b35_X8_starts.1 = true := by decide +kernel
set_option maxRecDepth 1000000 in
theorem ck37_X8_starts : zrun tb_X8_starts sp_X8_starts pr_X8_starts 2 0 k_X8_starts.1 k_X8_starts.2.1 k_X8_starts.2.2.2 bl_X8_starts true 2000 5030 b36_X8_starts.2 b36_X8_starts.1 = true := by decide +kernel
set_option maxRecDepth 1000000 in
theorem ck38_X8_starts : zrun tb_X8_starts sp_X8_starts pr_X8_starts 2 0 k_X8_starts.1 k_X8_starts.2.1 k_X8_starts.2.2.2 bl_X8_starts true 2000 5030 b37_X8_starts.2 b37_X8_starts.1 = true := by decide +kernel
set_option maxRecDepth 1000000 in
theorem ck39_X8_starts : zrun tb_X8_starts sp_X8_starts pr_X8_starts 2 0 k_X8_starts.1 k_X8_starts.2.1 k_X8_starts.2.2.2 bl_X8_starts true 2000 5030 b38_X8_starts.2 b38_X8_starts.1 = true := by decide +kernel
set_option maxRecDepth 1000000 in
theorem ck40_X8_starts : zrun tb_X8_starts sp_X8_starts pr_X8_starts 2 0 k_X8_starts.1 k_X8_starts.2.1 k_X8_starts.2.2.2 bl_X8_starts true 2000 5030 b39_X8_starts.2 b39_X8_starts.1 = true := by decide +kernel
set_option maxRecDepth 1000000 in
theorem ck41_X8_starts : zrun tb_X8_starts sp_X8_starts pr_X8_starts 2 0 k_X8_starts.1 k_X8_starts.2.1 k_X8_starts.2.2.2 bl_X8_starts true 2000 5030 b40_X8_starts.2 b40_X8_starts.1 = true := by decide +kernel
set_option maxRecDepth 1000000 in
theorem ck42_X8_starts : zrun tb_X8_starts sp_X8_starts pr_X8_starts 2 0 k_X8_starts.1 k_X8_starts.2.1 k_X8_starts.2.2.2 bl_X8_starts true 2000 5030 b41_X8_starts.2 b41_X8_starts.1 = true := by decide +kernel
set_option maxRecDepth 1000000 in
theorem ck43_X8_starts : zrun tb_X8_starts sp_X8_starts pr_X8_starts 2 0 k_X8_starts.1 k_X8_starts.2.1 k_X8_starts.2.2.2 bl_X8_starts true 2000 5030 b42_X8_starts.2 b42_X8_starts.1 = true := by decide +kernel
set_option maxRecDepth 1000000 in
theorem ck44_X8_starts : zrun tb_X8_starts sp_X8_starts pr_X8_starts 2 0 k_X8_starts.1 k_X8_starts.2.1 k_X8_starts.2.2.2 bl_X8_starts true 2000 5030 b43_X8_starts.2 b43_X8_starts.1 = true := by decide +kernel
set_option maxRecDepth 1000000 in
theorem ck45_X8_starts : zrun tb_X8_starts sp_X8_starts pr_X8_starts 2 0 k_X8_starts.1 k_X8_starts.2.1 k_X8_starts.2.2.2 bl_X8_starts true 2000 5030 b44_X8_starts.2 b44_X8_starts.1 = true := by decide +kernel
set_option maxRecDepth 1000000 in
theorem ck46_X8_starts : zrun tb_X8_starts sp_X8_starts pr_X8_starts 2 0 k_X8_starts.1 k_X8_starts.2.1 k_X8_starts.2.2.2 bl_X8_starts true 2000 5030 b45_X8_starts.2 b45_X8_starts.1 = true := by decide +kernel
set_option maxRecDepth 1000000 in
theorem ck47_X8_starts : zrun tb_X8_starts sp_X8_starts pr_X8_starts 2 0 k_X8_starts.1 k_X8_starts.2.1 k_X8_starts.2.2.2 bl_X8_starts true 2000 5030 b46_X8_starts.2 b46_X8_starts.1 = true := by decide +kernel
set_option maxRecDepth 1000000 in
theorem ck48_X8_starts : zrun tb_X8_starts sp_X8_starts pr_X8_starts 2 0 k_X8_starts.1 k_X8_starts.2.1 k_X8_starts.2.2.2 bl_X8_starts true 2000 5030 b47_X8_starts.2 b47_X8_starts.1 = true := by decide +kernel
set_option maxRecDepth 1000000 in
theorem ck49_X8_starts : zrun tb_X8_starts sp_X8_starts pr_X8_starts 2 0 k_X8_starts.1 k_X8_starts.2.1 k_X8_starts.2.2.2 bl_X8_starts true 2000 5030 b48_X8_starts.2 b48_X8_starts.1 = true := by decide +kernel
set_option maxRecDepth 1000000 in
theorem ck50_X8_starts : zrun tb_X8_starts sp_X8_starts pr_X8_starts 2 0 k_X8_starts.1 k_X8_starts.2.1 k_X8_starts.2.2.2 bl_X8_starts true 2000 5030 b49_X8_starts.2 b49_X8_starts.1 = true := by decide +kernel
set_option maxRecDepth 1000000 in
theorem ck51_X8_starts : zrun tb_X8_starts sp_X8_starts pr_X8_starts 2 0 k_X8_starts.1 k_X8_starts.2.1 k_X8_starts.2.2.2 bl_X8_starts true 2000 5030 b50_X8_starts.2 b50_X8_starts.1 = true := by decide +kernel
set_option maxRecDepth 1000000 in
theorem ck52_X8_starts : zrun tb_X8_starts sp_X8_starts pr_X8_starts 2 0 k_X8_starts.1 k_X8_starts.2.1 k_X8_starts.2.2.2 bl_X8_starts true 2000 5030 b51_X8_starts.2 b51_X8_starts.1 = true := by decide +kernel
set_option maxRecDepth 1000000 in
theorem ck53_X8_starts : zrun tb_X8_starts sp_X8_starts pr_X8_starts 2 0 k_X8_starts.1 k_X8_starts.2.1 k_X8_starts.2.2.2 bl_X8_starts true 2000 5030 b52_X8_starts.2 b52_X8_starts.1 = true := by decide +kernel
set_option maxRecDepth 1000000 in
theorem ck54_X8_starts : zrun tb_X8_starts sp_X8_starts pr_X8_starts 2 0 k_X8_starts.1 k_X8_starts.2.1 k_X8_starts.2.2.2 bl_X8_starts true 2000 5030 b53_X8_starts.2 b53_X8_starts.1 = true := by decide +kernel
set_option maxRecDepth 1000000 in
theorem ck55_X8_starts : zrun tb_X8_starts sp_X8_starts pr_X8_starts 2 0 k_X8_starts.1 k_X8_starts.2.1 k_X8_starts.2.2.2 bl_X8_starts true 2000 5030 b54_X8_starts.2 b54_X8_starts.1 = true := by decide +kernel
set_option maxRecDepth 1000000 in
theorem ck56_X8_starts : zrun tb_X8_starts sp_X8_starts pr_X8_starts 2 0 k_X8_starts.1 k_X8_starts.2.1 k_X8_starts.2.2.2 bl_X8_starts true 2000 5030 b55_X8_starts.2 b55_X8_starts.1 = true := by decide +kernel
set_option maxRecDepth 1000000 in
theorem ck57_X8_starts : zrun tb_X8_starts sp_X8_starts pr_X8_starts 2 0 k_X8_starts.1 k_X8_starts.2.1 k_X8_starts.2.2.2 bl_X8_starts true 2000 5030 b56_X8_starts.2 b56_X8_starts.1 = true := by decide +kernel
set_option maxRecDepth 1000000 in
theorem ck58_X8_starts : zrun tb_X8_starts sp_X8_starts pr_X8_starts 2 0 k_X8_starts.1 k_X8_starts.2.1 k_X8_starts.2.2.2 bl_X8_starts true 2000 5030 b57_X8_starts.2 b57_X8_starts.1 = true := by decide +kernel
set_option maxRecDepth 1000000 in
theorem ck59_X8_starts : zrun tb_X8_starts sp_X8_starts pr_X8_starts 2 0 k_X8_starts.1 k_X8_starts.2.1 k_X8_starts.2.2.2 bl_X8_starts true 2000 5030 b58_X8_starts.2 b58_X8_starts.1 = true := by decide +kernel
set_option maxRecDepth 1000000 in
theorem ck60_X8_starts : zrun tb_X8_starts sp_X8_starts pr_X8_starts 2 0 k_X8_starts.1 k_X8_starts.2.1 k_X8_starts.2.2.2 bl_X8_starts true 2000 5030 b59_X8_starts.2 b59_X8_starts.1 = true := by decide +kernel
set_option maxRecDepth 1000000 in
theorem ck61_X8_starts : zrun tb_X8_starts sp_X8_starts pr_X8_starts 2 0 k_X8_starts.1 k_X8_starts.2.1 k_X8_starts.2.2.2 bl_X8_starts true 2000 5030 b60_X8_starts.2 b60_X8_starts.1 = true := by decide +kernel
set_option maxRecDepth 1000000 in
theorem ck62_X8_starts : zrun tb_X8_starts sp_X8_starts pr_X8_starts 2 0 k_X8_starts.1 k_X8_starts.2.1 k_X8_starts.2.2.2 bl_X8_starts true 2000 5030 b61_X8_starts.2 b61_X8_starts.1 = true := by decide +kernel
set_option maxRecDepth 1000000 in
theorem ck63_X8_starts : zrun tb_X8_starts sp_X8_starts pr_X8_starts 2 0 k_X8_starts.1 k_X8_starts.2.1 k_X8_starts.2.2.2 bl_X8_starts true 2000 5030 b62_X8_starts.2 b62_X8_starts.1 = true := by decide +kernel
set_option maxRecDepth 1000000 in
theorem ck64_X8_starts : zrun tb_X8_starts sp_X8_starts pr_X8_starts 2 0 k_X8_starts.1 k_X8_starts.2.1 k_X8_starts.2.2.2 bl_X8_starts true 2000 5030 b63_X8_starts.2 b63_X8_starts.1 = true := by decide +kernel
set_option maxRecDepth 1000000 in
theorem ck65_X8_starts : zrun tb_X8_starts sp_X8_starts pr_X8_starts 2 0 k_X8_starts.1 k_X8_starts.2.1 k_X8_starts.2.2.2 bl_X8_starts true 2000 5030 b64_X8_starts.2 b64_X8_starts.1 = true := by decide +kernel
set_option maxRecDepth 1000000 in
theorem ck66_X8_starts : zrun tb_X8_starts sp_X8_starts pr_X8_starts 2 0 k_X8_starts.1 k_X8_starts.2.1 k_X8_starts.2.2.2 bl_X8_starts true 2000 5030 b65_X8_starts.2 b65_X8_starts.1 = true := by decide +kernel
set_option maxRecDepth 1000000 in
theorem ck67_X8_starts : zrun tb_X8_starts sp_X8_starts pr_X8_starts 2 0 k_X8_starts.1 k_X8_starts.2.1 k_X8_starts.2.2.2 bl_X8_starts true 2000 5030 b66_X8_starts.2 b66_X8_starts.1 = true := by decide +kernel
set_option maxRecDepth 1000000 in
theorem ck68_X8_starts : zrun tb_X8_starts sp_X8_starts pr_X8_starts 2 0 k_X8_starts.1 k_X8_starts.2.1 k_X8_starts.2.2.2 bl_X8_starts true 2000 5030 b67_X8_starts.2 b67_X8_starts.1 = true := by decide +kernel
set_option maxRecDepth 1000000 in
theorem ck69_X8_starts : zrun tb_X8_starts sp_X8_starts pr_X8_starts 2 0 k_X8_starts.1 k_X8_starts.2.1 k_X8_starts.2.2.2 bl_X8_starts true 2000 5030 b68_X8_starts.2 b68_X8_starts.1 = true := by decide +kernel
set_option maxRecDepth 1000000 in
theorem ck70_X8_starts : zrun tb_X8_starts sp_X8_starts pr_X8_starts 2 0 k_X8_starts.1 k_X8_starts.2.1 k_X8_starts.2.2.2 bl_X8_starts true 2000 5030 b69_X8_starts.2 b69_X8_starts.1 = true := by decide +kernel
set_option maxRecDepth 1000000 in
theorem ck71_X8_starts : zrun tb_X8_starts sp_X8_starts pr_X8_starts 2 0 k_X8_starts.1 k_X8_starts.2.1 k_X8_starts.2.2.2 bl_X8_starts true 2000 5030 b70_X8_starts.2 b70_X8_starts.1 = true := by decide +kernel
set_option maxRecDepth 1000000 in
theorem ck72_X8_starts : zrun tb_X8_starts sp_X8_starts pr_X8_starts 2 0 k_X8_starts.1 k_X8_starts.2.1 k_X8_starts.2.2.2 bl_X8_starts true 2000 5030 b71_X8_starts.2 b71_X8_starts.1 = true := by decide +kernel
set_option maxRecDepth 1000000 in
theorem ck73_X8_starts : zrun tb_X8_starts sp_X8_starts pr_X8_starts 2 0 k_X8_starts.1 k_X8_starts.2.1 k_X8_starts.2.2.2 bl_X8_starts true 2000 5030 b72_X8_starts.2 b72_X8_starts.1 = true := by decide +kernel
set_option maxRecDepth 1000000 in
theorem ck74_X8_starts : zrun tb_X8_starts sp_X8_starts pr_X8_starts 2 0 k_X8_starts.1 k_X8_starts.2.1 k_X8_starts.2.2.2 bl_X8_starts true 2000 5030 b73_X8_starts.2 b73_X8_starts.1 = true := by decide +kernel
set_option maxRecDepth 1000000 in
theorem ck75_X8_starts : zrun tb_X8_starts sp_X8_starts pr_X8_starts 2 0 k_X8_starts.1 k_X8_starts.2.1 k_X8_starts.2.2.2 bl_X8_starts true 2000 5030 b74_X8_starts.2 b74_X8_starts.1 = true := by decide +kernel
set_option maxRecDepth 1000000 in
theorem ck76_X8_starts : zrun tb_X8_starts sp_X8_starts pr_X8_starts 2 0 k_X8_starts.1 k_X8_starts.2.1 k_X8_starts.2.2.2 bl_X8_starts true 2000 5030 b75_X8_starts.2 b75_X8_starts.1 = true := by decide +kernel
set_option maxRecDepth 1000000 in
theorem ck77_X8_starts : zrun tb_X8_starts sp_X8_starts pr_X8_starts 2 0 k_X8_starts.1 k_X8_starts.2.1 k_X8_starts.2.2.2 bl_X8_starts true 2000 5030 b76_X8_starts.2 b76_X8_starts.1 = true := by decide +kernel
set_option maxRecDepth 1000000 in
theorem ck78_X8_starts : zrun tb_X8_starts sp_X8_starts pr_X8_starts 2 0 k_X8_starts.1 k_X8_starts.2.1 k_X8_starts.2.2.2 bl_X8_starts true 2000 5030 b77_X8_starts.2 b77_X8_starts.1 = true := by decide +kernel
set_option maxRecDepth 1000000 in
theorem ck79_X8_starts : zrun tb_X8_starts sp_X8_starts pr_X8_starts 2 0 k_X8_starts.1 k_X8_starts.2.1 k_X8_starts.2.2.2 bl_X8_starts true 2000 5030 b78_X8_starts.2 b78_X8_starts.1 = true := by decide +kernel
set_option maxRecDepth 1000000 in
theorem ck80_X8_starts : zrun tb_X8_starts sp_X8_starts pr_X8_starts 2 0 k_X8_starts.1 k_X8_starts.2.1 k_X8_starts.2.2.2 bl_X8_starts true 2000 5030 b79_X8_starts.2 b79_X8_starts.1 = true := by decide +kernel
set_option maxRecDepth 1000000 in
theorem ck81_X8_starts : zrun tb_X8_starts sp_X8_starts pr_X8_starts 2 0 k_X8_starts.1 k_X8_starts.2.1 k_X8_starts.2.2.2 bl_X8_starts true 2000 5030 b80_X8_starts.2 b80_X8_starts.1 = true := by decide +kernel
set_option maxRecDepth 1000000 in
theorem ck82_X8_starts : zrun tb_X8_starts sp_X8_starts pr_X8_starts 2 0 k_X8_starts.1 k_X8_starts.2.1 k_X8_starts.2.2.2 bl_X8_starts true 2000 5030 b81_X8_starts.2 b81_X8_starts.1 = true := by decide +kernel
set_option maxRecDepth 1000000 in
theorem ck83_X8_starts : zrun tb_X8_starts sp_X8_starts pr_X8_starts 2 0 k_X8_starts.1 k_X8_starts.2.1 k_X8_starts.2.2.2 bl_X8_starts true 2000 5030 b82_X8_starts.2 b82_X8_starts.1 = true := by decide +kernel
set_option maxRecDepth 1000000 in
theorem ck84_X8_starts : zrun tb_X8_starts sp_X8_starts pr_X8_starts 2 0 k_X8_starts.1 k_X8_starts.2.1 k_X8_starts.2.2.2 bl_X8_starts true 2000 5030 b83_X8_starts.2 b83_X8_starts.1 = true := by decide +kernel
set_option maxRecDepth 1000000 in
theorem ck85_X8_starts : zrun tb_X8_starts sp_X8_starts pr_X8_starts 2 0 k_X8_starts.1 k_X8_starts.2.1 k_X8_starts.2.2.2 bl_X8_starts true 2000 5030 b84_X8_starts.2 b84_X8_starts.1 = true := by decide +kernel
set_option maxRecDepth 1000000 in
theorem ck86_X8_starts : zrun tb_X8_starts sp_X8_starts pr_X8_starts 2 0 k_X8_starts.1 k_X8_starts.2.1 k_X8_starts.2.2.2 bl_X8_starts true 2000 5030 b85_X8_starts.2 b85_X8_starts.1 = true := by decide +kernel
set_option maxRecDepth 1000000 in
theorem ck87_X8_starts : zrun tb_X8_starts sp_X8_starts pr_X8_starts 2 0 k_X8_starts.1 k_X8_starts.2.1 k_X8_starts.2.2.2 bl_X8_starts true 2000 5030 b86_X8_starts.2 b86_X8_starts.1 = true := by decide +kernel
set_option maxRecDepth 1000000 in
theorem ck88_X8_starts : zrun tb_X8_starts sp_X8_starts pr_X8_starts 2 0 k_X8_starts.1 k_X8_starts.2.1 k_X8_starts.2.2.2 bl_X8_starts true 2000 5030 b87_X8_starts.2 b87_X8_starts.1 = true := by decide +kernel
set_option maxRecDepth 1000000 in
theorem ck89_X8_starts : zrun tb_X8_starts sp_X8_starts pr_X8_starts 2 0 k_X8_starts.1 k_X8_starts.2.1 k_X8_starts.2.2.2 bl_X8_starts true 2000 5030 b88_X8_starts.2 b88_X8_starts.1 = true := by decide +kernel
set_option maxRecDepth 1000000 in
theorem ck90_X8_starts : zrun tb_X8_starts sp_X8_starts pr_X8_starts 2 0 k_X8_starts.1 k_X8_starts.2.1 k_X8_starts.2.2.2 bl_X8_starts true 2000 5030 b89_X8_starts.2 b89_X8_starts.1 = true := by decide +kernel
set_option maxRecDepth 1000000 in
theorem ck91_X8_starts : zrun tb_X8_starts sp_X8_starts pr_X8_starts 2 0 k_X8_starts.1 k_X8_starts.2.1 k_X8_starts.2.2.2 bl_X8_starts true 2000 5030 b90_X8_starts.2 b90_X8_starts.1 = true := by decide +kernel
set_option maxRecDepth 1000000 in
theorem ck92_X8_starts : zrun tb_X8_starts sp_X8_starts pr_X8_starts 2 0 k_X8_starts.1 k_X8_starts.2.1 k_X8_starts.2.2.2 bl_X8_starts true 2000 5030 b91_X8_starts.2 b91_X8_starts.1 = true := by decide +kernel
set_option maxRecDepth 1000000 in
theorem ck93_X8_starts : zrun tb_X8_starts sp_X8_starts pr_X8_starts 2 0 k_X8_starts.1 k_X8_starts.2.1 k_X8_starts.2.2.2 bl_X8_starts true 2000 5030 b92_X8_starts.2 b92_X8_starts.1 = true := by decide +kernel
set_option maxRecDepth 1000000 in
theorem ck94_X8_starts : zrun tb_X8_starts sp_X8_starts pr_X8_starts 2 0 k_X8_starts.1 k_X8_starts.2.1 k_X8_starts.2.2.2 bl_X8_starts true 2000 5030 b93_X8_starts.2 b93_X8_starts.1 = true := by decide +kernel
set_option maxRecDepth 1000000 in
theorem ck95_X8_starts : zrun tb_X8_starts sp_X8_starts pr_X8_starts 2 0 k_X8_starts.1 k_X8_starts.2.1 k_X8_starts.2.2.2 bl_X8_starts true 2000 5030 b94_X8_starts.2 b94_X8_starts.1 = true := by decide +kernel
set_option maxRecDepth 1000000 in
theorem ck96_X8_starts : zrun tb_X8_starts sp_X8_starts pr_X8_starts 2 0 k_X8_starts.1 k_X8_starts.2.1 k_X8_starts.2.2.2 bl_X8_starts true 2000 5030 b95_X8_starts.2 b95_X8_starts.1 = true := by decide +kernel
set_option maxRecDepth 1000000 in
theorem ck97_X8_starts : zrun tb_X8_starts sp_X8_starts pr_X8_starts 2 0 k_X8_starts.1 k_X8_starts.2.1 k_X8_starts.2.2.2 bl_X8_starts true 2000 5030 b96_X8_starts.2 b96_X8_starts.1 = true := by decide +kernel
set_option maxRecDepth 1000000 in
theorem ck98_X8_starts : zrun tb_X8_starts sp_X8_starts pr_X8_starts 2 0 k_X8_starts.1 k_X8_starts.2.1 k_X8_starts.2.2.2 bl_X8_starts true 2000 5030 b97_X8_starts.2 b97_X8_starts.1 = true := by decide +kernel
set_option maxRecDepth 1000000 in
theorem ck99_X8_starts : zrun tb_X8_starts sp_X8_starts pr_X8_starts 2 0 k_X8_starts.1 k_X8_starts.2.1 k_X8_starts.2.2.2 bl_X8_starts true 2000 5030 b98_X8_starts.2 b98_X8_starts.1 = true := by decide +kernel
set_option maxRecDepth 1000000 in
theorem ck100_X8_starts : zrun tb_X8_starts sp_X8_starts pr_X8_starts 2 0 k_X8_starts.1 k_X8_starts.2.1 k_X8_starts.2.2.2 bl_X8_starts true 2000 5030 b99_X8_starts.2 b99_X8_starts.1 = true := by decide +kernel
set_option maxRecDepth 1000000 in
theorem ck101_X8_starts : zrun tb_X8_starts sp_X8_starts pr_X8_starts 2 0 k_X8_starts.1 k_X8_starts.2.1 k_X8_starts.2.2.2 bl_X8_starts true 2000 5030 b100_X8_starts.2 b100_X8_starts.1 = true := by decide +kernel
set_option maxRecDepth 1000000 in
theorem ck102_X8_starts : zrun tb_X8_starts sp_X8_starts pr_X8_starts 2 0 k_X8_starts.1 k_X8_starts.2.1 k_X8_starts.2.2.2 bl_X8_starts true 2000 5030 b101_X8_starts.2 b101_X8_starts.1 = true := by decide +kernel
set_option maxRecDepth 1000000 in
theorem ck103_X8_starts : zrun tb_X8_starts sp_X8_starts pr_X8_starts 2 0 k_X8_starts.1 k_X8_starts.2.1 k_X8_starts.2.2.2 bl_X8_starts true 2000 5030 b102_X8_starts.2 b102_X8_starts.1 = true := by decide +kernel
set_option maxRecDepth 1000000 in
theorem ck104_X8_starts : zrun tb_X8_starts sp_X8_starts pr_X8_starts 2 0 k_X8_starts.1 k_X8_starts.2.1 k_X8_starts.2.2.2 bl_X8_starts true 2000 5030 b103_X8_starts.2 b103_X8_starts.1 = true := by decide +kernel
set_option maxRecDepth 1000000 in
theorem ck105_X8_starts : zrun tb_X8_starts sp_X8_starts pr_X8_starts 2 0 k_X8_starts.1 k_X8_starts.2.1 k_X8_starts.2.2.2 bl_X8_starts true 2000 5030 b104_X8_starts.2 b104_X8_starts.1 = true := by decide +kernel
set_option maxRecDepth 1000000 in
theorem ck106_X8_starts : zrun tb_X8_starts sp_X8_starts pr_X8_starts 2 0 k_X8_starts.1 k_X8_starts.2.1 k_X8_starts.2.2.2 bl_X8_starts true 2000 5030 b105_X8_starts.2 b105_X8_starts.1 = true := by decide +kernel
set_option maxRecDepth 1000000 in
theorem ck107_X8_starts : zrun tb_X8_starts sp_X8_starts pr_X8_starts 2 0 k_X8_starts.1 k_X8_starts.2.1 k_X8_starts.2.2.2 bl_X8_starts true 2000 5030 b106_X8_starts.2 b106_X8_starts.1 = true := by decide +kernel
set_option maxRecDepth 1000000 in
theorem ck108_X8_starts : zrun tb_X8_starts sp_X8_starts pr_X8_starts 2 0 k_X8_starts.1 k_X8_starts.2.1 k_X8_starts.2.2.2 bl_X8_starts true 2000 5030 b107_X8_starts.2 b107_X8_starts.1 = true := by decide +kernel
set_option maxRecDepth 1000000 in
theorem ck109_X8_starts : zrun tb_X8_starts sp_X8_starts pr_X8_starts 2 0 k_X8_starts.1 k_X8_starts.2.1 k_X8_starts.2.2.2 bl_X8_starts true 2000 5030 b108_X8_starts.2 b108_X8_starts.1 = true := by decide +kernel
set_option maxRecDepth 1000000 in
theorem ck110_X8_starts : zrun tb_X8_starts sp_X8_starts pr_X8_starts 2 0 k_X8_starts.1 k_X8_starts.2.1 k_X8_starts.2.2.2 bl_X8_starts true 2000 5030 b109_X8_starts.2 b109_X8_starts.1 = true := by decide +kernel
set_option maxRecDepth 1000000 in
theorem ck111_X8_starts : zrun tb_X8_starts sp_X8_starts pr_X8_starts 2 0 k_X8_starts.1 k_X8_starts.2.1 k_X8_starts.2.2.2 bl_X8_starts true 2000 5030 b110_X8_starts.2 b110_X8_starts.1 = true := by decide +kernel
set_option maxRecDepth 1000000 in
theorem ck112_X8_starts : zrun tb_X8_starts sp_X8_starts pr_X8_starts 2 0 k_X8_starts.1 k_X8_starts.2.1 k_X8_starts.2.2.2 bl_X8_starts true 2000 5030 b111_X8_starts.2 b111_X8_starts.1 = true := by decide +kernel
set_option maxRecDepth 1000000 in
theorem ck113_X8_starts : zrun tb_X8_starts sp_X8_starts pr_X8_starts 2 0 k_X8_starts.1 k_X8_starts.2.1 k_X8_starts.2.2.2 bl_X8_starts true 2000 5030 b112_X8_starts.2 b112_X8_starts.1 = true := by decide +kernel
set_option maxRecDepth 1000000 in
theorem ck114_X8_starts : zrun tb_X8_starts sp_X8_starts pr_X8_starts 2 0 k_X8_starts.1 k_X8_starts.2.1 k_X8_starts.2.2.2 bl_X8_starts true 2000 5030 b113_X8_starts.2 b113_X8_starts.1 = true := by decide +kernel
set_option maxRecDepth 1000000 in
theorem ck115_X8_starts : zrun tb_X8_starts sp_X8_starts pr_X8_starts 2 0 k_X8_starts.1 k_X8_starts.2.1 k_X8_starts.2.2.2 bl_X8_starts true 2000 5030 b114_X8_starts.2 b114_X8_starts.1 = true := by decide +kernel
set_option maxRecDepth 1000000 in
theorem ck116_X8_starts : zrun tb_X8_starts sp_X8_starts pr_X8_starts 2 0 k_X8_starts.1 k_X8_starts.2.1 k_X8_starts.2.2.2 bl_X8_starts true 2000 5030 b115_X8_starts.2 b115_X8_starts.1 = true := by decide +kernel
set_option maxRecDepth 1000000 in
theorem ck117_X8_starts : zrun tb_X8_starts sp_X8_starts pr_X8_starts 2 0 k_X8_starts.1 k_X8_starts.2.1 k_X8_starts.2.2.2 bl_X8_starts true 2000 5030 b116_X8_starts.2 b116_X8_starts.1 = true := by decide +kernel
set_option maxRecDepth 1000000 in
theorem ck118_X8_starts : zrun tb_X8_starts sp_X8_starts pr_X8_starts 2 0 k_X8_starts.1 k_X8_starts.2.1 k_X8_starts.2.2.2 bl_X8_starts true 2000 5030 b117_X8_starts.2 b117_X8_starts.1 = true := by decide +kernel
set_option maxRecDepth 1000000 in
theorem ck119_X8_starts : zrun tb_X8_starts sp_X8_starts pr_X8_starts 2 0 k_X8_starts.1 k_X8_starts.2.1 k_X8_starts.2.2.2 bl_X8_starts true 2000 5030 b118_X8_starts.2 b118_X8_starts.1 = true := by decide +kernel
set_option maxRecDepth 1000000 in
theorem ck120_X8_starts : zrun tb_X8_starts sp_X8_starts pr_X8_starts 2 0 k_X8_starts.1 k_X8_starts.2.1 k_X8_starts.2.2.2 bl_X8_starts true 2000 5030 b119_X8_starts.2 b119_X8_starts.1 = true := by decide +kernel
set_option maxRecDepth 1000000 in
theorem ck121_X8_starts : zrun tb_X8_starts sp_X8_starts pr_X8_starts 2 0 k_X8_starts.1 k_X8_starts.2.1 k_X8_starts.2.2.2 bl_X8_starts true 2000 5030 b120_X8_starts.2 b120_X8_starts.1 = true := by decide +kernel
set_option maxRecDepth 1000000 in
theorem ck122_X8_starts : zrun tb_X8_starts sp_X8_starts pr_X8_starts 2 0 k_X8_starts.1 k_X8_starts.2.1 k_X8_starts.2.2.2 bl_X8_starts true 2000 5030 b121_X8_starts.2 b121_X8_starts.1 = true := by decide +kernel
set_option maxRecDepth 1000000 in
theorem ck123_X8_starts : zrun tb_X8_starts sp_X8_starts pr_X8_starts 2 0 k_X8_starts.1 k_X8_starts.2.1 k_X8_starts.2.2.2 bl_X8_starts true 2000 5030 b122_X8_starts.2 b122_X8_starts.1 = true := by decide +kernel
set_option maxRecDepth 1000000 in
theorem ck124_X8_starts : zrun tb_X8_starts sp_X8_starts pr_X8_starts 2 0 k_X8_starts.1 k_X8_starts.2.1 k_X8_starts.2.2.2 bl_X8_starts true 2000 5030 b123_X8_starts.2 b123_X8_starts.1 = true := by decide +kernel
set_option maxRecDepth 1000000 in
theorem ck125_X8_starts : zrun tb_X8_starts sp_X8_starts pr_X8_starts 2 0 k_X8_starts.1 k_X8_starts.2.1 k_X8_starts.2.2.2 bl_X8_starts true 2000 5030 b124_X8_starts.2 b124_X8_starts.1 = true := by decide +kernel
set_option maxRecDepth 1000000 in
theorem ck126_X8_starts : zrun tb_X8_starts sp_X8_starts pr_X8_starts 2 0 k_X8_starts.1 k_X8_starts.2.1 k_X8_starts.2.2.2 bl_X8_starts true 2000 5030 b125_X8_starts.2 b125_X8_starts.1 = true := by decide +kernel
set_option maxRecDepth 1000000 in
theorem ck127_X8_starts : zrun tb_X8_starts sp_X8_starts pr_X8_starts 2 0 k_X8_starts.1 k_X8_starts.2.1 k_X8_starts.2.2.2 bl_X8_starts true 2000 5030 b126_X8_starts.2 b126_X8_starts.1 = true := by decide +kernel
set_option maxRecDepth 1000000 in
theorem ck128_X8_starts : zrun tb_X8_starts sp_X8_starts pr_X8_starts 2 0 k_X8_starts.1 k_X8_starts.2.1 k_X8_starts.2.2.2 bl_X8_starts true 2000 5030 b127_X8_starts.2 b127_X8_starts.1 = true := by decide +kernel
set_option maxRecDepth 1000000 in
theorem ck129_X8_starts : zrun tb_X8_starts sp_X8_starts pr_X8_starts 2 0 k_X8_starts.1 k_X8_starts.2.1 k_X8_starts.2.2.2 bl_X8_starts true 2000 5030 b128_X8_starts.2 b128_X8_starts.1 = true := by decide +kernel
set_option maxRecDepth 1000000 in
theorem ck130_X8_starts : zrun tb_X8_starts sp_X8_starts pr_X8_starts 2 0 k_X8_starts.1 k_X8_starts.2.1 k_X8_starts.2.2.2 bl_X8_starts true 2000 5030 b129_X8_starts.2 b129_X8_starts.1 = true := by decide +kernel
set_option maxRecDepth 1000000 in
theorem ck131_X8_starts : zrun tb_X8_starts sp_X8_starts pr_X8_starts 2 0 k_X8_starts.1 k_X8_starts.2.1 k_X8_starts.2.2.2 bl_X8_starts true 2000 5030 b130_X8_starts.2 b130_X8_starts.1 = true := by decide +kernel
set_option maxRecDepth 1000000 in
theorem ck132_X8_starts : zrun tb_X8_starts sp_X8_starts pr_X8_starts 2 0 k_X8_starts.1 k_X8_starts.2.1 k_X8_starts.2.2.2 bl_X8_starts true 2000 5030 b131_X8_starts.2 b131_X8_starts.1 = true := by decide +kernel
set_option maxRecDepth 1000000 in
theorem ck_X8_starts : zcheck tb_X8_starts sp_X8_starts pr_X8_starts 2 0 k_X8_starts bl_X8_starts 2000 5030 = true := zcheck_of (by decide +kernel) ck0_X8_starts (List.forall_mem_cons.mpr ⟨ck1_X8_starts, List.forall_mem_cons.mpr ⟨ck2_X8_starts, List.forall_mem_cons.mpr ⟨ck3_X8_starts, List.forall_mem_cons.mpr ⟨ck4_X8_starts, List.forall_mem_cons.mpr ⟨ck5_X8_starts, List.forall_mem_cons.mpr ⟨ck6_X8_starts, List.forall_mem_cons.mpr ⟨ck7_X8_starts, List.forall_mem_cons.mpr ⟨ck8_X8_starts, List.forall_mem_cons.mpr ⟨ck9_X8_starts, List.forall_mem_cons.mpr ⟨ck10_X8_starts, List.forall_mem_cons.mpr ⟨ck11_X8_starts, List.forall_mem_cons.mpr ⟨ck12_X8_starts, List.forall_mem_cons.mpr ⟨ck13_X8_starts, List.forall_mem_cons.mpr ⟨ck14_X8_starts, List.forall_mem_cons.mpr ⟨ck15_X8_starts, List.forall_mem_cons.mpr ⟨ck16_X8_starts, List.forall_mem_cons.mpr ⟨ck17_X8_starts, List.forall_mem_cons.mpr ⟨ck18_X8_starts, List.forall_mem_cons.mpr ⟨ck19_X8_starts, List.forall_mem_cons.mpr ⟨ck20_X8_starts, List.forall_mem_cons.mpr ⟨ck21_X8_starts, List.forall_mem_cons.mpr ⟨ck22_X8_starts, List.forall_mem_cons.mpr ⟨ck23_X8_starts, List.forall_mem_cons.mpr ⟨ck24_X8_starts, List.forall_mem_cons.mpr ⟨ck25_X8_starts, List.forall_mem_cons.mpr ⟨ck26_X8_starts, List.forall_mem_cons.mpr ⟨ck27_X8_starts, List.forall_mem_cons.mpr ⟨ck28_X8_starts, List.forall_mem_cons.mpr ⟨ck29_X8_starts, List.forall_mem_cons.mpr ⟨ck30_X8_starts, List.forall_mem_cons.mpr ⟨ck31_X8_starts, List.forall_mem_cons.mpr ⟨ck32_X8_starts, List.forall_mem_cons.mpr ⟨ck33_X8_starts, List.forall_mem_cons.mpr ⟨ck34_X8_starts, List.forall_mem_cons.mpr ⟨ck35_X8_starts, List.forall_mem_cons.mpr ⟨ck36_X8_starts, List.forall_mem_cons.mpr ⟨ck37_X8_starts, List.forall_mem_cons.mpr ⟨ck38_X8_starts, List.forall_mem_cons.mpr ⟨ck39_X8_starts, List.forall_mem_cons.mpr ⟨ck40_X8_starts, List.forall_mem_cons.mpr ⟨ck41_X8_starts, List.forall_mem_cons.mpr ⟨ck42_X8_starts, List.forall_mem_cons.mpr ⟨ck43_X8_starts, List.forall_mem_cons.mpr ⟨ck44_X8_starts, List.forall_mem_cons.mpr ⟨ck45_X8_starts, List.forall_mem_cons.mpr ⟨ck46_X8_starts, List.forall_mem_cons.mpr ⟨ck47_X8_starts, List.forall_mem_cons.mpr ⟨ck48_X8_starts, List.forall_mem_cons.mpr ⟨ck49_X8_starts, List.forall_mem_cons.mpr ⟨ck50_X8_starts, List.forall_mem_cons.mpr ⟨ck51_X8_starts, List.forall_mem_cons.mpr ⟨ck52_X8_starts, List.forall_mem_cons.mpr ⟨ck53_X8_starts, List.forall_mem_cons.mpr ⟨ck54_X8_starts, List.forall_mem_cons.mpr ⟨ck55_X8_starts, List.forall_mem_cons.mpr ⟨ck56_X8_starts, List.forall_mem_cons.mpr ⟨ck57_X8_starts, List.forall_mem_cons.mpr ⟨ck58_X8_starts, List.forall_mem_cons.mpr ⟨ck59_X8_starts, List.forall_mem_cons.mpr ⟨ck60_X8_starts, List.forall_mem_cons.mpr ⟨ck61_X8_starts, List.forall_mem_cons.mpr ⟨ck62_X8_starts, List.forall_mem_cons.mpr ⟨ck63_X8_starts, List.forall_mem_cons.mpr ⟨ck64_X8_starts, List.forall_mem_cons.mpr ⟨ck65_X8_starts, List.forall_mem_cons.mpr ⟨ck66_X8_starts, List.forall_mem_cons.mpr ⟨ck67_X8_starts, List.forall_mem_cons.mpr ⟨ck68_X8_starts, List.forall_mem_cons.mpr ⟨ck69_X8_starts, List.forall_mem_cons.mpr ⟨ck70_X8_starts, List.forall_mem_cons.mpr ⟨ck71_X8_starts, List.forall_mem_cons.mpr ⟨ck72_X8_starts, List.forall_mem_cons.mpr ⟨ck73_X8_starts, List.forall_mem_cons.mpr ⟨ck74_X8_starts, List.forall_mem_cons.mpr ⟨ck75_X8_starts, List.forall_mem_cons.mpr ⟨ck76_X8_starts, List.forall_mem_cons.mpr ⟨ck77_X8_starts, List.forall_mem_cons.mpr ⟨ck78_X8_starts, List.forall_mem_cons.mpr ⟨ck79_X8_starts, List.forall_mem_cons.mpr ⟨ck80_X8_starts, List.forall_mem_cons.mpr ⟨ck81_X8_starts, List.forall_mem_cons.mpr ⟨ck82_X8_starts, List.forall_mem_cons.mpr ⟨ck83_X8_starts, List.forall_mem_cons.mpr ⟨ck84_X8_starts, List.forall_mem_cons.mpr ⟨ck85_X8_starts, List.forall_mem_cons.mpr ⟨ck86_X8_starts, List.forall_mem_cons.mpr ⟨ck87_X8_starts, List.forall_mem_cons.mpr ⟨ck88_X8_starts, List.forall_mem_cons.mpr ⟨ck89_X8_starts, List.forall_mem_cons.mpr ⟨ck90_X8_starts, List.forall_mem_cons.mpr ⟨ck91_X8_starts, List.forall_mem_cons.mpr ⟨ck92_X8_starts, List.forall_mem_cons.mpr ⟨ck93_X8_starts, List.forall_mem_cons.mpr ⟨ck94_X8_starts, List.forall_mem_cons.mpr ⟨ck95_X8_starts, List.forall_mem_cons.mpr ⟨ck96_X8_starts, List.forall_mem_cons.mpr ⟨ck97_X8_starts, List.forall_mem_cons.mpr ⟨ck98_X8_starts, List.forall_mem_cons.mpr ⟨ck99_X8_starts, List.forall_mem_cons.mpr ⟨ck100_X8_starts, List.forall_mem_cons.mpr ⟨ck101_X8_starts, List.forall_mem_cons.mpr ⟨ck102_X8_starts, List.forall_mem_cons.mpr ⟨ck103_X8_starts, List.forall_mem_cons.mpr ⟨ck104_X8_starts, List.forall_mem_cons.mpr ⟨ck105_X8_starts, List.forall_mem_cons.mpr ⟨ck106_X8_starts, List.forall_mem_cons.mpr ⟨ck107_X8_starts, List.forall_mem_cons.mpr ⟨ck108_X8_starts, List.forall_mem_cons.mpr ⟨ck109_X8_starts, List.forall_mem_cons.mpr ⟨ck110_X8_starts, List.forall_mem_cons.mpr ⟨ck111_X8_starts, List.forall_mem_cons.mpr ⟨ck112_X8_starts, List.forall_mem_cons.mpr ⟨ck113_X8_starts, List.forall_mem_cons.mpr ⟨ck114_X8_starts, List.forall_mem_cons.mpr ⟨ck115_X8_starts, List.forall_mem_cons.mpr ⟨ck116_X8_starts, List.forall_mem_cons.mpr ⟨ck117_X8_starts, List.forall_mem_cons.mpr ⟨ck118_X8_starts, List.forall_mem_cons.mpr ⟨ck119_X8_starts, List.forall_mem_cons.mpr ⟨ck120_X8_starts, List.forall_mem_cons.mpr ⟨ck121_X8_starts, List.forall_mem_cons.mpr ⟨ck122_X8_starts, List.forall_mem_cons.mpr ⟨ck123_X8_starts, List.forall_mem_cons.mpr ⟨ck124_X8_starts, List.forall_mem_cons.mpr ⟨ck125_X8_starts, List.forall_mem_cons.mpr ⟨ck126_X8_starts, List.forall_mem_cons.mpr ⟨ck127_X8_starts, List.forall_mem_cons.mpr ⟨ck128_X8_starts, List.forall_mem_cons.mpr ⟨ck129_X8_starts, List.forall_mem_cons.mpr ⟨ck130_X8_starts, List.forall_mem_cons.mpr ⟨ck131_X8_starts, List.forall_mem_cons.mpr ⟨ck132_X8_starts, fun _ h => absurd h List.not_mem_nil⟩⟩⟩⟩⟩⟩⟩⟩⟩⟩⟩⟩⟩⟩⟩⟩⟩⟩⟩⟩⟩⟩⟩⟩⟩⟩⟩⟩⟩⟩⟩⟩⟩⟩⟩⟩⟩⟩⟩⟩⟩⟩⟩⟩⟩⟩⟩⟩⟩⟩⟩⟩⟩⟩⟩⟩⟩⟩⟩⟩⟩⟩⟩⟩⟩⟩⟩⟩⟩⟩⟩⟩⟩⟩⟩⟩⟩⟩⟩⟩⟩⟩⟩⟩⟩⟩⟩⟩⟩⟩⟩⟩⟩⟩⟩⟩⟩⟩⟩⟩⟩⟩⟩⟩⟩⟩⟩⟩⟩⟩⟩⟩⟩⟩⟩⟩⟩⟩⟩⟩⟩⟩⟩⟩⟩⟩⟩⟩⟩⟩⟩⟩)
set_option maxRecDepth 100000 in
set_option maxHeartbeats 4000000 in
theorem c_X8_starts {X : zXT} (hX : zXok X) (hN : zXn X) (l : Launch) : zMet X vwCl l yX8_starts wsX8_starts { frames := 1, cells := 0, slots := 0, locals := 64 } k_X8_starts :=
  zmeth (tb := tb_X8_starts) (pr := pr_X8_starts) (bl := bl_X8_starts) (rt := 0) (own := RX8) hX (by decide +kernel) rfl rfl ⟨Nat.le_of_ble_eq_true rfl, Nat.le_of_ble_eq_true rfl⟩
    (zfl_all (List.forall_mem_cons.mpr ⟨zfl_X8 (fun w h => List.mem_cons_of_mem _ (List.mem_append_right _ h)) (List.mem_of_getElem? (i := 2) rfl) (by decide) (by decide), List.forall_mem_cons.mpr ⟨zfl_X8 (fun w h => List.mem_cons_of_mem _ (List.mem_append_right _ h)) (List.mem_of_getElem? (i := 1) rfl) (by decide) (by decide), fun _ h => absurd h List.not_mem_nil⟩⟩))
    (zco_all (fun _ h => absurd h List.not_mem_nil)) (zlc_all (fun _ h => absurd h List.not_mem_nil))
    (fun _ h => absurd h List.not_mem_nil)
    (fun _ h => absurd h List.not_mem_nil)
    (zmm_all (fun _ h => absurd h List.not_mem_nil)) (zpr_all hp_X8_starts) ck_X8_starts
def pr_X8_off : List (Nat × Instr × Nat) := [(0, .iload_n 1, 1), (1, .iload_n 2, 1), (2, .iadd, 1), (3, .istore_n 3, 1), (4, .aload_n 0, 1), (5, .getfield 82, 3), (8, .ifCond .eq 15, 3), (11, .iload_n 3, 1), (12, .aload_n 0, 1), (13, .getfield 79, 3), (16, .iadd, 1), (17, .aload_n 0, 1), (18, .getfield 79, 3), (21, .irem, 1), (22, .ireturn, 1), (23, .iload_n 3, 1), (24, .i2l, 1), (25, .lconst 0, 1), (26, .aload_n 0, 1), (27, .getfield 79, 3), (30, .iconst 1, 1), (31, .isub, 1), (32, .i2l, 1), (33, .invokestatic 90, 3), (36, .ifCond .eq 7, 3), (39, .iload_n 3, 1), (40, .goto 5, 3), (43, .bipush (-4), 2), (45, .ireturn, 1)]
set_option maxRecDepth 100000 in
theorem hp_X8_off : pr_X8_off.all (fun x => decide (decode cX8_off x.1 = .ok x.2)) = true := by decide +kernel
def ze_X8_off : zE := [(1, (2, 7)), (2, (0, 1)), (3, (0, 5)), (4, (0, 7)), (5, (0, 1)), (6, (0, 1)), (7, (0, 5)), (8, ((-2147483648), 2147483647)), (9, ((-2147483648), 2147483647)), (10, (0, 160)), (11, (0, 160)), (12, (0, 160)), (13, (0, 3)), (14, ((-2147483648), 2147483647)), (15, (0, 6)), (16, ((-2147483648), 2147483647)), (17, (0, 10)), (18, ((-2147483648), 2147483647)), (19, ((-2147483648), 2147483647)), (20, (0, 10)), (21, (0, 4)), (22, (0, 10)), (23, (0, 4)), (24, (0, 10)), (25, (0, 4)), (26, (0, 10)), (27, (0, 4)), (28, (0, 10)), (29, (0, 4)), (30, (0, 6)), (31, ((-1), 2))]
def k_X8_off : zK := (32, [0, 1, 2, 3, 4, 5, 6, 7, 8, 9, 10, 11, 12, 13, 14], (ze_X8_off, [], [], [zr 0, zi 30 0, zi 31 0], zw1, []), [([(2, (0, 0))], [], [], [zi 0 (-4)], zw1, []),
  ([(32, (0, 6))], [], [], [zi 32 0], zw1, [])])
def bl_X8_off : List (Nat × zS) := []
def tb_X8_off : zTb := ([(79, 8, 3, 0), (82, 8, 4, 1)], [], [], [], [(90, k_X8_in)], [])
def sp_X8_off : zSp := []
set_option maxRecDepth 1000000 in
theorem ck0_X8_off : zrun tb_X8_off sp_X8_off pr_X8_off 4 1 k_X8_off.1 k_X8_off.2.1 k_X8_off.2.2.2 bl_X8_off false 2000 5032 (zst0 k_X8_off) 0 = true := by decide +kernel
set_option maxRecDepth 1000000 in
theorem ck_X8_off : zcheck tb_X8_off sp_X8_off pr_X8_off 4 1 k_X8_off bl_X8_off 2000 5032 = true := zcheck_of (by decide +kernel) ck0_X8_off (fun _ h => absurd h List.not_mem_nil)
set_option maxRecDepth 100000 in
set_option maxHeartbeats 4000000 in
theorem c_X8_off {X : zXT} (hX : zXok X) (hN : zXn X) (l : Launch) : zMet X vwCl l yX8_off wsX8_off { frames := 2, cells := 0, slots := 0, locals := 89 } k_X8_off :=
  zmeth (tb := tb_X8_off) (pr := pr_X8_off) (bl := bl_X8_off) (rt := 1) (own := RX8) hX (by decide +kernel) rfl rfl ⟨Nat.le_of_ble_eq_true rfl, Nat.le_of_ble_eq_true rfl⟩
    (zfl_all (List.forall_mem_cons.mpr ⟨zfl_X8 (fun w h => List.mem_cons_of_mem _ (List.mem_append_right _ h)) (List.mem_of_getElem? (i := 2) rfl) (by decide) (by decide), List.forall_mem_cons.mpr ⟨zfl_X8 (fun w h => List.mem_cons_of_mem _ (List.mem_append_right _ h)) (List.mem_of_getElem? (i := 1) rfl) (by decide) (by decide), fun _ h => absurd h List.not_mem_nil⟩⟩))
    (zco_all (fun _ h => absurd h List.not_mem_nil)) (zlc_all (fun _ h => absurd h List.not_mem_nil))
    (fun _ h => absurd h List.not_mem_nil)
    (List.forall_mem_cons.mpr ⟨fun p e s m args below meth c A S hx => zcal_S hX S (c_X8_in hX hN l) (va_cwS 3 S.2.2.2.2 gX8_off_X8_in rfl rfl rfl (by decide +kernel) ⟨Nat.le_of_ble_eq_true rfl, Nat.le_of_ble_eq_true rfl⟩) rfl, fun _ h => absurd h List.not_mem_nil⟩)
    (zmm_all (fun _ h => absurd h List.not_mem_nil)) (zpr_all hp_X8_off) ck_X8_off
def pr_X8_comes : List (Nat × Instr × Nat) := [(0, .aload_n 0, 1), (1, .getfield 236, 3), (4, .bipush 10, 2), (6, .if_icmp .ne 16, 3), (9, .aload_n 0, 1), (10, .getfield 13, 3), (13, .sipush 128, 3), (16, .dup2, 1), (17, .iaload, 1), (18, .iconst 1, 1), (19, .iadd, 1), (20, .iastore, 1), (21, .return_, 1), (22, .aload_n 0, 1), (23, .getfield 35, 3), (26, .iconst 4, 1), (27, .aload_n 0, 1), (28, .getfield 236, 3), (31, .imul, 1), (32, .iload_n 1, 1), (33, .iastore, 1), (34, .aload_n 0, 1), (35, .getfield 35, 3), (38, .iconst 4, 1), (39, .aload_n 0, 1), (40, .getfield 236, 3), (43, .imul, 1), (44, .iconst 1, 1), (45, .iadd, 1), (46, .iload_n 2, 1), (47, .iastore, 1), (48, .aload_n 0, 1), (49, .getfield 35, 3), (52, .iconst 4, 1), (53, .aload_n 0, 1), (54, .getfield 236, 3), (57, .imul, 1), (58, .iconst 2, 1), (59, .iadd, 1), (60, .iload_n 3, 1), (61, .iastore, 1), (62, .aload_n 0, 1), (63, .getfield 35, 3), (66, .iconst 4, 1), (67, .aload_n 0, 1), (68, .getfield 236, 3), (71, .imul, 1), (72, .iconst 3, 1), (73, .iadd, 1), (74, .iload 4, 2), (76, .iastore, 1), (77, .aload_n 0, 1), (78, .dup, 1), (79, .getfield 236, 3), (82, .iconst 1, 1), (83, .iadd, 1), (84, .putfield 236, 3), (87, .return_, 1)]
set_option maxRecDepth 100000 in
theorem hp_X8_comes : pr_X8_comes.all (fun x => decide (decode cX8_comes x.1 = .ok x.2)) = true := by decide +kernel
def ze_X8_comes : zE := [(1, (2, 7)), (2, (0, 1)), (3, (0, 5)), (4, (0, 7)), (5, (0, 1)), (6, (0, 1)), (7, (0, 5)), (8, ((-2147483648), 2147483647)), (9, ((-2147483648), 2147483647)), (10, (0, 160)), (11, (0, 160)), (12, (0, 160)), (13, (0, 3)), (14, ((-2147483648), 2147483647)), (15, (0, 6)), (16, ((-2147483648), 2147483647)), (17, (0, 10)), (18, ((-2147483648), 2147483647)), (19, ((-2147483648), 2147483647)), (20, (0, 10)), (21, (0, 4)), (22, (0, 10)), (23, (0, 4)), (24, (0, 10)), (25, (0, 4)), (26, (0, 10)), (27, (0, 4)), (28, (0, 10)), (29, (0, 4)), (30, (0, 6)), (31, ((-2147483648), 2147483647)), (32, ((-2147483648), 2147483647)), (33, (0, 4))]
def k_X8_comes : zK := (34, [0, 1, 2, 3, 4, 5, 6, 7, 8, 9, 10, 11, 12, 13, 14], (ze_X8_comes, [], [], [zr 0, zi 30 0, zi 31 0, zi 32 0, zi 33 0], zw1, []), [([(34, (1, 10))], [(17, 34, 0), (34, 17, 1)], [], [], zfs (zw1) 0 25 (zi 34 0), [])])
def bl_X8_comes : List (Nat × zS) := []
def tb_X8_comes : zTb := ([(13, 8, 1, 3), (35, 8, 24, 3), (236, 8, 25, 0)], [], [], [], [], [])
def sp_X8_comes : zSp := [(4, 0, [(0, 0), (1, 1), (2, 2), (3, 3), (4, 4), (5, 5), (6, 6), (7, 7), (8, 8), (9, 9), (10, 10)])]
set_option maxRecDepth 1000000 in
theorem ck0_X8_comes : zrun tb_X8_comes sp_X8_comes pr_X8_comes 5 0 k_X8_comes.1 k_X8_comes.2.1 k_X8_comes.2.2.2 bl_X8_comes false 2000 5034 (zst0 k_X8_comes) 0 = true := by decide +kernel
set_option maxRecDepth 1000000 in
theorem ck_X8_comes : zcheck tb_X8_comes sp_X8_comes pr_X8_comes 5 0 k_X8_comes bl_X8_comes 2000 5034 = true := zcheck_of (by decide +kernel) ck0_X8_comes (fun _ h => absurd h List.not_mem_nil)
set_option maxRecDepth 100000 in
set_option maxHeartbeats 4000000 in
theorem c_X8_comes {X : zXT} (hX : zXok X) (hN : zXn X) (l : Launch) : zMet X vwCl l yX8_comes wsX8_comes { frames := 1, cells := 0, slots := 0, locals := 64 } k_X8_comes :=
  zmeth (tb := tb_X8_comes) (pr := pr_X8_comes) (bl := bl_X8_comes) (rt := 0) (own := RX8) hX (by decide +kernel) rfl rfl ⟨Nat.le_of_ble_eq_true rfl, Nat.le_of_ble_eq_true rfl⟩
    (zfl_all (List.forall_mem_cons.mpr ⟨zfl_X8 (fun w h => List.mem_cons_of_mem _ (List.mem_append_right _ h)) (List.mem_of_getElem? (i := 2) rfl) (by decide) (by decide), List.forall_mem_cons.mpr ⟨zfl_X8 (fun w h => List.mem_cons_of_mem _ (List.mem_append_right _ h)) (List.mem_of_getElem? (i := 3) rfl) (by decide) (by decide), List.forall_mem_cons.mpr ⟨zfl_X8 (fun w h => List.mem_cons_of_mem _ (List.mem_append_right _ h)) (List.mem_of_getElem? (i := 1) rfl) (by decide) (by decide), fun _ h => absurd h List.not_mem_nil⟩⟩⟩))
    (zco_all (fun _ h => absurd h List.not_mem_nil)) (zlc_all (fun _ h => absurd h List.not_mem_nil))
    (fun _ h => absurd h List.not_mem_nil)
    (fun _ h => absurd h List.not_mem_nil)
    (zmm_all (fun _ h => absurd h List.not_mem_nil)) (zpr_all hp_X8_comes) ck_X8_comes
def pr_X8_does : List (Nat × Instr × Nat) := [(0, .bipush 42, 2), (2, .iconst 5, 1), (3, .iload_n 1, 1), (4, .imul, 1), (5, .iadd, 1), (6, .iload_n 3, 1), (7, .iadd, 1), (8, .istore 4, 2), (10, .iload_n 2, 1), (11, .iconst 4, 1), (12, .if_icmp .ne 34, 3), (15, .aload_n 0, 1), (16, .getfield 13, 3), (19, .iload 4, 2), (21, .dup2, 1), (22, .iaload, 1), (23, .aload_n 0, 1), (24, .getfield 13, 3), (27, .iload 4, 2), (29, .iaload, 1), (30, .ifCond .le 7, 3), (33, .iconst 1, 1), (34, .goto 4, 3), (37, .iconst 0, 1), (38, .invokestatic 197, 3), (41, .isub, 1), (42, .iastore, 1), (43, .goto 109, 3), (46, .aload_n 0, 1), (47, .getfield 13, 3), (50, .bipush 7, 2), (52, .iload_n 1, 1), (53, .iadd, 1), (54, .iaload, 1), (55, .iload_n 3, 1), (56, .ishr, 1), (57, .iconst 1, 1), (58, .iand, 1), (59, .iconst 1, 1), (60, .if_icmp .ne 80, 3), (63, .aload_n 0, 1), (64, .getfield 13, 3), (67, .iconst 0, 1), (68, .iload_n 1, 1), (69, .iadd, 1), (70, .iaload, 1), (71, .aload_n 0, 1), (72, .getfield 20, 3), (75, .iload_n 3, 1), (76, .iaload, 1), (77, .if_icmp .lt 63, 3), (80, .aload_n 0, 1), (81, .getfield 13, 3), (84, .iload 4, 2), (86, .dup2, 1), (87, .iaload, 1), (88, .aload_n 0, 1), (89, .getfield 13, 3), (92, .iload 4, 2), (94, .iaload, 1), (95, .bipush 99, 2), (97, .if_icmp .ge 7, 3), (100, .iconst 1, 1), (101, .goto 4, 3), (104, .iconst 0, 1), (105, .invokestatic 197, 3), (108, .iadd, 1), (109, .iastore, 1), (110, .aload_n 0, 1), (111, .getfield 13, 3), (114, .iconst 0, 1), (115, .iload_n 1, 1), (116, .iadd, 1), (117, .dup2, 1), (118, .iaload, 1), (119, .aload_n 0, 1), (120, .getfield 20, 3), (123, .iload_n 3, 1), (124, .iaload, 1), (125, .isub, 1), (126, .iastore, 1), (127, .aload_n 0, 1), (128, .dup, 1), (129, .getfield 239, 3), (132, .iconst 1, 1), (133, .iadd, 1), (134, .putfield 239, 3), (137, .goto 15, 3), (140, .aload_n 0, 1), (141, .getfield 13, 3), (144, .sipush 130, 3), (147, .dup2, 1), (148, .iaload, 1), (149, .iconst 1, 1), (150, .iadd, 1), (151, .iastore, 1), (152, .return_, 1)]
set_option maxRecDepth 100000 in
theorem hp_X8_does : pr_X8_does.all (fun x => decide (decode cX8_does x.1 = .ok x.2)) = true := by decide +kernel
def ze_X8_does : zE := [(1, (2, 7)), (2, (0, 1)), (3, (0, 5)), (4, (0, 7)), (5, (0, 1)), (6, (0, 1)), (7, (0, 5)), (8, ((-2147483648), 2147483647)), (9, ((-2147483648), 2147483647)), (10, (0, 160)), (11, (0, 160)), (12, (0, 160)), (13, (0, 3)), (14, ((-2147483648), 2147483647)), (15, (0, 6)), (16, ((-2147483648), 2147483647)), (17, (0, 10)), (18, ((-2147483648), 2147483647)), (19, ((-2147483648), 2147483647)), (20, (0, 10)), (21, (0, 4)), (22, (0, 10)), (23, (0, 4)), (24, (0, 10)), (25, (0, 4)), (26, (0, 10)), (27, (0, 4)), (28, (0, 10)), (29, (0, 4)), (30, (0, 6)), (31, ((-2147483648), 2147483647)), (32, (0, 4))]
def k_X8_does : zK := (33, [0, 1, 2, 3, 4, 5, 6, 7, 8, 9, 10, 11, 12, 13, 14], (ze_X8_does, [], [], [zr 0, zi 30 0, zi 31 0, zi 32 0], zw1, []), [([(33, ((-2147483648), 2147483647))], [(33, 18, 1)], [], [], zfs (zw1) 0 26 (zi 33 0), [])])
def bl_X8_does : List (Nat × zS) := []
def tb_X8_does : zTb := ([(13, 8, 1, 3), (20, 8, 6, 3), (239, 8, 26, 0)], [], [], [], [(197, k_X8_flag)], [])
def sp_X8_does : zSp := []
set_option maxRecDepth 1000000 in
theorem ck0_X8_does : zrun tb_X8_does sp_X8_does pr_X8_does 5 0 k_X8_does.1 k_X8_does.2.1 k_X8_does.2.2.2 bl_X8_does false 2000 5033 (zst0 k_X8_does) 0 = true := by decide +kernel
set_option maxRecDepth 1000000 in
theorem ck_X8_does : zcheck tb_X8_does sp_X8_does pr_X8_does 5 0 k_X8_does bl_X8_does 2000 5033 = true := zcheck_of (by decide +kernel) ck0_X8_does (fun _ h => absurd h List.not_mem_nil)
set_option maxRecDepth 100000 in
set_option maxHeartbeats 4000000 in
theorem c_X8_does {X : zXT} (hX : zXok X) (hN : zXn X) (l : Launch) : zMet X vwCl l yX8_does wsX8_does { frames := 2, cells := 0, slots := 0, locals := 84 } k_X8_does :=
  zmeth (tb := tb_X8_does) (pr := pr_X8_does) (bl := bl_X8_does) (rt := 0) (own := RX8) hX (by decide +kernel) rfl rfl ⟨Nat.le_of_ble_eq_true rfl, Nat.le_of_ble_eq_true rfl⟩
    (zfl_all (List.forall_mem_cons.mpr ⟨zfl_X8 (fun w h => List.mem_cons_of_mem _ (List.mem_append_right _ h)) (List.mem_of_getElem? (i := 1) rfl) (by decide) (by decide), List.forall_mem_cons.mpr ⟨zfl_X8 (fun w h => List.mem_cons_of_mem _ (List.mem_append_right _ h)) (List.mem_of_getElem? (i := 2) rfl) (by decide) (by decide), List.forall_mem_cons.mpr ⟨zfl_X8 (fun w h => List.mem_cons_of_mem _ (List.mem_append_right _ h)) (List.mem_of_getElem? (i := 3) rfl) (by decide) (by decide), fun _ h => absurd h List.not_mem_nil⟩⟩⟩))
    (zco_all (fun _ h => absurd h List.not_mem_nil)) (zlc_all (fun _ h => absurd h List.not_mem_nil))
    (fun _ h => absurd h List.not_mem_nil)
    (List.forall_mem_cons.mpr ⟨fun p e s m args below meth c A S hx => zcal_S hX S (c_X8_flag hX hN l) (va_cwS 1 S.2.2.2.2 gX8_does_X8_flag rfl rfl rfl (by decide +kernel) ⟨Nat.le_of_ble_eq_true rfl, Nat.le_of_ble_eq_true rfl⟩) rfl, fun _ h => absurd h List.not_mem_nil⟩)
    (zmm_all (fun _ h => absurd h List.not_mem_nil)) (zpr_all hp_X8_does) ck_X8_does
def pr_X8_falls : List (Nat × Instr × Nat) := [(0, .iload_n 1, 1), (1, .bipush (-4), 2), (3, .if_icmp .ne 18, 3), (6, .aload_n 0, 1), (7, .getfield 13, 3), (10, .sipush 128, 3), (13, .dup2, 1), (14, .iaload, 1), (15, .iconst 1, 1), (16, .iadd, 1), (17, .iastore, 1), (18, .goto 68, 3), (21, .aload_n 0, 1), (22, .getfield 13, 3), (25, .bipush 14, 2), (27, .iload_n 1, 1), (28, .iadd, 1), (29, .iaload, 1), (30, .iconst 1, 1), (31, .if_icmp .ne 18, 3), (34, .aload_n 0, 1), (35, .getfield 13, 3), (38, .sipush 129, 3), (41, .dup2, 1), (42, .iaload, 1), (43, .iconst 1, 1), (44, .iadd, 1), (45, .iastore, 1), (46, .goto 40, 3), (49, .iload_n 3, 1), (50, .ifCond .le 28, 3), (53, .aload_n 0, 1), (54, .iload_n 1, 1), (55, .iload_n 2, 1), (56, .iload_n 3, 1), (57, .bipush 9, 2), (59, .if_icmp .ne 8, 3), (62, .bipush 9, 2), (64, .goto 6, 3), (67, .iload_n 3, 1), (68, .iconst 1, 1), (69, .isub, 1), (70, .iload 4, 2), (72, .invokevirtual 242, 3), (75, .goto 11, 3), (78, .aload_n 0, 1), (79, .iload_n 1, 1), (80, .iload_n 2, 1), (81, .iload 4, 2), (83, .invokevirtual 246, 3), (86, .return_, 1)]
set_option maxRecDepth 100000 in
theorem hp_X8_falls : pr_X8_falls.all (fun x => decide (decode cX8_falls x.1 = .ok x.2)) = true := by decide +kernel
def ze_X8_falls : zE := [(1, (2, 7)), (2, (0, 1)), (3, (0, 5)), (4, (0, 7)), (5, (0, 1)), (6, (0, 1)), (7, (0, 5)), (8, ((-2147483648), 2147483647)), (9, ((-2147483648), 2147483647)), (10, (0, 160)), (11, (0, 160)), (12, (0, 160)), (13, (0, 3)), (14, ((-2147483648), 2147483647)), (15, (0, 6)), (16, ((-2147483648), 2147483647)), (17, (0, 10)), (18, ((-2147483648), 2147483647)), (19, ((-2147483648), 2147483647)), (20, (0, 10)), (21, (0, 4)), (22, (0, 10)), (23, (0, 4)), (24, (0, 10)), (25, (0, 4)), (26, (0, 10)), (27, (0, 4)), (28, (0, 10)), (29, (0, 4)), (30, (0, 6)), (31, ((-2147483648), 2147483647)), (32, ((-2147483648), 2147483647)), (33, (0, 4))]
def k_X8_falls : zK := (34, [0, 1, 2, 3, 4, 5, 6, 7, 8, 9, 10, 11, 12, 13, 14], (ze_X8_falls, [], [], [zr 0, zi 30 0, zi 31 0, zi 32 0, zi 33 0], zw1, []), [([(34, (0, 10)), (35, ((-2147483648), 2147483647))], [(17, 34, 0), (34, 17, 1), (35, 18, 1)], [], [], zfs (zfs (zw1) 0 25 (zi 34 0)) 0 26 (zi 35 0), [])])
def bl_X8_falls : List (Nat × zS) := []
def tb_X8_falls : zTb := ([(13, 8, 1, 3)], [], [], [(242, k_X8_comes), (246, k_X8_does)], [], [])
def sp_X8_falls : zSp := []
set_option maxRecDepth 1000000 in
theorem ck0_X8_falls : zrun tb_X8_falls sp_X8_falls pr_X8_falls 5 0 k_X8_falls.1 k_X8_falls.2.1 k_X8_falls.2.2.2 bl_X8_falls false 2000 5034 (zst0 k_X8_falls) 0 = true := by decide +kernel
set_option maxRecDepth 1000000 in
theorem ck_X8_falls : zcheck tb_X8_falls sp_X8_falls pr_X8_falls 5 0 k_X8_falls bl_X8_falls 2000 5034 = true := zcheck_of (by decide +kernel) ck0_X8_falls (fun _ h => absurd h List.not_mem_nil)
set_option maxRecDepth 100000 in
set_option maxHeartbeats 4000000 in
theorem c_X8_falls {X : zXT} (hX : zXok X) (hN : zXn X) (l : Launch) : zMet X vwCl l yX8_falls wsX8_falls { frames := 3, cells := 0, slots := 0, locals := 108 } k_X8_falls :=
  zmeth (tb := tb_X8_falls) (pr := pr_X8_falls) (bl := bl_X8_falls) (rt := 0) (own := RX8) hX (by decide +kernel) rfl rfl ⟨Nat.le_of_ble_eq_true rfl, Nat.le_of_ble_eq_true rfl⟩
    (zfl_all (List.forall_mem_cons.mpr ⟨zfl_X8 (fun w h => List.mem_cons_of_mem _ (List.mem_append_right _ h)) (List.mem_of_getElem? (i := 1) rfl) (by decide) (by decide), fun _ h => absurd h List.not_mem_nil⟩))
    (zco_all (fun _ h => absurd h List.not_mem_nil)) (zlc_all (fun _ h => absurd h List.not_mem_nil))
    (List.forall_mem_cons.mpr ⟨fun p e s m args below meth c A S hx => zcal_V hX S (c_X8_comes hX hN l) (cwV 4 S.2.2.2.2 gX8_falls_X8_comes rfl rfl rfl (by decide +kernel) ⟨Nat.le_of_ble_eq_true rfl, Nat.le_of_ble_eq_true rfl⟩) rfl ⟨0, 8, _, _, _, rfl, rfl⟩ rfl, List.forall_mem_cons.mpr ⟨fun p e s m args below meth c A S hx => zcal_V hX S (c_X8_does hX hN l) (cwV 3 S.2.2.2.2 gX8_falls_X8_does rfl rfl rfl (by decide +kernel) ⟨Nat.le_of_ble_eq_true rfl, Nat.le_of_ble_eq_true rfl⟩) rfl ⟨0, 8, _, _, _, rfl, rfl⟩ rfl, fun _ h => absurd h List.not_mem_nil⟩⟩)
    (fun _ h => absurd h List.not_mem_nil)
    (zmm_all (fun _ h => absurd h List.not_mem_nil)) (zpr_all hp_X8_falls) ck_X8_falls
def ze_X8_falls_2 : zE := [(1, (2, 7)), (2, (0, 1)), (3, (0, 5)), (4, (0, 7)), (5, (0, 1)), (6, (0, 1)), (7, (0, 5)), (8, ((-2147483648), 2147483647)), (9, ((-2147483648), 2147483647)), (10, (0, 160)), (11, (0, 160)), (12, (0, 160)), (13, (0, 3)), (14, ((-2147483648), 2147483647)), (15, (0, 6)), (16, ((-2147483648), 2147483647)), (17, (0, 10)), (18, ((-2147483648), 2147483647)), (19, ((-2147483648), 2147483647)), (20, (0, 10)), (21, (0, 4)), (22, (0, 10)), (23, (0, 4)), (24, (0, 10)), (25, (0, 4)), (26, (0, 10)), (27, (0, 4)), (28, (0, 10)), (29, (0, 4)), (30, ((-4), (-4))), (31, ((-2147483648), 2147483647)), (32, ((-2147483648), 2147483647)), (33, (0, 4))]
def k_X8_falls_2 : zK := (34, [0, 1, 2, 3, 4, 5, 6, 7, 8, 9, 10, 11, 12, 13, 14], (ze_X8_falls_2, [], [], [zr 0, zi 30 0, zi 31 0, zi 32 0, zi 33 0], zw1, []), [([], [], [], [], zw1, [])])
def bl_X8_falls_2 : List (Nat × zS) := []
def tb_X8_falls_2 : zTb := ([(13, 8, 1, 3)], [], [], [], [], [])
def sp_X8_falls_2 : zSp := []
set_option maxRecDepth 1000000 in
theorem ck0_X8_falls_2 : zrun tb_X8_falls_2 sp_X8_falls_2 pr_X8_falls 5 0 k_X8_falls_2.1 k_X8_falls_2.2.1 k_X8_falls_2.2.2.2 bl_X8_falls_2 false 2000 5034 (zst0 k_X8_falls_2) 0 = true := by decide +kernel
set_option maxRecDepth 1000000 in
theorem ck_X8_falls_2 : zcheck tb_X8_falls_2 sp_X8_falls_2 pr_X8_falls 5 0 k_X8_falls_2 bl_X8_falls_2 2000 5034 = true := zcheck_of (by decide +kernel) ck0_X8_falls_2 (fun _ h => absurd h List.not_mem_nil)
set_option maxRecDepth 100000 in
set_option maxHeartbeats 4000000 in
theorem c_X8_falls_2 {X : zXT} (hX : zXok X) (hN : zXn X) (l : Launch) : zMet X vwCl l yX8_falls wsX8_falls { frames := 1, cells := 0, slots := 0, locals := 64 } k_X8_falls_2 :=
  zmeth (tb := tb_X8_falls_2) (pr := pr_X8_falls) (bl := bl_X8_falls_2) (rt := 0) (own := RX8) hX (by decide +kernel) rfl rfl ⟨Nat.le_of_ble_eq_true rfl, Nat.le_of_ble_eq_true rfl⟩
    (zfl_all (List.forall_mem_cons.mpr ⟨zfl_X8 (fun w h => List.mem_cons_of_mem _ (List.mem_append_right _ h)) (List.mem_of_getElem? (i := 1) rfl) (by decide) (by decide), fun _ h => absurd h List.not_mem_nil⟩))
    (zco_all (fun _ h => absurd h List.not_mem_nil)) (zlc_all (fun _ h => absurd h List.not_mem_nil))
    (fun _ h => absurd h List.not_mem_nil)
    (fun _ h => absurd h List.not_mem_nil)
    (zmm_all (fun _ h => absurd h List.not_mem_nil)) (zpr_all hp_X8_falls) ck_X8_falls_2
