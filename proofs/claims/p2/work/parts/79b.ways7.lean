def ze_X7_within_2 : zE := [(1, ((-2147483648), 2147483647)), (2, ((-2147483648), 2147483647)), (3, ((-2147483648), 2147483647))]
def k_X7_within_2 : zK := (4, [], (ze_X7_within_2, [], [], [zi 1 0, zi 2 0, zi 3 0], [], []), [([(1, ((-2147483648), 2147483646)), (2, ((-2147483647), 2147483647))], [(1, 2, (-1))], [], [zi 0 0], [], []),
  ([(1, ((-2147483647), 2147483647)), (3, ((-2147483648), 2147483646))], [(2, 1, 0), (3, 1, (-1))], [], [zi 0 0], [], []),
  ([], [(1, 3, 0), (2, 1, 0)], [], [zi 0 1], [], [])])
def bl_X7_within_2 : List (Nat × zS) := []
def tb_X7_within_2 : zTb := ([], [], [], [], [], [])
def sp_X7_within_2 : zSp := []
set_option maxRecDepth 1000000 in
theorem ck0_X7_within_2 : zrun tb_X7_within_2 sp_X7_within_2 pr_X7_within 3 2 k_X7_within_2.1 k_X7_within_2.2.1 k_X7_within_2.2.2.2 bl_X7_within_2 false 2000 5004 (zst0 k_X7_within_2) 0 = true := by decide +kernel
set_option maxRecDepth 1000000 in
theorem ck_X7_within_2 : zcheck tb_X7_within_2 sp_X7_within_2 pr_X7_within 3 2 k_X7_within_2 bl_X7_within_2 2000 5004 = true := zcheck_of (by decide +kernel) ck0_X7_within_2 (fun _ h => absurd h List.not_mem_nil)
set_option maxRecDepth 100000 in
set_option maxHeartbeats 4000000 in
theorem c_X7_within_2 {X : zXT} (hX : zXok X) (hN : zXn X) (l : Launch) : zMet X vwCl l yX7_within wsX7_within { frames := 1, cells := 0, slots := 0, locals := 64 } k_X7_within_2 :=
  zmeth (tb := tb_X7_within_2) (pr := pr_X7_within) (bl := bl_X7_within_2) (rt := 2) (own := RX7) hX (by decide +kernel) rfl rfl ⟨Nat.le_of_ble_eq_true rfl, Nat.le_of_ble_eq_true rfl⟩
    (zfl_all (fun _ h => absurd h List.not_mem_nil))
    (zco_all (fun _ h => absurd h List.not_mem_nil)) (zlc_all (fun _ h => absurd h List.not_mem_nil))
    (fun _ h => absurd h List.not_mem_nil)
    (fun _ h => absurd h List.not_mem_nil)
    (zmm_all (fun _ h => absurd h List.not_mem_nil)) (zpr_all hp_X7_within) ck_X7_within_2
def ze_X3_append_2 : zE := [(1, (0, 160)), (2, ((-2147483648), 2147483647))]
def k_X3_append_2 : zK := (3, [0, 1], (ze_X3_append_2, [], [], [zr 0, zi 2 0], zw8c, []), [([(1, (0, 159))], [], [], [zi 0 1], zfs (zw8c) 0 0 (zi 1 1), []),
  ([(1, (160, 160))], [], [], [zi 0 0], zw8c, [])])
def bl_X3_append_2 : List (Nat × zS) := []
def tb_X3_append_2 : zTb := ([(9, 3, 1, 3), (15, 3, 0, 0)], [], [], [], [], [])
def sp_X3_append_2 : zSp := []
set_option maxRecDepth 1000000 in
theorem ck0_X3_append_2 : zrun tb_X3_append_2 sp_X3_append_2 pr_X3_append 2 2 k_X3_append_2.1 k_X3_append_2.2.1 k_X3_append_2.2.2.2 bl_X3_append_2 false 2000 5003 (zst0 k_X3_append_2) 0 = true := by decide +kernel
set_option maxRecDepth 1000000 in
theorem ck_X3_append_2 : zcheck tb_X3_append_2 sp_X3_append_2 pr_X3_append 2 2 k_X3_append_2 bl_X3_append_2 2000 5003 = true := zcheck_of (by decide +kernel) ck0_X3_append_2 (fun _ h => absurd h List.not_mem_nil)
set_option maxRecDepth 100000 in
set_option maxHeartbeats 4000000 in
theorem c_X3_append_2 {X : zXT} (hX : zXok X) (hN : zXn X) (l : Launch) : zMet X vwCl l yX3_append wsX3_append { frames := 1, cells := 0, slots := 0, locals := 64 } k_X3_append_2 :=
  zmeth (tb := tb_X3_append_2) (pr := pr_X3_append) (bl := bl_X3_append_2) (rt := 2) (own := RX3) hX (by decide +kernel) rfl rfl ⟨Nat.le_of_ble_eq_true rfl, Nat.le_of_ble_eq_true rfl⟩
    (zfl_all (List.forall_mem_cons.mpr ⟨zfl_X3 (fun w h => List.mem_cons_of_mem _ (List.mem_append_right _ h)) (List.mem_of_getElem? (i := 2) rfl) (by decide) (by decide), List.forall_mem_cons.mpr ⟨zfl_X3 (fun w h => List.mem_cons_of_mem _ (List.mem_append_right _ h)) (List.mem_of_getElem? (i := 1) rfl) (by decide) (by decide), fun _ h => absurd h List.not_mem_nil⟩⟩))
    (zco_all (fun _ h => absurd h List.not_mem_nil)) (zlc_all (fun _ h => absurd h List.not_mem_nil))
    (fun _ h => absurd h List.not_mem_nil)
    (fun _ h => absurd h List.not_mem_nil)
    (zmm_all (fun _ h => absurd h List.not_mem_nil)) (zpr_all hp_X3_append) ck_X3_append_2
def ze_X7_feed_2 : zE := [(1, ((-2147483648), 2147483647)), (2, ((-2147483648), 2147483647)), (3, (2, 7)), (4, (0, 1)), (5, (0, 5)), (6, ((-2147483648), 2147483647)), (7, ((-2147483648), 2147483647)), (8, ((-2147483648), 2147483647)), (9, ((-2147483648), 2147483647)), (10, ((-2147483648), 2147483647)), (11, (0, 10)), (12, (0, 10)), (13, (0, 4)), (14, (2, 7)), (15, (0, 1)), (16, (0, 5)), (17, ((-2147483648), 2147483647)), (18, ((-2147483648), 2147483647)), (19, ((-2147483648), 2147483647)), (20, ((-2147483648), 2147483647)), (21, ((-2147483648), 2147483647)), (22, (0, 10)), (23, (0, 10)), (24, (0, 4)), (25, (2, 7)), (26, (0, 1)), (27, (0, 5)), (28, ((-2147483648), 2147483647)), (29, ((-2147483648), 2147483647)), (30, ((-2147483648), 2147483647)), (31, ((-2147483648), 2147483647)), (32, ((-2147483648), 2147483647)), (33, (0, 10)), (34, (0, 10)), (35, (0, 4)), (36, (2, 7)), (37, (0, 1)), (38, (0, 5)), (39, ((-2147483648), 2147483647)), (40, ((-2147483648), 2147483647)), (41, ((-2147483648), 2147483647)), (42, ((-2147483648), 2147483647)), (43, ((-2147483648), 2147483647)), (44, (0, 10)), (45, (0, 10)), (46, (0, 4)), (47, (0, 160)), (48, ((-2147483648), 2147483647)), (49, (0, 160)), (50, (0, 6)), (51, ((-2147483648), 2147483647)), (52, ((-2147483648), 2147483647)), (53, (0, 1)), (54, ((-2147483648), 2147483647)), (55, ((-2147483648), 2147483647)), (56, ((-2147483648), 2147483647)), (57, ((-2147483648), 2147483647)), (58, ((-2147483648), 2147483647)), (59, (0, 160)), (60, ((-2147483648), 2147483647)), (61, (0, 40)), (62, ((-2147483648), 2147483647)), (63, (0, 40)), (64, ((-2147483648), 2147483647)), (65, (0, 40)), (66, ((-2147483648), 2147483647)), (67, (0, 40)), (68, ((-2147483648), 2147483647))]
def k_X7_feed_2 : zK := (69, [0, 100, 101, 102, 103, 104, 105, 106, 107, 108, 109, 110, 111, 112, 113, 114, 115, 116, 117, 118, 119, 120, 130, 131, 132, 133, 134, 135, 136, 137, 138, 139, 140, 141, 142, 143, 144, 145, 146, 147, 148, 149, 150, 10, 160, 161, 162, 163, 164, 165, 166, 167, 168, 169, 170, 171, 172, 173, 174, 175, 176, 177, 178, 179, 180, 190, 191, 192, 193, 194, 195, 196, 197, 198, 199, 200, 201, 202, 203, 204, 205, 206, 207, 208, 209, 210, 11, 12, 13, 14, 15, 16, 17, 20, 21, 22, 23, 24, 25, 26, 27], (ze_X7_feed_2, [], [], [zr 0, zi 68 0], zw12c, []), [([(68, ((-2147483648), (-1)))], [], [], [zi 0 (-1)], zw12c, []),
  ([(68, (128, 2147483647))], [], [], [zi 0 (-1)], zw12c, []),
  ([(59, (0, 159)), (68, (0, 127))], [], [], [zi 59 1], zfs (zw12c) 87 0 (zi 59 1), []),
  ([(59, (160, 160)), (68, (0, 127))], [], [], [zi 0 (-3)], zw12c, [])])
def bl_X7_feed_2 : List (Nat × zS) := []
def tb_X7_feed_2 : zTb := ([(34, 7, 4, 3), (59, 3, 0, 0)], [], [], [(53, k_X3_append_2)], [(49, k_X7_within_2)], [])
def sp_X7_feed_2 : zSp := []
set_option maxRecDepth 1000000 in
theorem ck0_X7_feed_2 : zrun tb_X7_feed_2 sp_X7_feed_2 pr_X7_feed 2 1 k_X7_feed_2.1 k_X7_feed_2.2.1 k_X7_feed_2.2.2.2 bl_X7_feed_2 false 2000 5069 (zst0 k_X7_feed_2) 0 = true := by decide +kernel
set_option maxRecDepth 1000000 in
theorem ck_X7_feed_2 : zcheck tb_X7_feed_2 sp_X7_feed_2 pr_X7_feed 2 1 k_X7_feed_2 bl_X7_feed_2 2000 5069 = true := zcheck_of (by decide +kernel) ck0_X7_feed_2 (fun _ h => absurd h List.not_mem_nil)
set_option maxRecDepth 100000 in
set_option maxHeartbeats 4000000 in
theorem c_X7_feed_2 {X : zXT} (hX : zXok X) (hN : zXn X) (l : Launch) : zMet X vwCl l yX7_feed wsX7_feed { frames := 2, cells := 0, slots := 0, locals := 86 } k_X7_feed_2 :=
  zmeth (tb := tb_X7_feed_2) (pr := pr_X7_feed) (bl := bl_X7_feed_2) (rt := 1) (own := RX7) hX (by decide +kernel) rfl rfl ⟨Nat.le_of_ble_eq_true rfl, Nat.le_of_ble_eq_true rfl⟩
    (zfl_all (List.forall_mem_cons.mpr ⟨zfl_X7 (fun w h => List.mem_cons_of_mem _ (List.mem_append_left _ (List.mem_append_right _ h))) (List.mem_of_getElem? (i := 1) rfl) (by decide) (by decide), List.forall_mem_cons.mpr ⟨zfl_X3 (fun w h => List.mem_cons_of_mem _ (List.mem_append_right _ h)) (List.mem_of_getElem? (i := 2) rfl) (by decide) (by decide), fun _ h => absurd h List.not_mem_nil⟩⟩))
    (zco_all (fun _ h => absurd h List.not_mem_nil)) (zlc_all (fun _ h => absurd h List.not_mem_nil))
    (List.forall_mem_cons.mpr ⟨fun p e s m args below meth c A S hx => zcal_V hX S (c_X3_append_2 hX hN l) (cwV 1 S.2.2.2.2 gX7_feed_X3_append rfl rfl rfl (by decide +kernel) ⟨Nat.le_of_ble_eq_true rfl, Nat.le_of_ble_eq_true rfl⟩) rfl ⟨0, 3, _, _, _, rfl, rfl⟩ rfl, fun _ h => absurd h List.not_mem_nil⟩)
    (List.forall_mem_cons.mpr ⟨fun p e s m args below meth c A S hx => zcal_S hX S (c_X7_within_2 hX hN l) (va_cwS 3 S.2.2.2.2 gX7_feed_X7_within rfl rfl rfl (by decide +kernel) ⟨Nat.le_of_ble_eq_true rfl, Nat.le_of_ble_eq_true rfl⟩) rfl, fun _ h => absurd h List.not_mem_nil⟩)
    (zmm_all (fun _ h => absurd h List.not_mem_nil)) (zpr_all hp_X7_feed) ck_X7_feed_2
def ze_X7_end_2 : zE := [(1, ((-2147483648), 2147483647)), (2, ((-2147483648), 2147483647)), (3, (2, 7)), (4, (0, 1)), (5, (0, 5)), (6, ((-2147483648), 2147483647)), (7, ((-2147483648), 2147483647)), (8, ((-2147483648), 2147483647)), (9, ((-2147483648), 2147483647)), (10, ((-2147483648), 2147483647)), (11, (0, 10)), (12, (0, 10)), (13, (0, 4)), (14, (2, 7)), (15, (0, 1)), (16, (0, 5)), (17, ((-2147483648), 2147483647)), (18, ((-2147483648), 2147483647)), (19, ((-2147483648), 2147483647)), (20, ((-2147483648), 2147483647)), (21, ((-2147483648), 2147483647)), (22, (0, 10)), (23, (0, 10)), (24, (0, 4)), (25, (2, 7)), (26, (0, 1)), (27, (0, 5)), (28, ((-2147483648), 2147483647)), (29, ((-2147483648), 2147483647)), (30, ((-2147483648), 2147483647)), (31, ((-2147483648), 2147483647)), (32, ((-2147483648), 2147483647)), (33, (0, 10)), (34, (0, 10)), (35, (0, 4)), (36, (2, 7)), (37, (0, 1)), (38, (0, 5)), (39, ((-2147483648), 2147483647)), (40, ((-2147483648), 2147483647)), (41, ((-2147483648), 2147483647)), (42, ((-2147483648), 2147483647)), (43, ((-2147483648), 2147483647)), (44, (0, 10)), (45, (0, 10)), (46, (0, 4)), (47, (0, 160)), (48, ((-2147483648), 2147483647)), (49, (0, 160)), (50, (0, 6)), (51, ((-2147483648), 2147483647)), (52, ((-2147483648), 2147483647)), (53, (0, 1)), (54, ((-2147483648), 2147483647)), (55, ((-2147483648), 2147483647)), (56, ((-2147483648), 2147483647)), (57, ((-2147483648), 2147483647)), (58, ((-2147483648), 2147483647)), (59, (0, 160)), (60, ((-2147483648), 2147483647)), (61, (0, 40)), (62, ((-2147483648), 2147483647)), (63, (0, 40)), (64, ((-2147483648), 2147483647)), (65, (0, 40)), (66, ((-2147483648), 2147483647)), (67, (0, 40)), (68, ((-2147483648), 2147483647))]
def k_X7_end_2 : zK := (69, [0, 100, 101, 102, 103, 104, 105, 106, 107, 108, 109, 110, 111, 112, 113, 114, 115, 116, 117, 118, 119, 120, 130, 131, 132, 133, 134, 135, 136, 137, 138, 139, 140, 141, 142, 143, 144, 145, 146, 147, 148, 149, 150, 10, 160, 161, 162, 163, 164, 165, 166, 167, 168, 169, 170, 171, 172, 173, 174, 175, 176, 177, 178, 179, 180, 190, 191, 192, 193, 194, 195, 196, 197, 198, 199, 200, 201, 202, 203, 204, 205, 206, 207, 208, 209, 210, 11, 12, 13, 14, 15, 16, 17, 20, 21, 22, 23, 24, 25, 26, 27], (ze_X7_end_2, [], [], [zr 0, zi 68 0], zw12c, []), [([(68, ((-2147483648), (-1)))], [], [], [zi 0 (-1)], zw12c, []),
  ([(68, (1, 2147483647))], [(59, 68, (-1))], [], [zi 0 (-1)], zw12c, []),
  ([(68, (0, 160))], [(68, 59, 0)], [], [zi 59 0], zfs (zw12c) 87 0 (zi 68 0), [])])
def bl_X7_end_2 : List (Nat × zS) := []
def tb_X7_end_2 : zTb := ([(34, 7, 4, 3), (59, 3, 0, 0)], [], [], [], [(49, k_X7_within_2)], [])
def sp_X7_end_2 : zSp := []
set_option maxRecDepth 1000000 in
theorem ck0_X7_end_2 : zrun tb_X7_end_2 sp_X7_end_2 pr_X7_end 3 1 k_X7_end_2.1 k_X7_end_2.2.1 k_X7_end_2.2.2.2 bl_X7_end_2 false 2000 5069 (zst0 k_X7_end_2) 0 = true := by decide +kernel
set_option maxRecDepth 1000000 in
theorem ck_X7_end_2 : zcheck tb_X7_end_2 sp_X7_end_2 pr_X7_end 3 1 k_X7_end_2 bl_X7_end_2 2000 5069 = true := zcheck_of (by decide +kernel) ck0_X7_end_2 (fun _ h => absurd h List.not_mem_nil)
set_option maxRecDepth 100000 in
set_option maxHeartbeats 4000000 in
theorem c_X7_end_2 {X : zXT} (hX : zXok X) (hN : zXn X) (l : Launch) : zMet X vwCl l yX7_end wsX7_end { frames := 2, cells := 0, slots := 0, locals := 86 } k_X7_end_2 :=
  zmeth (tb := tb_X7_end_2) (pr := pr_X7_end) (bl := bl_X7_end_2) (rt := 1) (own := RX7) hX (by decide +kernel) rfl rfl ⟨Nat.le_of_ble_eq_true rfl, Nat.le_of_ble_eq_true rfl⟩
    (zfl_all (List.forall_mem_cons.mpr ⟨zfl_X7 (fun w h => List.mem_cons_of_mem _ (List.mem_append_left _ (List.mem_append_right _ h))) (List.mem_of_getElem? (i := 1) rfl) (by decide) (by decide), List.forall_mem_cons.mpr ⟨zfl_X3 (fun w h => List.mem_cons_of_mem _ (List.mem_append_right _ h)) (List.mem_of_getElem? (i := 2) rfl) (by decide) (by decide), fun _ h => absurd h List.not_mem_nil⟩⟩))
    (zco_all (fun _ h => absurd h List.not_mem_nil)) (zlc_all (fun _ h => absurd h List.not_mem_nil))
    (fun _ h => absurd h List.not_mem_nil)
    (List.forall_mem_cons.mpr ⟨fun p e s m args below meth c A S hx => zcal_S hX S (c_X7_within_2 hX hN l) (va_cwS 3 S.2.2.2.2 gX7_end_X7_within rfl rfl rfl (by decide +kernel) ⟨Nat.le_of_ble_eq_true rfl, Nat.le_of_ble_eq_true rfl⟩) rfl, fun _ h => absurd h List.not_mem_nil⟩)
    (zmm_all (fun _ h => absurd h List.not_mem_nil)) (zpr_all hp_X7_end) ck_X7_end_2
