def ze_X8_feed_2 : zE := [(1, (2, 7)), (2, (0, 1)), (3, (0, 5)), (4, (0, 7)), (5, (0, 1)), (6, (0, 1)), (7, (0, 5)), (8, ((-2147483648), 2147483647)), (9, ((-2147483648), 2147483647)), (10, (0, 160)), (11, (0, 160)), (12, (0, 160)), (13, (0, 3)), (14, ((-2147483648), 2147483647)), (15, (0, 6)), (16, ((-2147483648), 2147483647)), (17, (0, 10)), (18, ((-2147483648), 2147483647)), (19, ((-2147483648), 2147483647)), (20, (0, 10)), (21, (0, 4)), (22, (0, 10)), (23, (0, 4)), (24, (0, 10)), (25, (0, 4)), (26, (0, 10)), (27, (0, 4)), (28, (0, 10)), (29, (0, 4)), (30, ((-2147483648), 2147483647))]
def k_X8_feed_2 : zK := (31, [0, 1, 2, 3, 4, 5, 6, 7, 8, 9, 10, 11, 12, 13, 14], (ze_X8_feed_2, [], [], [zr 0, zi 30 0], zw1, []), [([(30, ((-2147483648), (-1)))], [], [], [zi 0 (-1)], zw1, []),
  ([(30, (128, 2147483647))], [], [], [zi 0 (-1)], zw1, []),
  ([(10, (0, 159)), (30, (0, 127))], [], [], [zi 10 1], zfs (zw1) 0 17 (zi 10 1), []),
  ([(10, (160, 160)), (30, (0, 127))], [], [], [zi 0 (-3)], zw1, [])])
def bl_X8_feed_2 : List (Nat × zS) := []
def tb_X8_feed_2 : zTb := ([(32, 8, 16, 3), (94, 8, 17, 0)], [], [(88, 127)], [], [(90, k_X8_in)], [])
def sp_X8_feed_2 : zSp := []
set_option maxRecDepth 1000000 in
theorem ck0_X8_feed_2 : zrun tb_X8_feed_2 sp_X8_feed_2 pr_X8_feed 2 1 k_X8_feed_2.1 k_X8_feed_2.2.1 k_X8_feed_2.2.2.2 bl_X8_feed_2 false 2000 5031 (zst0 k_X8_feed_2) 0 = true := by decide +kernel
set_option maxRecDepth 1000000 in
theorem ck_X8_feed_2 : zcheck tb_X8_feed_2 sp_X8_feed_2 pr_X8_feed 2 1 k_X8_feed_2 bl_X8_feed_2 2000 5031 = true := zcheck_of (by decide +kernel) ck0_X8_feed_2 (fun _ h => absurd h List.not_mem_nil)
set_option maxRecDepth 100000 in
set_option maxHeartbeats 4000000 in
theorem c_X8_feed_2 {X : zXT} (hX : zXok X) (hN : zXn X) (l : Launch) : zMet X vwCl l yX8_feed wsX8_feed { frames := 2, cells := 0, slots := 0, locals := 89 } k_X8_feed_2 :=
  zmeth (tb := tb_X8_feed_2) (pr := pr_X8_feed) (bl := bl_X8_feed_2) (rt := 1) (own := RX8) hX (by decide +kernel) rfl rfl ⟨Nat.le_of_ble_eq_true rfl, Nat.le_of_ble_eq_true rfl⟩
    (zfl_all (List.forall_mem_cons.mpr ⟨zfl_X8 (fun w h => List.mem_cons_of_mem _ (List.mem_append_right _ h)) (List.mem_of_getElem? (i := 3) rfl) (by decide) (by decide), List.forall_mem_cons.mpr ⟨zfl_X8 (fun w h => List.mem_cons_of_mem _ (List.mem_append_right _ h)) (List.mem_of_getElem? (i := 2) rfl) (by decide) (by decide), fun _ h => absurd h List.not_mem_nil⟩⟩))
    (zco_all (fun _ h => absurd h List.not_mem_nil)) (zlc_all (List.forall_mem_cons.mpr ⟨(List.mem_of_getElem? (i := 1) rfl), fun _ h => absurd h List.not_mem_nil⟩))
    (fun _ h => absurd h List.not_mem_nil)
    (List.forall_mem_cons.mpr ⟨fun p e s m args below meth c A S hx => zcal_S hX S (c_X8_in hX hN l) (va_cwS 3 S.2.2.2.2 gX8_feed_X8_in rfl rfl rfl (by decide +kernel) ⟨Nat.le_of_ble_eq_true rfl, Nat.le_of_ble_eq_true rfl⟩) rfl, fun _ h => absurd h List.not_mem_nil⟩)
    (zmm_all (fun _ h => absurd h List.not_mem_nil)) (zpr_all hp_X8_feed) ck_X8_feed_2
def ze_X8_end_2 : zE := [(1, (2, 7)), (2, (0, 1)), (3, (0, 5)), (4, (0, 7)), (5, (0, 1)), (6, (0, 1)), (7, (0, 5)), (8, ((-2147483648), 2147483647)), (9, ((-2147483648), 2147483647)), (10, (0, 160)), (11, (0, 160)), (12, (0, 160)), (13, (0, 3)), (14, ((-2147483648), 2147483647)), (15, (0, 6)), (16, ((-2147483648), 2147483647)), (17, (0, 10)), (18, ((-2147483648), 2147483647)), (19, ((-2147483648), 2147483647)), (20, (0, 10)), (21, (0, 4)), (22, (0, 10)), (23, (0, 4)), (24, (0, 10)), (25, (0, 4)), (26, (0, 10)), (27, (0, 4)), (28, (0, 10)), (29, (0, 4)), (30, ((-2147483648), 2147483647))]
def k_X8_end_2 : zK := (31, [0, 1, 2, 3, 4, 5, 6, 7, 8, 9, 10, 11, 12, 13, 14], (ze_X8_end_2, [], [], [zr 0, zi 30 0], zw1, []), [([(30, ((-2147483648), (-1)))], [], [], [zi 0 (-1)], zw1, []),
  ([(30, (1, 2147483647))], [(10, 30, (-1))], [], [zi 0 (-1)], zw1, []),
  ([(30, (0, 160))], [(30, 10, 0)], [], [zi 10 0], zfs (zw1) 0 17 (zi 30 0), [])])
def bl_X8_end_2 : List (Nat × zS) := []
def tb_X8_end_2 : zTb := ([(94, 8, 17, 0)], [], [], [], [(90, k_X8_in)], [])
def sp_X8_end_2 : zSp := []
set_option maxRecDepth 1000000 in
theorem ck0_X8_end_2 : zrun tb_X8_end_2 sp_X8_end_2 pr_X8_end 3 1 k_X8_end_2.1 k_X8_end_2.2.1 k_X8_end_2.2.2.2 bl_X8_end_2 false 2000 5031 (zst0 k_X8_end_2) 0 = true := by decide +kernel
set_option maxRecDepth 1000000 in
theorem ck_X8_end_2 : zcheck tb_X8_end_2 sp_X8_end_2 pr_X8_end 3 1 k_X8_end_2 bl_X8_end_2 2000 5031 = true := zcheck_of (by decide +kernel) ck0_X8_end_2 (fun _ h => absurd h List.not_mem_nil)
set_option maxRecDepth 100000 in
set_option maxHeartbeats 4000000 in
theorem c_X8_end_2 {X : zXT} (hX : zXok X) (hN : zXn X) (l : Launch) : zMet X vwCl l yX8_end wsX8_end { frames := 2, cells := 0, slots := 0, locals := 89 } k_X8_end_2 :=
  zmeth (tb := tb_X8_end_2) (pr := pr_X8_end) (bl := bl_X8_end_2) (rt := 1) (own := RX8) hX (by decide +kernel) rfl rfl ⟨Nat.le_of_ble_eq_true rfl, Nat.le_of_ble_eq_true rfl⟩
    (zfl_all (List.forall_mem_cons.mpr ⟨zfl_X8 (fun w h => List.mem_cons_of_mem _ (List.mem_append_right _ h)) (List.mem_of_getElem? (i := 1) rfl) (by decide) (by decide), fun _ h => absurd h List.not_mem_nil⟩))
    (zco_all (fun _ h => absurd h List.not_mem_nil)) (zlc_all (fun _ h => absurd h List.not_mem_nil))
    (fun _ h => absurd h List.not_mem_nil)
    (List.forall_mem_cons.mpr ⟨fun p e s m args below meth c A S hx => zcal_S hX S (c_X8_in hX hN l) (va_cwS 3 S.2.2.2.2 gX8_end_X8_in rfl rfl rfl (by decide +kernel) ⟨Nat.le_of_ble_eq_true rfl, Nat.le_of_ble_eq_true rfl⟩) rfl, fun _ h => absurd h List.not_mem_nil⟩)
    (zmm_all (fun _ h => absurd h List.not_mem_nil)) (zpr_all hp_X8_end) ck_X8_end_2
