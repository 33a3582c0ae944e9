def pr_lc_fund : List (Nat × Instr × Nat) := [(409, .aload_n 1, 1), (410, .aload_n 0, 1), (411, .iload_n 3, 1), (412, .iconst 1, 1), (413, .iadd, 1), (414, .iaload, 1), (415, .aload_n 0, 1), (416, .iload_n 3, 1), (417, .iconst 2, 1), (418, .iadd, 1), (419, .iaload, 1), (420, .invokevirtual 52, 3), (423, .pop, 1), (424, .aload_n 2, 1), (425, .aload_n 0, 1), (426, .iload_n 3, 1), (427, .iconst 1, 1), (428, .iadd, 1), (429, .iaload, 1), (430, .aload_n 0, 1), (431, .iload_n 3, 1), (432, .iconst 2, 1), (433, .iadd, 1), (434, .iaload, 1), (435, .invokevirtual 55, 3), (438, .pop, 1), (439, .goto 903, 3)]
set_option maxRecDepth 100000 in
theorem hp_lc_fund : pr_lc_fund.all (fun x => decide (decode code x.1 = .ok x.2)) = true := by decide +kernel
set_option maxHeartbeats 4000000 in
set_option maxRecDepth 100000 in
theorem lc_fund {p : Program} {l : Launch} {e : Env} {s : State} {m : MethodId} {below : List Frame} {meth : Method} {c : Code} {cells slots : Nat} {Q : State → Prop} {b L : Nat} {xs : Nat → Int32} {D : va_G} {kA : Nat → ClassId} (hc : zLc p s m c b L xs D kA) {x y : Nat} {i : Int} {u v : va_W} {H : Heap} {locs : List Loc} {ls : Array Slot} (hi : zLi s b D kA x y i u v H locs ls) (i0 : 0 ≤ i) (i1 : i + 5 ≤ (L : Int)) (hroom : cells ≤ room_1.cells ∧ slots ≤ room_1.slots)
    (kk : ∀ (u v : va_W) (H : Heap) (locs : List Loc), zLi s b D kA x y i u v H locs ls → W p l e room_1 s m #[Value.ref b] below meth c H locs cells slots Q (F0 m 1342 ls [])) : W p l e room_1 s m #[Value.ref b] below meth c H locs cells slots Q (F0 m 409 ls []) := by
  obtain ⟨hx, hb, hml, hown, hts, hX, hbl, hK, hx0, hL⟩ := hc
  obtain ⟨r7, r8, hu, hv, hp, hP, hD, hS, hl⟩ := hi
  have hA : ∀ q : Nat, s.heap.size ≤ q → (fun q : Nat => s.heap.size ≤ q) q := fun _ h => h
  have hbA : ¬ (fun q : Nat => s.heap.size ≤ q) b := Nat.not_le.mpr hbl
  have hd := zpr_all hp_lc_fund
  refine lv_aload_n hx hb (hd 409 (.aload_n 1) 1 rfl) rfl (lv_at hl 2 rfl) ?_
  refine lv_aload_n hx hb (hd 410 (.aload_n 0) 1 rfl) rfl (lv_at hl 3 rfl) ?_
  refine lv_iload_n hx hb (hd 411 (.iload_n 3) 1 rfl) rfl (lv_at hl 0 rfl) ?_
  refine lv_iconst (v := Int32.ofInt 1) hx hb (hd 412 (.iconst 1) 1 rfl) (by decide) ?_
  refine zh_iadd hx hb (hd 413 .iadd 1 rfl) ?_
  refine zl_ld hx hb hX hbl hbA hS (x := i + 1) (by omega) (by omega) hL (hd 414 .iaload 1 rfl) ?_
  refine lv_aload_n hx hb (hd 415 (.aload_n 0) 1 rfl) rfl (lv_at hl 3 rfl) ?_
  refine lv_iload_n hx hb (hd 416 (.iload_n 3) 1 rfl) rfl (lv_at hl 0 rfl) ?_
  refine lv_iconst (v := Int32.ofInt 2) hx hb (hd 417 (.iconst 2) 1 rfl) (by decide) ?_
  refine zh_iadd hx hb (hd 418 .iadd 1 rfl) ?_
  refine zl_ld hx hb hX hbl hbA hS (x := i + 2) (by omega) (by omega) hL (hd 419 .iaload 1 rfl) ?_
  refine zlawR (vs := [xs (i + 1).toNat, xs (i + 2).toNat]) (rest := []) zX_ok ⟨hx, hb, hml, hown, hts⟩ (c_X7_fund zX_ok zX_n l) (cwV 2 hts gL_law_X7_fund rfl rfl rfl (by decide +kernel) ⟨Nat.le_of_ble_eq_true rfl, Nat.le_of_ble_eq_true rfl⟩) (I := I_V) (K0 := 68) (bs := [((-2147483648), 2147483647), ((-2147483648), 2147483647)]) rfl rfl rfl rfl rfl rfl ⟨7, _, _, _, rfl, rfl⟩ lk7_fund rfl rfl (zbsR_ok ⟨zq_rng _, ⟨zq_rng _, trivial⟩⟩) hK hu hP hD hS hA hx0 (lv_sub hl [] rfl) (Nat.le_of_ble_eq_true rfl) (hd 420 (.invokevirtual 52) 3 rfl) hroom (fun T1 hT1 r1 ad1 u H locs q1 e1 p1 w1 hu hP hD hS => ?_)
  obtain ⟨zz1, hzz1⟩ := zst1_i (k := k_X7_fund) (by decide +kernel) hT1 r1 ad1 []
  rw [hzz1]
  refine lv_pop hx hb (hd 423 .pop 1 rfl) rfl ?_
  refine lv_aload_n hx hb (hd 424 (.aload_n 2) 1 rfl) rfl (lv_at hl 1 rfl) ?_
  refine lv_aload_n hx hb (hd 425 (.aload_n 0) 1 rfl) rfl (lv_at hl 3 rfl) ?_
  refine lv_iload_n hx hb (hd 426 (.iload_n 3) 1 rfl) rfl (lv_at hl 0 rfl) ?_
  refine lv_iconst (v := Int32.ofInt 1) hx hb (hd 427 (.iconst 1) 1 rfl) (by decide) ?_
  refine zh_iadd hx hb (hd 428 .iadd 1 rfl) ?_
  refine zl_ld hx hb hX hbl hbA hS (x := i + 1) (by omega) (by omega) hL (hd 429 .iaload 1 rfl) ?_
  refine lv_aload_n hx hb (hd 430 (.aload_n 0) 1 rfl) rfl (lv_at hl 3 rfl) ?_
  refine lv_iload_n hx hb (hd 431 (.iload_n 3) 1 rfl) rfl (lv_at hl 0 rfl) ?_
  refine lv_iconst (v := Int32.ofInt 2) hx hb (hd 432 (.iconst 2) 1 rfl) (by decide) ?_
  refine zh_iadd hx hb (hd 433 .iadd 1 rfl) ?_
  refine zl_ld hx hb hX hbl hbA hS (x := i + 2) (by omega) (by omega) hL (hd 434 .iaload 1 rfl) ?_
  refine zlawR (vs := [xs (i + 1).toNat, xs (i + 2).toNat]) (rest := []) zX_ok ⟨hx, hb, hml, hown, hts⟩ (c_X8_fund zX_ok zX_n l) (cwV 2 hts gL_law_X8_fund rfl rfl rfl (by decide +kernel) ⟨Nat.le_of_ble_eq_true rfl, Nat.le_of_ble_eq_true rfl⟩) (I := I_M) (K0 := 30) (bs := [((-2147483648), 2147483647), ((-2147483648), 2147483647)]) rfl rfl rfl rfl rfl rfl ⟨8, _, _, _, rfl, rfl⟩ lk8_fund rfl rfl (zbsR_ok ⟨zq_rng _, ⟨zq_rng _, trivial⟩⟩) hK hv hP hD hS hA hx0 (lv_sub hl [] rfl) (Nat.le_of_ble_eq_true rfl) (hd 435 (.invokevirtual 55) 3 rfl) hroom (fun T2 hT2 r2 ad2 v H locs q2 e2 p2 w2 hv hP hD hS => ?_)
  obtain ⟨zz2, hzz2⟩ := zst1_i (k := k_X8_fund) (by decide +kernel) hT2 r2 ad2 []
  rw [hzz2]
  refine lv_pop hx hb (hd 438 .pop 1 rfl) rfl ?_
  refine lv_goto (tgt := 1342) hx hb (hd 439 (.goto 903) 3 rfl) (by decide) ?_
  have hp := zunP un7_fund un8_fund zWP_b hT1 hT2 p1 p2 hp
  exact kk u v H locs ⟨_, _, hu, hv, hp, hP, hD, hS, hl⟩
def pr_lc_can : List (Nat × Instr × Nat) := [(442, .aload_n 1, 1), (443, .aload_n 0, 1), (444, .iload_n 3, 1), (445, .iconst 1, 1), (446, .iadd, 1), (447, .iaload, 1), (448, .aload_n 0, 1), (449, .iload_n 3, 1), (450, .iconst 2, 1), (451, .iadd, 1), (452, .iaload, 1), (453, .aload_n 0, 1), (454, .iload_n 3, 1), (455, .iconst 3, 1), (456, .iadd, 1), (457, .iaload, 1), (458, .ifCond .eq 7, 3), (461, .iconst 1, 1), (462, .goto 4, 3), (465, .iconst 0, 1), (466, .invokevirtual 56, 3), (469, .pop, 1), (470, .aload_n 2, 1), (471, .aload_n 0, 1), (472, .iload_n 3, 1), (473, .iconst 1, 1), (474, .iadd, 1), (475, .iaload, 1), (476, .aload_n 0, 1), (477, .iload_n 3, 1), (478, .iconst 2, 1), (479, .iadd, 1), (480, .iaload, 1), (481, .aload_n 0, 1), (482, .iload_n 3, 1), (483, .iconst 3, 1), (484, .iadd, 1), (485, .iaload, 1), (486, .ifCond .eq 7, 3), (489, .iconst 1, 1), (490, .goto 4, 3), (493, .iconst 0, 1), (494, .invokevirtual 60, 3), (497, .pop, 1), (498, .goto 844, 3)]
set_option maxRecDepth 100000 in
theorem hp_lc_can : pr_lc_can.all (fun x => decide (decode code x.1 = .ok x.2)) = true := by decide +kernel
set_option maxHeartbeats 4000000 in
set_option maxRecDepth 100000 in
theorem lc_can {p : Program} {l : Launch} {e : Env} {s : State} {m : MethodId} {below : List Frame} {meth : Method} {c : Code} {cells slots : Nat} {Q : State → Prop} {b L : Nat} {xs : Nat → Int32} {D : va_G} {kA : Nat → ClassId} (hc : zLc p s m c b L xs D kA) {x y : Nat} {i : Int} {u v : va_W} {H : Heap} {locs : List Loc} {ls : Array Slot} (hi : zLi s b D kA x y i u v H locs ls) (i0 : 0 ≤ i) (i1 : i + 5 ≤ (L : Int)) (hroom : cells ≤ room_1.cells ∧ slots ≤ room_1.slots)
    (kk : ∀ (u v : va_W) (H : Heap) (locs : List Loc), zLi s b D kA x y i u v H locs ls → W p l e room_1 s m #[Value.ref b] below meth c H locs cells slots Q (F0 m 1342 ls [])) : W p l e room_1 s m #[Value.ref b] below meth c H locs cells slots Q (F0 m 442 ls []) := by
  obtain ⟨hx, hb, hml, hown, hts, hX, hbl, hK, hx0, hL⟩ := hc
  obtain ⟨r7, r8, hu, hv, hp, hP, hD, hS, hl⟩ := hi
  have hA : ∀ q : Nat, s.heap.size ≤ q → (fun q : Nat => s.heap.size ≤ q) q := fun _ h => h
  have hbA : ¬ (fun q : Nat => s.heap.size ≤ q) b := Nat.not_le.mpr hbl
  have hd := zpr_all hp_lc_can
  refine lv_aload_n hx hb (hd 442 (.aload_n 1) 1 rfl) rfl (lv_at hl 2 rfl) ?_
  refine lv_aload_n hx hb (hd 443 (.aload_n 0) 1 rfl) rfl (lv_at hl 3 rfl) ?_
  refine lv_iload_n hx hb (hd 444 (.iload_n 3) 1 rfl) rfl (lv_at hl 0 rfl) ?_
  refine lv_iconst (v := Int32.ofInt 1) hx hb (hd 445 (.iconst 1) 1 rfl) (by decide) ?_
  refine zh_iadd hx hb (hd 446 .iadd 1 rfl) ?_
  refine zl_ld hx hb hX hbl hbA hS (x := i + 1) (by omega) (by omega) hL (hd 447 .iaload 1 rfl) ?_
  refine lv_aload_n hx hb (hd 448 (.aload_n 0) 1 rfl) rfl (lv_at hl 3 rfl) ?_
  refine lv_iload_n hx hb (hd 449 (.iload_n 3) 1 rfl) rfl (lv_at hl 0 rfl) ?_
  refine lv_iconst (v := Int32.ofInt 2) hx hb (hd 450 (.iconst 2) 1 rfl) (by decide) ?_
  refine zh_iadd hx hb (hd 451 .iadd 1 rfl) ?_
  refine zl_ld hx hb hX hbl hbA hS (x := i + 2) (by omega) (by omega) hL (hd 452 .iaload 1 rfl) ?_
  refine lv_aload_n hx hb (hd 453 (.aload_n 0) 1 rfl) rfl (lv_at hl 3 rfl) ?_
  refine lv_iload_n hx hb (hd 454 (.iload_n 3) 1 rfl) rfl (lv_at hl 0 rfl) ?_
  refine lv_iconst (v := Int32.ofInt 3) hx hb (hd 455 (.iconst 3) 1 rfl) (by decide) ?_
  refine zh_iadd hx hb (hd 456 .iadd 1 rfl) ?_
  refine zl_ld hx hb hX hbl hbA hS (x := i + 3) (by omega) (by omega) hL (hd 457 .iaload 1 rfl) ?_
  refine zl_bool hx hb (hd 458 (.ifCond .eq 7) 3 rfl) (hd 461 (.iconst 1) 1 rfl) (hd 462 (.goto 4) 3 rfl) (hd 465 (.iconst 0) 1 rfl) (fun z1 hz1 => ?_)
  refine zlawR (vs := [xs (i + 1).toNat, xs (i + 2).toNat, z1]) (rest := []) zX_ok ⟨hx, hb, hml, hown, hts⟩ (c_X7_can zX_ok zX_n l) (cwV 3 hts gL_law_X7_can rfl rfl rfl (by decide +kernel) ⟨Nat.le_of_ble_eq_true rfl, Nat.le_of_ble_eq_true rfl⟩) (I := I_V) (K0 := 68) (bs := [((-2147483648), 2147483647), ((-2147483648), 2147483647), (0, 1)]) rfl rfl rfl rfl rfl rfl ⟨7, _, _, _, rfl, rfl⟩ lk7_can rfl rfl (zbsR_ok ⟨zq_rng _, ⟨zq_rng _, ⟨hz1, trivial⟩⟩⟩) hK hu hP hD hS hA hx0 (lv_sub hl [] rfl) (Nat.le_of_ble_eq_true rfl) (hd 466 (.invokevirtual 56) 3 rfl) hroom (fun T1 hT1 r1 ad1 u H locs q1 e1 p1 w1 hu hP hD hS => ?_)
  obtain ⟨zz1, hzz1⟩ := zst1_i (k := k_X7_can) (by decide +kernel) hT1 r1 ad1 []
  rw [hzz1]
  refine lv_pop hx hb (hd 469 .pop 1 rfl) rfl ?_
  refine lv_aload_n hx hb (hd 470 (.aload_n 2) 1 rfl) rfl (lv_at hl 1 rfl) ?_
  refine lv_aload_n hx hb (hd 471 (.aload_n 0) 1 rfl) rfl (lv_at hl 3 rfl) ?_
  refine lv_iload_n hx hb (hd 472 (.iload_n 3) 1 rfl) rfl (lv_at hl 0 rfl) ?_
  refine lv_iconst (v := Int32.ofInt 1) hx hb (hd 473 (.iconst 1) 1 rfl) (by decide) ?_
  refine zh_iadd hx hb (hd 474 .iadd 1 rfl) ?_
  refine zl_ld hx hb hX hbl hbA hS (x := i + 1) (by omega) (by omega) hL (hd 475 .iaload 1 rfl) ?_
  refine lv_aload_n hx hb (hd 476 (.aload_n 0) 1 rfl) rfl (lv_at hl 3 rfl) ?_
  refine lv_iload_n hx hb (hd 477 (.iload_n 3) 1 rfl) rfl (lv_at hl 0 rfl) ?_
  refine lv_iconst (v := Int32.ofInt 2) hx hb (hd 478 (.iconst 2) 1 rfl) (by decide) ?_
  refine zh_iadd hx hb (hd 479 .iadd 1 rfl) ?_
  refine zl_ld hx hb hX hbl hbA hS (x := i + 2) (by omega) (by omega) hL (hd 480 .iaload 1 rfl) ?_
  refine lv_aload_n hx hb (hd 481 (.aload_n 0) 1 rfl) rfl (lv_at hl 3 rfl) ?_
  refine lv_iload_n hx hb (hd 482 (.iload_n 3) 1 rfl) rfl (lv_at hl 0 rfl) ?_
  refine lv_iconst (v := Int32.ofInt 3) hx hb (hd 483 (.iconst 3) 1 rfl) (by decide) ?_
  refine zh_iadd hx hb (hd 484 .iadd 1 rfl) ?_
  refine zl_ld hx hb hX hbl hbA hS (x := i + 3) (by omega) (by omega) hL (hd 485 .iaload 1 rfl) ?_
  refine zl_bool hx hb (hd 486 (.ifCond .eq 7) 3 rfl) (hd 489 (.iconst 1) 1 rfl) (hd 490 (.goto 4) 3 rfl) (hd 493 (.iconst 0) 1 rfl) (fun z2 hz2 => ?_)
  refine zlawR (vs := [xs (i + 1).toNat, xs (i + 2).toNat, z2]) (rest := []) zX_ok ⟨hx, hb, hml, hown, hts⟩ (c_X8_can zX_ok zX_n l) (cwV 3 hts gL_law_X8_can rfl rfl rfl (by decide +kernel) ⟨Nat.le_of_ble_eq_true rfl, Nat.le_of_ble_eq_true rfl⟩) (I := I_M) (K0 := 30) (bs := [((-2147483648), 2147483647), ((-2147483648), 2147483647), (0, 1)]) rfl rfl rfl rfl rfl rfl ⟨8, _, _, _, rfl, rfl⟩ lk8_can rfl rfl (zbsR_ok ⟨zq_rng _, ⟨zq_rng _, ⟨hz2, trivial⟩⟩⟩) hK hv hP hD hS hA hx0 (lv_sub hl [] rfl) (Nat.le_of_ble_eq_true rfl) (hd 494 (.invokevirtual 60) 3 rfl) hroom (fun T2 hT2 r2 ad2 v H locs q2 e2 p2 w2 hv hP hD hS => ?_)
  obtain ⟨zz2, hzz2⟩ := zst1_i (k := k_X8_can) (by decide +kernel) hT2 r2 ad2 []
  rw [hzz2]
  refine lv_pop hx hb (hd 497 .pop 1 rfl) rfl ?_
  refine lv_goto (tgt := 1342) hx hb (hd 498 (.goto 844) 3 rfl) (by decide) ?_
  have hp := zunP un7_can un8_can zWP_b hT1 hT2 p1 p2 hp
  exact kk u v H locs ⟨_, _, hu, hv, hp, hP, hD, hS, hl⟩
def pr_lc_lawyer : List (Nat × Instr × Nat) := [(501, .aload_n 1, 1), (502, .aload_n 0, 1), (503, .iload_n 3, 1), (504, .iconst 1, 1), (505, .iadd, 1), (506, .iaload, 1), (507, .aload_n 0, 1), (508, .iload_n 3, 1), (509, .iconst 2, 1), (510, .iadd, 1), (511, .iaload, 1), (512, .ifCond .eq 7, 3), (515, .iconst 1, 1), (516, .goto 4, 3), (519, .iconst 0, 1), (520, .invokevirtual 61, 3), (523, .pop, 1), (524, .aload_n 2, 1), (525, .aload_n 0, 1), (526, .iload_n 3, 1), (527, .iconst 1, 1), (528, .iadd, 1), (529, .iaload, 1), (530, .aload_n 0, 1), (531, .iload_n 3, 1), (532, .iconst 2, 1), (533, .iadd, 1), (534, .iaload, 1), (535, .ifCond .eq 7, 3), (538, .iconst 1, 1), (539, .goto 4, 3), (542, .iconst 0, 1), (543, .invokevirtual 65, 3), (546, .pop, 1), (547, .goto 795, 3)]
set_option maxRecDepth 100000 in
theorem hp_lc_lawyer : pr_lc_lawyer.all (fun x => decide (decode code x.1 = .ok x.2)) = true := by decide +kernel
set_option maxHeartbeats 4000000 in
set_option maxRecDepth 100000 in
theorem lc_lawyer {p : Program} {l : Launch} {e : Env} {s : State} {m : MethodId} {below : List Frame} {meth : Method} {c : Code} {cells slots : Nat} {Q : State → Prop} {b L : Nat} {xs : Nat → Int32} {D : va_G} {kA : Nat → ClassId} (hc : zLc p s m c b L xs D kA) {x y : Nat} {i : Int} {u v : va_W} {H : Heap} {locs : List Loc} {ls : Array Slot} (hi : zLi s b D kA x y i u v H locs ls) (i0 : 0 ≤ i) (i1 : i + 5 ≤ (L : Int)) (hroom : cells ≤ room_1.cells ∧ slots ≤ room_1.slots)
    (kk : ∀ (u v : va_W) (H : Heap) (locs : List Loc), zLi s b D kA x y i u v H locs ls → W p l e room_1 s m #[Value.ref b] below meth c H locs cells slots Q (F0 m 1342 ls [])) : W p l e room_1 s m #[Value.ref b] below meth c H locs cells slots Q (F0 m 501 ls []) := by
  obtain ⟨hx, hb, hml, hown, hts, hX, hbl, hK, hx0, hL⟩ := hc
  obtain ⟨r7, r8, hu, hv, hp, hP, hD, hS, hl⟩ := hi
  have hA : ∀ q : Nat, s.heap.size ≤ q → (fun q : Nat => s.heap.size ≤ q) q := fun _ h => h
  have hbA : ¬ (fun q : Nat => s.heap.size ≤ q) b := Nat.not_le.mpr hbl
  have hd := zpr_all hp_lc_lawyer
  refine lv_aload_n hx hb (hd 501 (.aload_n 1) 1 rfl) rfl (lv_at hl 2 rfl) ?_
  refine lv_aload_n hx hb (hd 502 (.aload_n 0) 1 rfl) rfl (lv_at hl 3 rfl) ?_
  refine lv_iload_n hx hb (hd 503 (.iload_n 3) 1 rfl) rfl (lv_at hl 0 rfl) ?_
  refine lv_iconst (v := Int32.ofInt 1) hx hb (hd 504 (.iconst 1) 1 rfl) (by decide) ?_
  refine zh_iadd hx hb (hd 505 .iadd 1 rfl) ?_
  refine zl_ld hx hb hX hbl hbA hS (x := i + 1) (by omega) (by omega) hL (hd 506 .iaload 1 rfl) ?_
  refine lv_aload_n hx hb (hd 507 (.aload_n 0) 1 rfl) rfl (lv_at hl 3 rfl) ?_
  refine lv_iload_n hx hb (hd 508 (.iload_n 3) 1 rfl) rfl (lv_at hl 0 rfl) ?_
  refine lv_iconst (v := Int32.ofInt 2) hx hb (hd 509 (.iconst 2) 1 rfl) (by decide) ?_
  refine zh_iadd hx hb (hd 510 .iadd 1 rfl) ?_
  refine zl_ld hx hb hX hbl hbA hS (x := i + 2) (by omega) (by omega) hL (hd 511 .iaload 1 rfl) ?_
  refine zl_bool hx hb (hd 512 (.ifCond .eq 7) 3 rfl) (hd 515 (.iconst 1) 1 rfl) (hd 516 (.goto 4) 3 rfl) (hd 519 (.iconst 0) 1 rfl) (fun z1 hz1 => ?_)
  refine zlawR (vs := [xs (i + 1).toNat, z1]) (rest := []) zX_ok ⟨hx, hb, hml, hown, hts⟩ (c_X7_lawyer zX_ok zX_n l) (cwV 2 hts gL_law_X7_lawyer rfl rfl rfl (by decide +kernel) ⟨Nat.le_of_ble_eq_true rfl, Nat.le_of_ble_eq_true rfl⟩) (I := I_V) (K0 := 68) (bs := [((-2147483648), 2147483647), (0, 1)]) rfl rfl rfl rfl rfl rfl ⟨7, _, _, _, rfl, rfl⟩ lk7_lawyer rfl rfl (zbsR_ok ⟨zq_rng _, ⟨hz1, trivial⟩⟩) hK hu hP hD hS hA hx0 (lv_sub hl [] rfl) (Nat.le_of_ble_eq_true rfl) (hd 520 (.invokevirtual 61) 3 rfl) hroom (fun T1 hT1 r1 ad1 u H locs q1 e1 p1 w1 hu hP hD hS => ?_)
  obtain ⟨zz1, hzz1⟩ := zst1_i (k := k_X7_lawyer) (by decide +kernel) hT1 r1 ad1 []
  rw [hzz1]
  refine lv_pop hx hb (hd 523 .pop 1 rfl) rfl ?_
  refine lv_aload_n hx hb (hd 524 (.aload_n 2) 1 rfl) rfl (lv_at hl 1 rfl) ?_
  refine lv_aload_n hx hb (hd 525 (.aload_n 0) 1 rfl) rfl (lv_at hl 3 rfl) ?_
  refine lv_iload_n hx hb (hd 526 (.iload_n 3) 1 rfl) rfl (lv_at hl 0 rfl) ?_
  refine lv_iconst (v := Int32.ofInt 1) hx hb (hd 527 (.iconst 1) 1 rfl) (by decide) ?_
  refine zh_iadd hx hb (hd 528 .iadd 1 rfl) ?_
  refine zl_ld hx hb hX hbl hbA hS (x := i + 1) (by omega) (by omega) hL (hd 529 .iaload 1 rfl) ?_
  refine lv_aload_n hx hb (hd 530 (.aload_n 0) 1 rfl) rfl (lv_at hl 3 rfl) ?_
  refine lv_iload_n hx hb (hd 531 (.iload_n 3) 1 rfl) rfl (lv_at hl 0 rfl) ?_
  refine lv_iconst (v := Int32.ofInt 2) hx hb (hd 532 (.iconst 2) 1 rfl) (by decide) ?_
  refine zh_iadd hx hb (hd 533 .iadd 1 rfl) ?_
  refine zl_ld hx hb hX hbl hbA hS (x := i + 2) (by omega) (by omega) hL (hd 534 .iaload 1 rfl) ?_
  refine zl_bool hx hb (hd 535 (.ifCond .eq 7) 3 rfl) (hd 538 (.iconst 1) 1 rfl) (hd 539 (.goto 4) 3 rfl) (hd 542 (.iconst 0) 1 rfl) (fun z2 hz2 => ?_)
  refine zlawR (vs := [xs (i + 1).toNat, z2]) (rest := []) zX_ok ⟨hx, hb, hml, hown, hts⟩ (c_X8_lawyer zX_ok zX_n l) (cwV 2 hts gL_law_X8_lawyer rfl rfl rfl (by decide +kernel) ⟨Nat.le_of_ble_eq_true rfl, Nat.le_of_ble_eq_true rfl⟩) (I := I_M) (K0 := 30) (bs := [((-2147483648), 2147483647), (0, 1)]) rfl rfl rfl rfl rfl rfl ⟨8, _, _, _, rfl, rfl⟩ lk8_lawyer rfl rfl (zbsR_ok ⟨zq_rng _, ⟨hz2, trivial⟩⟩) hK hv hP hD hS hA hx0 (lv_sub hl [] rfl) (Nat.le_of_ble_eq_true rfl) (hd 543 (.invokevirtual 65) 3 rfl) hroom (fun T2 hT2 r2 ad2 v H locs q2 e2 p2 w2 hv hP hD hS => ?_)
  obtain ⟨zz2, hzz2⟩ := zst1_i (k := k_X8_lawyer) (by decide +kernel) hT2 r2 ad2 []
  rw [hzz2]
  refine lv_pop hx hb (hd 546 .pop 1 rfl) rfl ?_
  refine lv_goto (tgt := 1342) hx hb (hd 547 (.goto 795) 3 rfl) (by decide) ?_
  have hp := zunP un7_lawyer un8_lawyer zWP_b hT1 hT2 p1 p2 hp
  exact kk u v H locs ⟨_, _, hu, hv, hp, hP, hD, hS, hl⟩
def pr_lc_habit : List (Nat × Instr × Nat) := [(550, .aload_n 1, 1), (551, .aload_n 0, 1), (552, .iload_n 3, 1), (553, .iconst 1, 1), (554, .iadd, 1), (555, .iaload, 1), (556, .aload_n 0, 1), (557, .iload_n 3, 1), (558, .iconst 2, 1), (559, .iadd, 1), (560, .iaload, 1), (561, .aload_n 0, 1), (562, .iload_n 3, 1), (563, .iconst 3, 1), (564, .iadd, 1), (565, .iaload, 1), (566, .aload_n 0, 1), (567, .iload_n 3, 1), (568, .iconst 4, 1), (569, .iadd, 1), (570, .iaload, 1), (571, .invokevirtual 66, 3), (574, .pop, 1), (575, .aload_n 2, 1), (576, .aload_n 0, 1), (577, .iload_n 3, 1), (578, .iconst 1, 1), (579, .iadd, 1), (580, .iaload, 1), (581, .aload_n 0, 1), (582, .iload_n 3, 1), (583, .iconst 2, 1), (584, .iadd, 1), (585, .iaload, 1), (586, .aload_n 0, 1), (587, .iload_n 3, 1), (588, .iconst 3, 1), (589, .iadd, 1), (590, .iaload, 1), (591, .aload_n 0, 1), (592, .iload_n 3, 1), (593, .iconst 4, 1), (594, .iadd, 1), (595, .iaload, 1), (596, .invokevirtual 70, 3), (599, .pop, 1), (600, .goto 742, 3)]
set_option maxRecDepth 100000 in
theorem hp_lc_habit : pr_lc_habit.all (fun x => decide (decode code x.1 = .ok x.2)) = true := by decide +kernel
set_option maxHeartbeats 4000000 in
set_option maxRecDepth 100000 in
theorem lc_habit {p : Program} {l : Launch} {e : Env} {s : State} {m : MethodId} {below : List Frame} {meth : Method} {c : Code} {cells slots : Nat} {Q : State → Prop} {b L : Nat} {xs : Nat → Int32} {D : va_G} {kA : Nat → ClassId} (hc : zLc p s m c b L xs D kA) {x y : Nat} {i : Int} {u v : va_W} {H : Heap} {locs : List Loc} {ls : Array Slot} (hi : zLi s b D kA x y i u v H locs ls) (i0 : 0 ≤ i) (i1 : i + 5 ≤ (L : Int)) (hroom : cells ≤ room_1.cells ∧ slots ≤ room_1.slots)
    (kk : ∀ (u v : va_W) (H : Heap) (locs : List Loc), zLi s b D kA x y i u v H locs ls → W p l e room_1 s m #[Value.ref b] below meth c H locs cells slots Q (F0 m 1342 ls [])) : W p l e room_1 s m #[Value.ref b] below meth c H locs cells slots Q (F0 m 550 ls []) := by
  obtain ⟨hx, hb, hml, hown, hts, hX, hbl, hK, hx0, hL⟩ := hc
  obtain ⟨r7, r8, hu, hv, hp, hP, hD, hS, hl⟩ := hi
  have hA : ∀ q : Nat, s.heap.size ≤ q → (fun q : Nat => s.heap.size ≤ q) q := fun _ h => h
  have hbA : ¬ (fun q : Nat => s.heap.size ≤ q) b := Nat.not_le.mpr hbl
  have hd := zpr_all hp_lc_habit
  refine lv_aload_n hx hb (hd 550 (.aload_n 1) 1 rfl) rfl (lv_at hl 2 rfl) ?_
  refine lv_aload_n hx hb (hd 551 (.aload_n 0) 1 rfl) rfl (lv_at hl 3 rfl) ?_
  refine lv_iload_n hx hb (hd 552 (.iload_n 3) 1 rfl) rfl (lv_at hl 0 rfl) ?_
  refine lv_iconst (v := Int32.ofInt 1) hx hb (hd 553 (.iconst 1) 1 rfl) (by decide) ?_
  refine zh_iadd hx hb (hd 554 .iadd 1 rfl) ?_
  refine zl_ld hx hb hX hbl hbA hS (x := i + 1) (by omega) (by omega) hL (hd 555 .iaload 1 rfl) ?_
  refine lv_aload_n hx hb (hd 556 (.aload_n 0) 1 rfl) rfl (lv_at hl 3 rfl) ?_
  refine lv_iload_n hx hb (hd 557 (.iload_n 3) 1 rfl) rfl (lv_at hl 0 rfl) ?_
  refine lv_iconst (v := Int32.ofInt 2) hx hb (hd 558 (.iconst 2) 1 rfl) (by decide) ?_
  refine zh_iadd hx hb (hd 559 .iadd 1 rfl) ?_
  refine zl_ld hx hb hX hbl hbA hS (x := i + 2) (by omega) (by omega) hL (hd 560 .iaload 1 rfl) ?_
  refine lv_aload_n hx hb (hd 561 (.aload_n 0) 1 rfl) rfl (lv_at hl 3 rfl) ?_
  refine lv_iload_n hx hb (hd 562 (.iload_n 3) 1 rfl) rfl (lv_at hl 0 rfl) ?_
  refine lv_iconst (v := Int32.ofInt 3) hx hb (hd 563 (.iconst 3) 1 rfl) (by decide) ?_
  refine zh_iadd hx hb (hd 564 .iadd 1 rfl) ?_
  refine zl_ld hx hb hX hbl hbA hS (x := i + 3) (by omega) (by omega) hL (hd 565 .iaload 1 rfl) ?_
  refine lv_aload_n hx hb (hd 566 (.aload_n 0) 1 rfl) rfl (lv_at hl 3 rfl) ?_
  refine lv_iload_n hx hb (hd 567 (.iload_n 3) 1 rfl) rfl (lv_at hl 0 rfl) ?_
  refine lv_iconst (v := Int32.ofInt 4) hx hb (hd 568 (.iconst 4) 1 rfl) (by decide) ?_
  refine zh_iadd hx hb (hd 569 .iadd 1 rfl) ?_
  refine zl_ld hx hb hX hbl hbA hS (x := i + 4) (by omega) (by omega) hL (hd 570 .iaload 1 rfl) ?_
  refine zlawR (vs := [xs (i + 1).toNat, xs (i + 2).toNat, xs (i + 3).toNat, xs (i + 4).toNat]) (rest := []) zX_ok ⟨hx, hb, hml, hown, hts⟩ (c_X7_habit zX_ok zX_n l) (cwV 4 hts gL_law_X7_habit rfl rfl rfl (by decide +kernel) ⟨Nat.le_of_ble_eq_true rfl, Nat.le_of_ble_eq_true rfl⟩) (I := I_V) (K0 := 68) (bs := [((-2147483648), 2147483647), ((-2147483648), 2147483647), ((-2147483648), 2147483647), ((-2147483648), 2147483647)]) rfl rfl rfl rfl rfl rfl ⟨7, _, _, _, rfl, rfl⟩ lk7_habit rfl rfl (zbsR_ok ⟨zq_rng _, ⟨zq_rng _, ⟨zq_rng _, ⟨zq_rng _, trivial⟩⟩⟩⟩) hK hu hP hD hS hA hx0 (lv_sub hl [] rfl) (Nat.le_of_ble_eq_true rfl) (hd 571 (.invokevirtual 66) 3 rfl) hroom (fun T1 hT1 r1 ad1 u H locs q1 e1 p1 w1 hu hP hD hS => ?_)
  obtain ⟨zz1, hzz1⟩ := zst1_i (k := k_X7_habit) (by decide +kernel) hT1 r1 ad1 []
  rw [hzz1]
  refine lv_pop hx hb (hd 574 .pop 1 rfl) rfl ?_
  refine lv_aload_n hx hb (hd 575 (.aload_n 2) 1 rfl) rfl (lv_at hl 1 rfl) ?_
  refine lv_aload_n hx hb (hd 576 (.aload_n 0) 1 rfl) rfl (lv_at hl 3 rfl) ?_
  refine lv_iload_n hx hb (hd 577 (.iload_n 3) 1 rfl) rfl (lv_at hl 0 rfl) ?_
  refine lv_iconst (v := Int32.ofInt 1) hx hb (hd 578 (.iconst 1) 1 rfl) (by decide) ?_
  refine zh_iadd hx hb (hd 579 .iadd 1 rfl) ?_
  refine zl_ld hx hb hX hbl hbA hS (x := i + 1) (by omega) (by omega) hL (hd 580 .iaload 1 rfl) ?_
  refine lv_aload_n hx hb (hd 581 (.aload_n 0) 1 rfl) rfl (lv_at hl 3 rfl) ?_
  refine lv_iload_n hx hb (hd 582 (.iload_n 3) 1 rfl) rfl (lv_at hl 0 rfl) ?_
  refine lv_iconst (v := Int32.ofInt 2) hx hb (hd 583 (.iconst 2) 1 rfl) (by decide) ?_
  refine zh_iadd hx hb (hd 584 .iadd 1 rfl) ?_
  refine zl_ld hx hb hX hbl hbA hS (x := i + 2) (by omega) (by omega) hL (hd 585 .iaload 1 rfl) ?_
  refine lv_aload_n hx hb (hd 586 (.aload_n 0) 1 rfl) rfl (lv_at hl 3 rfl) ?_
  refine lv_iload_n hx hb (hd 587 (.iload_n 3) 1 rfl) rfl (lv_at hl 0 rfl) ?_
  refine lv_iconst (v := Int32.ofInt 3) hx hb (hd 588 (.iconst 3) 1 rfl) (by decide) ?_
  refine zh_iadd hx hb (hd 589 .iadd 1 rfl) ?_
  refine zl_ld hx hb hX hbl hbA hS (x := i + 3) (by omega) (by omega) hL (hd 590 .iaload 1 rfl) ?_
  refine lv_aload_n hx hb (hd 591 (.aload_n 0) 1 rfl) rfl (lv_at hl 3 rfl) ?_
  refine lv_iload_n hx hb (hd 592 (.iload_n 3) 1 rfl) rfl (lv_at hl 0 rfl) ?_
  refine lv_iconst (v := Int32.ofInt 4) hx hb (hd 593 (.iconst 4) 1 rfl) (by decide) ?_
  refine zh_iadd hx hb (hd 594 .iadd 1 rfl) ?_
  refine zl_ld hx hb hX hbl hbA hS (x := i + 4) (by omega) (by omega) hL (hd 595 .iaload 1 rfl) ?_
  refine zlawR (vs := [xs (i + 1).toNat, xs (i + 2).toNat, xs (i + 3).toNat, xs (i + 4).toNat]) (rest := []) zX_ok ⟨hx, hb, hml, hown, hts⟩ (c_X8_habit zX_ok zX_n l) (cwV 4 hts gL_law_X8_habit rfl rfl rfl (by decide +kernel) ⟨Nat.le_of_ble_eq_true rfl, Nat.le_of_ble_eq_true rfl⟩) (I := I_M) (K0 := 30) (bs := [((-2147483648), 2147483647), ((-2147483648), 2147483647), ((-2147483648), 2147483647), ((-2147483648), 2147483647)]) rfl rfl rfl rfl rfl rfl ⟨8, _, _, _, rfl, rfl⟩ lk8_habit rfl rfl (zbsR_ok ⟨zq_rng _, ⟨zq_rng _, ⟨zq_rng _, ⟨zq_rng _, trivial⟩⟩⟩⟩) hK hv hP hD hS hA hx0 (lv_sub hl [] rfl) (Nat.le_of_ble_eq_true rfl) (hd 596 (.invokevirtual 70) 3 rfl) hroom (fun T2 hT2 r2 ad2 v H locs q2 e2 p2 w2 hv hP hD hS => ?_)
  obtain ⟨zz2, hzz2⟩ := zst1_i (k := k_X8_habit) (by decide +kernel) hT2 r2 ad2 []
  rw [hzz2]
  refine lv_pop hx hb (hd 599 .pop 1 rfl) rfl ?_
  refine lv_goto (tgt := 1342) hx hb (hd 600 (.goto 742) 3 rfl) (by decide) ?_
  have hp := zunP un7_habit un8_habit zWP_b hT1 hT2 p1 p2 hp
  exact kk u v H locs ⟨_, _, hu, hv, hp, hP, hD, hS, hl⟩
def pr_lc_vows : List (Nat × Instr × Nat) := [(603, .aload_n 1, 1), (604, .aload_n 0, 1), (605, .iload_n 3, 1), (606, .iconst 1, 1), (607, .iadd, 1), (608, .iaload, 1), (609, .aload_n 0, 1), (610, .iload_n 3, 1), (611, .iconst 2, 1), (612, .iadd, 1), (613, .iaload, 1), (614, .aload_n 0, 1), (615, .iload_n 3, 1), (616, .iconst 3, 1), (617, .iadd, 1), (618, .iaload, 1), (619, .aload_n 0, 1), (620, .iload_n 3, 1), (621, .iconst 4, 1), (622, .iadd, 1), (623, .iaload, 1), (624, .invokevirtual 71, 3), (627, .pop, 1), (628, .aload_n 2, 1), (629, .aload_n 0, 1), (630, .iload_n 3, 1), (631, .iconst 1, 1), (632, .iadd, 1), (633, .iaload, 1), (634, .aload_n 0, 1), (635, .iload_n 3, 1), (636, .iconst 2, 1), (637, .iadd, 1), (638, .iaload, 1), (639, .aload_n 0, 1), (640, .iload_n 3, 1), (641, .iconst 3, 1), (642, .iadd, 1), (643, .iaload, 1), (644, .aload_n 0, 1), (645, .iload_n 3, 1), (646, .iconst 4, 1), (647, .iadd, 1), (648, .iaload, 1), (649, .invokevirtual 74, 3), (652, .pop, 1), (653, .goto 689, 3)]
set_option maxRecDepth 100000 in
theorem hp_lc_vows : pr_lc_vows.all (fun x => decide (decode code x.1 = .ok x.2)) = true := by decide +kernel
set_option maxHeartbeats 4000000 in
set_option maxRecDepth 100000 in
theorem lc_vows {p : Program} {l : Launch} {e : Env} {s : State} {m : MethodId} {below : List Frame} {meth : Method} {c : Code} {cells slots : Nat} {Q : State → Prop} {b L : Nat} {xs : Nat → Int32} {D : va_G} {kA : Nat → ClassId} (hc : zLc p s m c b L xs D kA) {x y : Nat} {i : Int} {u v : va_W} {H : Heap} {locs : List Loc} {ls : Array Slot} (hi : zLi s b D kA x y i u v H locs ls) (i0 : 0 ≤ i) (i1 : i + 5 ≤ (L : Int)) (hroom : cells ≤ room_1.cells ∧ slots ≤ room_1.slots)
    (kk : ∀ (u v : va_W) (H : Heap) (locs : List Loc), zLi s b D kA x y i u v H locs ls → W p l e room_1 s m #[Value.ref b] below meth c H locs cells slots Q (F0 m 1342 ls [])) : W p l e room_1 s m #[Value.ref b] below meth c H locs cells slots Q (F0 m 603 ls []) := by
  obtain ⟨hx, hb, hml, hown, hts, hX, hbl, hK, hx0, hL⟩ := hc
  obtain ⟨r7, r8, hu, hv, hp, hP, hD, hS, hl⟩ := hi
  have hA : ∀ q : Nat, s.heap.size ≤ q → (fun q : Nat => s.heap.size ≤ q) q := fun _ h => h
  have hbA : ¬ (fun q : Nat => s.heap.size ≤ q) b := Nat.not_le.mpr hbl
  have hd := zpr_all hp_lc_vows
  refine lv_aload_n hx hb (hd 603 (.aload_n 1) 1 rfl) rfl (lv_at hl 2 rfl) ?_
  refine lv_aload_n hx hb (hd 604 (.aload_n 0) 1 rfl) rfl (lv_at hl 3 rfl) ?_
  refine lv_iload_n hx hb (hd 605 (.iload_n 3) 1 rfl) rfl (lv_at hl 0 rfl) ?_
  refine lv_iconst (v := Int32.ofInt 1) hx hb (hd 606 (.iconst 1) 1 rfl) (by decide) ?_
  refine zh_iadd hx hb (hd 607 .iadd 1 rfl) ?_
  refine zl_ld hx hb hX hbl hbA hS (x := i + 1) (by omega) (by omega) hL (hd 608 .iaload 1 rfl) ?_
  refine lv_aload_n hx hb (hd 609 (.aload_n 0) 1 rfl) rfl (lv_at hl 3 rfl) ?_
  refine lv_iload_n hx hb (hd 610 (.iload_n 3) 1 rfl) rfl (lv_at hl 0 rfl) ?_
  refine lv_iconst (v := Int32.ofInt 2) hx hb (hd 611 (.iconst 2) 1 rfl) (by decide) ?_
  refine zh_iadd hx hb (hd 612 .iadd 1 rfl) ?_
  refine zl_ld hx hb hX hbl hbA hS (x := i + 2) (by omega) (by omega) hL (hd 613 .iaload 1 rfl) ?_
  refine lv_aload_n hx hb (hd 614 (.aload_n 0) 1 rfl) rfl (lv_at hl 3 rfl) ?_
  refine lv_iload_n hx hb (hd 615 (.iload_n 3) 1 rfl) rfl (lv_at hl 0 rfl) ?_
  refine lv_iconst (v := Int32.ofInt 3) hx hb (hd 616 (.iconst 3) 1 rfl) (by decide) ?_
  refine zh_iadd hx hb (hd 617 .iadd 1 rfl) ?_
  refine zl_ld hx hb hX hbl hbA hS (x := i + 3) (by omega) (by omega) hL (hd 618 .iaload 1 rfl) ?_
  refine lv_aload_n hx hb (hd 619 (.aload_n 0) 1 rfl) rfl (lv_at hl 3 rfl) ?_
  refine lv_iload_n hx hb (hd 620 (.iload_n 3) 1 rfl) rfl (lv_at hl 0 rfl) ?_
  refine lv_iconst (v := Int32.ofInt 4) hx hb (hd 621 (.iconst 4) 1 rfl) (by decide) ?_
  refine zh_iadd hx hb (hd 622 .iadd 1 rfl) ?_
  refine zl_ld hx hb hX hbl hbA hS (x := i + 4) (by omega) (by omega) hL (hd 623 .iaload 1 rfl) ?_
  refine zlawR (vs := [xs (i + 1).toNat, xs (i + 2).toNat, xs (i + 3).toNat, xs (i + 4).toNat]) (rest := []) zX_ok ⟨hx, hb, hml, hown, hts⟩ (c_X7_vows zX_ok zX_n l) (cwV 4 hts gL_law_X7_vows rfl rfl rfl (by decide +kernel) ⟨Nat.le_of_ble_eq_true rfl, Nat.le_of_ble_eq_true rfl⟩) (I := I_V) (K0 := 68) (bs := [((-2147483648), 2147483647), ((-2147483648), 2147483647), ((-2147483648), 2147483647), ((-2147483648), 2147483647)]) rfl rfl rfl rfl rfl rfl ⟨7, _, _, _, rfl, rfl⟩ lk7_vows rfl rfl (zbsR_ok ⟨zq_rng _, ⟨zq_rng _, ⟨zq_rng _, ⟨zq_rng _, trivial⟩⟩⟩⟩) hK hu hP hD hS hA hx0 (lv_sub hl [] rfl) (Nat.le_of_ble_eq_true rfl) (hd 624 (.invokevirtual 71) 3 rfl) hroom (fun T1 hT1 r1 ad1 u H locs q1 e1 p1 w1 hu hP hD hS => ?_)
  obtain ⟨zz1, hzz1⟩ := zst1_i (k := k_X7_vows) (by decide +kernel) hT1 r1 ad1 []
  rw [hzz1]
  refine lv_pop hx hb (hd 627 .pop 1 rfl) rfl ?_
  refine lv_aload_n hx hb (hd 628 (.aload_n 2) 1 rfl) rfl (lv_at hl 1 rfl) ?_
  refine lv_aload_n hx hb (hd 629 (.aload_n 0) 1 rfl) rfl (lv_at hl 3 rfl) ?_
  refine lv_iload_n hx hb (hd 630 (.iload_n 3) 1 rfl) rfl (lv_at hl 0 rfl) ?_
  refine lv_iconst (v := Int32.ofInt 1) hx hb (hd 631 (.iconst 1) 1 rfl) (by decide) ?_
  refine zh_iadd hx hb (hd 632 .iadd 1 rfl) ?_
  refine zl_ld hx hb hX hbl hbA hS (x := i + 1) (by omega) (by omega) hL (hd 633 .iaload 1 rfl) ?_
  refine lv_aload_n hx hb (hd 634 (.aload_n 0) 1 rfl) rfl (lv_at hl 3 rfl) ?_
  refine lv_iload_n hx hb (hd 635 (.iload_n 3) 1 rfl) rfl (lv_at hl 0 rfl) ?_
  refine lv_iconst (v := Int32.ofInt 2) hx hb (hd 636 (.iconst 2) 1 rfl) (by decide) ?_
  refine zh_iadd hx hb (hd 637 .iadd 1 rfl) ?_
  refine zl_ld hx hb hX hbl hbA hS (x := i + 2) (by omega) (by omega) hL (hd 638 .iaload 1 rfl) ?_
  refine lv_aload_n hx hb (hd 639 (.aload_n 0) 1 rfl) rfl (lv_at hl 3 rfl) ?_
  refine lv_iload_n hx hb (hd 640 (.iload_n 3) 1 rfl) rfl (lv_at hl 0 rfl) ?_
  refine lv_iconst (v := Int32.ofInt 3) hx hb (hd 641 (.iconst 3) 1 rfl) (by decide) ?_
  refine zh_iadd hx hb (hd 642 .iadd 1 rfl) ?_
  refine zl_ld hx hb hX hbl hbA hS (x := i + 3) (by omega) (by omega) hL (hd 643 .iaload 1 rfl) ?_
  refine lv_aload_n hx hb (hd 644 (.aload_n 0) 1 rfl) rfl (lv_at hl 3 rfl) ?_
  refine lv_iload_n hx hb (hd 645 (.iload_n 3) 1 rfl) rfl (lv_at hl 0 rfl) ?_
  refine lv_iconst (v := Int32.ofInt 4) hx hb (hd 646 (.iconst 4) 1 rfl) (by decide) ?_
  refine zh_iadd hx hb (hd 647 .iadd 1 rfl) ?_
  refine zl_ld hx hb hX hbl hbA hS (x := i + 4) (by omega) (by omega) hL (hd 648 .iaload 1 rfl) ?_
  refine zlawR (vs := [xs (i + 1).toNat, xs (i + 2).toNat, xs (i + 3).toNat, xs (i + 4).toNat]) (rest := []) zX_ok ⟨hx, hb, hml, hown, hts⟩ (c_X8_vows zX_ok zX_n l) (cwV 4 hts gL_law_X8_vows rfl rfl rfl (by decide +kernel) ⟨Nat.le_of_ble_eq_true rfl, Nat.le_of_ble_eq_true rfl⟩) (I := I_M) (K0 := 30) (bs := [((-2147483648), 2147483647), ((-2147483648), 2147483647), ((-2147483648), 2147483647), ((-2147483648), 2147483647)]) rfl rfl rfl rfl rfl rfl ⟨8, _, _, _, rfl, rfl⟩ lk8_vows rfl rfl (zbsR_ok ⟨zq_rng _, ⟨zq_rng _, ⟨zq_rng _, ⟨zq_rng _, trivial⟩⟩⟩⟩) hK hv hP hD hS hA hx0 (lv_sub hl [] rfl) (Nat.le_of_ble_eq_true rfl) (hd 649 (.invokevirtual 74) 3 rfl) hroom (fun T2 hT2 r2 ad2 v H locs q2 e2 p2 w2 hv hP hD hS => ?_)
  obtain ⟨zz2, hzz2⟩ := zst1_i (k := k_X8_vows) (by decide +kernel) hT2 r2 ad2 []
  rw [hzz2]
  refine lv_pop hx hb (hd 652 .pop 1 rfl) rfl ?_
  refine lv_goto (tgt := 1342) hx hb (hd 653 (.goto 689) 3 rfl) (by decide) ?_
  have hp := zunP un7_vows un8_vows zWP_b hT1 hT2 p1 p2 hp
  exact kk u v H locs ⟨_, _, hu, hv, hp, hP, hD, hS, hl⟩
def pr_lc_wish : List (Nat × Instr × Nat) := [(656, .aload_n 1, 1), (657, .aload_n 0, 1), (658, .iload_n 3, 1), (659, .iconst 1, 1), (660, .iadd, 1), (661, .iaload, 1), (662, .aload_n 0, 1), (663, .iload_n 3, 1), (664, .iconst 2, 1), (665, .iadd, 1), (666, .iaload, 1), (667, .invokevirtual 75, 3), (670, .pop, 1), (671, .aload_n 2, 1), (672, .aload_n 0, 1), (673, .iload_n 3, 1), (674, .iconst 1, 1), (675, .iadd, 1), (676, .iaload, 1), (677, .aload_n 0, 1), (678, .iload_n 3, 1), (679, .iconst 2, 1), (680, .iadd, 1), (681, .iaload, 1), (682, .invokevirtual 78, 3), (685, .pop, 1), (686, .goto 656, 3)]
set_option maxRecDepth 100000 in
theorem hp_lc_wish : pr_lc_wish.all (fun x => decide (decode code x.1 = .ok x.2)) = true := by decide +kernel
set_option maxHeartbeats 4000000 in
set_option maxRecDepth 100000 in
theorem lc_wish {p : Program} {l : Launch} {e : Env} {s : State} {m : MethodId} {below : List Frame} {meth : Method} {c : Code} {cells slots : Nat} {Q : State → Prop} {b L : Nat} {xs : Nat → Int32} {D : va_G} {kA : Nat → ClassId} (hc : zLc p s m c b L xs D kA) {x y : Nat} {i : Int} {u v : va_W} {H : Heap} {locs : List Loc} {ls : Array Slot} (hi : zLi s b D kA x y i u v H locs ls) (i0 : 0 ≤ i) (i1 : i + 5 ≤ (L : Int)) (hroom : cells ≤ room_1.cells ∧ slots ≤ room_1.slots)
    (kk : ∀ (u v : va_W) (H : Heap) (locs : List Loc), zLi s b D kA x y i u v H locs ls → W p l e room_1 s m #[Value.ref b] below meth c H locs cells slots Q (F0 m 1342 ls [])) : W p l e room_1 s m #[Value.ref b] below meth c H locs cells slots Q (F0 m 656 ls []) := by
  obtain ⟨hx, hb, hml, hown, hts, hX, hbl, hK, hx0, hL⟩ := hc
  obtain ⟨r7, r8, hu, hv, hp, hP, hD, hS, hl⟩ := hi
  have hA : ∀ q : Nat, s.heap.size ≤ q → (fun q : Nat => s.heap.size ≤ q) q := fun _ h => h
  have hbA : ¬ (fun q : Nat => s.heap.size ≤ q) b := Nat.not_le.mpr hbl
  have hd := zpr_all hp_lc_wish
  refine lv_aload_n hx hb (hd 656 (.aload_n 1) 1 rfl) rfl (lv_at hl 2 rfl) ?_
  refine lv_aload_n hx hb (hd 657 (.aload_n 0) 1 rfl) rfl (lv_at hl 3 rfl) ?_
  refine lv_iload_n hx hb (hd 658 (.iload_n 3) 1 rfl) rfl (lv_at hl 0 rfl) ?_
  refine lv_iconst (v := Int32.ofInt 1) hx hb (hd 659 (.iconst 1) 1 rfl) (by decide) ?_
  refine zh_iadd hx hb (hd 660 .iadd 1 rfl) ?_
  refine zl_ld hx hb hX hbl hbA hS (x := i + 1) (by omega) (by omega) hL (hd 661 .iaload 1 rfl) ?_
  refine lv_aload_n hx hb (hd 662 (.aload_n 0) 1 rfl) rfl (lv_at hl 3 rfl) ?_
  refine lv_iload_n hx hb (hd 663 (.iload_n 3) 1 rfl) rfl (lv_at hl 0 rfl) ?_
  refine lv_iconst (v := Int32.ofInt 2) hx hb (hd 664 (.iconst 2) 1 rfl) (by decide) ?_
  refine zh_iadd hx hb (hd 665 .iadd 1 rfl) ?_
  refine zl_ld hx hb hX hbl hbA hS (x := i + 2) (by omega) (by omega) hL (hd 666 .iaload 1 rfl) ?_
  refine zlawR (vs := [xs (i + 1).toNat, xs (i + 2).toNat]) (rest := []) zX_ok ⟨hx, hb, hml, hown, hts⟩ (c_X7_wish zX_ok zX_n l) (cwV 2 hts gL_law_X7_wish rfl rfl rfl (by decide +kernel) ⟨Nat.le_of_ble_eq_true rfl, Nat.le_of_ble_eq_true rfl⟩) (I := I_V) (K0 := 68) (bs := [((-2147483648), 2147483647), ((-2147483648), 2147483647)]) rfl rfl rfl rfl rfl rfl ⟨7, _, _, _, rfl, rfl⟩ lk7_wish rfl rfl (zbsR_ok ⟨zq_rng _, ⟨zq_rng _, trivial⟩⟩) hK hu hP hD hS hA hx0 (lv_sub hl [] rfl) (Nat.le_of_ble_eq_true rfl) (hd 667 (.invokevirtual 75) 3 rfl) hroom (fun T1 hT1 r1 ad1 u H locs q1 e1 p1 w1 hu hP hD hS => ?_)
  obtain ⟨zz1, hzz1⟩ := zst1_i (k := k_X7_wish) (by decide +kernel) hT1 r1 ad1 []
  rw [hzz1]
  refine lv_pop hx hb (hd 670 .pop 1 rfl) rfl ?_
  refine lv_aload_n hx hb (hd 671 (.aload_n 2) 1 rfl) rfl (lv_at hl 1 rfl) ?_
  refine lv_aload_n hx hb (hd 672 (.aload_n 0) 1 rfl) rfl (lv_at hl 3 rfl) ?_
  refine lv_iload_n hx hb (hd 673 (.iload_n 3) 1 rfl) rfl (lv_at hl 0 rfl) ?_
  refine lv_iconst (v := Int32.ofInt 1) hx hb (hd 674 (.iconst 1) 1 rfl) (by decide) ?_
  refine zh_iadd hx hb (hd 675 .iadd 1 rfl) ?_
  refine zl_ld hx hb hX hbl hbA hS (x := i + 1) (by omega) (by omega) hL (hd 676 .iaload 1 rfl) ?_
  refine lv_aload_n hx hb (hd 677 (.aload_n 0) 1 rfl) rfl (lv_at hl 3 rfl) ?_
  refine lv_iload_n hx hb (hd 678 (.iload_n 3) 1 rfl) rfl (lv_at hl 0 rfl) ?_
  refine lv_iconst (v := Int32.ofInt 2) hx hb (hd 679 (.iconst 2) 1 rfl) (by decide) ?_
  refine zh_iadd hx hb (hd 680 .iadd 1 rfl) ?_
  refine zl_ld hx hb hX hbl hbA hS (x := i + 2) (by omega) (by omega) hL (hd 681 .iaload 1 rfl) ?_
  refine zlawR (vs := [xs (i + 1).toNat, xs (i + 2).toNat]) (rest := []) zX_ok ⟨hx, hb, hml, hown, hts⟩ (c_X8_wish zX_ok zX_n l) (cwV 2 hts gL_law_X8_wish rfl rfl rfl (by decide +kernel) ⟨Nat.le_of_ble_eq_true rfl, Nat.le_of_ble_eq_true rfl⟩) (I := I_M) (K0 := 30) (bs := [((-2147483648), 2147483647), ((-2147483648), 2147483647)]) rfl rfl rfl rfl rfl rfl ⟨8, _, _, _, rfl, rfl⟩ lk8_wish rfl rfl (zbsR_ok ⟨zq_rng _, ⟨zq_rng _, trivial⟩⟩) hK hv hP hD hS hA hx0 (lv_sub hl [] rfl) (Nat.le_of_ble_eq_true rfl) (hd 682 (.invokevirtual 78) 3 rfl) hroom (fun T2 hT2 r2 ad2 v H locs q2 e2 p2 w2 hv hP hD hS => ?_)
  obtain ⟨zz2, hzz2⟩ := zst1_i (k := k_X8_wish) (by decide +kernel) hT2 r2 ad2 []
  rw [hzz2]
  refine lv_pop hx hb (hd 685 .pop 1 rfl) rfl ?_
  refine lv_goto (tgt := 1342) hx hb (hd 686 (.goto 656) 3 rfl) (by decide) ?_
  have hp := zunP un7_wish un8_wish zWP_b hT1 hT2 p1 p2 hp
  exact kk u v H locs ⟨_, _, hu, hv, hp, hP, hD, hS, hl⟩
def pr_lc_drop : List (Nat × Instr × Nat) := [(689, .aload_n 1, 1), (690, .aload_n 0, 1), (691, .iload_n 3, 1), (692, .iconst 1, 1), (693, .iadd, 1), (694, .iaload, 1), (695, .aload_n 0, 1), (696, .iload_n 3, 1), (697, .iconst 2, 1), (698, .iadd, 1), (699, .iaload, 1), (700, .invokevirtual 79, 3), (703, .pop, 1), (704, .aload_n 2, 1), (705, .aload_n 0, 1), (706, .iload_n 3, 1), (707, .iconst 1, 1), (708, .iadd, 1), (709, .iaload, 1), (710, .aload_n 0, 1), (711, .iload_n 3, 1), (712, .iconst 2, 1), (713, .iadd, 1), (714, .iaload, 1), (715, .invokevirtual 82, 3), (718, .pop, 1), (719, .goto 623, 3)]
set_option maxRecDepth 100000 in
theorem hp_lc_drop : pr_lc_drop.all (fun x => decide (decode code x.1 = .ok x.2)) = true := by decide +kernel
set_option maxHeartbeats 4000000 in
set_option maxRecDepth 100000 in
theorem lc_drop {p : Program} {l : Launch} {e : Env} {s : State} {m : MethodId} {below : List Frame} {meth : Method} {c : Code} {cells slots : Nat} {Q : State → Prop} {b L : Nat} {xs : Nat → Int32} {D : va_G} {kA : Nat → ClassId} (hc : zLc p s m c b L xs D kA) {x y : Nat} {i : Int} {u v : va_W} {H : Heap} {locs : List Loc} {ls : Array Slot} (hi : zLi s b D kA x y i u v H locs ls) (i0 : 0 ≤ i) (i1 : i + 5 ≤ (L : Int)) (hroom : cells ≤ room_1.cells ∧ slots ≤ room_1.slots)
    (kk : ∀ (u v : va_W) (H : Heap) (locs : List Loc), zLi s b D kA x y i u v H locs ls → W p l e room_1 s m #[Value.ref b] below meth c H locs cells slots Q (F0 m 1342 ls [])) : W p l e room_1 s m #[Value.ref b] below meth c H locs cells slots Q (F0 m 689 ls []) := by
  obtain ⟨hx, hb, hml, hown, hts, hX, hbl, hK, hx0, hL⟩ := hc
  obtain ⟨r7, r8, hu, hv, hp, hP, hD, hS, hl⟩ := hi
  have hA : ∀ q : Nat, s.heap.size ≤ q → (fun q : Nat => s.heap.size ≤ q) q := fun _ h => h
  have hbA : ¬ (fun q : Nat => s.heap.size ≤ q) b := Nat.not_le.mpr hbl
  have hd := zpr_all hp_lc_drop
  refine lv_aload_n hx hb (hd 689 (.aload_n 1) 1 rfl) rfl (lv_at hl 2 rfl) ?_
  refine lv_aload_n hx hb (hd 690 (.aload_n 0) 1 rfl) rfl (lv_at hl 3 rfl) ?_
  refine lv_iload_n hx hb (hd 691 (.iload_n 3) 1 rfl) rfl (lv_at hl 0 rfl) ?_
  refine lv_iconst (v := Int32.ofInt 1) hx hb (hd 692 (.iconst 1) 1 rfl) (by decide) ?_
  refine zh_iadd hx hb (hd 693 .iadd 1 rfl) ?_
  refine zl_ld hx hb hX hbl hbA hS (x := i + 1) (by omega) (by omega) hL (hd 694 .iaload 1 rfl) ?_
  refine lv_aload_n hx hb (hd 695 (.aload_n 0) 1 rfl) rfl (lv_at hl 3 rfl) ?_
  refine lv_iload_n hx hb (hd 696 (.iload_n 3) 1 rfl) rfl (lv_at hl 0 rfl) ?_
  refine lv_iconst (v := Int32.ofInt 2) hx hb (hd 697 (.iconst 2) 1 rfl) (by decide) ?_
  refine zh_iadd hx hb (hd 698 .iadd 1 rfl) ?_
  refine zl_ld hx hb hX hbl hbA hS (x := i + 2) (by omega) (by omega) hL (hd 699 .iaload 1 rfl) ?_
  refine zlawR (vs := [xs (i + 1).toNat, xs (i + 2).toNat]) (rest := []) zX_ok ⟨hx, hb, hml, hown, hts⟩ (c_X7_drop zX_ok zX_n l) (cwV 2 hts gL_law_X7_drop rfl rfl rfl (by decide +kernel) ⟨Nat.le_of_ble_eq_true rfl, Nat.le_of_ble_eq_true rfl⟩) (I := I_V) (K0 := 68) (bs := [((-2147483648), 2147483647), ((-2147483648), 2147483647)]) rfl rfl rfl rfl rfl rfl ⟨7, _, _, _, rfl, rfl⟩ lk7_drop rfl rfl (zbsR_ok ⟨zq_rng _, ⟨zq_rng _, trivial⟩⟩) hK hu hP hD hS hA hx0 (lv_sub hl [] rfl) (Nat.le_of_ble_eq_true rfl) (hd 700 (.invokevirtual 79) 3 rfl) hroom (fun T1 hT1 r1 ad1 u H locs q1 e1 p1 w1 hu hP hD hS => ?_)
  obtain ⟨zz1, hzz1⟩ := zst1_i (k := k_X7_drop) (by decide +kernel) hT1 r1 ad1 []
  rw [hzz1]
  refine lv_pop hx hb (hd 703 .pop 1 rfl) rfl ?_
  refine lv_aload_n hx hb (hd 704 (.aload_n 2) 1 rfl) rfl (lv_at hl 1 rfl) ?_
  refine lv_aload_n hx hb (hd 705 (.aload_n 0) 1 rfl) rfl (lv_at hl 3 rfl) ?_
  refine lv_iload_n hx hb (hd 706 (.iload_n 3) 1 rfl) rfl (lv_at hl 0 rfl) ?_
  refine lv_iconst (v := Int32.ofInt 1) hx hb (hd 707 (.iconst 1) 1 rfl) (by decide) ?_
  refine zh_iadd hx hb (hd 708 .iadd 1 rfl) ?_
  refine zl_ld hx hb hX hbl hbA hS (x := i + 1) (by omega) (by omega) hL (hd 709 .iaload 1 rfl) ?_
  refine lv_aload_n hx hb (hd 710 (.aload_n 0) 1 rfl) rfl (lv_at hl 3 rfl) ?_
  refine lv_iload_n hx hb (hd 711 (.iload_n 3) 1 rfl) rfl (lv_at hl 0 rfl) ?_
  refine lv_iconst (v := Int32.ofInt 2) hx hb (hd 712 (.iconst 2) 1 rfl) (by decide) ?_
  refine zh_iadd hx hb (hd 713 .iadd 1 rfl) ?_
  refine zl_ld hx hb hX hbl hbA hS (x := i + 2) (by omega) (by omega) hL (hd 714 .iaload 1 rfl) ?_
  refine zlawR (vs := [xs (i + 1).toNat, xs (i + 2).toNat]) (rest := []) zX_ok ⟨hx, hb, hml, hown, hts⟩ (c_X8_drop zX_ok zX_n l) (cwV 2 hts gL_law_X8_drop rfl rfl rfl (by decide +kernel) ⟨Nat.le_of_ble_eq_true rfl, Nat.le_of_ble_eq_true rfl⟩) (I := I_M) (K0 := 30) (bs := [((-2147483648), 2147483647), ((-2147483648), 2147483647)]) rfl rfl rfl rfl rfl rfl ⟨8, _, _, _, rfl, rfl⟩ lk8_drop rfl rfl (zbsR_ok ⟨zq_rng _, ⟨zq_rng _, trivial⟩⟩) hK hv hP hD hS hA hx0 (lv_sub hl [] rfl) (Nat.le_of_ble_eq_true rfl) (hd 715 (.invokevirtual 82) 3 rfl) hroom (fun T2 hT2 r2 ad2 v H locs q2 e2 p2 w2 hv hP hD hS => ?_)
  obtain ⟨zz2, hzz2⟩ := zst1_i (k := k_X8_drop) (by decide +kernel) hT2 r2 ad2 []
  rw [hzz2]
  refine lv_pop hx hb (hd 718 .pop 1 rfl) rfl ?_
  refine lv_goto (tgt := 1342) hx hb (hd 719 (.goto 623) 3 rfl) (by decide) ?_
  have hp := zunP un7_drop un8_drop zWP_b hT1 hT2 p1 p2 hp
  exact kk u v H locs ⟨_, _, hu, hv, hp, hP, hD, hS, hl⟩
def pr_lc_move : List (Nat × Instr × Nat) := [(722, .aload_n 1, 1), (723, .aload_n 0, 1), (724, .iload_n 3, 1), (725, .iconst 1, 1), (726, .iadd, 1), (727, .iaload, 1), (728, .aload_n 0, 1), (729, .iload_n 3, 1), (730, .iconst 2, 1), (731, .iadd, 1), (732, .iaload, 1), (733, .invokevirtual 83, 3), (736, .pop, 1), (737, .aload_n 2, 1), (738, .aload_n 0, 1), (739, .iload_n 3, 1), (740, .iconst 1, 1), (741, .iadd, 1), (742, .iaload, 1), (743, .aload_n 0, 1), (744, .iload_n 3, 1), (745, .iconst 2, 1), (746, .iadd, 1), (747, .iaload, 1), (748, .invokevirtual 86, 3), (751, .pop, 1), (752, .goto 590, 3)]
set_option maxRecDepth 100000 in
theorem hp_lc_move : pr_lc_move.all (fun x => decide (decode code x.1 = .ok x.2)) = true := by decide +kernel
set_option maxHeartbeats 4000000 in
set_option maxRecDepth 100000 in
theorem lc_move {p : Program} {l : Launch} {e : Env} {s : State} {m : MethodId} {below : List Frame} {meth : Method} {c : Code} {cells slots : Nat} {Q : State → Prop} {b L : Nat} {xs : Nat → Int32} {D : va_G} {kA : Nat → ClassId} (hc : zLc p s m c b L xs D kA) {x y : Nat} {i : Int} {u v : va_W} {H : Heap} {locs : List Loc} {ls : Array Slot} (hi : zLi s b D kA x y i u v H locs ls) (i0 : 0 ≤ i) (i1 : i + 5 ≤ (L : Int)) (hroom : cells ≤ room_1.cells ∧ slots ≤ room_1.slots)
    (kk : ∀ (u v : va_W) (H : Heap) (locs : List Loc), zLi s b D kA x y i u v H locs ls → W p l e room_1 s m #[Value.ref b] below meth c H locs cells slots Q (F0 m 1342 ls [])) : W p l e room_1 s m #[Value.ref b] below meth c H locs cells slots Q (F0 m 722 ls []) := by
  obtain ⟨hx, hb, hml, hown, hts, hX, hbl, hK, hx0, hL⟩ := hc
  obtain ⟨r7, r8, hu, hv, hp, hP, hD, hS, hl⟩ := hi
  have hA : ∀ q : Nat, s.heap.size ≤ q → (fun q : Nat => s.heap.size ≤ q) q := fun _ h => h
  have hbA : ¬ (fun q : Nat => s.heap.size ≤ q) b := Nat.not_le.mpr hbl
  have hd := zpr_all hp_lc_move
  refine lv_aload_n hx hb (hd 722 (.aload_n 1) 1 rfl) rfl (lv_at hl 2 rfl) ?_
  refine lv_aload_n hx hb (hd 723 (.aload_n 0) 1 rfl) rfl (lv_at hl 3 rfl) ?_
  refine lv_iload_n hx hb (hd 724 (.iload_n 3) 1 rfl) rfl (lv_at hl 0 rfl) ?_
  refine lv_iconst (v := Int32.ofInt 1) hx hb (hd 725 (.iconst 1) 1 rfl) (by decide) ?_
  refine zh_iadd hx hb (hd 726 .iadd 1 rfl) ?_
  refine zl_ld hx hb hX hbl hbA hS (x := i + 1) (by omega) (by omega) hL (hd 727 .iaload 1 rfl) ?_
  refine lv_aload_n hx hb (hd 728 (.aload_n 0) 1 rfl) rfl (lv_at hl 3 rfl) ?_
  refine lv_iload_n hx hb (hd 729 (.iload_n 3) 1 rfl) rfl (lv_at hl 0 rfl) ?_
  refine lv_iconst (v := Int32.ofInt 2) hx hb (hd 730 (.iconst 2) 1 rfl) (by decide) ?_
  refine zh_iadd hx hb (hd 731 .iadd 1 rfl) ?_
  refine zl_ld hx hb hX hbl hbA hS (x := i + 2) (by omega) (by omega) hL (hd 732 .iaload 1 rfl) ?_
  refine zlawR (vs := [xs (i + 1).toNat, xs (i + 2).toNat]) (rest := []) zX_ok ⟨hx, hb, hml, hown, hts⟩ (c_X7_move zX_ok zX_n l) (cwV 2 hts gL_law_X7_move rfl rfl rfl (by decide +kernel) ⟨Nat.le_of_ble_eq_true rfl, Nat.le_of_ble_eq_true rfl⟩) (I := I_V) (K0 := 68) (bs := [((-2147483648), 2147483647), ((-2147483648), 2147483647)]) rfl rfl rfl rfl rfl rfl ⟨7, _, _, _, rfl, rfl⟩ lk7_move rfl rfl (zbsR_ok ⟨zq_rng _, ⟨zq_rng _, trivial⟩⟩) hK hu hP hD hS hA hx0 (lv_sub hl [] rfl) (Nat.le_of_ble_eq_true rfl) (hd 733 (.invokevirtual 83) 3 rfl) hroom (fun T1 hT1 r1 ad1 u H locs q1 e1 p1 w1 hu hP hD hS => ?_)
  obtain ⟨zz1, hzz1⟩ := zst1_i (k := k_X7_move) (by decide +kernel) hT1 r1 ad1 []
  rw [hzz1]
  refine lv_pop hx hb (hd 736 .pop 1 rfl) rfl ?_
  refine lv_aload_n hx hb (hd 737 (.aload_n 2) 1 rfl) rfl (lv_at hl 1 rfl) ?_
  refine lv_aload_n hx hb (hd 738 (.aload_n 0) 1 rfl) rfl (lv_at hl 3 rfl) ?_
  refine lv_iload_n hx hb (hd 739 (.iload_n 3) 1 rfl) rfl (lv_at hl 0 rfl) ?_
  refine lv_iconst (v := Int32.ofInt 1) hx hb (hd 740 (.iconst 1) 1 rfl) (by decide) ?_
  refine zh_iadd hx hb (hd 741 .iadd 1 rfl) ?_
  refine zl_ld hx hb hX hbl hbA hS (x := i + 1) (by omega) (by omega) hL (hd 742 .iaload 1 rfl) ?_
  refine lv_aload_n hx hb (hd 743 (.aload_n 0) 1 rfl) rfl (lv_at hl 3 rfl) ?_
  refine lv_iload_n hx hb (hd 744 (.iload_n 3) 1 rfl) rfl (lv_at hl 0 rfl) ?_
  refine lv_iconst (v := Int32.ofInt 2) hx hb (hd 745 (.iconst 2) 1 rfl) (by decide) ?_
  refine zh_iadd hx hb (hd 746 .iadd 1 rfl) ?_
  refine zl_ld hx hb hX hbl hbA hS (x := i + 2) (by omega) (by omega) hL (hd 747 .iaload 1 rfl) ?_
  refine zlawR (vs := [xs (i + 1).toNat, xs (i + 2).toNat]) (rest := []) zX_ok ⟨hx, hb, hml, hown, hts⟩ (c_X8_move zX_ok zX_n l) (cwV 2 hts gL_law_X8_move rfl rfl rfl (by decide +kernel) ⟨Nat.le_of_ble_eq_true rfl, Nat.le_of_ble_eq_true rfl⟩) (I := I_M) (K0 := 30) (bs := [((-2147483648), 2147483647), ((-2147483648), 2147483647)]) rfl rfl rfl rfl rfl rfl ⟨8, _, _, _, rfl, rfl⟩ lk8_move rfl rfl (zbsR_ok ⟨zq_rng _, ⟨zq_rng _, trivial⟩⟩) hK hv hP hD hS hA hx0 (lv_sub hl [] rfl) (Nat.le_of_ble_eq_true rfl) (hd 748 (.invokevirtual 86) 3 rfl) hroom (fun T2 hT2 r2 ad2 v H locs q2 e2 p2 w2 hv hP hD hS => ?_)
  obtain ⟨zz2, hzz2⟩ := zst1_i (k := k_X8_move) (by decide +kernel) hT2 r2 ad2 []
  rw [hzz2]
  refine lv_pop hx hb (hd 751 .pop 1 rfl) rfl ?_
  refine lv_goto (tgt := 1342) hx hb (hd 752 (.goto 590) 3 rfl) (by decide) ?_
  have hp := zunP un7_move un8_move zWP_b hT1 hT2 p1 p2 hp
  exact kk u v H locs ⟨_, _, hu, hv, hp, hP, hD, hS, hl⟩
def pr_lc_go : List (Nat × Instr × Nat) := [(755, .aload_n 1, 1), (756, .aload_n 0, 1), (757, .iload_n 3, 1), (758, .iconst 1, 1), (759, .iadd, 1), (760, .iaload, 1), (761, .invokevirtual 87, 3), (764, .pop, 1), (765, .aload_n 2, 1), (766, .aload_n 0, 1), (767, .iload_n 3, 1), (768, .iconst 1, 1), (769, .iadd, 1), (770, .iaload, 1), (771, .invokevirtual 90, 3), (774, .pop, 1), (775, .goto 567, 3)]
set_option maxRecDepth 100000 in
theorem hp_lc_go : pr_lc_go.all (fun x => decide (decode code x.1 = .ok x.2)) = true := by decide +kernel
set_option maxHeartbeats 4000000 in
set_option maxRecDepth 100000 in
theorem lc_go {p : Program} {l : Launch} {e : Env} {s : State} {m : MethodId} {below : List Frame} {meth : Method} {c : Code} {cells slots : Nat} {Q : State → Prop} {b L : Nat} {xs : Nat → Int32} {D : va_G} {kA : Nat → ClassId} (hc : zLc p s m c b L xs D kA) {x y : Nat} {i : Int} {u v : va_W} {H : Heap} {locs : List Loc} {ls : Array Slot} (hi : zLi s b D kA x y i u v H locs ls) (i0 : 0 ≤ i) (i1 : i + 5 ≤ (L : Int)) (hroom : cells ≤ room_1.cells ∧ slots ≤ room_1.slots)
    (kk : ∀ (u v : va_W) (H : Heap) (locs : List Loc), zLi s b D kA x y i u v H locs ls → W p l e room_1 s m #[Value.ref b] below meth c H locs cells slots Q (F0 m 1342 ls [])) : W p l e room_1 s m #[Value.ref b] below meth c H locs cells slots Q (F0 m 755 ls []) := by
  obtain ⟨hx, hb, hml, hown, hts, hX, hbl, hK, hx0, hL⟩ := hc
  obtain ⟨r7, r8, hu, hv, hp, hP, hD, hS, hl⟩ := hi
  have hA : ∀ q : Nat, s.heap.size ≤ q → (fun q : Nat => s.heap.size ≤ q) q := fun _ h => h
  have hbA : ¬ (fun q : Nat => s.heap.size ≤ q) b := Nat.not_le.mpr hbl
  have hd := zpr_all hp_lc_go
  refine lv_aload_n hx hb (hd 755 (.aload_n 1) 1 rfl) rfl (lv_at hl 2 rfl) ?_
  refine lv_aload_n hx hb (hd 756 (.aload_n 0) 1 rfl) rfl (lv_at hl 3 rfl) ?_
  refine lv_iload_n hx hb (hd 757 (.iload_n 3) 1 rfl) rfl (lv_at hl 0 rfl) ?_
  refine lv_iconst (v := Int32.ofInt 1) hx hb (hd 758 (.iconst 1) 1 rfl) (by decide) ?_
  refine zh_iadd hx hb (hd 759 .iadd 1 rfl) ?_
  refine zl_ld hx hb hX hbl hbA hS (x := i + 1) (by omega) (by omega) hL (hd 760 .iaload 1 rfl) ?_
  refine zlawR (vs := [xs (i + 1).toNat]) (rest := []) zX_ok ⟨hx, hb, hml, hown, hts⟩ (c_X7_go zX_ok zX_n l) (cwV 1 hts gL_law_X7_go rfl rfl rfl (by decide +kernel) ⟨Nat.le_of_ble_eq_true rfl, Nat.le_of_ble_eq_true rfl⟩) (I := I_V) (K0 := 68) (bs := [((-2147483648), 2147483647)]) rfl rfl rfl rfl rfl rfl ⟨7, _, _, _, rfl, rfl⟩ lk7_go rfl rfl (zbsR_ok ⟨zq_rng _, trivial⟩) hK hu hP hD hS hA hx0 (lv_sub hl [] rfl) (Nat.le_of_ble_eq_true rfl) (hd 761 (.invokevirtual 87) 3 rfl) hroom (fun T1 hT1 r1 ad1 u H locs q1 e1 p1 w1 hu hP hD hS => ?_)
  obtain ⟨zz1, hzz1⟩ := zst1_i (k := k_X7_go) (by decide +kernel) hT1 r1 ad1 []
  rw [hzz1]
  refine lv_pop hx hb (hd 764 .pop 1 rfl) rfl ?_
  refine lv_aload_n hx hb (hd 765 (.aload_n 2) 1 rfl) rfl (lv_at hl 1 rfl) ?_
  refine lv_aload_n hx hb (hd 766 (.aload_n 0) 1 rfl) rfl (lv_at hl 3 rfl) ?_
  refine lv_iload_n hx hb (hd 767 (.iload_n 3) 1 rfl) rfl (lv_at hl 0 rfl) ?_
  refine lv_iconst (v := Int32.ofInt 1) hx hb (hd 768 (.iconst 1) 1 rfl) (by decide) ?_
  refine zh_iadd hx hb (hd 769 .iadd 1 rfl) ?_
  refine zl_ld hx hb hX hbl hbA hS (x := i + 1) (by omega) (by omega) hL (hd 770 .iaload 1 rfl) ?_
  refine zlawR (vs := [xs (i + 1).toNat]) (rest := []) zX_ok ⟨hx, hb, hml, hown, hts⟩ (c_X8_go zX_ok zX_n l) (cwV 1 hts gL_law_X8_go rfl rfl rfl (by decide +kernel) ⟨Nat.le_of_ble_eq_true rfl, Nat.le_of_ble_eq_true rfl⟩) (I := I_M) (K0 := 30) (bs := [((-2147483648), 2147483647)]) rfl rfl rfl rfl rfl rfl ⟨8, _, _, _, rfl, rfl⟩ lk8_go rfl rfl (zbsR_ok ⟨zq_rng _, trivial⟩) hK hv hP hD hS hA hx0 (lv_sub hl [] rfl) (Nat.le_of_ble_eq_true rfl) (hd 771 (.invokevirtual 90) 3 rfl) hroom (fun T2 hT2 r2 ad2 v H locs q2 e2 p2 w2 hv hP hD hS => ?_)
  obtain ⟨zz2, hzz2⟩ := zst1_i (k := k_X8_go) (by decide +kernel) hT2 r2 ad2 []
  rw [hzz2]
  refine lv_pop hx hb (hd 774 .pop 1 rfl) rfl ?_
  refine lv_goto (tgt := 1342) hx hb (hd 775 (.goto 567) 3 rfl) (by decide) ?_
  have hp := zunP un7_go un8_go zWP_b hT1 hT2 p1 p2 hp
  exact kk u v H locs ⟨_, _, hu, hv, hp, hP, hD, hS, hl⟩
