def pr_lc_luck : List (Nat × Instr × Nat) := [(1045, .aload_n 1, 1), (1046, .aload_n 0, 1), (1047, .iload_n 3, 1), (1048, .iconst 1, 1), (1049, .iadd, 1), (1050, .iaload, 1), (1051, .aload_n 0, 1), (1052, .iload_n 3, 1), (1053, .iconst 2, 1), (1054, .iadd, 1), (1055, .iaload, 1), (1056, .invokevirtual 129, 3), (1059, .pop2, 1), (1060, .aload_n 2, 1), (1061, .aload_n 0, 1), (1062, .iload_n 3, 1), (1063, .iconst 1, 1), (1064, .iadd, 1), (1065, .iaload, 1), (1066, .aload_n 0, 1), (1067, .iload_n 3, 1), (1068, .iconst 2, 1), (1069, .iadd, 1), (1070, .iaload, 1), (1071, .invokevirtual 132, 3), (1074, .pop2, 1), (1075, .goto 267, 3)]
set_option maxRecDepth 100000 in
theorem hp_lc_luck : pr_lc_luck.all (fun x => decide (decode code x.1 = .ok x.2)) = true := by decide +kernel
set_option maxHeartbeats 4000000 in
set_option maxRecDepth 100000 in
theorem lc_luck {p : Program} {l : Launch} {e : Env} {s : State} {m : MethodId} {below : List Frame} {meth : Method} {c : Code} {cells slots : Nat} {Q : State → Prop} {b L : Nat} {xs : Nat → Int32} {D : va_G} {kA : Nat → ClassId} (hc : zLc p s m c b L xs D kA) {x y : Nat} {i : Int} {u v : va_W} {H : Heap} {locs : List Loc} {ls : Array Slot} (hi : zLi s b D kA x y i u v H locs ls) (i0 : 0 ≤ i) (i1 : i + 5 ≤ (L : Int)) (hroom : cells ≤ room_1.cells ∧ slots ≤ room_1.slots)
    (kk : ∀ (u v : va_W) (H : Heap) (locs : List Loc), zLi s b D kA x y i u v H locs ls → W p l e room_1 s m #[Value.ref b] below meth c H locs cells slots Q (F0 m 1342 ls [])) : W p l e room_1 s m #[Value.ref b] below meth c H locs cells slots Q (F0 m 1045 ls []) := by
  obtain ⟨hx, hb, hml, hown, hts, hX, hbl, hK, hx0, hL⟩ := hc
  obtain ⟨r7, r8, hu, hv, hp, hP, hD, hS, hl⟩ := hi
  have hA : ∀ q : Nat, s.heap.size ≤ q → (fun q : Nat => s.heap.size ≤ q) q := fun _ h => h
  have hbA : ¬ (fun q : Nat => s.heap.size ≤ q) b := Nat.not_le.mpr hbl
  have hd := zpr_all hp_lc_luck
  refine lv_aload_n hx hb (hd 1045 (.aload_n 1) 1 rfl) rfl (lv_at hl 2 rfl) ?_
  refine lv_aload_n hx hb (hd 1046 (.aload_n 0) 1 rfl) rfl (lv_at hl 3 rfl) ?_
  refine lv_iload_n hx hb (hd 1047 (.iload_n 3) 1 rfl) rfl (lv_at hl 0 rfl) ?_
  refine lv_iconst (v := Int32.ofInt 1) hx hb (hd 1048 (.iconst 1) 1 rfl) (by decide) ?_
  refine zh_iadd hx hb (hd 1049 .iadd 1 rfl) ?_
  refine zl_ld hx hb hX hbl hbA hS (x := i + 1) (by omega) (by omega) hL (hd 1050 .iaload 1 rfl) ?_
  refine lv_aload_n hx hb (hd 1051 (.aload_n 0) 1 rfl) rfl (lv_at hl 3 rfl) ?_
  refine lv_iload_n hx hb (hd 1052 (.iload_n 3) 1 rfl) rfl (lv_at hl 0 rfl) ?_
  refine lv_iconst (v := Int32.ofInt 2) hx hb (hd 1053 (.iconst 2) 1 rfl) (by decide) ?_
  refine zh_iadd hx hb (hd 1054 .iadd 1 rfl) ?_
  refine zl_ld hx hb hX hbl hbA hS (x := i + 2) (by omega) (by omega) hL (hd 1055 .iaload 1 rfl) ?_
  refine zlawR (vs := [xs (i + 1).toNat, xs (i + 2).toNat]) (rest := []) zX_ok ⟨hx, hb, hml, hown, hts⟩ (c_X7_luck zX_ok zX_n l) (cwV 2 hts gL_law_X7_luck rfl rfl rfl (by decide +kernel) ⟨Nat.le_of_ble_eq_true rfl, Nat.le_of_ble_eq_true rfl⟩) (I := I_V) (K0 := 68) (bs := [((-2147483648), 2147483647), ((-2147483648), 2147483647)]) rfl rfl rfl rfl rfl rfl ⟨7, _, _, _, rfl, rfl⟩ lk7_luck rfl rfl (zbsR_ok ⟨zq_rng _, ⟨zq_rng _, trivial⟩⟩) hK hu hP hD hS hA hx0 (lv_sub hl [] rfl) (Nat.le_of_ble_eq_true rfl) (hd 1056 (.invokevirtual 129) 3 rfl) hroom (fun T1 hT1 r1 ad1 u H locs q1 e1 p1 w1 hu hP hD hS => ?_)
  obtain ⟨zz1, hzz1⟩ := zst1_l (k := k_X7_luck) (by decide +kernel) hT1 r1 ad1 []
  rw [hzz1]
  refine lv_pop2_2 hx hb (hd 1059 .pop2 1 rfl) rfl ?_
  refine lv_aload_n hx hb (hd 1060 (.aload_n 2) 1 rfl) rfl (lv_at hl 1 rfl) ?_
  refine lv_aload_n hx hb (hd 1061 (.aload_n 0) 1 rfl) rfl (lv_at hl 3 rfl) ?_
  refine lv_iload_n hx hb (hd 1062 (.iload_n 3) 1 rfl) rfl (lv_at hl 0 rfl) ?_
  refine lv_iconst (v := Int32.ofInt 1) hx hb (hd 1063 (.iconst 1) 1 rfl) (by decide) ?_
  refine zh_iadd hx hb (hd 1064 .iadd 1 rfl) ?_
  refine zl_ld hx hb hX hbl hbA hS (x := i + 1) (by omega) (by omega) hL (hd 1065 .iaload 1 rfl) ?_
  refine lv_aload_n hx hb (hd 1066 (.aload_n 0) 1 rfl) rfl (lv_at hl 3 rfl) ?_
  refine lv_iload_n hx hb (hd 1067 (.iload_n 3) 1 rfl) rfl (lv_at hl 0 rfl) ?_
  refine lv_iconst (v := Int32.ofInt 2) hx hb (hd 1068 (.iconst 2) 1 rfl) (by decide) ?_
  refine zh_iadd hx hb (hd 1069 .iadd 1 rfl) ?_
  refine zl_ld hx hb hX hbl hbA hS (x := i + 2) (by omega) (by omega) hL (hd 1070 .iaload 1 rfl) ?_
  refine zlawR (vs := [xs (i + 1).toNat, xs (i + 2).toNat]) (rest := []) zX_ok ⟨hx, hb, hml, hown, hts⟩ (c_X8_luck zX_ok zX_n l) (cwV 2 hts gL_law_X8_luck rfl rfl rfl (by decide +kernel) ⟨Nat.le_of_ble_eq_true rfl, Nat.le_of_ble_eq_true rfl⟩) (I := I_M) (K0 := 30) (bs := [((-2147483648), 2147483647), ((-2147483648), 2147483647)]) rfl rfl rfl rfl rfl rfl ⟨8, _, _, _, rfl, rfl⟩ lk8_luck rfl rfl (zbsR_ok ⟨zq_rng _, ⟨zq_rng _, trivial⟩⟩) hK hv hP hD hS hA hx0 (lv_sub hl [] rfl) (Nat.le_of_ble_eq_true rfl) (hd 1071 (.invokevirtual 132) 3 rfl) hroom (fun T2 hT2 r2 ad2 v H locs q2 e2 p2 w2 hv hP hD hS => ?_)
  obtain ⟨zz2, hzz2⟩ := zst1_l (k := k_X8_luck) (by decide +kernel) hT2 r2 ad2 []
  rw [hzz2]
  refine lv_pop2_2 hx hb (hd 1074 .pop2 1 rfl) rfl ?_
  refine lv_goto (tgt := 1342) hx hb (hd 1075 (.goto 267) 3 rfl) (by decide) ?_
  have hp := zunP un7_luck un8_luck zWP_b hT1 hT2 p1 p2 hp
  exact kk u v H locs ⟨_, _, hu, hv, hp, hP, hD, hS, hl⟩
def pr_lc_drift : List (Nat × Instr × Nat) := [(1078, .aload_n 1, 1), (1079, .aload_n 0, 1), (1080, .iload_n 3, 1), (1081, .iconst 1, 1), (1082, .iadd, 1), (1083, .iaload, 1), (1084, .aload_n 0, 1), (1085, .iload_n 3, 1), (1086, .iconst 2, 1), (1087, .iadd, 1), (1088, .iaload, 1), (1089, .aload_n 0, 1), (1090, .iload_n 3, 1), (1091, .iconst 3, 1), (1092, .iadd, 1), (1093, .iaload, 1), (1094, .invokevirtual 133, 3), (1097, .pop, 1), (1098, .aload_n 2, 1), (1099, .aload_n 0, 1), (1100, .iload_n 3, 1), (1101, .iconst 1, 1), (1102, .iadd, 1), (1103, .iaload, 1), (1104, .aload_n 0, 1), (1105, .iload_n 3, 1), (1106, .iconst 2, 1), (1107, .iadd, 1), (1108, .iaload, 1), (1109, .aload_n 0, 1), (1110, .iload_n 3, 1), (1111, .iconst 3, 1), (1112, .iadd, 1), (1113, .iaload, 1), (1114, .invokevirtual 136, 3), (1117, .pop, 1), (1118, .goto 224, 3)]
set_option maxRecDepth 100000 in
theorem hp_lc_drift : pr_lc_drift.all (fun x => decide (decode code x.1 = .ok x.2)) = true := by decide +kernel
set_option maxHeartbeats 4000000 in
set_option maxRecDepth 100000 in
theorem lc_drift {p : Program} {l : Launch} {e : Env} {s : State} {m : MethodId} {below : List Frame} {meth : Method} {c : Code} {cells slots : Nat} {Q : State → Prop} {b L : Nat} {xs : Nat → Int32} {D : va_G} {kA : Nat → ClassId} (hc : zLc p s m c b L xs D kA) {x y : Nat} {i : Int} {u v : va_W} {H : Heap} {locs : List Loc} {ls : Array Slot} (hi : zLi s b D kA x y i u v H locs ls) (i0 : 0 ≤ i) (i1 : i + 5 ≤ (L : Int)) (hroom : cells ≤ room_1.cells ∧ slots ≤ room_1.slots)
    (kk : ∀ (u v : va_W) (H : Heap) (locs : List Loc), zLi s b D kA x y i u v H locs ls → W p l e room_1 s m #[Value.ref b] below meth c H locs cells slots Q (F0 m 1342 ls [])) : W p l e room_1 s m #[Value.ref b] below meth c H locs cells slots Q (F0 m 1078 ls []) := by
  obtain ⟨hx, hb, hml, hown, hts, hX, hbl, hK, hx0, hL⟩ := hc
  obtain ⟨r7, r8, hu, hv, hp, hP, hD, hS, hl⟩ := hi
  have hA : ∀ q : Nat, s.heap.size ≤ q → (fun q : Nat => s.heap.size ≤ q) q := fun _ h => h
  have hbA : ¬ (fun q : Nat => s.heap.size ≤ q) b := Nat.not_le.mpr hbl
  have hd := zpr_all hp_lc_drift
  refine lv_aload_n hx hb (hd 1078 (.aload_n 1) 1 rfl) rfl (lv_at hl 2 rfl) ?_
  refine lv_aload_n hx hb (hd 1079 (.aload_n 0) 1 rfl) rfl (lv_at hl 3 rfl) ?_
  refine lv_iload_n hx hb (hd 1080 (.iload_n 3) 1 rfl) rfl (lv_at hl 0 rfl) ?_
  refine lv_iconst (v := Int32.ofInt 1) hx hb (hd 1081 (.iconst 1) 1 rfl) (by decide) ?_
  refine zh_iadd hx hb (hd 1082 .iadd 1 rfl) ?_
  refine zl_ld hx hb hX hbl hbA hS (x := i + 1) (by omega) (by omega) hL (hd 1083 .iaload 1 rfl) ?_
  refine lv_aload_n hx hb (hd 1084 (.aload_n 0) 1 rfl) rfl (lv_at hl 3 rfl) ?_
  refine lv_iload_n hx hb (hd 1085 (.iload_n 3) 1 rfl) rfl (lv_at hl 0 rfl) ?_
  refine lv_iconst (v := Int32.ofInt 2) hx hb (hd 1086 (.iconst 2) 1 rfl) (by decide) ?_
  refine zh_iadd hx hb (hd 1087 .iadd 1 rfl) ?_
  refine zl_ld hx hb hX hbl hbA hS (x := i + 2) (by omega) (by omega) hL (hd 1088 .iaload 1 rfl) ?_
  refine lv_aload_n hx hb (hd 1089 (.aload_n 0) 1 rfl) rfl (lv_at hl 3 rfl) ?_
  refine lv_iload_n hx hb (hd 1090 (.iload_n 3) 1 rfl) rfl (lv_at hl 0 rfl) ?_
  refine lv_iconst (v := Int32.ofInt 3) hx hb (hd 1091 (.iconst 3) 1 rfl) (by decide) ?_
  refine zh_iadd hx hb (hd 1092 .iadd 1 rfl) ?_
  refine zl_ld hx hb hX hbl hbA hS (x := i + 3) (by omega) (by omega) hL (hd 1093 .iaload 1 rfl) ?_
  refine zlawR (vs := [xs (i + 1).toNat, xs (i + 2).toNat, xs (i + 3).toNat]) (rest := []) zX_ok ⟨hx, hb, hml, hown, hts⟩ (c_X7_drift zX_ok zX_n l) (cwV 3 hts gL_law_X7_drift rfl rfl rfl (by decide +kernel) ⟨Nat.le_of_ble_eq_true rfl, Nat.le_of_ble_eq_true rfl⟩) (I := I_V) (K0 := 68) (bs := [((-2147483648), 2147483647), ((-2147483648), 2147483647), ((-2147483648), 2147483647)]) rfl rfl rfl rfl rfl rfl ⟨7, _, _, _, rfl, rfl⟩ lk7_drift rfl rfl (zbsR_ok ⟨zq_rng _, ⟨zq_rng _, ⟨zq_rng _, trivial⟩⟩⟩) hK hu hP hD hS hA hx0 (lv_sub hl [] rfl) (Nat.le_of_ble_eq_true rfl) (hd 1094 (.invokevirtual 133) 3 rfl) hroom (fun T1 hT1 r1 ad1 u H locs q1 e1 p1 w1 hu hP hD hS => ?_)
  obtain ⟨zz1, hzz1⟩ := zst1_i (k := k_X7_drift) (by decide +kernel) hT1 r1 ad1 []
  rw [hzz1]
  refine lv_pop hx hb (hd 1097 .pop 1 rfl) rfl ?_
  refine lv_aload_n hx hb (hd 1098 (.aload_n 2) 1 rfl) rfl (lv_at hl 1 rfl) ?_
  refine lv_aload_n hx hb (hd 1099 (.aload_n 0) 1 rfl) rfl (lv_at hl 3 rfl) ?_
  refine lv_iload_n hx hb (hd 1100 (.iload_n 3) 1 rfl) rfl (lv_at hl 0 rfl) ?_
  refine lv_iconst (v := Int32.ofInt 1) hx hb (hd 1101 (.iconst 1) 1 rfl) (by decide) ?_
  refine zh_iadd hx hb (hd 1102 .iadd 1 rfl) ?_
  refine zl_ld hx hb hX hbl hbA hS (x := i + 1) (by omega) (by omega) hL (hd 1103 .iaload 1 rfl) ?_
  refine lv_aload_n hx hb (hd 1104 (.aload_n 0) 1 rfl) rfl (lv_at hl 3 rfl) ?_
  refine lv_iload_n hx hb (hd 1105 (.iload_n 3) 1 rfl) rfl (lv_at hl 0 rfl) ?_
  refine lv_iconst (v := Int32.ofInt 2) hx hb (hd 1106 (.iconst 2) 1 rfl) (by decide) ?_
  refine zh_iadd hx hb (hd 1107 .iadd 1 rfl) ?_
  refine zl_ld hx hb hX hbl hbA hS (x := i + 2) (by omega) (by omega) hL (hd 1108 .iaload 1 rfl) ?_
  refine lv_aload_n hx hb (hd 1109 (.aload_n 0) 1 rfl) rfl (lv_at hl 3 rfl) ?_
  refine lv_iload_n hx hb (hd 1110 (.iload_n 3) 1 rfl) rfl (lv_at hl 0 rfl) ?_
  refine lv_iconst (v := Int32.ofInt 3) hx hb (hd 1111 (.iconst 3) 1 rfl) (by decide) ?_
  refine zh_iadd hx hb (hd 1112 .iadd 1 rfl) ?_
  refine zl_ld hx hb hX hbl hbA hS (x := i + 3) (by omega) (by omega) hL (hd 1113 .iaload 1 rfl) ?_
  refine zlawR (vs := [xs (i + 1).toNat, xs (i + 2).toNat, xs (i + 3).toNat]) (rest := []) zX_ok ⟨hx, hb, hml, hown, hts⟩ (c_X8_drift zX_ok zX_n l) (cwV 3 hts gL_law_X8_drift rfl rfl rfl (by decide +kernel) ⟨Nat.le_of_ble_eq_true rfl, Nat.le_of_ble_eq_true rfl⟩) (I := I_M) (K0 := 30) (bs := [((-2147483648), 2147483647), ((-2147483648), 2147483647), ((-2147483648), 2147483647)]) rfl rfl rfl rfl rfl rfl ⟨8, _, _, _, rfl, rfl⟩ lk8_drift rfl rfl (zbsR_ok ⟨zq_rng _, ⟨zq_rng _, ⟨zq_rng _, trivial⟩⟩⟩) hK hv hP hD hS hA hx0 (lv_sub hl [] rfl) (Nat.le_of_ble_eq_true rfl) (hd 1114 (.invokevirtual 136) 3 rfl) hroom (fun T2 hT2 r2 ad2 v H locs q2 e2 p2 w2 hv hP hD hS => ?_)
  obtain ⟨zz2, hzz2⟩ := zst1_i (k := k_X8_drift) (by decide +kernel) hT2 r2 ad2 []
  rw [hzz2]
  refine lv_pop hx hb (hd 1117 .pop 1 rfl) rfl ?_
  refine lv_goto (tgt := 1342) hx hb (hd 1118 (.goto 224) 3 rfl) (by decide) ?_
  have hp := zunP un7_drift un8_drift zWP_b hT1 hT2 p1 p2 hp
  exact kk u v H locs ⟨_, _, hu, hv, hp, hP, hD, hS, hl⟩
def pr_lc_keep : List (Nat × Instr × Nat) := [(1121, .aload_n 1, 1), (1122, .aload_n 0, 1), (1123, .iload_n 3, 1), (1124, .iconst 1, 1), (1125, .iadd, 1), (1126, .iaload, 1), (1127, .invokevirtual 137, 3), (1130, .pop, 1), (1131, .aload_n 2, 1), (1132, .aload_n 0, 1), (1133, .iload_n 3, 1), (1134, .iconst 1, 1), (1135, .iadd, 1), (1136, .iaload, 1), (1137, .invokevirtual 140, 3), (1140, .pop, 1), (1141, .goto 201, 3)]
set_option maxRecDepth 100000 in
theorem hp_lc_keep : pr_lc_keep.all (fun x => decide (decode code x.1 = .ok x.2)) = true := by decide +kernel
set_option maxHeartbeats 4000000 in
set_option maxRecDepth 100000 in
theorem lc_keep {p : Program} {l : Launch} {e : Env} {s : State} {m : MethodId} {below : List Frame} {meth : Method} {c : Code} {cells slots : Nat} {Q : State → Prop} {b L : Nat} {xs : Nat → Int32} {D : va_G} {kA : Nat → ClassId} (hc : zLc p s m c b L xs D kA) {x y : Nat} {i : Int} {u v : va_W} {H : Heap} {locs : List Loc} {ls : Array Slot} (hi : zLi s b D kA x y i u v H locs ls) (i0 : 0 ≤ i) (i1 : i + 5 ≤ (L : Int)) (hroom : cells ≤ room_1.cells ∧ slots ≤ room_1.slots)
    (kk : ∀ (u v : va_W) (H : Heap) (locs : List Loc), zLi s b D kA x y i u v H locs ls → W p l e room_1 s m #[Value.ref b] below meth c H locs cells slots Q (F0 m 1342 ls [])) : W p l e room_1 s m #[Value.ref b] below meth c H locs cells slots Q (F0 m 1121 ls []) := by
  obtain ⟨hx, hb, hml, hown, hts, hX, hbl, hK, hx0, hL⟩ := hc
  obtain ⟨r7, r8, hu, hv, hp, hP, hD, hS, hl⟩ := hi
  have hA : ∀ q : Nat, s.heap.size ≤ q → (fun q : Nat => s.heap.size ≤ q) q := fun _ h => h
  have hbA : ¬ (fun q : Nat => s.heap.size ≤ q) b := Nat.not_le.mpr hbl
  have hd := zpr_all hp_lc_keep
  refine lv_aload_n hx hb (hd 1121 (.aload_n 1) 1 rfl) rfl (lv_at hl 2 rfl) ?_
  refine lv_aload_n hx hb (hd 1122 (.aload_n 0) 1 rfl) rfl (lv_at hl 3 rfl) ?_
  refine lv_iload_n hx hb (hd 1123 (.iload_n 3) 1 rfl) rfl (lv_at hl 0 rfl) ?_
  refine lv_iconst (v := Int32.ofInt 1) hx hb (hd 1124 (.iconst 1) 1 rfl) (by decide) ?_
  refine zh_iadd hx hb (hd 1125 .iadd 1 rfl) ?_
  refine zl_ld hx hb hX hbl hbA hS (x := i + 1) (by omega) (by omega) hL (hd 1126 .iaload 1 rfl) ?_
  refine zlawR (vs := [xs (i + 1).toNat]) (rest := []) zX_ok ⟨hx, hb, hml, hown, hts⟩ (c_X7_keep zX_ok zX_n l) (cwV 1 hts gL_law_X7_keep rfl rfl rfl (by decide +kernel) ⟨Nat.le_of_ble_eq_true rfl, Nat.le_of_ble_eq_true rfl⟩) (I := I_V) (K0 := 68) (bs := [((-2147483648), 2147483647)]) rfl rfl rfl rfl rfl rfl ⟨7, _, _, _, rfl, rfl⟩ lk7_keep rfl rfl (zbsR_ok ⟨zq_rng _, trivial⟩) hK hu hP hD hS hA hx0 (lv_sub hl [] rfl) (Nat.le_of_ble_eq_true rfl) (hd 1127 (.invokevirtual 137) 3 rfl) hroom (fun T1 hT1 r1 ad1 u H locs q1 e1 p1 w1 hu hP hD hS => ?_)
  obtain ⟨zz1, hzz1⟩ := zst1_i (k := k_X7_keep) (by decide +kernel) hT1 r1 ad1 []
  rw [hzz1]
  refine lv_pop hx hb (hd 1130 .pop 1 rfl) rfl ?_
  refine lv_aload_n hx hb (hd 1131 (.aload_n 2) 1 rfl) rfl (lv_at hl 1 rfl) ?_
  refine lv_aload_n hx hb (hd 1132 (.aload_n 0) 1 rfl) rfl (lv_at hl 3 rfl) ?_
  refine lv_iload_n hx hb (hd 1133 (.iload_n 3) 1 rfl) rfl (lv_at hl 0 rfl) ?_
  refine lv_iconst (v := Int32.ofInt 1) hx hb (hd 1134 (.iconst 1) 1 rfl) (by decide) ?_
  refine zh_iadd hx hb (hd 1135 .iadd 1 rfl) ?_
  refine zl_ld hx hb hX hbl hbA hS (x := i + 1) (by omega) (by omega) hL (hd 1136 .iaload 1 rfl) ?_
  refine zlawR (vs := [xs (i + 1).toNat]) (rest := []) zX_ok ⟨hx, hb, hml, hown, hts⟩ (c_X8_keep zX_ok zX_n l) (cwV 1 hts gL_law_X8_keep rfl rfl rfl (by decide +kernel) ⟨Nat.le_of_ble_eq_true rfl, Nat.le_of_ble_eq_true rfl⟩) (I := I_M) (K0 := 30) (bs := [((-2147483648), 2147483647)]) rfl rfl rfl rfl rfl rfl ⟨8, _, _, _, rfl, rfl⟩ lk8_keep rfl rfl (zbsR_ok ⟨zq_rng _, trivial⟩) hK hv hP hD hS hA hx0 (lv_sub hl [] rfl) (Nat.le_of_ble_eq_true rfl) (hd 1137 (.invokevirtual 140) 3 rfl) hroom (fun T2 hT2 r2 ad2 v H locs q2 e2 p2 w2 hv hP hD hS => ?_)
  obtain ⟨zz2, hzz2⟩ := zst1_i (k := k_X8_keep) (by decide +kernel) hT2 r2 ad2 []
  rw [hzz2]
  refine lv_pop hx hb (hd 1140 .pop 1 rfl) rfl ?_
  refine lv_goto (tgt := 1342) hx hb (hd 1141 (.goto 201) 3 rfl) (by decide) ?_
  have hp := zunP un7_keep un8_keep zWP_b hT1 hT2 p1 p2 hp
  exact kk u v H locs ⟨_, _, hu, hv, hp, hP, hD, hS, hl⟩
def pr_lc_back : List (Nat × Instr × Nat) := [(1144, .aload_n 1, 1), (1145, .aload_n 0, 1), (1146, .iload_n 3, 1), (1147, .iconst 1, 1), (1148, .iadd, 1), (1149, .iaload, 1), (1150, .invokevirtual 141, 3), (1153, .pop, 1), (1154, .aload_n 2, 1), (1155, .aload_n 0, 1), (1156, .iload_n 3, 1), (1157, .iconst 1, 1), (1158, .iadd, 1), (1159, .iaload, 1), (1160, .invokevirtual 144, 3), (1163, .pop, 1), (1164, .goto 178, 3)]
set_option maxRecDepth 100000 in
theorem hp_lc_back : pr_lc_back.all (fun x => decide (decode code x.1 = .ok x.2)) = true := by decide +kernel
set_option maxHeartbeats 4000000 in
set_option maxRecDepth 100000 in
theorem lc_back {p : Program} {l : Launch} {e : Env} {s : State} {m : MethodId} {below : List Frame} {meth : Method} {c : Code} {cells slots : Nat} {Q : State → Prop} {b L : Nat} {xs : Nat → Int32} {D : va_G} {kA : Nat → ClassId} (hc : zLc p s m c b L xs D kA) {x y : Nat} {i : Int} {u v : va_W} {H : Heap} {locs : List Loc} {ls : Array Slot} (hi : zLi s b D kA x y i u v H locs ls) (i0 : 0 ≤ i) (i1 : i + 5 ≤ (L : Int)) (hroom : cells ≤ room_1.cells ∧ slots ≤ room_1.slots)
    (kk : ∀ (u v : va_W) (H : Heap) (locs : List Loc), zLi s b D kA x y i u v H locs ls → W p l e room_1 s m #[Value.ref b] below meth c H locs cells slots Q (F0 m 1342 ls [])) : W p l e room_1 s m #[Value.ref b] below meth c H locs cells slots Q (F0 m 1144 ls []) := by
  obtain ⟨hx, hb, hml, hown, hts, hX, hbl, hK, hx0, hL⟩ := hc
  obtain ⟨r7, r8, hu, hv, hp, hP, hD, hS, hl⟩ := hi
  have hA : ∀ q : Nat, s.heap.size ≤ q → (fun q : Nat => s.heap.size ≤ q) q := fun _ h => h
  have hbA : ¬ (fun q : Nat => s.heap.size ≤ q) b := Nat.not_le.mpr hbl
  have hd := zpr_all hp_lc_back
  refine lv_aload_n hx hb (hd 1144 (.aload_n 1) 1 rfl) rfl (lv_at hl 2 rfl) ?_
  refine lv_aload_n hx hb (hd 1145 (.aload_n 0) 1 rfl) rfl (lv_at hl 3 rfl) ?_
  refine lv_iload_n hx hb (hd 1146 (.iload_n 3) 1 rfl) rfl (lv_at hl 0 rfl) ?_
  refine lv_iconst (v := Int32.ofInt 1) hx hb (hd 1147 (.iconst 1) 1 rfl) (by decide) ?_
  refine zh_iadd hx hb (hd 1148 .iadd 1 rfl) ?_
  refine zl_ld hx hb hX hbl hbA hS (x := i + 1) (by omega) (by omega) hL (hd 1149 .iaload 1 rfl) ?_
  refine zlawR (vs := [xs (i + 1).toNat]) (rest := []) zX_ok ⟨hx, hb, hml, hown, hts⟩ (c_X7_back zX_ok zX_n l) (cwV 1 hts gL_law_X7_back rfl rfl rfl (by decide +kernel) ⟨Nat.le_of_ble_eq_true rfl, Nat.le_of_ble_eq_true rfl⟩) (I := I_V) (K0 := 68) (bs := [((-2147483648), 2147483647)]) rfl rfl rfl rfl rfl rfl ⟨7, _, _, _, rfl, rfl⟩ lk7_back rfl rfl (zbsR_ok ⟨zq_rng _, trivial⟩) hK hu hP hD hS hA hx0 (lv_sub hl [] rfl) (Nat.le_of_ble_eq_true rfl) (hd 1150 (.invokevirtual 141) 3 rfl) hroom (fun T1 hT1 r1 ad1 u H locs q1 e1 p1 w1 hu hP hD hS => ?_)
  obtain ⟨zz1, hzz1⟩ := zst1_i (k := k_X7_back) (by decide +kernel) hT1 r1 ad1 []
  rw [hzz1]
  refine lv_pop hx hb (hd 1153 .pop 1 rfl) rfl ?_
  refine lv_aload_n hx hb (hd 1154 (.aload_n 2) 1 rfl) rfl (lv_at hl 1 rfl) ?_
  refine lv_aload_n hx hb (hd 1155 (.aload_n 0) 1 rfl) rfl (lv_at hl 3 rfl) ?_
  refine lv_iload_n hx hb (hd 1156 (.iload_n 3) 1 rfl) rfl (lv_at hl 0 rfl) ?_
  refine lv_iconst (v := Int32.ofInt 1) hx hb (hd 1157 (.iconst 1) 1 rfl) (by decide) ?_
  refine zh_iadd hx hb (hd 1158 .iadd 1 rfl) ?_
  refine zl_ld hx hb hX hbl hbA hS (x := i + 1) (by omega) (by omega) hL (hd 1159 .iaload 1 rfl) ?_
  refine zlawR (vs := [xs (i + 1).toNat]) (rest := []) zX_ok ⟨hx, hb, hml, hown, hts⟩ (c_X8_back zX_ok zX_n l) (cwV 1 hts gL_law_X8_back rfl rfl rfl (by decide +kernel) ⟨Nat.le_of_ble_eq_true rfl, Nat.le_of_ble_eq_true rfl⟩) (I := I_M) (K0 := 30) (bs := [((-2147483648), 2147483647)]) rfl rfl rfl rfl rfl rfl ⟨8, _, _, _, rfl, rfl⟩ lk8_back rfl rfl (zbsR_ok ⟨zq_rng _, trivial⟩) hK hv hP hD hS hA hx0 (lv_sub hl [] rfl) (Nat.le_of_ble_eq_true rfl) (hd 1160 (.invokevirtual 144) 3 rfl) hroom (fun T2 hT2 r2 ad2 v H locs q2 e2 p2 w2 hv hP hD hS => ?_)
  obtain ⟨zz2, hzz2⟩ := zst1_i (k := k_X8_back) (by decide +kernel) hT2 r2 ad2 []
  rw [hzz2]
  refine lv_pop hx hb (hd 1163 .pop 1 rfl) rfl ?_
  refine lv_goto (tgt := 1342) hx hb (hd 1164 (.goto 178) 3 rfl) (by decide) ?_
  have hp := zunP un7_back un8_back zWP_b hT1 hT2 p1 p2 hp
  exact kk u v H locs ⟨_, _, hu, hv, hp, hP, hD, hS, hl⟩
def pr_lc_sheet : List (Nat × Instr × Nat) := [(1167, .aload_n 1, 1), (1168, .aload_n 0, 1), (1169, .iload_n 3, 1), (1170, .iconst 1, 1), (1171, .iadd, 1), (1172, .iaload, 1), (1173, .aload_n 0, 1), (1174, .iload_n 3, 1), (1175, .iconst 2, 1), (1176, .iadd, 1), (1177, .iaload, 1), (1178, .aload_n 0, 1), (1179, .iload_n 3, 1), (1180, .iconst 3, 1), (1181, .iadd, 1), (1182, .iaload, 1), (1183, .invokevirtual 145, 3), (1186, .pop, 1), (1187, .aload_n 2, 1), (1188, .aload_n 0, 1), (1189, .iload_n 3, 1), (1190, .iconst 1, 1), (1191, .iadd, 1), (1192, .iaload, 1), (1193, .aload_n 0, 1), (1194, .iload_n 3, 1), (1195, .iconst 2, 1), (1196, .iadd, 1), (1197, .iaload, 1), (1198, .aload_n 0, 1), (1199, .iload_n 3, 1), (1200, .iconst 3, 1), (1201, .iadd, 1), (1202, .iaload, 1), (1203, .invokevirtual 148, 3), (1206, .pop, 1), (1207, .goto 135, 3)]
set_option maxRecDepth 100000 in
theorem hp_lc_sheet : pr_lc_sheet.all (fun x => decide (decode code x.1 = .ok x.2)) = true := by decide +kernel
set_option maxHeartbeats 4000000 in
set_option maxRecDepth 100000 in
theorem lc_sheet {p : Program} {l : Launch} {e : Env} {s : State} {m : MethodId} {below : List Frame} {meth : Method} {c : Code} {cells slots : Nat} {Q : State → Prop} {b L : Nat} {xs : Nat → Int32} {D : va_G} {kA : Nat → ClassId} (hc : zLc p s m c b L xs D kA) {x y : Nat} {i : Int} {u v : va_W} {H : Heap} {locs : List Loc} {ls : Array Slot} (hi : zLi s b D kA x y i u v H locs ls) (i0 : 0 ≤ i) (i1 : i + 5 ≤ (L : Int)) (hroom : cells ≤ room_1.cells ∧ slots ≤ room_1.slots)
    (kk : ∀ (u v : va_W) (H : Heap) (locs : List Loc), zLi s b D kA x y i u v H locs ls → W p l e room_1 s m #[Value.ref b] below meth c H locs cells slots Q (F0 m 1342 ls [])) : W p l e room_1 s m #[Value.ref b] below meth c H locs cells slots Q (F0 m 1167 ls []) := by
  obtain ⟨hx, hb, hml, hown, hts, hX, hbl, hK, hx0, hL⟩ := hc
  obtain ⟨r7, r8, hu, hv, hp, hP, hD, hS, hl⟩ := hi
  have hA : ∀ q : Nat, s.heap.size ≤ q → (fun q : Nat => s.heap.size ≤ q) q := fun _ h => h
  have hbA : ¬ (fun q : Nat => s.heap.size ≤ q) b := Nat.not_le.mpr hbl
  have hd := zpr_all hp_lc_sheet
  refine lv_aload_n hx hb (hd 1167 (.aload_n 1) 1 rfl) rfl (lv_at hl 2 rfl) ?_
  refine lv_aload_n hx hb (hd 1168 (.aload_n 0) 1 rfl) rfl (lv_at hl 3 rfl) ?_
  refine lv_iload_n hx hb (hd 1169 (.iload_n 3) 1 rfl) rfl (lv_at hl 0 rfl) ?_
  refine lv_iconst (v := Int32.ofInt 1) hx hb (hd 1170 (.iconst 1) 1 rfl) (by decide) ?_
  refine zh_iadd hx hb (hd 1171 .iadd 1 rfl) ?_
  refine zl_ld hx hb hX hbl hbA hS (x := i + 1) (by omega) (by omega) hL (hd 1172 .iaload 1 rfl) ?_
  refine lv_aload_n hx hb (hd 1173 (.aload_n 0) 1 rfl) rfl (lv_at hl 3 rfl) ?_
  refine lv_iload_n hx hb (hd 1174 (.iload_n 3) 1 rfl) rfl (lv_at hl 0 rfl) ?_
  refine lv_iconst (v := Int32.ofInt 2) hx hb (hd 1175 (.iconst 2) 1 rfl) (by decide) ?_
  refine zh_iadd hx hb (hd 1176 .iadd 1 rfl) ?_
  refine zl_ld hx hb hX hbl hbA hS (x := i + 2) (by omega) (by omega) hL (hd 1177 .iaload 1 rfl) ?_
  refine lv_aload_n hx hb (hd 1178 (.aload_n 0) 1 rfl) rfl (lv_at hl 3 rfl) ?_
  refine lv_iload_n hx hb (hd 1179 (.iload_n 3) 1 rfl) rfl (lv_at hl 0 rfl) ?_
  refine lv_iconst (v := Int32.ofInt 3) hx hb (hd 1180 (.iconst 3) 1 rfl) (by decide) ?_
  refine zh_iadd hx hb (hd 1181 .iadd 1 rfl) ?_
  refine zl_ld hx hb hX hbl hbA hS (x := i + 3) (by omega) (by omega) hL (hd 1182 .iaload 1 rfl) ?_
  refine zlawR (vs := [xs (i + 1).toNat, xs (i + 2).toNat, xs (i + 3).toNat]) (rest := []) zX_ok ⟨hx, hb, hml, hown, hts⟩ (c_X7_sheet zX_ok zX_n l) (cwV 3 hts gL_law_X7_sheet rfl rfl rfl (by decide +kernel) ⟨Nat.le_of_ble_eq_true rfl, Nat.le_of_ble_eq_true rfl⟩) (I := I_V) (K0 := 68) (bs := [((-2147483648), 2147483647), ((-2147483648), 2147483647), ((-2147483648), 2147483647)]) rfl rfl rfl rfl rfl rfl ⟨7, _, _, _, rfl, rfl⟩ lk7_sheet rfl rfl (zbsR_ok ⟨zq_rng _, ⟨zq_rng _, ⟨zq_rng _, trivial⟩⟩⟩) hK hu hP hD hS hA hx0 (lv_sub hl [] rfl) (Nat.le_of_ble_eq_true rfl) (hd 1183 (.invokevirtual 145) 3 rfl) hroom (fun T1 hT1 r1 ad1 u H locs q1 e1 p1 w1 hu hP hD hS => ?_)
  obtain ⟨zz1, hzz1⟩ := zst1_i (k := k_X7_sheet) (by decide +kernel) hT1 r1 ad1 []
  rw [hzz1]
  refine lv_pop hx hb (hd 1186 .pop 1 rfl) rfl ?_
  refine lv_aload_n hx hb (hd 1187 (.aload_n 2) 1 rfl) rfl (lv_at hl 1 rfl) ?_
  refine lv_aload_n hx hb (hd 1188 (.aload_n 0) 1 rfl) rfl (lv_at hl 3 rfl) ?_
  refine lv_iload_n hx hb (hd 1189 (.iload_n 3) 1 rfl) rfl (lv_at hl 0 rfl) ?_
  refine lv_iconst (v := Int32.ofInt 1) hx hb (hd 1190 (.iconst 1) 1 rfl) (by decide) ?_
  refine zh_iadd hx hb (hd 1191 .iadd 1 rfl) ?_
  refine zl_ld hx hb hX hbl hbA hS (x := i + 1) (by omega) (by omega) hL (hd 1192 .iaload 1 rfl) ?_
  refine lv_aload_n hx hb (hd 1193 (.aload_n 0) 1 rfl) rfl (lv_at hl 3 rfl) ?_
  refine lv_iload_n hx hb (hd 1194 (.iload_n 3) 1 rfl) rfl (lv_at hl 0 rfl) ?_
  refine lv_iconst (v := Int32.ofInt 2) hx hb (hd 1195 (.iconst 2) 1 rfl) (by decide) ?_
  refine zh_iadd hx hb (hd 1196 .iadd 1 rfl) ?_
  refine zl_ld hx hb hX hbl hbA hS (x := i + 2) (by omega) (by omega) hL (hd 1197 .iaload 1 rfl) ?_
  refine lv_aload_n hx hb (hd 1198 (.aload_n 0) 1 rfl) rfl (lv_at hl 3 rfl) ?_
  refine lv_iload_n hx hb (hd 1199 (.iload_n 3) 1 rfl) rfl (lv_at hl 0 rfl) ?_
  refine lv_iconst (v := Int32.ofInt 3) hx hb (hd 1200 (.iconst 3) 1 rfl) (by decide) ?_
  refine zh_iadd hx hb (hd 1201 .iadd 1 rfl) ?_
  refine zl_ld hx hb hX hbl hbA hS (x := i + 3) (by omega) (by omega) hL (hd 1202 .iaload 1 rfl) ?_
  refine zlawR (vs := [xs (i + 1).toNat, xs (i + 2).toNat, xs (i + 3).toNat]) (rest := []) zX_ok ⟨hx, hb, hml, hown, hts⟩ (c_X8_sheet_2 zX_ok zX_n l) (cwV 3 hts gL_law_X8_sheet rfl rfl rfl (by decide +kernel) ⟨Nat.le_of_ble_eq_true rfl, Nat.le_of_ble_eq_true rfl⟩) (I := I_M) (K0 := 30) (bs := [((-2147483648), 2147483647), ((-2147483648), 2147483647), ((-2147483648), 2147483647)]) rfl rfl rfl rfl rfl rfl ⟨8, _, _, _, rfl, rfl⟩ lk8_sheet rfl rfl (zbsR_ok ⟨zq_rng _, ⟨zq_rng _, ⟨zq_rng _, trivial⟩⟩⟩) hK hv hP hD hS hA hx0 (lv_sub hl [] rfl) (Nat.le_of_ble_eq_true rfl) (hd 1203 (.invokevirtual 148) 3 rfl) hroom (fun T2 hT2 r2 ad2 v H locs q2 e2 p2 w2 hv hP hD hS => ?_)
  obtain ⟨zz2, hzz2⟩ := zst1_i (k := k_X8_sheet_2) (by decide +kernel) hT2 r2 ad2 []
  rw [hzz2]
  refine lv_pop hx hb (hd 1206 .pop 1 rfl) rfl ?_
  refine lv_goto (tgt := 1342) hx hb (hd 1207 (.goto 135) 3 rfl) (by decide) ?_
  have hp := zunP un7_sheet un8_sheet zWP_b hT1 hT2 p1 p2 hp
  exact kk u v H locs ⟨_, _, hu, hv, hp, hP, hD, hS, hl⟩
def pr_lc_lay : List (Nat × Instr × Nat) := [(1210, .aload_n 1, 1), (1211, .aload_n 0, 1), (1212, .iload_n 3, 1), (1213, .iconst 1, 1), (1214, .iadd, 1), (1215, .iaload, 1), (1216, .aload_n 0, 1), (1217, .iload_n 3, 1), (1218, .iconst 2, 1), (1219, .iadd, 1), (1220, .iaload, 1), (1221, .aload_n 0, 1), (1222, .iload_n 3, 1), (1223, .iconst 3, 1), (1224, .iadd, 1), (1225, .iaload, 1), (1226, .invokevirtual 149, 3), (1229, .pop, 1), (1230, .aload_n 2, 1), (1231, .aload_n 0, 1), (1232, .iload_n 3, 1), (1233, .iconst 1, 1), (1234, .iadd, 1), (1235, .iaload, 1), (1236, .aload_n 0, 1), (1237, .iload_n 3, 1), (1238, .iconst 2, 1), (1239, .iadd, 1), (1240, .iaload, 1), (1241, .aload_n 0, 1), (1242, .iload_n 3, 1), (1243, .iconst 3, 1), (1244, .iadd, 1), (1245, .iaload, 1), (1246, .invokevirtual 152, 3), (1249, .pop, 1), (1250, .goto 92, 3)]
set_option maxRecDepth 100000 in
theorem hp_lc_lay : pr_lc_lay.all (fun x => decide (decode code x.1 = .ok x.2)) = true := by decide +kernel
set_option maxHeartbeats 4000000 in
set_option maxRecDepth 100000 in
theorem lc_lay {p : Program} {l : Launch} {e : Env} {s : State} {m : MethodId} {below : List Frame} {meth : Method} {c : Code} {cells slots : Nat} {Q : State → Prop} {b L : Nat} {xs : Nat → Int32} {D : va_G} {kA : Nat → ClassId} (hc : zLc p s m c b L xs D kA) {x y : Nat} {i : Int} {u v : va_W} {H : Heap} {locs : List Loc} {ls : Array Slot} (hi : zLi s b D kA x y i u v H locs ls) (i0 : 0 ≤ i) (i1 : i + 5 ≤ (L : Int)) (hroom : cells ≤ room_1.cells ∧ slots ≤ room_1.slots)
    (kk : ∀ (u v : va_W) (H : Heap) (locs : List Loc), zLi s b D kA x y i u v H locs ls → W p l e room_1 s m #[Value.ref b] below meth c H locs cells slots Q (F0 m 1342 ls [])) : W p l e room_1 s m #[Value.ref b] below meth c H locs cells slots Q (F0 m 1210 ls []) := by
  obtain ⟨hx, hb, hml, hown, hts, hX, hbl, hK, hx0, hL⟩ := hc
  obtain ⟨r7, r8, hu, hv, hp, hP, hD, hS, hl⟩ := hi
  have hA : ∀ q : Nat, s.heap.size ≤ q → (fun q : Nat => s.heap.size ≤ q) q := fun _ h => h
  have hbA : ¬ (fun q : Nat => s.heap.size ≤ q) b := Nat.not_le.mpr hbl
  have hd := zpr_all hp_lc_lay
  refine lv_aload_n hx hb (hd 1210 (.aload_n 1) 1 rfl) rfl (lv_at hl 2 rfl) ?_
  refine lv_aload_n hx hb (hd 1211 (.aload_n 0) 1 rfl) rfl (lv_at hl 3 rfl) ?_
  refine lv_iload_n hx hb (hd 1212 (.iload_n 3) 1 rfl) rfl (lv_at hl 0 rfl) ?_
  refine lv_iconst (v := Int32.ofInt 1) hx hb (hd 1213 (.iconst 1) 1 rfl) (by decide) ?_
  refine zh_iadd hx hb (hd 1214 .iadd 1 rfl) ?_
  refine zl_ld hx hb hX hbl hbA hS (x := i + 1) (by omega) (by omega) hL (hd 1215 .iaload 1 rfl) ?_
  refine lv_aload_n hx hb (hd 1216 (.aload_n 0) 1 rfl) rfl (lv_at hl 3 rfl) ?_
  refine lv_iload_n hx hb (hd 1217 (.iload_n 3) 1 rfl) rfl (lv_at hl 0 rfl) ?_
  refine lv_iconst (v := Int32.ofInt 2) hx hb (hd 1218 (.iconst 2) 1 rfl) (by decide) ?_
  refine zh_iadd hx hb (hd 1219 .iadd 1 rfl) ?_
  refine zl_ld hx hb hX hbl hbA hS (x := i + 2) (by omega) (by omega) hL (hd 1220 .iaload 1 rfl) ?_
  refine lv_aload_n hx hb (hd 1221 (.aload_n 0) 1 rfl) rfl (lv_at hl 3 rfl) ?_
  refine lv_iload_n hx hb (hd 1222 (.iload_n 3) 1 rfl) rfl (lv_at hl 0 rfl) ?_
  refine lv_iconst (v := Int32.ofInt 3) hx hb (hd 1223 (.iconst 3) 1 rfl) (by decide) ?_
  refine zh_iadd hx hb (hd 1224 .iadd 1 rfl) ?_
  refine zl_ld hx hb hX hbl hbA hS (x := i + 3) (by omega) (by omega) hL (hd 1225 .iaload 1 rfl) ?_
  refine zlawR (vs := [xs (i + 1).toNat, xs (i + 2).toNat, xs (i + 3).toNat]) (rest := []) zX_ok ⟨hx, hb, hml, hown, hts⟩ (c_X7_lay zX_ok zX_n l) (cwV 3 hts gL_law_X7_lay rfl rfl rfl (by decide +kernel) ⟨Nat.le_of_ble_eq_true rfl, Nat.le_of_ble_eq_true rfl⟩) (I := I_V) (K0 := 68) (bs := [((-2147483648), 2147483647), ((-2147483648), 2147483647), ((-2147483648), 2147483647)]) rfl rfl rfl rfl rfl rfl ⟨7, _, _, _, rfl, rfl⟩ lk7_lay rfl rfl (zbsR_ok ⟨zq_rng _, ⟨zq_rng _, ⟨zq_rng _, trivial⟩⟩⟩) hK hu hP hD hS hA hx0 (lv_sub hl [] rfl) (Nat.le_of_ble_eq_true rfl) (hd 1226 (.invokevirtual 149) 3 rfl) hroom (fun T1 hT1 r1 ad1 u H locs q1 e1 p1 w1 hu hP hD hS => ?_)
  obtain ⟨zz1, hzz1⟩ := zst1_i (k := k_X7_lay) (by decide +kernel) hT1 r1 ad1 []
  rw [hzz1]
  refine lv_pop hx hb (hd 1229 .pop 1 rfl) rfl ?_
  refine lv_aload_n hx hb (hd 1230 (.aload_n 2) 1 rfl) rfl (lv_at hl 1 rfl) ?_
  refine lv_aload_n hx hb (hd 1231 (.aload_n 0) 1 rfl) rfl (lv_at hl 3 rfl) ?_
  refine lv_iload_n hx hb (hd 1232 (.iload_n 3) 1 rfl) rfl (lv_at hl 0 rfl) ?_
  refine lv_iconst (v := Int32.ofInt 1) hx hb (hd 1233 (.iconst 1) 1 rfl) (by decide) ?_
  refine zh_iadd hx hb (hd 1234 .iadd 1 rfl) ?_
  refine zl_ld hx hb hX hbl hbA hS (x := i + 1) (by omega) (by omega) hL (hd 1235 .iaload 1 rfl) ?_
  refine lv_aload_n hx hb (hd 1236 (.aload_n 0) 1 rfl) rfl (lv_at hl 3 rfl) ?_
  refine lv_iload_n hx hb (hd 1237 (.iload_n 3) 1 rfl) rfl (lv_at hl 0 rfl) ?_
  refine lv_iconst (v := Int32.ofInt 2) hx hb (hd 1238 (.iconst 2) 1 rfl) (by decide) ?_
  refine zh_iadd hx hb (hd 1239 .iadd 1 rfl) ?_
  refine zl_ld hx hb hX hbl hbA hS (x := i + 2) (by omega) (by omega) hL (hd 1240 .iaload 1 rfl) ?_
  refine lv_aload_n hx hb (hd 1241 (.aload_n 0) 1 rfl) rfl (lv_at hl 3 rfl) ?_
  refine lv_iload_n hx hb (hd 1242 (.iload_n 3) 1 rfl) rfl (lv_at hl 0 rfl) ?_
  refine lv_iconst (v := Int32.ofInt 3) hx hb (hd 1243 (.iconst 3) 1 rfl) (by decide) ?_
  refine zh_iadd hx hb (hd 1244 .iadd 1 rfl) ?_
  refine zl_ld hx hb hX hbl hbA hS (x := i + 3) (by omega) (by omega) hL (hd 1245 .iaload 1 rfl) ?_
  refine zlawR (vs := [xs (i + 1).toNat, xs (i + 2).toNat, xs (i + 3).toNat]) (rest := []) zX_ok ⟨hx, hb, hml, hown, hts⟩ (c_X8_lay zX_ok zX_n l) (cwV 3 hts gL_law_X8_lay rfl rfl rfl (by decide +kernel) ⟨Nat.le_of_ble_eq_true rfl, Nat.le_of_ble_eq_true rfl⟩) (I := I_M) (K0 := 30) (bs := [((-2147483648), 2147483647), ((-2147483648), 2147483647), ((-2147483648), 2147483647)]) rfl rfl rfl rfl rfl rfl ⟨8, _, _, _, rfl, rfl⟩ lk8_lay rfl rfl (zbsR_ok ⟨zq_rng _, ⟨zq_rng _, ⟨zq_rng _, trivial⟩⟩⟩) hK hv hP hD hS hA hx0 (lv_sub hl [] rfl) (Nat.le_of_ble_eq_true rfl) (hd 1246 (.invokevirtual 152) 3 rfl) hroom (fun T2 hT2 r2 ad2 v H locs q2 e2 p2 w2 hv hP hD hS => ?_)
  obtain ⟨zz2, hzz2⟩ := zst1_i (k := k_X8_lay) (by decide +kernel) hT2 r2 ad2 []
  rw [hzz2]
  refine lv_pop hx hb (hd 1249 .pop 1 rfl) rfl ?_
  refine lv_goto (tgt := 1342) hx hb (hd 1250 (.goto 92) 3 rfl) (by decide) ?_
  have hp := zunP un7_lay un8_lay zWP_b hT1 hT2 p1 p2 hp
  exact kk u v H locs ⟨_, _, hu, hv, hp, hP, hD, hS, hl⟩
def pr_lc_read : List (Nat × Instr × Nat) := [(1253, .aload_n 1, 1), (1254, .aload_n 0, 1), (1255, .iload_n 3, 1), (1256, .iconst 1, 1), (1257, .iadd, 1), (1258, .iaload, 1), (1259, .aload_n 0, 1), (1260, .iload_n 3, 1), (1261, .iconst 2, 1), (1262, .iadd, 1), (1263, .iaload, 1), (1264, .aload_n 0, 1), (1265, .iload_n 3, 1), (1266, .iconst 3, 1), (1267, .iadd, 1), (1268, .iaload, 1), (1269, .aload_n 0, 1), (1270, .iload_n 3, 1), (1271, .iconst 4, 1), (1272, .iadd, 1), (1273, .iaload, 1), (1274, .invokevirtual 153, 3), (1277, .pop, 1), (1278, .aload_n 2, 1), (1279, .aload_n 0, 1), (1280, .iload_n 3, 1), (1281, .iconst 1, 1), (1282, .iadd, 1), (1283, .iaload, 1), (1284, .aload_n 0, 1), (1285, .iload_n 3, 1), (1286, .iconst 2, 1), (1287, .iadd, 1), (1288, .iaload, 1), (1289, .aload_n 0, 1), (1290, .iload_n 3, 1), (1291, .iconst 3, 1), (1292, .iadd, 1), (1293, .iaload, 1), (1294, .aload_n 0, 1), (1295, .iload_n 3, 1), (1296, .iconst 4, 1), (1297, .iadd, 1), (1298, .iaload, 1), (1299, .invokevirtual 156, 3), (1302, .pop, 1), (1303, .goto 39, 3)]
set_option maxRecDepth 100000 in
theorem hp_lc_read : pr_lc_read.all (fun x => decide (decode code x.1 = .ok x.2)) = true := by decide +kernel
set_option maxHeartbeats 4000000 in
set_option maxRecDepth 100000 in
theorem lc_read {p : Program} {l : Launch} {e : Env} {s : State} {m : MethodId} {below : List Frame} {meth : Method} {c : Code} {cells slots : Nat} {Q : State → Prop} {b L : Nat} {xs : Nat → Int32} {D : va_G} {kA : Nat → ClassId} (hc : zLc p s m c b L xs D kA) {x y : Nat} {i : Int} {u v : va_W} {H : Heap} {locs : List Loc} {ls : Array Slot} (hi : zLi s b D kA x y i u v H locs ls) (i0 : 0 ≤ i) (i1 : i + 5 ≤ (L : Int)) (hroom : cells ≤ room_1.cells ∧ slots ≤ room_1.slots)
    (kk : ∀ (u v : va_W) (H : Heap) (locs : List Loc), zLi s b D kA x y i u v H locs ls → W p l e room_1 s m #[Value.ref b] below meth c H locs cells slots Q (F0 m 1342 ls [])) : W p l e room_1 s m #[Value.ref b] below meth c H locs cells slots Q (F0 m 1253 ls []) := by
  obtain ⟨hx, hb, hml, hown, hts, hX, hbl, hK, hx0, hL⟩ := hc
  obtain ⟨r7, r8, hu, hv, hp, hP, hD, hS, hl⟩ := hi
  have hA : ∀ q : Nat, s.heap.size ≤ q → (fun q : Nat => s.heap.size ≤ q) q := fun _ h => h
  have hbA : ¬ (fun q : Nat => s.heap.size ≤ q) b := Nat.not_le.mpr hbl
  have hd := zpr_all hp_lc_read
  refine lv_aload_n hx hb (hd 1253 (.aload_n 1) 1 rfl) rfl (lv_at hl 2 rfl) ?_
  refine lv_aload_n hx hb (hd 1254 (.aload_n 0) 1 rfl) rfl (lv_at hl 3 rfl) ?_
  refine lv_iload_n hx hb (hd 1255 (.iload_n 3) 1 rfl) rfl (lv_at hl 0 rfl) ?_
  refine lv_iconst (v := Int32.ofInt 1) hx hb (hd 1256 (.iconst 1) 1 rfl) (by decide) ?_
  refine zh_iadd hx hb (hd 1257 .iadd 1 rfl) ?_
  refine zl_ld hx hb hX hbl hbA hS (x := i + 1) (by omega) (by omega) hL (hd 1258 .iaload 1 rfl) ?_
  refine lv_aload_n hx hb (hd 1259 (.aload_n 0) 1 rfl) rfl (lv_at hl 3 rfl) ?_
  refine lv_iload_n hx hb (hd 1260 (.iload_n 3) 1 rfl) rfl (lv_at hl 0 rfl) ?_
  refine lv_iconst (v := Int32.ofInt 2) hx hb (hd 1261 (.iconst 2) 1 rfl) (by decide) ?_
  refine zh_iadd hx hb (hd 1262 .iadd 1 rfl) ?_
  refine zl_ld hx hb hX hbl hbA hS (x := i + 2) (by omega) (by omega) hL (hd 1263 .iaload 1 rfl) ?_
  refine lv_aload_n hx hb (hd 1264 (.aload_n 0) 1 rfl) rfl (lv_at hl 3 rfl) ?_
  refine lv_iload_n hx hb (hd 1265 (.iload_n 3) 1 rfl) rfl (lv_at hl 0 rfl) ?_
  refine lv_iconst (v := Int32.ofInt 3) hx hb (hd 1266 (.iconst 3) 1 rfl) (by decide) ?_
  refine zh_iadd hx hb (hd 1267 .iadd 1 rfl) ?_
  refine zl_ld hx hb hX hbl hbA hS (x := i + 3) (by omega) (by omega) hL (hd 1268 .iaload 1 rfl) ?_
  refine lv_aload_n hx hb (hd 1269 (.aload_n 0) 1 rfl) rfl (lv_at hl 3 rfl) ?_
  refine lv_iload_n hx hb (hd 1270 (.iload_n 3) 1 rfl) rfl (lv_at hl 0 rfl) ?_
  refine lv_iconst (v := Int32.ofInt 4) hx hb (hd 1271 (.iconst 4) 1 rfl) (by decide) ?_
  refine zh_iadd hx hb (hd 1272 .iadd 1 rfl) ?_
  refine zl_ld hx hb hX hbl hbA hS (x := i + 4) (by omega) (by omega) hL (hd 1273 .iaload 1 rfl) ?_
  refine zlawR (vs := [xs (i + 1).toNat, xs (i + 2).toNat, xs (i + 3).toNat, xs (i + 4).toNat]) (rest := []) zX_ok ⟨hx, hb, hml, hown, hts⟩ (c_X7_read zX_ok zX_n l) (cwV 4 hts gL_law_X7_read rfl rfl rfl (by decide +kernel) ⟨Nat.le_of_ble_eq_true rfl, Nat.le_of_ble_eq_true rfl⟩) (I := I_V) (K0 := 68) (bs := [((-2147483648), 2147483647), ((-2147483648), 2147483647), ((-2147483648), 2147483647), ((-2147483648), 2147483647)]) rfl rfl rfl rfl rfl rfl ⟨7, _, _, _, rfl, rfl⟩ lk7_read rfl rfl (zbsR_ok ⟨zq_rng _, ⟨zq_rng _, ⟨zq_rng _, ⟨zq_rng _, trivial⟩⟩⟩⟩) hK hu hP hD hS hA hx0 (lv_sub hl [] rfl) (Nat.le_of_ble_eq_true rfl) (hd 1274 (.invokevirtual 153) 3 rfl) hroom (fun T1 hT1 r1 ad1 u H locs q1 e1 p1 w1 hu hP hD hS => ?_)
  obtain ⟨zz1, hzz1⟩ := zst1_i (k := k_X7_read) (by decide +kernel) hT1 r1 ad1 []
  rw [hzz1]
  refine lv_pop hx hb (hd 1277 .pop 1 rfl) rfl ?_
  refine lv_aload_n hx hb (hd 1278 (.aload_n 2) 1 rfl) rfl (lv_at hl 1 rfl) ?_
  refine lv_aload_n hx hb (hd 1279 (.aload_n 0) 1 rfl) rfl (lv_at hl 3 rfl) ?_
  refine lv_iload_n hx hb (hd 1280 (.iload_n 3) 1 rfl) rfl (lv_at hl 0 rfl) ?_
  refine lv_iconst (v := Int32.ofInt 1) hx hb (hd 1281 (.iconst 1) 1 rfl) (by decide) ?_
  refine zh_iadd hx hb (hd 1282 .iadd 1 rfl) ?_
  refine zl_ld hx hb hX hbl hbA hS (x := i + 1) (by omega) (by omega) hL (hd 1283 .iaload 1 rfl) ?_
  refine lv_aload_n hx hb (hd 1284 (.aload_n 0) 1 rfl) rfl (lv_at hl 3 rfl) ?_
  refine lv_iload_n hx hb (hd 1285 (.iload_n 3) 1 rfl) rfl (lv_at hl 0 rfl) ?_
  refine lv_iconst (v := Int32.ofInt 2) hx hb (hd 1286 (.iconst 2) 1 rfl) (by decide) ?_
  refine zh_iadd hx hb (hd 1287 .iadd 1 rfl) ?_
  refine zl_ld hx hb hX hbl hbA hS (x := i + 2) (by omega) (by omega) hL (hd 1288 .iaload 1 rfl) ?_
  refine lv_aload_n hx hb (hd 1289 (.aload_n 0) 1 rfl) rfl (lv_at hl 3 rfl) ?_
  refine lv_iload_n hx hb (hd 1290 (.iload_n 3) 1 rfl) rfl (lv_at hl 0 rfl) ?_
  refine lv_iconst (v := Int32.ofInt 3) hx hb (hd 1291 (.iconst 3) 1 rfl) (by decide) ?_
  refine zh_iadd hx hb (hd 1292 .iadd 1 rfl) ?_
  refine zl_ld hx hb hX hbl hbA hS (x := i + 3) (by omega) (by omega) hL (hd 1293 .iaload 1 rfl) ?_
  refine lv_aload_n hx hb (hd 1294 (.aload_n 0) 1 rfl) rfl (lv_at hl 3 rfl) ?_
  refine lv_iload_n hx hb (hd 1295 (.iload_n 3) 1 rfl) rfl (lv_at hl 0 rfl) ?_
  refine lv_iconst (v := Int32.ofInt 4) hx hb (hd 1296 (.iconst 4) 1 rfl) (by decide) ?_
  refine zh_iadd hx hb (hd 1297 .iadd 1 rfl) ?_
  refine zl_ld hx hb hX hbl hbA hS (x := i + 4) (by omega) (by omega) hL (hd 1298 .iaload 1 rfl) ?_
  refine zlawR (vs := [xs (i + 1).toNat, xs (i + 2).toNat, xs (i + 3).toNat, xs (i + 4).toNat]) (rest := []) zX_ok ⟨hx, hb, hml, hown, hts⟩ (c_X8_read zX_ok zX_n l) (cwV 4 hts gL_law_X8_read rfl rfl rfl (by decide +kernel) ⟨Nat.le_of_ble_eq_true rfl, Nat.le_of_ble_eq_true rfl⟩) (I := I_M) (K0 := 30) (bs := [((-2147483648), 2147483647), ((-2147483648), 2147483647), ((-2147483648), 2147483647), ((-2147483648), 2147483647)]) rfl rfl rfl rfl rfl rfl ⟨8, _, _, _, rfl, rfl⟩ lk8_read rfl rfl (zbsR_ok ⟨zq_rng _, ⟨zq_rng _, ⟨zq_rng _, ⟨zq_rng _, trivial⟩⟩⟩⟩) hK hv hP hD hS hA hx0 (lv_sub hl [] rfl) (Nat.le_of_ble_eq_true rfl) (hd 1299 (.invokevirtual 156) 3 rfl) hroom (fun T2 hT2 r2 ad2 v H locs q2 e2 p2 w2 hv hP hD hS => ?_)
  obtain ⟨zz2, hzz2⟩ := zst1_i (k := k_X8_read) (by decide +kernel) hT2 r2 ad2 []
  rw [hzz2]
  refine lv_pop hx hb (hd 1302 .pop 1 rfl) rfl ?_
  refine lv_goto (tgt := 1342) hx hb (hd 1303 (.goto 39) 3 rfl) (by decide) ?_
  have hp := zunP un7_read un8_read zWP_b hT1 hT2 p1 p2 hp
  exact kk u v H locs ⟨_, _, hu, hv, hp, hP, hD, hS, hl⟩
def pr_lc_torn : List (Nat × Instr × Nat) := [(1306, .aload_n 1, 1), (1307, .invokevirtual 157, 3), (1310, .pop, 1), (1311, .aload_n 2, 1), (1312, .invokevirtual 160, 3), (1315, .pop, 1), (1316, .goto 26, 3)]
set_option maxRecDepth 100000 in
theorem hp_lc_torn : pr_lc_torn.all (fun x => decide (decode code x.1 = .ok x.2)) = true := by decide +kernel
set_option maxHeartbeats 4000000 in
set_option maxRecDepth 100000 in
theorem lc_torn {p : Program} {l : Launch} {e : Env} {s : State} {m : MethodId} {below : List Frame} {meth : Method} {c : Code} {cells slots : Nat} {Q : State → Prop} {b L : Nat} {xs : Nat → Int32} {D : va_G} {kA : Nat → ClassId} (hc : zLc p s m c b L xs D kA) {x y : Nat} {i : Int} {u v : va_W} {H : Heap} {locs : List Loc} {ls : Array Slot} (hi : zLi s b D kA x y i u v H locs ls) (i0 : 0 ≤ i) (i1 : i + 5 ≤ (L : Int)) (hroom : cells ≤ room_1.cells ∧ slots ≤ room_1.slots)
    (kk : ∀ (u v : va_W) (H : Heap) (locs : List Loc), zLi s b D kA x y i u v H locs ls → W p l e room_1 s m #[Value.ref b] below meth c H locs cells slots Q (F0 m 1342 ls [])) : W p l e room_1 s m #[Value.ref b] below meth c H locs cells slots Q (F0 m 1306 ls []) := by
  obtain ⟨hx, hb, hml, hown, hts, hX, hbl, hK, hx0, hL⟩ := hc
  obtain ⟨r7, r8, hu, hv, hp, hP, hD, hS, hl⟩ := hi
  have hA : ∀ q : Nat, s.heap.size ≤ q → (fun q : Nat => s.heap.size ≤ q) q := fun _ h => h
  have hbA : ¬ (fun q : Nat => s.heap.size ≤ q) b := Nat.not_le.mpr hbl
  have hd := zpr_all hp_lc_torn
  refine lv_aload_n hx hb (hd 1306 (.aload_n 1) 1 rfl) rfl (lv_at hl 2 rfl) ?_
  refine zlawR (vs := []) (rest := []) zX_ok ⟨hx, hb, hml, hown, hts⟩ (c_X7_torn zX_ok zX_n l) (cwV 0 hts gL_law_X7_torn rfl rfl rfl (by decide +kernel) ⟨Nat.le_of_ble_eq_true rfl, Nat.le_of_ble_eq_true rfl⟩) (I := I_V) (K0 := 68) (bs := []) rfl rfl rfl rfl rfl rfl ⟨7, _, _, _, rfl, rfl⟩ lk7_torn rfl rfl (zbsR_ok trivial) hK hu hP hD hS hA hx0 (lv_sub hl [] rfl) (Nat.le_of_ble_eq_true rfl) (hd 1307 (.invokevirtual 157) 3 rfl) hroom (fun T1 hT1 r1 ad1 u H locs q1 e1 p1 w1 hu hP hD hS => ?_)
  obtain ⟨zz1, hzz1⟩ := zst1_i (k := k_X7_torn) (by decide +kernel) hT1 r1 ad1 []
  rw [hzz1]
  refine lv_pop hx hb (hd 1310 .pop 1 rfl) rfl ?_
  refine lv_aload_n hx hb (hd 1311 (.aload_n 2) 1 rfl) rfl (lv_at hl 1 rfl) ?_
  refine zlawR (vs := []) (rest := []) zX_ok ⟨hx, hb, hml, hown, hts⟩ (c_X8_torn zX_ok zX_n l) (cwV 0 hts gL_law_X8_torn rfl rfl rfl (by decide +kernel) ⟨Nat.le_of_ble_eq_true rfl, Nat.le_of_ble_eq_true rfl⟩) (I := I_M) (K0 := 30) (bs := []) rfl rfl rfl rfl rfl rfl ⟨8, _, _, _, rfl, rfl⟩ lk8_torn rfl rfl (zbsR_ok trivial) hK hv hP hD hS hA hx0 (lv_sub hl [] rfl) (Nat.le_of_ble_eq_true rfl) (hd 1312 (.invokevirtual 160) 3 rfl) hroom (fun T2 hT2 r2 ad2 v H locs q2 e2 p2 w2 hv hP hD hS => ?_)
  obtain ⟨zz2, hzz2⟩ := zst1_i (k := k_X8_torn) (by decide +kernel) hT2 r2 ad2 []
  rw [hzz2]
  refine lv_pop hx hb (hd 1315 .pop 1 rfl) rfl ?_
  refine lv_goto (tgt := 1342) hx hb (hd 1316 (.goto 26) 3 rfl) (by decide) ?_
  have hp := zunP un7_torn un8_torn zWP_b hT1 hT2 p1 p2 hp
  exact kk u v H locs ⟨_, _, hu, hv, hp, hP, hD, hS, hl⟩
def pr_lc_count : List (Nat × Instr × Nat) := [(1319, .aload_n 1, 1), (1320, .aload_n 0, 1), (1321, .iload_n 3, 1), (1322, .iconst 1, 1), (1323, .iadd, 1), (1324, .iaload, 1), (1325, .invokevirtual 161, 3), (1328, .pop, 1), (1329, .aload_n 2, 1), (1330, .aload_n 0, 1), (1331, .iload_n 3, 1), (1332, .iconst 1, 1), (1333, .iadd, 1), (1334, .iaload, 1), (1335, .invokevirtual 164, 3), (1338, .pop, 1), (1339, .goto 3, 3)]
set_option maxRecDepth 100000 in
theorem hp_lc_count : pr_lc_count.all (fun x => decide (decode code x.1 = .ok x.2)) = true := by decide +kernel
set_option maxHeartbeats 4000000 in
set_option maxRecDepth 100000 in
theorem lc_count {p : Program} {l : Launch} {e : Env} {s : State} {m : MethodId} {below : List Frame} {meth : Method} {c : Code} {cells slots : Nat} {Q : State → Prop} {b L : Nat} {xs : Nat → Int32} {D : va_G} {kA : Nat → ClassId} (hc : zLc p s m c b L xs D kA) {x y : Nat} {i : Int} {u v : va_W} {H : Heap} {locs : List Loc} {ls : Array Slot} (hi : zLi s b D kA x y i u v H locs ls) (i0 : 0 ≤ i) (i1 : i + 5 ≤ (L : Int)) (hroom : cells ≤ room_1.cells ∧ slots ≤ room_1.slots)
    (kk : ∀ (u v : va_W) (H : Heap) (locs : List Loc), zLi s b D kA x y i u v H locs ls → W p l e room_1 s m #[Value.ref b] below meth c H locs cells slots Q (F0 m 1342 ls [])) : W p l e room_1 s m #[Value.ref b] below meth c H locs cells slots Q (F0 m 1319 ls []) := by
  obtain ⟨hx, hb, hml, hown, hts, hX, hbl, hK, hx0, hL⟩ := hc
  obtain ⟨r7, r8, hu, hv, hp, hP, hD, hS, hl⟩ := hi
  have hA : ∀ q : Nat, s.heap.size ≤ q → (fun q : Nat => s.heap.size ≤ q) q := fun _ h => h
  have hbA : ¬ (fun q : Nat => s.heap.size ≤ q) b := Nat.not_le.mpr hbl
  have hd := zpr_all hp_lc_count
  refine lv_aload_n hx hb (hd 1319 (.aload_n 1) 1 rfl) rfl (lv_at hl 2 rfl) ?_
  refine lv_aload_n hx hb (hd 1320 (.aload_n 0) 1 rfl) rfl (lv_at hl 3 rfl) ?_
  refine lv_iload_n hx hb (hd 1321 (.iload_n 3) 1 rfl) rfl (lv_at hl 0 rfl) ?_
  refine lv_iconst (v := Int32.ofInt 1) hx hb (hd 1322 (.iconst 1) 1 rfl) (by decide) ?_
  refine zh_iadd hx hb (hd 1323 .iadd 1 rfl) ?_
  refine zl_ld hx hb hX hbl hbA hS (x := i + 1) (by omega) (by omega) hL (hd 1324 .iaload 1 rfl) ?_
  refine zlawR (vs := [xs (i + 1).toNat]) (rest := []) zX_ok ⟨hx, hb, hml, hown, hts⟩ (c_X7_count zX_ok zX_n l) (cwV 1 hts gL_law_X7_count rfl rfl rfl (by decide +kernel) ⟨Nat.le_of_ble_eq_true rfl, Nat.le_of_ble_eq_true rfl⟩) (I := I_V) (K0 := 68) (bs := [((-2147483648), 2147483647)]) rfl rfl rfl rfl rfl rfl ⟨7, _, _, _, rfl, rfl⟩ lk7_count rfl rfl (zbsR_ok ⟨zq_rng _, trivial⟩) hK hu hP hD hS hA hx0 (lv_sub hl [] rfl) (Nat.le_of_ble_eq_true rfl) (hd 1325 (.invokevirtual 161) 3 rfl) hroom (fun T1 hT1 r1 ad1 u H locs q1 e1 p1 w1 hu hP hD hS => ?_)
  obtain ⟨zz1, hzz1⟩ := zst1_i (k := k_X7_count) (by decide +kernel) hT1 r1 ad1 []
  rw [hzz1]
  refine lv_pop hx hb (hd 1328 .pop 1 rfl) rfl ?_
  refine lv_aload_n hx hb (hd 1329 (.aload_n 2) 1 rfl) rfl (lv_at hl 1 rfl) ?_
  refine lv_aload_n hx hb (hd 1330 (.aload_n 0) 1 rfl) rfl (lv_at hl 3 rfl) ?_
  refine lv_iload_n hx hb (hd 1331 (.iload_n 3) 1 rfl) rfl (lv_at hl 0 rfl) ?_
  refine lv_iconst (v := Int32.ofInt 1) hx hb (hd 1332 (.iconst 1) 1 rfl) (by decide) ?_
  refine zh_iadd hx hb (hd 1333 .iadd 1 rfl) ?_
  refine zl_ld hx hb hX hbl hbA hS (x := i + 1) (by omega) (by omega) hL (hd 1334 .iaload 1 rfl) ?_
  refine zlawR (vs := [xs (i + 1).toNat]) (rest := []) zX_ok ⟨hx, hb, hml, hown, hts⟩ (c_X8_count zX_ok zX_n l) (cwV 1 hts gL_law_X8_count rfl rfl rfl (by decide +kernel) ⟨Nat.le_of_ble_eq_true rfl, Nat.le_of_ble_eq_true rfl⟩) (I := I_M) (K0 := 30) (bs := [((-2147483648), 2147483647)]) rfl rfl rfl rfl rfl rfl ⟨8, _, _, _, rfl, rfl⟩ lk8_count rfl rfl (zbsR_ok ⟨zq_rng _, trivial⟩) hK hv hP hD hS hA hx0 (lv_sub hl [] rfl) (Nat.le_of_ble_eq_true rfl) (hd 1335 (.invokevirtual 164) 3 rfl) hroom (fun T2 hT2 r2 ad2 v H locs q2 e2 p2 w2 hv hP hD hS => ?_)
  obtain ⟨zz2, hzz2⟩ := zst1_i (k := k_X8_count) (by decide +kernel) hT2 r2 ad2 []
  rw [hzz2]
  refine lv_pop hx hb (hd 1338 .pop 1 rfl) rfl ?_
  refine lv_goto (tgt := 1342) hx hb (hd 1339 (.goto 3) 3 rfl) (by decide) ?_
  have hp := zunP un7_count un8_count zWP_b hT1 hT2 p1 p2 hp
  exact kk u v H locs ⟨_, _, hu, hv, hp, hP, hD, hS, hl⟩
