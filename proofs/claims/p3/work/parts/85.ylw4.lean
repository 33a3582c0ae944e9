noncomputable def pr_lc_luck : List (Nat × Instr × Nat) := [(1045, .aload_n 1, 1), (1046, .aload_n 0, 1), (1047, .iload_n 3, 1), (1048, .iconst 1, 1), (1049, .iadd, 1), (1050, .iaload, 1), (1051, .aload_n 0, 1), (1052, .iload_n 3, 1), (1053, .iconst 2, 1), (1054, .iadd, 1), (1055, .iaload, 1), (1056, .invokevirtual 129, 3), (1059, .pop2, 1), (1060, .aload_n 2, 1), (1061, .aload_n 0, 1), (1062, .iload_n 3, 1), (1063, .iconst 1, 1), (1064, .iadd, 1), (1065, .iaload, 1), (1066, .aload_n 0, 1), (1067, .iload_n 3, 1), (1068, .iconst 2, 1), (1069, .iadd, 1), (1070, .iaload, 1), (1071, .invokevirtual 132, 3), (1074, .pop2, 1), (1075, .goto 267, 3)]
set_option maxRecDepth 100000 in
theorem hp_lc_luck : pr_lc_luck.all (fun x => decide (decode code x.1 = .ok x.2)) = true := by decide +kernel
set_option maxHeartbeats 4000000 in
set_option maxRecDepth 100000 in
theorem lc_luck {N : Nat} (hN : 1000 ≤ N) {p : Program} {l : Launch} {e : Env} {s : State} {m : MethodId} {below : List Frame} {meth : Method} {c : Code} {cells slots : Nat} {Q : State → Prop} {b L : Nat} {xs : Nat → Int32} {D : va_G} {kA : Nat → ClassId} (hc : zLc p s m c b L xs D kA) {ad7 ad8 : Nat → Nat} {i : Int} {σ τ : yS} {H : Heap} {locs : List Loc} {ls : Array Slot} (hi : yLi s b D kA ad7 ad8 i σ τ H locs ls) (i0 : 0 ≤ i) (i1 : i + 5 ≤ (L : Int)) (hroom : cells ≤ room_1.cells ∧ slots ≤ room_1.slots)
    (kk : ∀ (σ τ : yS) (H : Heap) (locs : List Loc), yLi s b D kA ad7 ad8 i σ τ H locs ls → W p l e room_1 s m #[Value.ref b] below meth c H locs cells slots Q (F0 m 1342 ls [])) : W p l e room_1 s m #[Value.ref b] below meth c H locs cells slots Q (F0 m 1045 ls []) := by
  obtain ⟨hx, hb, hml, hown, hts, hX, hbl, hK, hx0, hL⟩ := hc
  obtain ⟨o7, o8, hR, hP, hD, hS, hl⟩ := hi
  have hA : ∀ q : Nat, s.heap.size ≤ q → (fun q : Nat => s.heap.size ≤ q) q := fun _ h => h
  have hbA : ¬ (fun q : Nat => s.heap.size ≤ q) b := Nat.not_le.mpr hbl
  have hd := zpr_all hp_lc_luck
  obtain ⟨a7, σ', τ', h7, h8, hR'⟩ : ∃ (a7 : Int) (σ' τ' : yS), f_X7_luck N σ (xs (i + 1).toNat).toInt (xs (i + 2).toNat).toInt = some (a7, σ') ∧ f_X8_luck N τ (xs (i + 1).toNat).toInt (xs (i + 2).toNat).toInt = some (a7, τ') ∧ yRR σ' τ' := P_luck hN hR
  refine lv_aload_n hx hb (hd 1045 (.aload_n 1) 1 rfl) rfl (lv_at hl 2 rfl) ?_
  refine lv_aload_n hx hb (hd 1046 (.aload_n 0) 1 rfl) rfl (lv_at hl 3 rfl) ?_
  refine lv_iload_n hx hb (hd 1047 (.iload_n 3) 1 rfl) rfl (lv_at hl 0 rfl) ?_
  refine lv_iconst (v := Int32.ofInt 1) hx hb (hd 1048 (.iconst 1) 1 rfl) (by decide) ?_
  refine zh_iadd hx hb (hd 1049 .iadd 1 rfl) ?_
  refine yl_ld hx hb hX hbl hbA hS (x := i + 1) (by omega) (by omega) hL (hd 1050 .iaload 1 rfl) ?_
  refine lv_aload_n hx hb (hd 1051 (.aload_n 0) 1 rfl) rfl (lv_at hl 3 rfl) ?_
  refine lv_iload_n hx hb (hd 1052 (.iload_n 3) 1 rfl) rfl (lv_at hl 0 rfl) ?_
  refine lv_iconst (v := Int32.ofInt 2) hx hb (hd 1053 (.iconst 2) 1 rfl) (by decide) ?_
  refine zh_iadd hx hb (hd 1054 .iadd 1 rfl) ?_
  refine yl_ld hx hb hX hbl hbA hS (x := i + 2) (by omega) (by omega) hL (hd 1055 .iaload 1 rfl) ?_
  refine ycallG (as := [.inl (.inl (xs (i + 1).toNat).toInt), .inl (.inl (xs (i + 2).toNat).toInt)]) (rest := []) zX_ok ⟨hx, hb, hml, hown, hts⟩ (m_X7_luck (N := N) zX_ok zX_n l) (ci := 7) rfl (cwV 2 hts gL_law_X7_luck rfl rfl rfl (by decide +kernel) ⟨Nat.le_of_ble_eq_true rfl, Nat.le_of_ble_eq_true rfl⟩) rfl hK o7 rfl (List.forall_mem_cons.mpr ⟨zq_rng _, List.forall_mem_cons.mpr ⟨zq_rng _, fun _ h => absurd h List.not_mem_nil⟩⟩) (e_X7_luck h7) hP hD hS hA hx0 hl.1 (Nat.le_of_ble_eq_true rfl) (hd 1056 (.invokevirtual 129) 3 rfl) hroom (fun H locs o7 _ hP hD hS => ?_)
  show W p l e room_1 s m #[Value.ref b] below meth c H locs cells slots Q (F0 m 1059 ls [.long (Int64.ofInt a7)])
  refine lv_pop2_2 hx hb (hd 1059 .pop2 1 rfl) rfl ?_
  refine lv_aload_n hx hb (hd 1060 (.aload_n 2) 1 rfl) rfl (lv_at hl 1 rfl) ?_
  refine lv_aload_n hx hb (hd 1061 (.aload_n 0) 1 rfl) rfl (lv_at hl 3 rfl) ?_
  refine lv_iload_n hx hb (hd 1062 (.iload_n 3) 1 rfl) rfl (lv_at hl 0 rfl) ?_
  refine lv_iconst (v := Int32.ofInt 1) hx hb (hd 1063 (.iconst 1) 1 rfl) (by decide) ?_
  refine zh_iadd hx hb (hd 1064 .iadd 1 rfl) ?_
  refine yl_ld hx hb hX hbl hbA hS (x := i + 1) (by omega) (by omega) hL (hd 1065 .iaload 1 rfl) ?_
  refine lv_aload_n hx hb (hd 1066 (.aload_n 0) 1 rfl) rfl (lv_at hl 3 rfl) ?_
  refine lv_iload_n hx hb (hd 1067 (.iload_n 3) 1 rfl) rfl (lv_at hl 0 rfl) ?_
  refine lv_iconst (v := Int32.ofInt 2) hx hb (hd 1068 (.iconst 2) 1 rfl) (by decide) ?_
  refine zh_iadd hx hb (hd 1069 .iadd 1 rfl) ?_
  refine yl_ld hx hb hX hbl hbA hS (x := i + 2) (by omega) (by omega) hL (hd 1070 .iaload 1 rfl) ?_
  refine ycallG (as := [.inl (.inl (xs (i + 1).toNat).toInt), .inl (.inl (xs (i + 2).toNat).toInt)]) (rest := []) zX_ok ⟨hx, hb, hml, hown, hts⟩ (m_X8_luck (N := N) zX_ok zX_n l) (ci := 8) rfl (cwV 2 hts gL_law_X8_luck rfl rfl rfl (by decide +kernel) ⟨Nat.le_of_ble_eq_true rfl, Nat.le_of_ble_eq_true rfl⟩) rfl hK o8 rfl (List.forall_mem_cons.mpr ⟨zq_rng _, List.forall_mem_cons.mpr ⟨zq_rng _, fun _ h => absurd h List.not_mem_nil⟩⟩) (e_X8_luck h8) hP hD hS hA hx0 hl.1 (Nat.le_of_ble_eq_true rfl) (hd 1071 (.invokevirtual 132) 3 rfl) hroom (fun H locs o8 _ hP hD hS => ?_)
  show W p l e room_1 s m #[Value.ref b] below meth c H locs cells slots Q (F0 m 1074 ls [.long (Int64.ofInt a7)])
  refine lv_pop2_2 hx hb (hd 1074 .pop2 1 rfl) rfl ?_
  refine lv_goto (tgt := 1342) hx hb (hd 1075 (.goto 267) 3 rfl) (by decide) ?_
  exact kk σ' τ' H locs ⟨o7, o8, hR', hP, hD, hS, hl⟩
noncomputable def pr_lc_drift : List (Nat × Instr × Nat) := [(1078, .aload_n 1, 1), (1079, .aload_n 0, 1), (1080, .iload_n 3, 1), (1081, .iconst 1, 1), (1082, .iadd, 1), (1083, .iaload, 1), (1084, .aload_n 0, 1), (1085, .iload_n 3, 1), (1086, .iconst 2, 1), (1087, .iadd, 1), (1088, .iaload, 1), (1089, .aload_n 0, 1), (1090, .iload_n 3, 1), (1091, .iconst 3, 1), (1092, .iadd, 1), (1093, .iaload, 1), (1094, .invokevirtual 133, 3), (1097, .pop, 1), (1098, .aload_n 2, 1), (1099, .aload_n 0, 1), (1100, .iload_n 3, 1), (1101, .iconst 1, 1), (1102, .iadd, 1), (1103, .iaload, 1), (1104, .aload_n 0, 1), (1105, .iload_n 3, 1), (1106, .iconst 2, 1), (1107, .iadd, 1), (1108, .iaload, 1), (1109, .aload_n 0, 1), (1110, .iload_n 3, 1), (1111, .iconst 3, 1), (1112, .iadd, 1), (1113, .iaload, 1), (1114, .invokevirtual 136, 3), (1117, .pop, 1), (1118, .goto 224, 3)]
set_option maxRecDepth 100000 in
theorem hp_lc_drift : pr_lc_drift.all (fun x => decide (decode code x.1 = .ok x.2)) = true := by decide +kernel
set_option maxHeartbeats 4000000 in
set_option maxRecDepth 100000 in
theorem lc_drift {N : Nat} (hN : 1000 ≤ N) {p : Program} {l : Launch} {e : Env} {s : State} {m : MethodId} {below : List Frame} {meth : Method} {c : Code} {cells slots : Nat} {Q : State → Prop} {b L : Nat} {xs : Nat → Int32} {D : va_G} {kA : Nat → ClassId} (hc : zLc p s m c b L xs D kA) {ad7 ad8 : Nat → Nat} {i : Int} {σ τ : yS} {H : Heap} {locs : List Loc} {ls : Array Slot} (hi : yLi s b D kA ad7 ad8 i σ τ H locs ls) (i0 : 0 ≤ i) (i1 : i + 5 ≤ (L : Int)) (hroom : cells ≤ room_1.cells ∧ slots ≤ room_1.slots)
    (kk : ∀ (σ τ : yS) (H : Heap) (locs : List Loc), yLi s b D kA ad7 ad8 i σ τ H locs ls → W p l e room_1 s m #[Value.ref b] below meth c H locs cells slots Q (F0 m 1342 ls [])) : W p l e room_1 s m #[Value.ref b] below meth c H locs cells slots Q (F0 m 1078 ls []) := by
  obtain ⟨hx, hb, hml, hown, hts, hX, hbl, hK, hx0, hL⟩ := hc
  obtain ⟨o7, o8, hR, hP, hD, hS, hl⟩ := hi
  have hA : ∀ q : Nat, s.heap.size ≤ q → (fun q : Nat => s.heap.size ≤ q) q := fun _ h => h
  have hbA : ¬ (fun q : Nat => s.heap.size ≤ q) b := Nat.not_le.mpr hbl
  have hd := zpr_all hp_lc_drift
  obtain ⟨a7, σ', τ', h7, h8, hR'⟩ : ∃ (a7 : Int) (σ' τ' : yS), f_X7_drift N σ (xs (i + 1).toNat).toInt (xs (i + 2).toNat).toInt (xs (i + 3).toNat).toInt = some (a7, σ') ∧ f_X8_drift N τ (xs (i + 1).toNat).toInt (xs (i + 2).toNat).toInt (xs (i + 3).toNat).toInt = some (a7, τ') ∧ yRR σ' τ' := P_drift (by omega) hR
  refine lv_aload_n hx hb (hd 1078 (.aload_n 1) 1 rfl) rfl (lv_at hl 2 rfl) ?_
  refine lv_aload_n hx hb (hd 1079 (.aload_n 0) 1 rfl) rfl (lv_at hl 3 rfl) ?_
  refine lv_iload_n hx hb (hd 1080 (.iload_n 3) 1 rfl) rfl (lv_at hl 0 rfl) ?_
  refine lv_iconst (v := Int32.ofInt 1) hx hb (hd 1081 (.iconst 1) 1 rfl) (by decide) ?_
  refine zh_iadd hx hb (hd 1082 .iadd 1 rfl) ?_
  refine yl_ld hx hb hX hbl hbA hS (x := i + 1) (by omega) (by omega) hL (hd 1083 .iaload 1 rfl) ?_
  refine lv_aload_n hx hb (hd 1084 (.aload_n 0) 1 rfl) rfl (lv_at hl 3 rfl) ?_
  refine lv_iload_n hx hb (hd 1085 (.iload_n 3) 1 rfl) rfl (lv_at hl 0 rfl) ?_
  refine lv_iconst (v := Int32.ofInt 2) hx hb (hd 1086 (.iconst 2) 1 rfl) (by decide) ?_
  refine zh_iadd hx hb (hd 1087 .iadd 1 rfl) ?_
  refine yl_ld hx hb hX hbl hbA hS (x := i + 2) (by omega) (by omega) hL (hd 1088 .iaload 1 rfl) ?_
  refine lv_aload_n hx hb (hd 1089 (.aload_n 0) 1 rfl) rfl (lv_at hl 3 rfl) ?_
  refine lv_iload_n hx hb (hd 1090 (.iload_n 3) 1 rfl) rfl (lv_at hl 0 rfl) ?_
  refine lv_iconst (v := Int32.ofInt 3) hx hb (hd 1091 (.iconst 3) 1 rfl) (by decide) ?_
  refine zh_iadd hx hb (hd 1092 .iadd 1 rfl) ?_
  refine yl_ld hx hb hX hbl hbA hS (x := i + 3) (by omega) (by omega) hL (hd 1093 .iaload 1 rfl) ?_
  refine ycallG (as := [.inl (.inl (xs (i + 1).toNat).toInt), .inl (.inl (xs (i + 2).toNat).toInt), .inl (.inl (xs (i + 3).toNat).toInt)]) (rest := []) zX_ok ⟨hx, hb, hml, hown, hts⟩ (m_X7_drift (N := N) zX_ok zX_n l) (ci := 7) rfl (cwV 3 hts gL_law_X7_drift rfl rfl rfl (by decide +kernel) ⟨Nat.le_of_ble_eq_true rfl, Nat.le_of_ble_eq_true rfl⟩) rfl hK o7 rfl (List.forall_mem_cons.mpr ⟨zq_rng _, List.forall_mem_cons.mpr ⟨zq_rng _, List.forall_mem_cons.mpr ⟨zq_rng _, fun _ h => absurd h List.not_mem_nil⟩⟩⟩) (e_X7_drift h7) hP hD hS hA hx0 hl.1 (Nat.le_of_ble_eq_true rfl) (hd 1094 (.invokevirtual 133) 3 rfl) hroom (fun H locs o7 _ hP hD hS => ?_)
  show W p l e room_1 s m #[Value.ref b] below meth c H locs cells slots Q (F0 m 1097 ls [.int (Int32.ofInt a7)])
  refine lv_pop hx hb (hd 1097 .pop 1 rfl) rfl ?_
  refine lv_aload_n hx hb (hd 1098 (.aload_n 2) 1 rfl) rfl (lv_at hl 1 rfl) ?_
  refine lv_aload_n hx hb (hd 1099 (.aload_n 0) 1 rfl) rfl (lv_at hl 3 rfl) ?_
  refine lv_iload_n hx hb (hd 1100 (.iload_n 3) 1 rfl) rfl (lv_at hl 0 rfl) ?_
  refine lv_iconst (v := Int32.ofInt 1) hx hb (hd 1101 (.iconst 1) 1 rfl) (by decide) ?_
  refine zh_iadd hx hb (hd 1102 .iadd 1 rfl) ?_
  refine yl_ld hx hb hX hbl hbA hS (x := i + 1) (by omega) (by omega) hL (hd 1103 .iaload 1 rfl) ?_
  refine lv_aload_n hx hb (hd 1104 (.aload_n 0) 1 rfl) rfl (lv_at hl 3 rfl) ?_
  refine lv_iload_n hx hb (hd 1105 (.iload_n 3) 1 rfl) rfl (lv_at hl 0 rfl) ?_
  refine lv_iconst (v := Int32.ofInt 2) hx hb (hd 1106 (.iconst 2) 1 rfl) (by decide) ?_
  refine zh_iadd hx hb (hd 1107 .iadd 1 rfl) ?_
  refine yl_ld hx hb hX hbl hbA hS (x := i + 2) (by omega) (by omega) hL (hd 1108 .iaload 1 rfl) ?_
  refine lv_aload_n hx hb (hd 1109 (.aload_n 0) 1 rfl) rfl (lv_at hl 3 rfl) ?_
  refine lv_iload_n hx hb (hd 1110 (.iload_n 3) 1 rfl) rfl (lv_at hl 0 rfl) ?_
  refine lv_iconst (v := Int32.ofInt 3) hx hb (hd 1111 (.iconst 3) 1 rfl) (by decide) ?_
  refine zh_iadd hx hb (hd 1112 .iadd 1 rfl) ?_
  refine yl_ld hx hb hX hbl hbA hS (x := i + 3) (by omega) (by omega) hL (hd 1113 .iaload 1 rfl) ?_
  refine ycallG (as := [.inl (.inl (xs (i + 1).toNat).toInt), .inl (.inl (xs (i + 2).toNat).toInt), .inl (.inl (xs (i + 3).toNat).toInt)]) (rest := []) zX_ok ⟨hx, hb, hml, hown, hts⟩ (m_X8_drift (N := N) zX_ok zX_n l) (ci := 8) rfl (cwV 3 hts gL_law_X8_drift rfl rfl rfl (by decide +kernel) ⟨Nat.le_of_ble_eq_true rfl, Nat.le_of_ble_eq_true rfl⟩) rfl hK o8 rfl (List.forall_mem_cons.mpr ⟨zq_rng _, List.forall_mem_cons.mpr ⟨zq_rng _, List.forall_mem_cons.mpr ⟨zq_rng _, fun _ h => absurd h List.not_mem_nil⟩⟩⟩) (e_X8_drift h8) hP hD hS hA hx0 hl.1 (Nat.le_of_ble_eq_true rfl) (hd 1114 (.invokevirtual 136) 3 rfl) hroom (fun H locs o8 _ hP hD hS => ?_)
  show W p l e room_1 s m #[Value.ref b] below meth c H locs cells slots Q (F0 m 1117 ls [.int (Int32.ofInt a7)])
  refine lv_pop hx hb (hd 1117 .pop 1 rfl) rfl ?_
  refine lv_goto (tgt := 1342) hx hb (hd 1118 (.goto 224) 3 rfl) (by decide) ?_
  exact kk σ' τ' H locs ⟨o7, o8, hR', hP, hD, hS, hl⟩
noncomputable def pr_lc_keep : List (Nat × Instr × Nat) := [(1121, .aload_n 1, 1), (1122, .aload_n 0, 1), (1123, .iload_n 3, 1), (1124, .iconst 1, 1), (1125, .iadd, 1), (1126, .iaload, 1), (1127, .invokevirtual 137, 3), (1130, .pop, 1), (1131, .aload_n 2, 1), (1132, .aload_n 0, 1), (1133, .iload_n 3, 1), (1134, .iconst 1, 1), (1135, .iadd, 1), (1136, .iaload, 1), (1137, .invokevirtual 140, 3), (1140, .pop, 1), (1141, .goto 201, 3)]
set_option maxRecDepth 100000 in
theorem hp_lc_keep : pr_lc_keep.all (fun x => decide (decode code x.1 = .ok x.2)) = true := by decide +kernel
set_option maxHeartbeats 4000000 in
set_option maxRecDepth 100000 in
theorem lc_keep {N : Nat} (hN : 1000 ≤ N) {p : Program} {l : Launch} {e : Env} {s : State} {m : MethodId} {below : List Frame} {meth : Method} {c : Code} {cells slots : Nat} {Q : State → Prop} {b L : Nat} {xs : Nat → Int32} {D : va_G} {kA : Nat → ClassId} (hc : zLc p s m c b L xs D kA) {ad7 ad8 : Nat → Nat} {i : Int} {σ τ : yS} {H : Heap} {locs : List Loc} {ls : Array Slot} (hi : yLi s b D kA ad7 ad8 i σ τ H locs ls) (i0 : 0 ≤ i) (i1 : i + 5 ≤ (L : Int)) (hroom : cells ≤ room_1.cells ∧ slots ≤ room_1.slots)
    (kk : ∀ (σ τ : yS) (H : Heap) (locs : List Loc), yLi s b D kA ad7 ad8 i σ τ H locs ls → W p l e room_1 s m #[Value.ref b] below meth c H locs cells slots Q (F0 m 1342 ls [])) : W p l e room_1 s m #[Value.ref b] below meth c H locs cells slots Q (F0 m 1121 ls []) := by
  obtain ⟨hx, hb, hml, hown, hts, hX, hbl, hK, hx0, hL⟩ := hc
  obtain ⟨o7, o8, hR, hP, hD, hS, hl⟩ := hi
  have hA : ∀ q : Nat, s.heap.size ≤ q → (fun q : Nat => s.heap.size ≤ q) q := fun _ h => h
  have hbA : ¬ (fun q : Nat => s.heap.size ≤ q) b := Nat.not_le.mpr hbl
  have hd := zpr_all hp_lc_keep
  obtain ⟨a7, σ', τ', h7, h8, hR'⟩ : ∃ (a7 : Int) (σ' τ' : yS), f_X7_keep N σ (xs (i + 1).toNat).toInt = some (a7, σ') ∧ f_X8_keep N τ (xs (i + 1).toNat).toInt = some (a7, τ') ∧ yRR σ' τ' := P_keep (by omega) hR
  refine lv_aload_n hx hb (hd 1121 (.aload_n 1) 1 rfl) rfl (lv_at hl 2 rfl) ?_
  refine lv_aload_n hx hb (hd 1122 (.aload_n 0) 1 rfl) rfl (lv_at hl 3 rfl) ?_
  refine lv_iload_n hx hb (hd 1123 (.iload_n 3) 1 rfl) rfl (lv_at hl 0 rfl) ?_
  refine lv_iconst (v := Int32.ofInt 1) hx hb (hd 1124 (.iconst 1) 1 rfl) (by decide) ?_
  refine zh_iadd hx hb (hd 1125 .iadd 1 rfl) ?_
  refine yl_ld hx hb hX hbl hbA hS (x := i + 1) (by omega) (by omega) hL (hd 1126 .iaload 1 rfl) ?_
  refine ycallG (as := [.inl (.inl (xs (i + 1).toNat).toInt)]) (rest := []) zX_ok ⟨hx, hb, hml, hown, hts⟩ (m_X7_keep (N := N) zX_ok zX_n l) (ci := 7) rfl (cwV 1 hts gL_law_X7_keep rfl rfl rfl (by decide +kernel) ⟨Nat.le_of_ble_eq_true rfl, Nat.le_of_ble_eq_true rfl⟩) rfl hK o7 rfl (List.forall_mem_cons.mpr ⟨zq_rng _, fun _ h => absurd h List.not_mem_nil⟩) (e_X7_keep h7) hP hD hS hA hx0 hl.1 (Nat.le_of_ble_eq_true rfl) (hd 1127 (.invokevirtual 137) 3 rfl) hroom (fun H locs o7 _ hP hD hS => ?_)
  show W p l e room_1 s m #[Value.ref b] below meth c H locs cells slots Q (F0 m 1130 ls [.int (Int32.ofInt a7)])
  refine lv_pop hx hb (hd 1130 .pop 1 rfl) rfl ?_
  refine lv_aload_n hx hb (hd 1131 (.aload_n 2) 1 rfl) rfl (lv_at hl 1 rfl) ?_
  refine lv_aload_n hx hb (hd 1132 (.aload_n 0) 1 rfl) rfl (lv_at hl 3 rfl) ?_
  refine lv_iload_n hx hb (hd 1133 (.iload_n 3) 1 rfl) rfl (lv_at hl 0 rfl) ?_
  refine lv_iconst (v := Int32.ofInt 1) hx hb (hd 1134 (.iconst 1) 1 rfl) (by decide) ?_
  refine zh_iadd hx hb (hd 1135 .iadd 1 rfl) ?_
  refine yl_ld hx hb hX hbl hbA hS (x := i + 1) (by omega) (by omega) hL (hd 1136 .iaload 1 rfl) ?_
  refine ycallG (as := [.inl (.inl (xs (i + 1).toNat).toInt)]) (rest := []) zX_ok ⟨hx, hb, hml, hown, hts⟩ (m_X8_keep (N := N) zX_ok zX_n l) (ci := 8) rfl (cwV 1 hts gL_law_X8_keep rfl rfl rfl (by decide +kernel) ⟨Nat.le_of_ble_eq_true rfl, Nat.le_of_ble_eq_true rfl⟩) rfl hK o8 rfl (List.forall_mem_cons.mpr ⟨zq_rng _, fun _ h => absurd h List.not_mem_nil⟩) (e_X8_keep h8) hP hD hS hA hx0 hl.1 (Nat.le_of_ble_eq_true rfl) (hd 1137 (.invokevirtual 140) 3 rfl) hroom (fun H locs o8 _ hP hD hS => ?_)
  show W p l e room_1 s m #[Value.ref b] below meth c H locs cells slots Q (F0 m 1140 ls [.int (Int32.ofInt a7)])
  refine lv_pop hx hb (hd 1140 .pop 1 rfl) rfl ?_
  refine lv_goto (tgt := 1342) hx hb (hd 1141 (.goto 201) 3 rfl) (by decide) ?_
  exact kk σ' τ' H locs ⟨o7, o8, hR', hP, hD, hS, hl⟩
noncomputable def pr_lc_back : List (Nat × Instr × Nat) := [(1144, .aload_n 1, 1), (1145, .aload_n 0, 1), (1146, .iload_n 3, 1), (1147, .iconst 1, 1), (1148, .iadd, 1), (1149, .iaload, 1), (1150, .invokevirtual 141, 3), (1153, .pop, 1), (1154, .aload_n 2, 1), (1155, .aload_n 0, 1), (1156, .iload_n 3, 1), (1157, .iconst 1, 1), (1158, .iadd, 1), (1159, .iaload, 1), (1160, .invokevirtual 144, 3), (1163, .pop, 1), (1164, .goto 178, 3)]
set_option maxRecDepth 100000 in
theorem hp_lc_back : pr_lc_back.all (fun x => decide (decode code x.1 = .ok x.2)) = true := by decide +kernel
set_option maxHeartbeats 4000000 in
set_option maxRecDepth 100000 in
theorem lc_back {N : Nat} (hN : 1000 ≤ N) {p : Program} {l : Launch} {e : Env} {s : State} {m : MethodId} {below : List Frame} {meth : Method} {c : Code} {cells slots : Nat} {Q : State → Prop} {b L : Nat} {xs : Nat → Int32} {D : va_G} {kA : Nat → ClassId} (hc : zLc p s m c b L xs D kA) {ad7 ad8 : Nat → Nat} {i : Int} {σ τ : yS} {H : Heap} {locs : List Loc} {ls : Array Slot} (hi : yLi s b D kA ad7 ad8 i σ τ H locs ls) (i0 : 0 ≤ i) (i1 : i + 5 ≤ (L : Int)) (hroom : cells ≤ room_1.cells ∧ slots ≤ room_1.slots)
    (kk : ∀ (σ τ : yS) (H : Heap) (locs : List Loc), yLi s b D kA ad7 ad8 i σ τ H locs ls → W p l e room_1 s m #[Value.ref b] below meth c H locs cells slots Q (F0 m 1342 ls [])) : W p l e room_1 s m #[Value.ref b] below meth c H locs cells slots Q (F0 m 1144 ls []) := by
  obtain ⟨hx, hb, hml, hown, hts, hX, hbl, hK, hx0, hL⟩ := hc
  obtain ⟨o7, o8, hR, hP, hD, hS, hl⟩ := hi
  have hA : ∀ q : Nat, s.heap.size ≤ q → (fun q : Nat => s.heap.size ≤ q) q := fun _ h => h
  have hbA : ¬ (fun q : Nat => s.heap.size ≤ q) b := Nat.not_le.mpr hbl
  have hd := zpr_all hp_lc_back
  obtain ⟨a7, σ', τ', h7, h8, hR'⟩ : ∃ (a7 : Int) (σ' τ' : yS), f_X7_back N σ (xs (i + 1).toNat).toInt = some (a7, σ') ∧ f_X8_back N τ (xs (i + 1).toNat).toInt = some (a7, τ') ∧ yRR σ' τ' := P_back (by omega) hR
  refine lv_aload_n hx hb (hd 1144 (.aload_n 1) 1 rfl) rfl (lv_at hl 2 rfl) ?_
  refine lv_aload_n hx hb (hd 1145 (.aload_n 0) 1 rfl) rfl (lv_at hl 3 rfl) ?_
  refine lv_iload_n hx hb (hd 1146 (.iload_n 3) 1 rfl) rfl (lv_at hl 0 rfl) ?_
  refine lv_iconst (v := Int32.ofInt 1) hx hb (hd 1147 (.iconst 1) 1 rfl) (by decide) ?_
  refine zh_iadd hx hb (hd 1148 .iadd 1 rfl) ?_
  refine yl_ld hx hb hX hbl hbA hS (x := i + 1) (by omega) (by omega) hL (hd 1149 .iaload 1 rfl) ?_
  refine ycallG (as := [.inl (.inl (xs (i + 1).toNat).toInt)]) (rest := []) zX_ok ⟨hx, hb, hml, hown, hts⟩ (m_X7_back (N := N) zX_ok zX_n l) (ci := 7) rfl (cwV 1 hts gL_law_X7_back rfl rfl rfl (by decide +kernel) ⟨Nat.le_of_ble_eq_true rfl, Nat.le_of_ble_eq_true rfl⟩) rfl hK o7 rfl (List.forall_mem_cons.mpr ⟨zq_rng _, fun _ h => absurd h List.not_mem_nil⟩) (e_X7_back h7) hP hD hS hA hx0 hl.1 (Nat.le_of_ble_eq_true rfl) (hd 1150 (.invokevirtual 141) 3 rfl) hroom (fun H locs o7 _ hP hD hS => ?_)
  show W p l e room_1 s m #[Value.ref b] below meth c H locs cells slots Q (F0 m 1153 ls [.int (Int32.ofInt a7)])
  refine lv_pop hx hb (hd 1153 .pop 1 rfl) rfl ?_
  refine lv_aload_n hx hb (hd 1154 (.aload_n 2) 1 rfl) rfl (lv_at hl 1 rfl) ?_
  refine lv_aload_n hx hb (hd 1155 (.aload_n 0) 1 rfl) rfl (lv_at hl 3 rfl) ?_
  refine lv_iload_n hx hb (hd 1156 (.iload_n 3) 1 rfl) rfl (lv_at hl 0 rfl) ?_
  refine lv_iconst (v := Int32.ofInt 1) hx hb (hd 1157 (.iconst 1) 1 rfl) (by decide) ?_
  refine zh_iadd hx hb (hd 1158 .iadd 1 rfl) ?_
  refine yl_ld hx hb hX hbl hbA hS (x := i + 1) (by omega) (by omega) hL (hd 1159 .iaload 1 rfl) ?_
  refine ycallG (as := [.inl (.inl (xs (i + 1).toNat).toInt)]) (rest := []) zX_ok ⟨hx, hb, hml, hown, hts⟩ (m_X8_back (N := N) zX_ok zX_n l) (ci := 8) rfl (cwV 1 hts gL_law_X8_back rfl rfl rfl (by decide +kernel) ⟨Nat.le_of_ble_eq_true rfl, Nat.le_of_ble_eq_true rfl⟩) rfl hK o8 rfl (List.forall_mem_cons.mpr ⟨zq_rng _, fun _ h => absurd h List.not_mem_nil⟩) (e_X8_back h8) hP hD hS hA hx0 hl.1 (Nat.le_of_ble_eq_true rfl) (hd 1160 (.invokevirtual 144) 3 rfl) hroom (fun H locs o8 _ hP hD hS => ?_)
  show W p l e room_1 s m #[Value.ref b] below meth c H locs cells slots Q (F0 m 1163 ls [.int (Int32.ofInt a7)])
  refine lv_pop hx hb (hd 1163 .pop 1 rfl) rfl ?_
  refine lv_goto (tgt := 1342) hx hb (hd 1164 (.goto 178) 3 rfl) (by decide) ?_
  exact kk σ' τ' H locs ⟨o7, o8, hR', hP, hD, hS, hl⟩
noncomputable def pr_lc_sheet : List (Nat × Instr × Nat) := [(1167, .aload_n 1, 1), (1168, .aload_n 0, 1), (1169, .iload_n 3, 1), (1170, .iconst 1, 1), (1171, .iadd, 1), (1172, .iaload, 1), (1173, .aload_n 0, 1), (1174, .iload_n 3, 1), (1175, .iconst 2, 1), (1176, .iadd, 1), (1177, .iaload, 1), (1178, .aload_n 0, 1), (1179, .iload_n 3, 1), (1180, .iconst 3, 1), (1181, .iadd, 1), (1182, .iaload, 1), (1183, .invokevirtual 145, 3), (1186, .pop, 1), (1187, .aload_n 2, 1), (1188, .aload_n 0, 1), (1189, .iload_n 3, 1), (1190, .iconst 1, 1), (1191, .iadd, 1), (1192, .iaload, 1), (1193, .aload_n 0, 1), (1194, .iload_n 3, 1), (1195, .iconst 2, 1), (1196, .iadd, 1), (1197, .iaload, 1), (1198, .aload_n 0, 1), (1199, .iload_n 3, 1), (1200, .iconst 3, 1), (1201, .iadd, 1), (1202, .iaload, 1), (1203, .invokevirtual 148, 3), (1206, .pop, 1), (1207, .goto 135, 3)]
set_option maxRecDepth 100000 in
theorem hp_lc_sheet : pr_lc_sheet.all (fun x => decide (decode code x.1 = .ok x.2)) = true := by decide +kernel
set_option maxHeartbeats 4000000 in
set_option maxRecDepth 100000 in
theorem lc_sheet {N : Nat} (hN : 1000 ≤ N) {p : Program} {l : Launch} {e : Env} {s : State} {m : MethodId} {below : List Frame} {meth : Method} {c : Code} {cells slots : Nat} {Q : State → Prop} {b L : Nat} {xs : Nat → Int32} {D : va_G} {kA : Nat → ClassId} (hc : zLc p s m c b L xs D kA) {ad7 ad8 : Nat → Nat} {i : Int} {σ τ : yS} {H : Heap} {locs : List Loc} {ls : Array Slot} (hi : yLi s b D kA ad7 ad8 i σ τ H locs ls) (i0 : 0 ≤ i) (i1 : i + 5 ≤ (L : Int)) (hroom : cells ≤ room_1.cells ∧ slots ≤ room_1.slots)
    (kk : ∀ (σ τ : yS) (H : Heap) (locs : List Loc), yLi s b D kA ad7 ad8 i σ τ H locs ls → W p l e room_1 s m #[Value.ref b] below meth c H locs cells slots Q (F0 m 1342 ls [])) : W p l e room_1 s m #[Value.ref b] below meth c H locs cells slots Q (F0 m 1167 ls []) := by
  obtain ⟨hx, hb, hml, hown, hts, hX, hbl, hK, hx0, hL⟩ := hc
  obtain ⟨o7, o8, hR, hP, hD, hS, hl⟩ := hi
  have hA : ∀ q : Nat, s.heap.size ≤ q → (fun q : Nat => s.heap.size ≤ q) q := fun _ h => h
  have hbA : ¬ (fun q : Nat => s.heap.size ≤ q) b := Nat.not_le.mpr hbl
  have hd := zpr_all hp_lc_sheet
  obtain ⟨a7, σ', τ', h7, h8, hR'⟩ : ∃ (a7 : Int) (σ' τ' : yS), f_X7_sheet N σ (xs (i + 1).toNat).toInt (xs (i + 2).toNat).toInt (xs (i + 3).toNat).toInt = some (a7, σ') ∧ f_X8_sheet N τ (xs (i + 1).toNat).toInt (xs (i + 2).toNat).toInt (xs (i + 3).toNat).toInt = some (a7, τ') ∧ yRR σ' τ' := P_sheet (by omega) hR
  refine lv_aload_n hx hb (hd 1167 (.aload_n 1) 1 rfl) rfl (lv_at hl 2 rfl) ?_
  refine lv_aload_n hx hb (hd 1168 (.aload_n 0) 1 rfl) rfl (lv_at hl 3 rfl) ?_
  refine lv_iload_n hx hb (hd 1169 (.iload_n 3) 1 rfl) rfl (lv_at hl 0 rfl) ?_
  refine lv_iconst (v := Int32.ofInt 1) hx hb (hd 1170 (.iconst 1) 1 rfl) (by decide) ?_
  refine zh_iadd hx hb (hd 1171 .iadd 1 rfl) ?_
  refine yl_ld hx hb hX hbl hbA hS (x := i + 1) (by omega) (by omega) hL (hd 1172 .iaload 1 rfl) ?_
  refine lv_aload_n hx hb (hd 1173 (.aload_n 0) 1 rfl) rfl (lv_at hl 3 rfl) ?_
  refine lv_iload_n hx hb (hd 1174 (.iload_n 3) 1 rfl) rfl (lv_at hl 0 rfl) ?_
  refine lv_iconst (v := Int32.ofInt 2) hx hb (hd 1175 (.iconst 2) 1 rfl) (by decide) ?_
  refine zh_iadd hx hb (hd 1176 .iadd 1 rfl) ?_
  refine yl_ld hx hb hX hbl hbA hS (x := i + 2) (by omega) (by omega) hL (hd 1177 .iaload 1 rfl) ?_
  refine lv_aload_n hx hb (hd 1178 (.aload_n 0) 1 rfl) rfl (lv_at hl 3 rfl) ?_
  refine lv_iload_n hx hb (hd 1179 (.iload_n 3) 1 rfl) rfl (lv_at hl 0 rfl) ?_
  refine lv_iconst (v := Int32.ofInt 3) hx hb (hd 1180 (.iconst 3) 1 rfl) (by decide) ?_
  refine zh_iadd hx hb (hd 1181 .iadd 1 rfl) ?_
  refine yl_ld hx hb hX hbl hbA hS (x := i + 3) (by omega) (by omega) hL (hd 1182 .iaload 1 rfl) ?_
  refine ycallG (as := [.inl (.inl (xs (i + 1).toNat).toInt), .inl (.inl (xs (i + 2).toNat).toInt), .inl (.inl (xs (i + 3).toNat).toInt)]) (rest := []) zX_ok ⟨hx, hb, hml, hown, hts⟩ (m_X7_sheet (N := N) zX_ok zX_n l) (ci := 7) rfl (cwV 3 hts gL_law_X7_sheet rfl rfl rfl (by decide +kernel) ⟨Nat.le_of_ble_eq_true rfl, Nat.le_of_ble_eq_true rfl⟩) rfl hK o7 rfl (List.forall_mem_cons.mpr ⟨zq_rng _, List.forall_mem_cons.mpr ⟨zq_rng _, List.forall_mem_cons.mpr ⟨zq_rng _, fun _ h => absurd h List.not_mem_nil⟩⟩⟩) (e_X7_sheet h7) hP hD hS hA hx0 hl.1 (Nat.le_of_ble_eq_true rfl) (hd 1183 (.invokevirtual 145) 3 rfl) hroom (fun H locs o7 _ hP hD hS => ?_)
  show W p l e room_1 s m #[Value.ref b] below meth c H locs cells slots Q (F0 m 1186 ls [.int (Int32.ofInt a7)])
  refine lv_pop hx hb (hd 1186 .pop 1 rfl) rfl ?_
  refine lv_aload_n hx hb (hd 1187 (.aload_n 2) 1 rfl) rfl (lv_at hl 1 rfl) ?_
  refine lv_aload_n hx hb (hd 1188 (.aload_n 0) 1 rfl) rfl (lv_at hl 3 rfl) ?_
  refine lv_iload_n hx hb (hd 1189 (.iload_n 3) 1 rfl) rfl (lv_at hl 0 rfl) ?_
  refine lv_iconst (v := Int32.ofInt 1) hx hb (hd 1190 (.iconst 1) 1 rfl) (by decide) ?_
  refine zh_iadd hx hb (hd 1191 .iadd 1 rfl) ?_
  refine yl_ld hx hb hX hbl hbA hS (x := i + 1) (by omega) (by omega) hL (hd 1192 .iaload 1 rfl) ?_
  refine lv_aload_n hx hb (hd 1193 (.aload_n 0) 1 rfl) rfl (lv_at hl 3 rfl) ?_
  refine lv_iload_n hx hb (hd 1194 (.iload_n 3) 1 rfl) rfl (lv_at hl 0 rfl) ?_
  refine lv_iconst (v := Int32.ofInt 2) hx hb (hd 1195 (.iconst 2) 1 rfl) (by decide) ?_
  refine zh_iadd hx hb (hd 1196 .iadd 1 rfl) ?_
  refine yl_ld hx hb hX hbl hbA hS (x := i + 2) (by omega) (by omega) hL (hd 1197 .iaload 1 rfl) ?_
  refine lv_aload_n hx hb (hd 1198 (.aload_n 0) 1 rfl) rfl (lv_at hl 3 rfl) ?_
  refine lv_iload_n hx hb (hd 1199 (.iload_n 3) 1 rfl) rfl (lv_at hl 0 rfl) ?_
  refine lv_iconst (v := Int32.ofInt 3) hx hb (hd 1200 (.iconst 3) 1 rfl) (by decide) ?_
  refine zh_iadd hx hb (hd 1201 .iadd 1 rfl) ?_
  refine yl_ld hx hb hX hbl hbA hS (x := i + 3) (by omega) (by omega) hL (hd 1202 .iaload 1 rfl) ?_
  refine ycallG (as := [.inl (.inl (xs (i + 1).toNat).toInt), .inl (.inl (xs (i + 2).toNat).toInt), .inl (.inl (xs (i + 3).toNat).toInt)]) (rest := []) zX_ok ⟨hx, hb, hml, hown, hts⟩ (m_X8_sheet (N := N) zX_ok zX_n l) (ci := 8) rfl (cwV 3 hts gL_law_X8_sheet rfl rfl rfl (by decide +kernel) ⟨Nat.le_of_ble_eq_true rfl, Nat.le_of_ble_eq_true rfl⟩) rfl hK o8 rfl (List.forall_mem_cons.mpr ⟨zq_rng _, List.forall_mem_cons.mpr ⟨zq_rng _, List.forall_mem_cons.mpr ⟨zq_rng _, fun _ h => absurd h List.not_mem_nil⟩⟩⟩) (e_X8_sheet h8) hP hD hS hA hx0 hl.1 (Nat.le_of_ble_eq_true rfl) (hd 1203 (.invokevirtual 148) 3 rfl) hroom (fun H locs o8 _ hP hD hS => ?_)
  show W p l e room_1 s m #[Value.ref b] below meth c H locs cells slots Q (F0 m 1206 ls [.int (Int32.ofInt a7)])
  refine lv_pop hx hb (hd 1206 .pop 1 rfl) rfl ?_
  refine lv_goto (tgt := 1342) hx hb (hd 1207 (.goto 135) 3 rfl) (by decide) ?_
  exact kk σ' τ' H locs ⟨o7, o8, hR', hP, hD, hS, hl⟩
noncomputable def pr_lc_lay : List (Nat × Instr × Nat) := [(1210, .aload_n 1, 1), (1211, .aload_n 0, 1), (1212, .iload_n 3, 1), (1213, .iconst 1, 1), (1214, .iadd, 1), (1215, .iaload, 1), (1216, .aload_n 0, 1), (1217, .iload_n 3, 1), (1218, .iconst 2, 1), (1219, .iadd, 1), (1220, .iaload, 1), (1221, .aload_n 0, 1), (1222, .iload_n 3, 1), (1223, .iconst 3, 1), (1224, .iadd, 1), (1225, .iaload, 1), (1226, .invokevirtual 149, 3), (1229, .pop, 1), (1230, .aload_n 2, 1), (1231, .aload_n 0, 1), (1232, .iload_n 3, 1), (1233, .iconst 1, 1), (1234, .iadd, 1), (1235, .iaload, 1), (1236, .aload_n 0, 1), (1237, .iload_n 3, 1), (1238, .iconst 2, 1), (1239, .iadd, 1), (1240, .iaload, 1), (1241, .aload_n 0, 1), (1242, .iload_n 3, 1), (1243, .iconst 3, 1), (1244, .iadd, 1), (1245, .iaload, 1), (1246, .invokevirtual 152, 3), (1249, .pop, 1), (1250, .goto 92, 3)]
set_option maxRecDepth 100000 in
theorem hp_lc_lay : pr_lc_lay.all (fun x => decide (decode code x.1 = .ok x.2)) = true := by decide +kernel
set_option maxHeartbeats 4000000 in
set_option maxRecDepth 100000 in
theorem lc_lay {N : Nat} (hN : 1000 ≤ N) {p : Program} {l : Launch} {e : Env} {s : State} {m : MethodId} {below : List Frame} {meth : Method} {c : Code} {cells slots : Nat} {Q : State → Prop} {b L : Nat} {xs : Nat → Int32} {D : va_G} {kA : Nat → ClassId} (hc : zLc p s m c b L xs D kA) {ad7 ad8 : Nat → Nat} {i : Int} {σ τ : yS} {H : Heap} {locs : List Loc} {ls : Array Slot} (hi : yLi s b D kA ad7 ad8 i σ τ H locs ls) (i0 : 0 ≤ i) (i1 : i + 5 ≤ (L : Int)) (hroom : cells ≤ room_1.cells ∧ slots ≤ room_1.slots)
    (kk : ∀ (σ τ : yS) (H : Heap) (locs : List Loc), yLi s b D kA ad7 ad8 i σ τ H locs ls → W p l e room_1 s m #[Value.ref b] below meth c H locs cells slots Q (F0 m 1342 ls [])) : W p l e room_1 s m #[Value.ref b] below meth c H locs cells slots Q (F0 m 1210 ls []) := by
  obtain ⟨hx, hb, hml, hown, hts, hX, hbl, hK, hx0, hL⟩ := hc
  obtain ⟨o7, o8, hR, hP, hD, hS, hl⟩ := hi
  have hA : ∀ q : Nat, s.heap.size ≤ q → (fun q : Nat => s.heap.size ≤ q) q := fun _ h => h
  have hbA : ¬ (fun q : Nat => s.heap.size ≤ q) b := Nat.not_le.mpr hbl
  have hd := zpr_all hp_lc_lay
  obtain ⟨a7, σ', τ', h7, h8, hR'⟩ : ∃ (a7 : Int) (σ' τ' : yS), f_X7_lay N σ (xs (i + 1).toNat).toInt (xs (i + 2).toNat).toInt (xs (i + 3).toNat).toInt = some (a7, σ') ∧ f_X8_lay N τ (xs (i + 1).toNat).toInt (xs (i + 2).toNat).toInt (xs (i + 3).toNat).toInt = some (a7, τ') ∧ yRR σ' τ' := P_lay hR
  refine lv_aload_n hx hb (hd 1210 (.aload_n 1) 1 rfl) rfl (lv_at hl 2 rfl) ?_
  refine lv_aload_n hx hb (hd 1211 (.aload_n 0) 1 rfl) rfl (lv_at hl 3 rfl) ?_
  refine lv_iload_n hx hb (hd 1212 (.iload_n 3) 1 rfl) rfl (lv_at hl 0 rfl) ?_
  refine lv_iconst (v := Int32.ofInt 1) hx hb (hd 1213 (.iconst 1) 1 rfl) (by decide) ?_
  refine zh_iadd hx hb (hd 1214 .iadd 1 rfl) ?_
  refine yl_ld hx hb hX hbl hbA hS (x := i + 1) (by omega) (by omega) hL (hd 1215 .iaload 1 rfl) ?_
  refine lv_aload_n hx hb (hd 1216 (.aload_n 0) 1 rfl) rfl (lv_at hl 3 rfl) ?_
  refine lv_iload_n hx hb (hd 1217 (.iload_n 3) 1 rfl) rfl (lv_at hl 0 rfl) ?_
  refine lv_iconst (v := Int32.ofInt 2) hx hb (hd 1218 (.iconst 2) 1 rfl) (by decide) ?_
  refine zh_iadd hx hb (hd 1219 .iadd 1 rfl) ?_
  refine yl_ld hx hb hX hbl hbA hS (x := i + 2) (by omega) (by omega) hL (hd 1220 .iaload 1 rfl) ?_
  refine lv_aload_n hx hb (hd 1221 (.aload_n 0) 1 rfl) rfl (lv_at hl 3 rfl) ?_
  refine lv_iload_n hx hb (hd 1222 (.iload_n 3) 1 rfl) rfl (lv_at hl 0 rfl) ?_
  refine lv_iconst (v := Int32.ofInt 3) hx hb (hd 1223 (.iconst 3) 1 rfl) (by decide) ?_
  refine zh_iadd hx hb (hd 1224 .iadd 1 rfl) ?_
  refine yl_ld hx hb hX hbl hbA hS (x := i + 3) (by omega) (by omega) hL (hd 1225 .iaload 1 rfl) ?_
  refine ycallG (as := [.inl (.inl (xs (i + 1).toNat).toInt), .inl (.inl (xs (i + 2).toNat).toInt), .inl (.inl (xs (i + 3).toNat).toInt)]) (rest := []) zX_ok ⟨hx, hb, hml, hown, hts⟩ (m_X7_lay (N := N) zX_ok zX_n l) (ci := 7) rfl (cwV 3 hts gL_law_X7_lay rfl rfl rfl (by decide +kernel) ⟨Nat.le_of_ble_eq_true rfl, Nat.le_of_ble_eq_true rfl⟩) rfl hK o7 rfl (List.forall_mem_cons.mpr ⟨zq_rng _, List.forall_mem_cons.mpr ⟨zq_rng _, List.forall_mem_cons.mpr ⟨zq_rng _, fun _ h => absurd h List.not_mem_nil⟩⟩⟩) (e_X7_lay h7) hP hD hS hA hx0 hl.1 (Nat.le_of_ble_eq_true rfl) (hd 1226 (.invokevirtual 149) 3 rfl) hroom (fun H locs o7 _ hP hD hS => ?_)
  show W p l e room_1 s m #[Value.ref b] below meth c H locs cells slots Q (F0 m 1229 ls [.int (Int32.ofInt a7)])
  refine lv_pop hx hb (hd 1229 .pop 1 rfl) rfl ?_
  refine lv_aload_n hx hb (hd 1230 (.aload_n 2) 1 rfl) rfl (lv_at hl 1 rfl) ?_
  refine lv_aload_n hx hb (hd 1231 (.aload_n 0) 1 rfl) rfl (lv_at hl 3 rfl) ?_
  refine lv_iload_n hx hb (hd 1232 (.iload_n 3) 1 rfl) rfl (lv_at hl 0 rfl) ?_
  refine lv_iconst (v := Int32.ofInt 1) hx hb (hd 1233 (.iconst 1) 1 rfl) (by decide) ?_
  refine zh_iadd hx hb (hd 1234 .iadd 1 rfl) ?_
  refine yl_ld hx hb hX hbl hbA hS (x := i + 1) (by omega) (by omega) hL (hd 1235 .iaload 1 rfl) ?_
  refine lv_aload_n hx hb (hd 1236 (.aload_n 0) 1 rfl) rfl (lv_at hl 3 rfl) ?_
  refine lv_iload_n hx hb (hd 1237 (.iload_n 3) 1 rfl) rfl (lv_at hl 0 rfl) ?_
  refine lv_iconst (v := Int32.ofInt 2) hx hb (hd 1238 (.iconst 2) 1 rfl) (by decide) ?_
  refine zh_iadd hx hb (hd 1239 .iadd 1 rfl) ?_
  refine yl_ld hx hb hX hbl hbA hS (x := i + 2) (by omega) (by omega) hL (hd 1240 .iaload 1 rfl) ?_
  refine lv_aload_n hx hb (hd 1241 (.aload_n 0) 1 rfl) rfl (lv_at hl 3 rfl) ?_
  refine lv_iload_n hx hb (hd 1242 (.iload_n 3) 1 rfl) rfl (lv_at hl 0 rfl) ?_
  refine lv_iconst (v := Int32.ofInt 3) hx hb (hd 1243 (.iconst 3) 1 rfl) (by decide) ?_
  refine zh_iadd hx hb (hd 1244 .iadd 1 rfl) ?_
  refine yl_ld hx hb hX hbl hbA hS (x := i + 3) (by omega) (by omega) hL (hd 1245 .iaload 1 rfl) ?_
  refine ycallG (as := [.inl (.inl (xs (i + 1).toNat).toInt), .inl (.inl (xs (i + 2).toNat).toInt), .inl (.inl (xs (i + 3).toNat).toInt)]) (rest := []) zX_ok ⟨hx, hb, hml, hown, hts⟩ (m_X8_lay (N := N) zX_ok zX_n l) (ci := 8) rfl (cwV 3 hts gL_law_X8_lay rfl rfl rfl (by decide +kernel) ⟨Nat.le_of_ble_eq_true rfl, Nat.le_of_ble_eq_true rfl⟩) rfl hK o8 rfl (List.forall_mem_cons.mpr ⟨zq_rng _, List.forall_mem_cons.mpr ⟨zq_rng _, List.forall_mem_cons.mpr ⟨zq_rng _, fun _ h => absurd h List.not_mem_nil⟩⟩⟩) (e_X8_lay h8) hP hD hS hA hx0 hl.1 (Nat.le_of_ble_eq_true rfl) (hd 1246 (.invokevirtual 152) 3 rfl) hroom (fun H locs o8 _ hP hD hS => ?_)
  show W p l e room_1 s m #[Value.ref b] below meth c H locs cells slots Q (F0 m 1249 ls [.int (Int32.ofInt a7)])
  refine lv_pop hx hb (hd 1249 .pop 1 rfl) rfl ?_
  refine lv_goto (tgt := 1342) hx hb (hd 1250 (.goto 92) 3 rfl) (by decide) ?_
  exact kk σ' τ' H locs ⟨o7, o8, hR', hP, hD, hS, hl⟩
noncomputable def pr_lc_read : List (Nat × Instr × Nat) := [(1253, .aload_n 1, 1), (1254, .aload_n 0, 1), (1255, .iload_n 3, 1), (1256, .iconst 1, 1), (1257, .iadd, 1), (1258, .iaload, 1), (1259, .aload_n 0, 1), (1260, .iload_n 3, 1), (1261, .iconst 2, 1), (1262, .iadd, 1), (1263, .iaload, 1), (1264, .aload_n 0, 1), (1265, .iload_n 3, 1), (1266, .iconst 3, 1), (1267, .iadd, 1), (1268, .iaload, 1), (1269, .aload_n 0, 1), (1270, .iload_n 3, 1), (1271, .iconst 4, 1), (1272, .iadd, 1), (1273, .iaload, 1), (1274, .invokevirtual 153, 3), (1277, .pop, 1), (1278, .aload_n 2, 1), (1279, .aload_n 0, 1), (1280, .iload_n 3, 1), (1281, .iconst 1, 1), (1282, .iadd, 1), (1283, .iaload, 1), (1284, .aload_n 0, 1), (1285, .iload_n 3, 1), (1286, .iconst 2, 1), (1287, .iadd, 1), (1288, .iaload, 1), (1289, .aload_n 0, 1), (1290, .iload_n 3, 1), (1291, .iconst 3, 1), (1292, .iadd, 1), (1293, .iaload, 1), (1294, .aload_n 0, 1), (1295, .iload_n 3, 1), (1296, .iconst 4, 1), (1297, .iadd, 1), (1298, .iaload, 1), (1299, .invokevirtual 156, 3), (1302, .pop, 1), (1303, .goto 39, 3)]
set_option maxRecDepth 100000 in
theorem hp_lc_read : pr_lc_read.all (fun x => decide (decode code x.1 = .ok x.2)) = true := by decide +kernel
set_option maxHeartbeats 4000000 in
set_option maxRecDepth 100000 in
theorem lc_read {N : Nat} (hN : 1000 ≤ N) {p : Program} {l : Launch} {e : Env} {s : State} {m : MethodId} {below : List Frame} {meth : Method} {c : Code} {cells slots : Nat} {Q : State → Prop} {b L : Nat} {xs : Nat → Int32} {D : va_G} {kA : Nat → ClassId} (hc : zLc p s m c b L xs D kA) {ad7 ad8 : Nat → Nat} {i : Int} {σ τ : yS} {H : Heap} {locs : List Loc} {ls : Array Slot} (hi : yLi s b D kA ad7 ad8 i σ τ H locs ls) (i0 : 0 ≤ i) (i1 : i + 5 ≤ (L : Int)) (hroom : cells ≤ room_1.cells ∧ slots ≤ room_1.slots)
    (kk : ∀ (σ τ : yS) (H : Heap) (locs : List Loc), yLi s b D kA ad7 ad8 i σ τ H locs ls → W p l e room_1 s m #[Value.ref b] below meth c H locs cells slots Q (F0 m 1342 ls [])) : W p l e room_1 s m #[Value.ref b] below meth c H locs cells slots Q (F0 m 1253 ls []) := by
  obtain ⟨hx, hb, hml, hown, hts, hX, hbl, hK, hx0, hL⟩ := hc
  obtain ⟨o7, o8, hR, hP, hD, hS, hl⟩ := hi
  have hA : ∀ q : Nat, s.heap.size ≤ q → (fun q : Nat => s.heap.size ≤ q) q := fun _ h => h
  have hbA : ¬ (fun q : Nat => s.heap.size ≤ q) b := Nat.not_le.mpr hbl
  have hd := zpr_all hp_lc_read
  obtain ⟨a7, σ', τ', h7, h8, hR'⟩ : ∃ (a7 : Int) (σ' τ' : yS), f_X7_read N σ (xs (i + 1).toNat).toInt (xs (i + 2).toNat).toInt (xs (i + 3).toNat).toInt (xs (i + 4).toNat).toInt = some (a7, σ') ∧ f_X8_read N τ (xs (i + 1).toNat).toInt (xs (i + 2).toNat).toInt (xs (i + 3).toNat).toInt (xs (i + 4).toNat).toInt = some (a7, τ') ∧ yRR σ' τ' := P_read (by omega) (zq_rng _) hR
  refine lv_aload_n hx hb (hd 1253 (.aload_n 1) 1 rfl) rfl (lv_at hl 2 rfl) ?_
  refine lv_aload_n hx hb (hd 1254 (.aload_n 0) 1 rfl) rfl (lv_at hl 3 rfl) ?_
  refine lv_iload_n hx hb (hd 1255 (.iload_n 3) 1 rfl) rfl (lv_at hl 0 rfl) ?_
  refine lv_iconst (v := Int32.ofInt 1) hx hb (hd 1256 (.iconst 1) 1 rfl) (by decide) ?_
  refine zh_iadd hx hb (hd 1257 .iadd 1 rfl) ?_
  refine yl_ld hx hb hX hbl hbA hS (x := i + 1) (by omega) (by omega) hL (hd 1258 .iaload 1 rfl) ?_
  refine lv_aload_n hx hb (hd 1259 (.aload_n 0) 1 rfl) rfl (lv_at hl 3 rfl) ?_
  refine lv_iload_n hx hb (hd 1260 (.iload_n 3) 1 rfl) rfl (lv_at hl 0 rfl) ?_
  refine lv_iconst (v := Int32.ofInt 2) hx hb (hd 1261 (.iconst 2) 1 rfl) (by decide) ?_
  refine zh_iadd hx hb (hd 1262 .iadd 1 rfl) ?_
  refine yl_ld hx hb hX hbl hbA hS (x := i + 2) (by omega) (by omega) hL (hd 1263 .iaload 1 rfl) ?_
  refine lv_aload_n hx hb (hd 1264 (.aload_n 0) 1 rfl) rfl (lv_at hl 3 rfl) ?_
  refine lv_iload_n hx hb (hd 1265 (.iload_n 3) 1 rfl) rfl (lv_at hl 0 rfl) ?_
  refine lv_iconst (v := Int32.ofInt 3) hx hb (hd 1266 (.iconst 3) 1 rfl) (by decide) ?_
  refine zh_iadd hx hb (hd 1267 .iadd 1 rfl) ?_
  refine yl_ld hx hb hX hbl hbA hS (x := i + 3) (by omega) (by omega) hL (hd 1268 .iaload 1 rfl) ?_
  refine lv_aload_n hx hb (hd 1269 (.aload_n 0) 1 rfl) rfl (lv_at hl 3 rfl) ?_
  refine lv_iload_n hx hb (hd 1270 (.iload_n 3) 1 rfl) rfl (lv_at hl 0 rfl) ?_
  refine lv_iconst (v := Int32.ofInt 4) hx hb (hd 1271 (.iconst 4) 1 rfl) (by decide) ?_
  refine zh_iadd hx hb (hd 1272 .iadd 1 rfl) ?_
  refine yl_ld hx hb hX hbl hbA hS (x := i + 4) (by omega) (by omega) hL (hd 1273 .iaload 1 rfl) ?_
  refine ycallG (as := [.inl (.inl (xs (i + 1).toNat).toInt), .inl (.inl (xs (i + 2).toNat).toInt), .inl (.inl (xs (i + 3).toNat).toInt), .inl (.inl (xs (i + 4).toNat).toInt)]) (rest := []) zX_ok ⟨hx, hb, hml, hown, hts⟩ (m_X7_read (N := N) zX_ok zX_n l) (ci := 7) rfl (cwV 4 hts gL_law_X7_read rfl rfl rfl (by decide +kernel) ⟨Nat.le_of_ble_eq_true rfl, Nat.le_of_ble_eq_true rfl⟩) rfl hK o7 rfl (List.forall_mem_cons.mpr ⟨zq_rng _, List.forall_mem_cons.mpr ⟨zq_rng _, List.forall_mem_cons.mpr ⟨zq_rng _, List.forall_mem_cons.mpr ⟨zq_rng _, fun _ h => absurd h List.not_mem_nil⟩⟩⟩⟩) (e_X7_read h7) hP hD hS hA hx0 hl.1 (Nat.le_of_ble_eq_true rfl) (hd 1274 (.invokevirtual 153) 3 rfl) hroom (fun H locs o7 _ hP hD hS => ?_)
  show W p l e room_1 s m #[Value.ref b] below meth c H locs cells slots Q (F0 m 1277 ls [.int (Int32.ofInt a7)])
  refine lv_pop hx hb (hd 1277 .pop 1 rfl) rfl ?_
  refine lv_aload_n hx hb (hd 1278 (.aload_n 2) 1 rfl) rfl (lv_at hl 1 rfl) ?_
  refine lv_aload_n hx hb (hd 1279 (.aload_n 0) 1 rfl) rfl (lv_at hl 3 rfl) ?_
  refine lv_iload_n hx hb (hd 1280 (.iload_n 3) 1 rfl) rfl (lv_at hl 0 rfl) ?_
  refine lv_iconst (v := Int32.ofInt 1) hx hb (hd 1281 (.iconst 1) 1 rfl) (by decide) ?_
  refine zh_iadd hx hb (hd 1282 .iadd 1 rfl) ?_
  refine yl_ld hx hb hX hbl hbA hS (x := i + 1) (by omega) (by omega) hL (hd 1283 .iaload 1 rfl) ?_
  refine lv_aload_n hx hb (hd 1284 (.aload_n 0) 1 rfl) rfl (lv_at hl 3 rfl) ?_
  refine lv_iload_n hx hb (hd 1285 (.iload_n 3) 1 rfl) rfl (lv_at hl 0 rfl) ?_
  refine lv_iconst (v := Int32.ofInt 2) hx hb (hd 1286 (.iconst 2) 1 rfl) (by decide) ?_
  refine zh_iadd hx hb (hd 1287 .iadd 1 rfl) ?_
  refine yl_ld hx hb hX hbl hbA hS (x := i + 2) (by omega) (by omega) hL (hd 1288 .iaload 1 rfl) ?_
  refine lv_aload_n hx hb (hd 1289 (.aload_n 0) 1 rfl) rfl (lv_at hl 3 rfl) ?_
  refine lv_iload_n hx hb (hd 1290 (.iload_n 3) 1 rfl) rfl (lv_at hl 0 rfl) ?_
  refine lv_iconst (v := Int32.ofInt 3) hx hb (hd 1291 (.iconst 3) 1 rfl) (by decide) ?_
  refine zh_iadd hx hb (hd 1292 .iadd 1 rfl) ?_
  refine yl_ld hx hb hX hbl hbA hS (x := i + 3) (by omega) (by omega) hL (hd 1293 .iaload 1 rfl) ?_
  refine lv_aload_n hx hb (hd 1294 (.aload_n 0) 1 rfl) rfl (lv_at hl 3 rfl) ?_
  refine lv_iload_n hx hb (hd 1295 (.iload_n 3) 1 rfl) rfl (lv_at hl 0 rfl) ?_
  refine lv_iconst (v := Int32.ofInt 4) hx hb (hd 1296 (.iconst 4) 1 rfl) (by decide) ?_
  refine zh_iadd hx hb (hd 1297 .iadd 1 rfl) ?_
  refine yl_ld hx hb hX hbl hbA hS (x := i + 4) (by omega) (by omega) hL (hd 1298 .iaload 1 rfl) ?_
  refine ycallG (as := [.inl (.inl (xs (i + 1).toNat).toInt), .inl (.inl (xs (i + 2).toNat).toInt), .inl (.inl (xs (i + 3).toNat).toInt), .inl (.inl (xs (i + 4).toNat).toInt)]) (rest := []) zX_ok ⟨hx, hb, hml, hown, hts⟩ (m_X8_read (N := N) zX_ok zX_n l) (ci := 8) rfl (cwV 4 hts gL_law_X8_read rfl rfl rfl (by decide +kernel) ⟨Nat.le_of_ble_eq_true rfl, Nat.le_of_ble_eq_true rfl⟩) rfl hK o8 rfl (List.forall_mem_cons.mpr ⟨zq_rng _, List.forall_mem_cons.mpr ⟨zq_rng _, List.forall_mem_cons.mpr ⟨zq_rng _, List.forall_mem_cons.mpr ⟨zq_rng _, fun _ h => absurd h List.not_mem_nil⟩⟩⟩⟩) (e_X8_read h8) hP hD hS hA hx0 hl.1 (Nat.le_of_ble_eq_true rfl) (hd 1299 (.invokevirtual 156) 3 rfl) hroom (fun H locs o8 _ hP hD hS => ?_)
  show W p l e room_1 s m #[Value.ref b] below meth c H locs cells slots Q (F0 m 1302 ls [.int (Int32.ofInt a7)])
  refine lv_pop hx hb (hd 1302 .pop 1 rfl) rfl ?_
  refine lv_goto (tgt := 1342) hx hb (hd 1303 (.goto 39) 3 rfl) (by decide) ?_
  exact kk σ' τ' H locs ⟨o7, o8, hR', hP, hD, hS, hl⟩
noncomputable def pr_lc_torn : List (Nat × Instr × Nat) := [(1306, .aload_n 1, 1), (1307, .invokevirtual 157, 3), (1310, .pop, 1), (1311, .aload_n 2, 1), (1312, .invokevirtual 160, 3), (1315, .pop, 1), (1316, .goto 26, 3)]
set_option maxRecDepth 100000 in
theorem hp_lc_torn : pr_lc_torn.all (fun x => decide (decode code x.1 = .ok x.2)) = true := by decide +kernel
set_option maxHeartbeats 4000000 in
set_option maxRecDepth 100000 in
theorem lc_torn {N : Nat} (hN : 1000 ≤ N) {p : Program} {l : Launch} {e : Env} {s : State} {m : MethodId} {below : List Frame} {meth : Method} {c : Code} {cells slots : Nat} {Q : State → Prop} {b L : Nat} {xs : Nat → Int32} {D : va_G} {kA : Nat → ClassId} (hc : zLc p s m c b L xs D kA) {ad7 ad8 : Nat → Nat} {i : Int} {σ τ : yS} {H : Heap} {locs : List Loc} {ls : Array Slot} (hi : yLi s b D kA ad7 ad8 i σ τ H locs ls) (i0 : 0 ≤ i) (i1 : i + 5 ≤ (L : Int)) (hroom : cells ≤ room_1.cells ∧ slots ≤ room_1.slots)
    (kk : ∀ (σ τ : yS) (H : Heap) (locs : List Loc), yLi s b D kA ad7 ad8 i σ τ H locs ls → W p l e room_1 s m #[Value.ref b] below meth c H locs cells slots Q (F0 m 1342 ls [])) : W p l e room_1 s m #[Value.ref b] below meth c H locs cells slots Q (F0 m 1306 ls []) := by
  obtain ⟨hx, hb, hml, hown, hts, hX, hbl, hK, hx0, hL⟩ := hc
  obtain ⟨o7, o8, hR, hP, hD, hS, hl⟩ := hi
  have hA : ∀ q : Nat, s.heap.size ≤ q → (fun q : Nat => s.heap.size ≤ q) q := fun _ h => h
  have hbA : ¬ (fun q : Nat => s.heap.size ≤ q) b := Nat.not_le.mpr hbl
  have hd := zpr_all hp_lc_torn
  obtain ⟨a7, a8, σ', τ', h7, h8, hR'⟩ : ∃ (a7 a8 : Int) (σ' τ' : yS), f_X7_torn N σ = some (a7, σ') ∧ f_X8_torn N τ = some (a8, τ') ∧ yRR σ' τ' := P_torn hR
  refine lv_aload_n hx hb (hd 1306 (.aload_n 1) 1 rfl) rfl (lv_at hl 2 rfl) ?_
  refine ycallG (as := []) (rest := []) zX_ok ⟨hx, hb, hml, hown, hts⟩ (m_X7_torn (N := N) zX_ok zX_n l) (ci := 7) rfl (cwV 0 hts gL_law_X7_torn rfl rfl rfl (by decide +kernel) ⟨Nat.le_of_ble_eq_true rfl, Nat.le_of_ble_eq_true rfl⟩) rfl hK o7 rfl (fun _ h => absurd h List.not_mem_nil) (e_X7_torn h7) hP hD hS hA hx0 hl.1 (Nat.le_of_ble_eq_true rfl) (hd 1307 (.invokevirtual 157) 3 rfl) hroom (fun H locs o7 _ hP hD hS => ?_)
  show W p l e room_1 s m #[Value.ref b] below meth c H locs cells slots Q (F0 m 1310 ls [.int (Int32.ofInt a7)])
  refine lv_pop hx hb (hd 1310 .pop 1 rfl) rfl ?_
  refine lv_aload_n hx hb (hd 1311 (.aload_n 2) 1 rfl) rfl (lv_at hl 1 rfl) ?_
  refine ycallG (as := []) (rest := []) zX_ok ⟨hx, hb, hml, hown, hts⟩ (m_X8_torn (N := N) zX_ok zX_n l) (ci := 8) rfl (cwV 0 hts gL_law_X8_torn rfl rfl rfl (by decide +kernel) ⟨Nat.le_of_ble_eq_true rfl, Nat.le_of_ble_eq_true rfl⟩) rfl hK o8 rfl (fun _ h => absurd h List.not_mem_nil) (e_X8_torn h8) hP hD hS hA hx0 hl.1 (Nat.le_of_ble_eq_true rfl) (hd 1312 (.invokevirtual 160) 3 rfl) hroom (fun H locs o8 _ hP hD hS => ?_)
  show W p l e room_1 s m #[Value.ref b] below meth c H locs cells slots Q (F0 m 1315 ls [.int (Int32.ofInt a8)])
  refine lv_pop hx hb (hd 1315 .pop 1 rfl) rfl ?_
  refine lv_goto (tgt := 1342) hx hb (hd 1316 (.goto 26) 3 rfl) (by decide) ?_
  exact kk σ' τ' H locs ⟨o7, o8, hR', hP, hD, hS, hl⟩
noncomputable def pr_lc_count : List (Nat × Instr × Nat) := [(1319, .aload_n 1, 1), (1320, .aload_n 0, 1), (1321, .iload_n 3, 1), (1322, .iconst 1, 1), (1323, .iadd, 1), (1324, .iaload, 1), (1325, .invokevirtual 161, 3), (1328, .pop, 1), (1329, .aload_n 2, 1), (1330, .aload_n 0, 1), (1331, .iload_n 3, 1), (1332, .iconst 1, 1), (1333, .iadd, 1), (1334, .iaload, 1), (1335, .invokevirtual 164, 3), (1338, .pop, 1), (1339, .goto 3, 3)]
set_option maxRecDepth 100000 in
theorem hp_lc_count : pr_lc_count.all (fun x => decide (decode code x.1 = .ok x.2)) = true := by decide +kernel
set_option maxHeartbeats 4000000 in
set_option maxRecDepth 100000 in
theorem lc_count {N : Nat} (hN : 1000 ≤ N) {p : Program} {l : Launch} {e : Env} {s : State} {m : MethodId} {below : List Frame} {meth : Method} {c : Code} {cells slots : Nat} {Q : State → Prop} {b L : Nat} {xs : Nat → Int32} {D : va_G} {kA : Nat → ClassId} (hc : zLc p s m c b L xs D kA) {ad7 ad8 : Nat → Nat} {i : Int} {σ τ : yS} {H : Heap} {locs : List Loc} {ls : Array Slot} (hi : yLi s b D kA ad7 ad8 i σ τ H locs ls) (i0 : 0 ≤ i) (i1 : i + 5 ≤ (L : Int)) (hroom : cells ≤ room_1.cells ∧ slots ≤ room_1.slots)
    (kk : ∀ (σ τ : yS) (H : Heap) (locs : List Loc), yLi s b D kA ad7 ad8 i σ τ H locs ls → W p l e room_1 s m #[Value.ref b] below meth c H locs cells slots Q (F0 m 1342 ls [])) : W p l e room_1 s m #[Value.ref b] below meth c H locs cells slots Q (F0 m 1319 ls []) := by
  obtain ⟨hx, hb, hml, hown, hts, hX, hbl, hK, hx0, hL⟩ := hc
  obtain ⟨o7, o8, hR, hP, hD, hS, hl⟩ := hi
  have hA : ∀ q : Nat, s.heap.size ≤ q → (fun q : Nat => s.heap.size ≤ q) q := fun _ h => h
  have hbA : ¬ (fun q : Nat => s.heap.size ≤ q) b := Nat.not_le.mpr hbl
  have hd := zpr_all hp_lc_count
  obtain ⟨a7, σ', τ', h7, h8, hR'⟩ : ∃ (a7 : Int) (σ' τ' : yS), f_X7_count N σ (xs (i + 1).toNat).toInt = some (a7, σ') ∧ f_X8_count N τ (xs (i + 1).toNat).toInt = some (a7, τ') ∧ yRR σ' τ' := P_count (by omega) hR
  refine lv_aload_n hx hb (hd 1319 (.aload_n 1) 1 rfl) rfl (lv_at hl 2 rfl) ?_
  refine lv_aload_n hx hb (hd 1320 (.aload_n 0) 1 rfl) rfl (lv_at hl 3 rfl) ?_
  refine lv_iload_n hx hb (hd 1321 (.iload_n 3) 1 rfl) rfl (lv_at hl 0 rfl) ?_
  refine lv_iconst (v := Int32.ofInt 1) hx hb (hd 1322 (.iconst 1) 1 rfl) (by decide) ?_
  refine zh_iadd hx hb (hd 1323 .iadd 1 rfl) ?_
  refine yl_ld hx hb hX hbl hbA hS (x := i + 1) (by omega) (by omega) hL (hd 1324 .iaload 1 rfl) ?_
  refine ycallG (as := [.inl (.inl (xs (i + 1).toNat).toInt)]) (rest := []) zX_ok ⟨hx, hb, hml, hown, hts⟩ (m_X7_count (N := N) zX_ok zX_n l) (ci := 7) rfl (cwV 1 hts gL_law_X7_count rfl rfl rfl (by decide +kernel) ⟨Nat.le_of_ble_eq_true rfl, Nat.le_of_ble_eq_true rfl⟩) rfl hK o7 rfl (List.forall_mem_cons.mpr ⟨zq_rng _, fun _ h => absurd h List.not_mem_nil⟩) (e_X7_count h7) hP hD hS hA hx0 hl.1 (Nat.le_of_ble_eq_true rfl) (hd 1325 (.invokevirtual 161) 3 rfl) hroom (fun H locs o7 _ hP hD hS => ?_)
  show W p l e room_1 s m #[Value.ref b] below meth c H locs cells slots Q (F0 m 1328 ls [.int (Int32.ofInt a7)])
  refine lv_pop hx hb (hd 1328 .pop 1 rfl) rfl ?_
  refine lv_aload_n hx hb (hd 1329 (.aload_n 2) 1 rfl) rfl (lv_at hl 1 rfl) ?_
  refine lv_aload_n hx hb (hd 1330 (.aload_n 0) 1 rfl) rfl (lv_at hl 3 rfl) ?_
  refine lv_iload_n hx hb (hd 1331 (.iload_n 3) 1 rfl) rfl (lv_at hl 0 rfl) ?_
  refine lv_iconst (v := Int32.ofInt 1) hx hb (hd 1332 (.iconst 1) 1 rfl) (by decide) ?_
  refine zh_iadd hx hb (hd 1333 .iadd 1 rfl) ?_
  refine yl_ld hx hb hX hbl hbA hS (x := i + 1) (by omega) (by omega) hL (hd 1334 .iaload 1 rfl) ?_
  refine ycallG (as := [.inl (.inl (xs (i + 1).toNat).toInt)]) (rest := []) zX_ok ⟨hx, hb, hml, hown, hts⟩ (m_X8_count (N := N) zX_ok zX_n l) (ci := 8) rfl (cwV 1 hts gL_law_X8_count rfl rfl rfl (by decide +kernel) ⟨Nat.le_of_ble_eq_true rfl, Nat.le_of_ble_eq_true rfl⟩) rfl hK o8 rfl (List.forall_mem_cons.mpr ⟨zq_rng _, fun _ h => absurd h List.not_mem_nil⟩) (e_X8_count h8) hP hD hS hA hx0 hl.1 (Nat.le_of_ble_eq_true rfl) (hd 1335 (.invokevirtual 164) 3 rfl) hroom (fun H locs o8 _ hP hD hS => ?_)
  show W p l e room_1 s m #[Value.ref b] below meth c H locs cells slots Q (F0 m 1338 ls [.int (Int32.ofInt a7)])
  refine lv_pop hx hb (hd 1338 .pop 1 rfl) rfl ?_
  refine lv_goto (tgt := 1342) hx hb (hd 1339 (.goto 3) 3 rfl) (by decide) ?_
  exact kk σ' τ' H locs ⟨o7, o8, hR', hP, hD, hS, hl⟩
