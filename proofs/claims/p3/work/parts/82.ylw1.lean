noncomputable def pr_lc_feed : List (Nat × Instr × Nat) := [(192, .aload_n 1, 1), (193, .aload_n 0, 1), (194, .iload_n 3, 1), (195, .iconst 1, 1), (196, .iadd, 1), (197, .iaload, 1), (198, .invokevirtual 13, 3), (201, .pop, 1), (202, .aload_n 2, 1), (203, .aload_n 0, 1), (204, .iload_n 3, 1), (205, .iconst 1, 1), (206, .iadd, 1), (207, .iaload, 1), (208, .invokevirtual 17, 3), (211, .pop, 1), (212, .goto 1130, 3)]
set_option maxRecDepth 100000 in
theorem hp_lc_feed : pr_lc_feed.all (fun x => decide (decode code x.1 = .ok x.2)) = true := by decide +kernel
set_option maxHeartbeats 4000000 in
set_option maxRecDepth 100000 in
theorem lc_feed {N : Nat} (hN : 1000 ≤ N) {p : Program} {l : Launch} {e : Env} {s : State} {m : MethodId} {below : List Frame} {meth : Method} {c : Code} {cells slots : Nat} {Q : State → Prop} {b L : Nat} {xs : Nat → Int32} {D : va_G} {kA : Nat → ClassId} (hc : zLc p s m c b L xs D kA) {ad7 ad8 : Nat → Nat} {i : Int} {σ τ : yS} {H : Heap} {locs : List Loc} {ls : Array Slot} (hi : yLi s b D kA ad7 ad8 i σ τ H locs ls) (i0 : 0 ≤ i) (i1 : i + 5 ≤ (L : Int)) (hroom : cells ≤ room_1.cells ∧ slots ≤ room_1.slots)
    (kk : ∀ (σ τ : yS) (H : Heap) (locs : List Loc), yLi s b D kA ad7 ad8 i σ τ H locs ls → W p l e room_1 s m #[Value.ref b] below meth c H locs cells slots Q (F0 m 1342 ls [])) : W p l e room_1 s m #[Value.ref b] below meth c H locs cells slots Q (F0 m 192 ls []) := by
  obtain ⟨hx, hb, hml, hown, hts, hX, hbl, hK, hx0, hL⟩ := hc
  obtain ⟨o7, o8, hR, hP, hD, hS, hl⟩ := hi
  have hA : ∀ q : Nat, s.heap.size ≤ q → (fun q : Nat => s.heap.size ≤ q) q := fun _ h => h
  have hbA : ¬ (fun q : Nat => s.heap.size ≤ q) b := Nat.not_le.mpr hbl
  have hd := zpr_all hp_lc_feed
  obtain ⟨a7, σ', τ', h7, h8, hR'⟩ : ∃ (a7 : Int) (σ' τ' : yS), f_X7_feed N σ (xs (i + 1).toNat).toInt = some (a7, σ') ∧ f_X8_feed N τ (xs (i + 1).toNat).toInt = some (a7, τ') ∧ yRR σ' τ' := P_feed hR
  refine lv_aload_n hx hb (hd 192 (.aload_n 1) 1 rfl) rfl (lv_at hl 2 rfl) ?_
  refine lv_aload_n hx hb (hd 193 (.aload_n 0) 1 rfl) rfl (lv_at hl 3 rfl) ?_
  refine lv_iload_n hx hb (hd 194 (.iload_n 3) 1 rfl) rfl (lv_at hl 0 rfl) ?_
  refine lv_iconst (v := Int32.ofInt 1) hx hb (hd 195 (.iconst 1) 1 rfl) (by decide) ?_
  refine zh_iadd hx hb (hd 196 .iadd 1 rfl) ?_
  refine yl_ld hx hb hX hbl hbA hS (x := i + 1) (by omega) (by omega) hL (hd 197 .iaload 1 rfl) ?_
  refine ycallG (as := [.inl (.inl (xs (i + 1).toNat).toInt)]) (rest := []) zX_ok ⟨hx, hb, hml, hown, hts⟩ (m_X7_feed (N := N) zX_ok zX_n l) (ci := 7) rfl (cwV 1 hts gL_law_X7_feed rfl rfl rfl (by decide +kernel) ⟨Nat.le_of_ble_eq_true rfl, Nat.le_of_ble_eq_true rfl⟩) rfl hK o7 rfl (List.forall_mem_cons.mpr ⟨zq_rng _, fun _ h => absurd h List.not_mem_nil⟩) (e_X7_feed h7) hP hD hS hA hx0 hl.1 (Nat.le_of_ble_eq_true rfl) (hd 198 (.invokevirtual 13) 3 rfl) hroom (fun H locs o7 _ hP hD hS => ?_)
  show W p l e room_1 s m #[Value.ref b] below meth c H locs cells slots Q (F0 m 201 ls [.int (Int32.ofInt a7)])
  refine lv_pop hx hb (hd 201 .pop 1 rfl) rfl ?_
  refine lv_aload_n hx hb (hd 202 (.aload_n 2) 1 rfl) rfl (lv_at hl 1 rfl) ?_
  refine lv_aload_n hx hb (hd 203 (.aload_n 0) 1 rfl) rfl (lv_at hl 3 rfl) ?_
  refine lv_iload_n hx hb (hd 204 (.iload_n 3) 1 rfl) rfl (lv_at hl 0 rfl) ?_
  refine lv_iconst (v := Int32.ofInt 1) hx hb (hd 205 (.iconst 1) 1 rfl) (by decide) ?_
  refine zh_iadd hx hb (hd 206 .iadd 1 rfl) ?_
  refine yl_ld hx hb hX hbl hbA hS (x := i + 1) (by omega) (by omega) hL (hd 207 .iaload 1 rfl) ?_
  refine ycallG (as := [.inl (.inl (xs (i + 1).toNat).toInt)]) (rest := []) zX_ok ⟨hx, hb, hml, hown, hts⟩ (m_X8_feed (N := N) zX_ok zX_n l) (ci := 8) rfl (cwV 1 hts gL_law_X8_feed rfl rfl rfl (by decide +kernel) ⟨Nat.le_of_ble_eq_true rfl, Nat.le_of_ble_eq_true rfl⟩) rfl hK o8 rfl (List.forall_mem_cons.mpr ⟨zq_rng _, fun _ h => absurd h List.not_mem_nil⟩) (e_X8_feed h8) hP hD hS hA hx0 hl.1 (Nat.le_of_ble_eq_true rfl) (hd 208 (.invokevirtual 17) 3 rfl) hroom (fun H locs o8 _ hP hD hS => ?_)
  show W p l e room_1 s m #[Value.ref b] below meth c H locs cells slots Q (F0 m 211 ls [.int (Int32.ofInt a7)])
  refine lv_pop hx hb (hd 211 .pop 1 rfl) rfl ?_
  refine lv_goto (tgt := 1342) hx hb (hd 212 (.goto 1130) 3 rfl) (by decide) ?_
  exact kk σ' τ' H locs ⟨o7, o8, hR', hP, hD, hS, hl⟩
noncomputable def pr_lc_end : List (Nat × Instr × Nat) := [(215, .aload_n 1, 1), (216, .aload_n 0, 1), (217, .iload_n 3, 1), (218, .iconst 1, 1), (219, .iadd, 1), (220, .iaload, 1), (221, .invokevirtual 18, 3), (224, .aload_n 2, 1), (225, .aload_n 0, 1), (226, .iload_n 3, 1), (227, .iconst 1, 1), (228, .iadd, 1), (229, .iaload, 1), (230, .invokevirtual 21, 3), (233, .if_icmp .eq 1109, 3), (236, .iconst 0, 1), (237, .ireturn, 1)]
set_option maxRecDepth 100000 in
theorem hp_lc_end : pr_lc_end.all (fun x => decide (decode code x.1 = .ok x.2)) = true := by decide +kernel
set_option maxHeartbeats 4000000 in
set_option maxRecDepth 100000 in
theorem lc_end {N : Nat} (hN : 1000 ≤ N) {p : Program} {l : Launch} {e : Env} {s : State} {m : MethodId} {below : List Frame} {meth : Method} {c : Code} {cells slots : Nat} {Q : State → Prop} {b L : Nat} {xs : Nat → Int32} {D : va_G} {kA : Nat → ClassId} (hc : zLc p s m c b L xs D kA) {ad7 ad8 : Nat → Nat} {i : Int} {σ τ : yS} {H : Heap} {locs : List Loc} {ls : Array Slot} (hi : yLi s b D kA ad7 ad8 i σ τ H locs ls) (i0 : 0 ≤ i) (i1 : i + 5 ≤ (L : Int)) (hroom : cells ≤ room_1.cells ∧ slots ≤ room_1.slots)
    (kk : ∀ (σ τ : yS) (H : Heap) (locs : List Loc), yLi s b D kA ad7 ad8 i σ τ H locs ls → W p l e room_1 s m #[Value.ref b] below meth c H locs cells slots Q (F0 m 1342 ls [])) : W p l e room_1 s m #[Value.ref b] below meth c H locs cells slots Q (F0 m 215 ls []) := by
  obtain ⟨hx, hb, hml, hown, hts, hX, hbl, hK, hx0, hL⟩ := hc
  obtain ⟨o7, o8, hR, hP, hD, hS, hl⟩ := hi
  have hA : ∀ q : Nat, s.heap.size ≤ q → (fun q : Nat => s.heap.size ≤ q) q := fun _ h => h
  have hbA : ¬ (fun q : Nat => s.heap.size ≤ q) b := Nat.not_le.mpr hbl
  have hd := zpr_all hp_lc_end
  obtain ⟨a7, σ', τ', h7, h8, hR'⟩ : ∃ (a7 : Int) (σ' τ' : yS), f_X7_end N σ (xs (i + 1).toNat).toInt = some (a7, σ') ∧ f_X8_end N τ (xs (i + 1).toNat).toInt = some (a7, τ') ∧ yRR σ' τ' := P_end hR
  refine lv_aload_n hx hb (hd 215 (.aload_n 1) 1 rfl) rfl (lv_at hl 2 rfl) ?_
  refine lv_aload_n hx hb (hd 216 (.aload_n 0) 1 rfl) rfl (lv_at hl 3 rfl) ?_
  refine lv_iload_n hx hb (hd 217 (.iload_n 3) 1 rfl) rfl (lv_at hl 0 rfl) ?_
  refine lv_iconst (v := Int32.ofInt 1) hx hb (hd 218 (.iconst 1) 1 rfl) (by decide) ?_
  refine zh_iadd hx hb (hd 219 .iadd 1 rfl) ?_
  refine yl_ld hx hb hX hbl hbA hS (x := i + 1) (by omega) (by omega) hL (hd 220 .iaload 1 rfl) ?_
  refine ycallG (as := [.inl (.inl (xs (i + 1).toNat).toInt)]) (rest := []) zX_ok ⟨hx, hb, hml, hown, hts⟩ (m_X7_end (N := N) zX_ok zX_n l) (ci := 7) rfl (cwV 1 hts gL_law_X7_end rfl rfl rfl (by decide +kernel) ⟨Nat.le_of_ble_eq_true rfl, Nat.le_of_ble_eq_true rfl⟩) rfl hK o7 rfl (List.forall_mem_cons.mpr ⟨zq_rng _, fun _ h => absurd h List.not_mem_nil⟩) (e_X7_end h7) hP hD hS hA hx0 hl.1 (Nat.le_of_ble_eq_true rfl) (hd 221 (.invokevirtual 18) 3 rfl) hroom (fun H locs o7 _ hP hD hS => ?_)
  show W p l e room_1 s m #[Value.ref b] below meth c H locs cells slots Q (F0 m 224 ls [.int (Int32.ofInt a7)])
  refine lv_aload_n hx hb (hd 224 (.aload_n 2) 1 rfl) rfl (lv_at hl 1 rfl) ?_
  refine lv_aload_n hx hb (hd 225 (.aload_n 0) 1 rfl) rfl (lv_at hl 3 rfl) ?_
  refine lv_iload_n hx hb (hd 226 (.iload_n 3) 1 rfl) rfl (lv_at hl 0 rfl) ?_
  refine lv_iconst (v := Int32.ofInt 1) hx hb (hd 227 (.iconst 1) 1 rfl) (by decide) ?_
  refine zh_iadd hx hb (hd 228 .iadd 1 rfl) ?_
  refine yl_ld hx hb hX hbl hbA hS (x := i + 1) (by omega) (by omega) hL (hd 229 .iaload 1 rfl) ?_
  refine ycallG (as := [.inl (.inl (xs (i + 1).toNat).toInt)]) (rest := [.int (Int32.ofInt a7)]) zX_ok ⟨hx, hb, hml, hown, hts⟩ (m_X8_end (N := N) zX_ok zX_n l) (ci := 8) rfl (cwV 1 hts gL_law_X8_end rfl rfl rfl (by decide +kernel) ⟨Nat.le_of_ble_eq_true rfl, Nat.le_of_ble_eq_true rfl⟩) rfl hK o8 rfl (List.forall_mem_cons.mpr ⟨zq_rng _, fun _ h => absurd h List.not_mem_nil⟩) (e_X8_end h8) hP hD hS hA hx0 hl.1 (Nat.le_of_ble_eq_true rfl) (hd 230 (.invokevirtual 21) 3 rfl) hroom (fun H locs o8 _ hP hD hS => ?_)
  show W p l e room_1 s m #[Value.ref b] below meth c H locs cells slots Q (F0 m 233 ls [.int (Int32.ofInt a7), .int (Int32.ofInt a7)])
  refine lv_icmp_eq (tgt := 1342) hx hb (hd 233 (.if_icmp .eq 1109) 3 rfl) (by decide) (fun _ => ?_) (fun h => absurd rfl h)
  exact kk σ' τ' H locs ⟨o7, o8, hR', hP, hD, hS, hl⟩
noncomputable def pr_lc_text : List (Nat × Instr × Nat) := [(238, .aload_n 1, 1), (239, .invokevirtual 22, 3), (242, .pop, 1), (243, .aload_n 2, 1), (244, .invokevirtual 26, 3), (247, .pop, 1), (248, .goto 1094, 3)]
set_option maxRecDepth 100000 in
theorem hp_lc_text : pr_lc_text.all (fun x => decide (decode code x.1 = .ok x.2)) = true := by decide +kernel
set_option maxHeartbeats 4000000 in
set_option maxRecDepth 100000 in
theorem lc_text {N : Nat} (hN : 1000 ≤ N) {p : Program} {l : Launch} {e : Env} {s : State} {m : MethodId} {below : List Frame} {meth : Method} {c : Code} {cells slots : Nat} {Q : State → Prop} {b L : Nat} {xs : Nat → Int32} {D : va_G} {kA : Nat → ClassId} (hc : zLc p s m c b L xs D kA) {ad7 ad8 : Nat → Nat} {i : Int} {σ τ : yS} {H : Heap} {locs : List Loc} {ls : Array Slot} (hi : yLi s b D kA ad7 ad8 i σ τ H locs ls) (i0 : 0 ≤ i) (i1 : i + 5 ≤ (L : Int)) (hroom : cells ≤ room_1.cells ∧ slots ≤ room_1.slots)
    (kk : ∀ (σ τ : yS) (H : Heap) (locs : List Loc), yLi s b D kA ad7 ad8 i σ τ H locs ls → W p l e room_1 s m #[Value.ref b] below meth c H locs cells slots Q (F0 m 1342 ls [])) : W p l e room_1 s m #[Value.ref b] below meth c H locs cells slots Q (F0 m 238 ls []) := by
  obtain ⟨hx, hb, hml, hown, hts, hX, hbl, hK, hx0, hL⟩ := hc
  obtain ⟨o7, o8, hR, hP, hD, hS, hl⟩ := hi
  have hA : ∀ q : Nat, s.heap.size ≤ q → (fun q : Nat => s.heap.size ≤ q) q := fun _ h => h
  have hbA : ¬ (fun q : Nat => s.heap.size ≤ q) b := Nat.not_le.mpr hbl
  have hd := zpr_all hp_lc_text
  obtain ⟨a7, σ', τ', h7, h8, hR'⟩ : ∃ (a7 : Int) (σ' τ' : yS), f_X7_text N σ = some (a7, σ') ∧ f_X8_text N τ = some (a7, τ') ∧ yRR σ' τ' := P_text (by omega) hR
  refine lv_aload_n hx hb (hd 238 (.aload_n 1) 1 rfl) rfl (lv_at hl 2 rfl) ?_
  refine ycallG (as := []) (rest := []) zX_ok ⟨hx, hb, hml, hown, hts⟩ (m_X7_text (N := N) zX_ok zX_n zX_s l ysh7_R) (ci := 7) rfl (cwV 0 hts gL_law_X7_text rfl rfl rfl (by decide +kernel) ⟨Nat.le_of_ble_eq_true rfl, Nat.le_of_ble_eq_true rfl⟩) rfl hK o7 rfl (fun _ h => absurd h List.not_mem_nil) (e_X7_text h7) hP hD hS hA hx0 hl.1 (Nat.le_of_ble_eq_true rfl) (hd 239 (.invokevirtual 22) 3 rfl) hroom (fun H locs o7 _ hP hD hS => ?_)
  show W p l e room_1 s m #[Value.ref b] below meth c H locs cells slots Q (F0 m 242 ls [.int (Int32.ofInt a7)])
  refine lv_pop hx hb (hd 242 .pop 1 rfl) rfl ?_
  refine lv_aload_n hx hb (hd 243 (.aload_n 2) 1 rfl) rfl (lv_at hl 1 rfl) ?_
  refine ycallG (as := []) (rest := []) zX_ok ⟨hx, hb, hml, hown, hts⟩ (m_X8_text (N := N) zX_ok zX_n l) (ci := 8) rfl (cwV 0 hts gL_law_X8_text rfl rfl rfl (by decide +kernel) ⟨Nat.le_of_ble_eq_true rfl, Nat.le_of_ble_eq_true rfl⟩) rfl hK o8 rfl (fun _ h => absurd h List.not_mem_nil) (e_X8_text h8) hP hD hS hA hx0 hl.1 (Nat.le_of_ble_eq_true rfl) (hd 244 (.invokevirtual 26) 3 rfl) hroom (fun H locs o8 _ hP hD hS => ?_)
  show W p l e room_1 s m #[Value.ref b] below meth c H locs cells slots Q (F0 m 247 ls [.int (Int32.ofInt a7)])
  refine lv_pop hx hb (hd 247 .pop 1 rfl) rfl ?_
  refine lv_goto (tgt := 1342) hx hb (hd 248 (.goto 1094) 3 rfl) (by decide) ?_
  exact kk σ' τ' H locs ⟨o7, o8, hR', hP, hD, hS, hl⟩
noncomputable def pr_lc_fault : List (Nat × Instr × Nat) := [(251, .aload_n 1, 1), (252, .invokevirtual 27, 3), (255, .pop, 1), (256, .aload_n 2, 1), (257, .invokevirtual 30, 3), (260, .pop, 1), (261, .goto 1081, 3)]
set_option maxRecDepth 100000 in
theorem hp_lc_fault : pr_lc_fault.all (fun x => decide (decode code x.1 = .ok x.2)) = true := by decide +kernel
set_option maxHeartbeats 4000000 in
set_option maxRecDepth 100000 in
theorem lc_fault {N : Nat} (hN : 1000 ≤ N) {p : Program} {l : Launch} {e : Env} {s : State} {m : MethodId} {below : List Frame} {meth : Method} {c : Code} {cells slots : Nat} {Q : State → Prop} {b L : Nat} {xs : Nat → Int32} {D : va_G} {kA : Nat → ClassId} (hc : zLc p s m c b L xs D kA) {ad7 ad8 : Nat → Nat} {i : Int} {σ τ : yS} {H : Heap} {locs : List Loc} {ls : Array Slot} (hi : yLi s b D kA ad7 ad8 i σ τ H locs ls) (i0 : 0 ≤ i) (i1 : i + 5 ≤ (L : Int)) (hroom : cells ≤ room_1.cells ∧ slots ≤ room_1.slots)
    (kk : ∀ (σ τ : yS) (H : Heap) (locs : List Loc), yLi s b D kA ad7 ad8 i σ τ H locs ls → W p l e room_1 s m #[Value.ref b] below meth c H locs cells slots Q (F0 m 1342 ls [])) : W p l e room_1 s m #[Value.ref b] below meth c H locs cells slots Q (F0 m 251 ls []) := by
  obtain ⟨hx, hb, hml, hown, hts, hX, hbl, hK, hx0, hL⟩ := hc
  obtain ⟨o7, o8, hR, hP, hD, hS, hl⟩ := hi
  have hA : ∀ q : Nat, s.heap.size ≤ q → (fun q : Nat => s.heap.size ≤ q) q := fun _ h => h
  have hbA : ¬ (fun q : Nat => s.heap.size ≤ q) b := Nat.not_le.mpr hbl
  have hd := zpr_all hp_lc_fault
  obtain ⟨a7, σ', τ', h7, h8, hR'⟩ : ∃ (a7 : Int) (σ' τ' : yS), f_X7_fault N σ = some (a7, σ') ∧ f_X8_fault N τ = some (a7, τ') ∧ yRR σ' τ' := P_fault hR
  refine lv_aload_n hx hb (hd 251 (.aload_n 1) 1 rfl) rfl (lv_at hl 2 rfl) ?_
  refine ycallG (as := []) (rest := []) zX_ok ⟨hx, hb, hml, hown, hts⟩ (m_X7_fault (N := N) zX_ok zX_n l) (ci := 7) rfl (cwV 0 hts gL_law_X7_fault rfl rfl rfl (by decide +kernel) ⟨Nat.le_of_ble_eq_true rfl, Nat.le_of_ble_eq_true rfl⟩) rfl hK o7 rfl (fun _ h => absurd h List.not_mem_nil) (e_X7_fault h7) hP hD hS hA hx0 hl.1 (Nat.le_of_ble_eq_true rfl) (hd 252 (.invokevirtual 27) 3 rfl) hroom (fun H locs o7 _ hP hD hS => ?_)
  show W p l e room_1 s m #[Value.ref b] below meth c H locs cells slots Q (F0 m 255 ls [.int (Int32.ofInt a7)])
  refine lv_pop hx hb (hd 255 .pop 1 rfl) rfl ?_
  refine lv_aload_n hx hb (hd 256 (.aload_n 2) 1 rfl) rfl (lv_at hl 1 rfl) ?_
  refine ycallG (as := []) (rest := []) zX_ok ⟨hx, hb, hml, hown, hts⟩ (m_X8_fault (N := N) zX_ok zX_n l) (ci := 8) rfl (cwV 0 hts gL_law_X8_fault rfl rfl rfl (by decide +kernel) ⟨Nat.le_of_ble_eq_true rfl, Nat.le_of_ble_eq_true rfl⟩) rfl hK o8 rfl (fun _ h => absurd h List.not_mem_nil) (e_X8_fault h8) hP hD hS hA hx0 hl.1 (Nat.le_of_ble_eq_true rfl) (hd 257 (.invokevirtual 30) 3 rfl) hroom (fun H locs o8 _ hP hD hS => ?_)
  show W p l e room_1 s m #[Value.ref b] below meth c H locs cells slots Q (F0 m 260 ls [.int (Int32.ofInt a7)])
  refine lv_pop hx hb (hd 260 .pop 1 rfl) rfl ?_
  refine lv_goto (tgt := 1342) hx hb (hd 261 (.goto 1081) 3 rfl) (by decide) ?_
  exact kk σ' τ' H locs ⟨o7, o8, hR', hP, hD, hS, hl⟩
noncomputable def pr_lc_rule : List (Nat × Instr × Nat) := [(264, .aload_n 1, 1), (265, .aload_n 0, 1), (266, .iload_n 3, 1), (267, .iconst 1, 1), (268, .iadd, 1), (269, .iaload, 1), (270, .invokevirtual 31, 3), (273, .pop, 1), (274, .aload_n 2, 1), (275, .aload_n 0, 1), (276, .iload_n 3, 1), (277, .iconst 1, 1), (278, .iadd, 1), (279, .iaload, 1), (280, .invokevirtual 34, 3), (283, .pop, 1), (284, .goto 1058, 3)]
set_option maxRecDepth 100000 in
theorem hp_lc_rule : pr_lc_rule.all (fun x => decide (decode code x.1 = .ok x.2)) = true := by decide +kernel
set_option maxHeartbeats 4000000 in
set_option maxRecDepth 100000 in
theorem lc_rule {N : Nat} (hN : 1000 ≤ N) {p : Program} {l : Launch} {e : Env} {s : State} {m : MethodId} {below : List Frame} {meth : Method} {c : Code} {cells slots : Nat} {Q : State → Prop} {b L : Nat} {xs : Nat → Int32} {D : va_G} {kA : Nat → ClassId} (hc : zLc p s m c b L xs D kA) {ad7 ad8 : Nat → Nat} {i : Int} {σ τ : yS} {H : Heap} {locs : List Loc} {ls : Array Slot} (hi : yLi s b D kA ad7 ad8 i σ τ H locs ls) (i0 : 0 ≤ i) (i1 : i + 5 ≤ (L : Int)) (hroom : cells ≤ room_1.cells ∧ slots ≤ room_1.slots)
    (kk : ∀ (σ τ : yS) (H : Heap) (locs : List Loc), yLi s b D kA ad7 ad8 i σ τ H locs ls → W p l e room_1 s m #[Value.ref b] below meth c H locs cells slots Q (F0 m 1342 ls [])) : W p l e room_1 s m #[Value.ref b] below meth c H locs cells slots Q (F0 m 264 ls []) := by
  obtain ⟨hx, hb, hml, hown, hts, hX, hbl, hK, hx0, hL⟩ := hc
  obtain ⟨o7, o8, hR, hP, hD, hS, hl⟩ := hi
  have hA : ∀ q : Nat, s.heap.size ≤ q → (fun q : Nat => s.heap.size ≤ q) q := fun _ h => h
  have hbA : ¬ (fun q : Nat => s.heap.size ≤ q) b := Nat.not_le.mpr hbl
  have hd := zpr_all hp_lc_rule
  obtain ⟨a7, σ', τ', h7, h8, hR'⟩ : ∃ (a7 : Int) (σ' τ' : yS), f_X7_rule N σ (xs (i + 1).toNat).toInt = some (a7, σ') ∧ f_X8_rule N τ (xs (i + 1).toNat).toInt = some (a7, τ') ∧ yRR σ' τ' := P_rule hR
  refine lv_aload_n hx hb (hd 264 (.aload_n 1) 1 rfl) rfl (lv_at hl 2 rfl) ?_
  refine lv_aload_n hx hb (hd 265 (.aload_n 0) 1 rfl) rfl (lv_at hl 3 rfl) ?_
  refine lv_iload_n hx hb (hd 266 (.iload_n 3) 1 rfl) rfl (lv_at hl 0 rfl) ?_
  refine lv_iconst (v := Int32.ofInt 1) hx hb (hd 267 (.iconst 1) 1 rfl) (by decide) ?_
  refine zh_iadd hx hb (hd 268 .iadd 1 rfl) ?_
  refine yl_ld hx hb hX hbl hbA hS (x := i + 1) (by omega) (by omega) hL (hd 269 .iaload 1 rfl) ?_
  refine ycallG (as := [.inl (.inl (xs (i + 1).toNat).toInt)]) (rest := []) zX_ok ⟨hx, hb, hml, hown, hts⟩ (m_X7_rule (N := N) zX_ok zX_n l) (ci := 7) rfl (cwV 1 hts gL_law_X7_rule rfl rfl rfl (by decide +kernel) ⟨Nat.le_of_ble_eq_true rfl, Nat.le_of_ble_eq_true rfl⟩) rfl hK o7 rfl (List.forall_mem_cons.mpr ⟨zq_rng _, fun _ h => absurd h List.not_mem_nil⟩) (e_X7_rule h7) hP hD hS hA hx0 hl.1 (Nat.le_of_ble_eq_true rfl) (hd 270 (.invokevirtual 31) 3 rfl) hroom (fun H locs o7 _ hP hD hS => ?_)
  show W p l e room_1 s m #[Value.ref b] below meth c H locs cells slots Q (F0 m 273 ls [.int (Int32.ofInt a7)])
  refine lv_pop hx hb (hd 273 .pop 1 rfl) rfl ?_
  refine lv_aload_n hx hb (hd 274 (.aload_n 2) 1 rfl) rfl (lv_at hl 1 rfl) ?_
  refine lv_aload_n hx hb (hd 275 (.aload_n 0) 1 rfl) rfl (lv_at hl 3 rfl) ?_
  refine lv_iload_n hx hb (hd 276 (.iload_n 3) 1 rfl) rfl (lv_at hl 0 rfl) ?_
  refine lv_iconst (v := Int32.ofInt 1) hx hb (hd 277 (.iconst 1) 1 rfl) (by decide) ?_
  refine zh_iadd hx hb (hd 278 .iadd 1 rfl) ?_
  refine yl_ld hx hb hX hbl hbA hS (x := i + 1) (by omega) (by omega) hL (hd 279 .iaload 1 rfl) ?_
  refine ycallG (as := [.inl (.inl (xs (i + 1).toNat).toInt)]) (rest := []) zX_ok ⟨hx, hb, hml, hown, hts⟩ (m_X8_rule (N := N) zX_ok zX_n l) (ci := 8) rfl (cwV 1 hts gL_law_X8_rule rfl rfl rfl (by decide +kernel) ⟨Nat.le_of_ble_eq_true rfl, Nat.le_of_ble_eq_true rfl⟩) rfl hK o8 rfl (List.forall_mem_cons.mpr ⟨zq_rng _, fun _ h => absurd h List.not_mem_nil⟩) (e_X8_rule h8) hP hD hS hA hx0 hl.1 (Nat.le_of_ble_eq_true rfl) (hd 280 (.invokevirtual 34) 3 rfl) hroom (fun H locs o8 _ hP hD hS => ?_)
  show W p l e room_1 s m #[Value.ref b] below meth c H locs cells slots Q (F0 m 283 ls [.int (Int32.ofInt a7)])
  refine lv_pop hx hb (hd 283 .pop 1 rfl) rfl ?_
  refine lv_goto (tgt := 1342) hx hb (hd 284 (.goto 1058) 3 rfl) (by decide) ?_
  exact kk σ' τ' H locs ⟨o7, o8, hR', hP, hD, hS, hl⟩
noncomputable def pr_lc_house : List (Nat × Instr × Nat) := [(287, .aload_n 1, 1), (288, .aload_n 0, 1), (289, .iload_n 3, 1), (290, .iconst 1, 1), (291, .iadd, 1), (292, .iaload, 1), (293, .aload_n 0, 1), (294, .iload_n 3, 1), (295, .iconst 2, 1), (296, .iadd, 1), (297, .iaload, 1), (298, .invokevirtual 35, 3), (301, .pop, 1), (302, .aload_n 2, 1), (303, .aload_n 0, 1), (304, .iload_n 3, 1), (305, .iconst 1, 1), (306, .iadd, 1), (307, .iaload, 1), (308, .aload_n 0, 1), (309, .iload_n 3, 1), (310, .iconst 2, 1), (311, .iadd, 1), (312, .iaload, 1), (313, .invokevirtual 39, 3), (316, .pop, 1), (317, .goto 1025, 3)]
set_option maxRecDepth 100000 in
theorem hp_lc_house : pr_lc_house.all (fun x => decide (decode code x.1 = .ok x.2)) = true := by decide +kernel
set_option maxHeartbeats 4000000 in
set_option maxRecDepth 100000 in
theorem lc_house {N : Nat} (hN : 1000 ≤ N) {p : Program} {l : Launch} {e : Env} {s : State} {m : MethodId} {below : List Frame} {meth : Method} {c : Code} {cells slots : Nat} {Q : State → Prop} {b L : Nat} {xs : Nat → Int32} {D : va_G} {kA : Nat → ClassId} (hc : zLc p s m c b L xs D kA) {ad7 ad8 : Nat → Nat} {i : Int} {σ τ : yS} {H : Heap} {locs : List Loc} {ls : Array Slot} (hi : yLi s b D kA ad7 ad8 i σ τ H locs ls) (i0 : 0 ≤ i) (i1 : i + 5 ≤ (L : Int)) (hroom : cells ≤ room_1.cells ∧ slots ≤ room_1.slots)
    (kk : ∀ (σ τ : yS) (H : Heap) (locs : List Loc), yLi s b D kA ad7 ad8 i σ τ H locs ls → W p l e room_1 s m #[Value.ref b] below meth c H locs cells slots Q (F0 m 1342 ls [])) : W p l e room_1 s m #[Value.ref b] below meth c H locs cells slots Q (F0 m 287 ls []) := by
  obtain ⟨hx, hb, hml, hown, hts, hX, hbl, hK, hx0, hL⟩ := hc
  obtain ⟨o7, o8, hR, hP, hD, hS, hl⟩ := hi
  have hA : ∀ q : Nat, s.heap.size ≤ q → (fun q : Nat => s.heap.size ≤ q) q := fun _ h => h
  have hbA : ¬ (fun q : Nat => s.heap.size ≤ q) b := Nat.not_le.mpr hbl
  have hd := zpr_all hp_lc_house
  obtain ⟨a7, σ', τ', h7, h8, hR'⟩ : ∃ (a7 : Int) (σ' τ' : yS), f_X7_house N σ (xs (i + 1).toNat).toInt (xs (i + 2).toNat).toInt = some (a7, σ') ∧ f_X8_house N τ (xs (i + 1).toNat).toInt (xs (i + 2).toNat).toInt = some (a7, τ') ∧ yRR σ' τ' := P_house (zq_rng _) hR
  refine lv_aload_n hx hb (hd 287 (.aload_n 1) 1 rfl) rfl (lv_at hl 2 rfl) ?_
  refine lv_aload_n hx hb (hd 288 (.aload_n 0) 1 rfl) rfl (lv_at hl 3 rfl) ?_
  refine lv_iload_n hx hb (hd 289 (.iload_n 3) 1 rfl) rfl (lv_at hl 0 rfl) ?_
  refine lv_iconst (v := Int32.ofInt 1) hx hb (hd 290 (.iconst 1) 1 rfl) (by decide) ?_
  refine zh_iadd hx hb (hd 291 .iadd 1 rfl) ?_
  refine yl_ld hx hb hX hbl hbA hS (x := i + 1) (by omega) (by omega) hL (hd 292 .iaload 1 rfl) ?_
  refine lv_aload_n hx hb (hd 293 (.aload_n 0) 1 rfl) rfl (lv_at hl 3 rfl) ?_
  refine lv_iload_n hx hb (hd 294 (.iload_n 3) 1 rfl) rfl (lv_at hl 0 rfl) ?_
  refine lv_iconst (v := Int32.ofInt 2) hx hb (hd 295 (.iconst 2) 1 rfl) (by decide) ?_
  refine zh_iadd hx hb (hd 296 .iadd 1 rfl) ?_
  refine yl_ld hx hb hX hbl hbA hS (x := i + 2) (by omega) (by omega) hL (hd 297 .iaload 1 rfl) ?_
  refine ycallG (as := [.inl (.inl (xs (i + 1).toNat).toInt), .inl (.inl (xs (i + 2).toNat).toInt)]) (rest := []) zX_ok ⟨hx, hb, hml, hown, hts⟩ (m_X7_house (N := N) zX_ok zX_n l) (ci := 7) rfl (cwV 2 hts gL_law_X7_house rfl rfl rfl (by decide +kernel) ⟨Nat.le_of_ble_eq_true rfl, Nat.le_of_ble_eq_true rfl⟩) rfl hK o7 rfl (List.forall_mem_cons.mpr ⟨zq_rng _, List.forall_mem_cons.mpr ⟨zq_rng _, fun _ h => absurd h List.not_mem_nil⟩⟩) (e_X7_house h7) hP hD hS hA hx0 hl.1 (Nat.le_of_ble_eq_true rfl) (hd 298 (.invokevirtual 35) 3 rfl) hroom (fun H locs o7 _ hP hD hS => ?_)
  show W p l e room_1 s m #[Value.ref b] below meth c H locs cells slots Q (F0 m 301 ls [.int (Int32.ofInt a7)])
  refine lv_pop hx hb (hd 301 .pop 1 rfl) rfl ?_
  refine lv_aload_n hx hb (hd 302 (.aload_n 2) 1 rfl) rfl (lv_at hl 1 rfl) ?_
  refine lv_aload_n hx hb (hd 303 (.aload_n 0) 1 rfl) rfl (lv_at hl 3 rfl) ?_
  refine lv_iload_n hx hb (hd 304 (.iload_n 3) 1 rfl) rfl (lv_at hl 0 rfl) ?_
  refine lv_iconst (v := Int32.ofInt 1) hx hb (hd 305 (.iconst 1) 1 rfl) (by decide) ?_
  refine zh_iadd hx hb (hd 306 .iadd 1 rfl) ?_
  refine yl_ld hx hb hX hbl hbA hS (x := i + 1) (by omega) (by omega) hL (hd 307 .iaload 1 rfl) ?_
  refine lv_aload_n hx hb (hd 308 (.aload_n 0) 1 rfl) rfl (lv_at hl 3 rfl) ?_
  refine lv_iload_n hx hb (hd 309 (.iload_n 3) 1 rfl) rfl (lv_at hl 0 rfl) ?_
  refine lv_iconst (v := Int32.ofInt 2) hx hb (hd 310 (.iconst 2) 1 rfl) (by decide) ?_
  refine zh_iadd hx hb (hd 311 .iadd 1 rfl) ?_
  refine yl_ld hx hb hX hbl hbA hS (x := i + 2) (by omega) (by omega) hL (hd 312 .iaload 1 rfl) ?_
  refine ycallG (as := [.inl (.inl (xs (i + 1).toNat).toInt), .inl (.inl (xs (i + 2).toNat).toInt)]) (rest := []) zX_ok ⟨hx, hb, hml, hown, hts⟩ (m_X8_house (N := N) zX_ok zX_n l) (ci := 8) rfl (cwV 2 hts gL_law_X8_house rfl rfl rfl (by decide +kernel) ⟨Nat.le_of_ble_eq_true rfl, Nat.le_of_ble_eq_true rfl⟩) rfl hK o8 rfl (List.forall_mem_cons.mpr ⟨zq_rng _, List.forall_mem_cons.mpr ⟨zq_rng _, fun _ h => absurd h List.not_mem_nil⟩⟩) (e_X8_house h8) hP hD hS hA hx0 hl.1 (Nat.le_of_ble_eq_true rfl) (hd 313 (.invokevirtual 39) 3 rfl) hroom (fun H locs o8 _ hP hD hS => ?_)
  show W p l e room_1 s m #[Value.ref b] below meth c H locs cells slots Q (F0 m 316 ls [.int (Int32.ofInt a7)])
  refine lv_pop hx hb (hd 316 .pop 1 rfl) rfl ?_
  refine lv_goto (tgt := 1342) hx hb (hd 317 (.goto 1025) 3 rfl) (by decide) ?_
  exact kk σ' τ' H locs ⟨o7, o8, hR', hP, hD, hS, hl⟩
noncomputable def pr_lc_cost : List (Nat × Instr × Nat) := [(320, .aload_n 1, 1), (321, .aload_n 0, 1), (322, .iload_n 3, 1), (323, .iconst 1, 1), (324, .iadd, 1), (325, .iaload, 1), (326, .invokevirtual 40, 3), (329, .pop, 1), (330, .aload_n 2, 1), (331, .aload_n 0, 1), (332, .iload_n 3, 1), (333, .iconst 1, 1), (334, .iadd, 1), (335, .iaload, 1), (336, .invokevirtual 43, 3), (339, .pop, 1), (340, .goto 1002, 3)]
set_option maxRecDepth 100000 in
theorem hp_lc_cost : pr_lc_cost.all (fun x => decide (decode code x.1 = .ok x.2)) = true := by decide +kernel
set_option maxHeartbeats 4000000 in
set_option maxRecDepth 100000 in
theorem lc_cost {N : Nat} (hN : 1000 ≤ N) {p : Program} {l : Launch} {e : Env} {s : State} {m : MethodId} {below : List Frame} {meth : Method} {c : Code} {cells slots : Nat} {Q : State → Prop} {b L : Nat} {xs : Nat → Int32} {D : va_G} {kA : Nat → ClassId} (hc : zLc p s m c b L xs D kA) {ad7 ad8 : Nat → Nat} {i : Int} {σ τ : yS} {H : Heap} {locs : List Loc} {ls : Array Slot} (hi : yLi s b D kA ad7 ad8 i σ τ H locs ls) (i0 : 0 ≤ i) (i1 : i + 5 ≤ (L : Int)) (hroom : cells ≤ room_1.cells ∧ slots ≤ room_1.slots)
    (kk : ∀ (σ τ : yS) (H : Heap) (locs : List Loc), yLi s b D kA ad7 ad8 i σ τ H locs ls → W p l e room_1 s m #[Value.ref b] below meth c H locs cells slots Q (F0 m 1342 ls [])) : W p l e room_1 s m #[Value.ref b] below meth c H locs cells slots Q (F0 m 320 ls []) := by
  obtain ⟨hx, hb, hml, hown, hts, hX, hbl, hK, hx0, hL⟩ := hc
  obtain ⟨o7, o8, hR, hP, hD, hS, hl⟩ := hi
  have hA : ∀ q : Nat, s.heap.size ≤ q → (fun q : Nat => s.heap.size ≤ q) q := fun _ h => h
  have hbA : ¬ (fun q : Nat => s.heap.size ≤ q) b := Nat.not_le.mpr hbl
  have hd := zpr_all hp_lc_cost
  obtain ⟨a7, σ', τ', h7, h8, hR'⟩ : ∃ (a7 : Int) (σ' τ' : yS), f_X7_cost N σ (xs (i + 1).toNat).toInt = some (a7, σ') ∧ f_X8_cost N τ (xs (i + 1).toNat).toInt = some (a7, τ') ∧ yRR σ' τ' := P_cost hR
  refine lv_aload_n hx hb (hd 320 (.aload_n 1) 1 rfl) rfl (lv_at hl 2 rfl) ?_
  refine lv_aload_n hx hb (hd 321 (.aload_n 0) 1 rfl) rfl (lv_at hl 3 rfl) ?_
  refine lv_iload_n hx hb (hd 322 (.iload_n 3) 1 rfl) rfl (lv_at hl 0 rfl) ?_
  refine lv_iconst (v := Int32.ofInt 1) hx hb (hd 323 (.iconst 1) 1 rfl) (by decide) ?_
  refine zh_iadd hx hb (hd 324 .iadd 1 rfl) ?_
  refine yl_ld hx hb hX hbl hbA hS (x := i + 1) (by omega) (by omega) hL (hd 325 .iaload 1 rfl) ?_
  refine ycallG (as := [.inl (.inl (xs (i + 1).toNat).toInt)]) (rest := []) zX_ok ⟨hx, hb, hml, hown, hts⟩ (m_X7_cost (N := N) zX_ok zX_n l) (ci := 7) rfl (cwV 1 hts gL_law_X7_cost rfl rfl rfl (by decide +kernel) ⟨Nat.le_of_ble_eq_true rfl, Nat.le_of_ble_eq_true rfl⟩) rfl hK o7 rfl (List.forall_mem_cons.mpr ⟨zq_rng _, fun _ h => absurd h List.not_mem_nil⟩) (e_X7_cost h7) hP hD hS hA hx0 hl.1 (Nat.le_of_ble_eq_true rfl) (hd 326 (.invokevirtual 40) 3 rfl) hroom (fun H locs o7 _ hP hD hS => ?_)
  show W p l e room_1 s m #[Value.ref b] below meth c H locs cells slots Q (F0 m 329 ls [.int (Int32.ofInt a7)])
  refine lv_pop hx hb (hd 329 .pop 1 rfl) rfl ?_
  refine lv_aload_n hx hb (hd 330 (.aload_n 2) 1 rfl) rfl (lv_at hl 1 rfl) ?_
  refine lv_aload_n hx hb (hd 331 (.aload_n 0) 1 rfl) rfl (lv_at hl 3 rfl) ?_
  refine lv_iload_n hx hb (hd 332 (.iload_n 3) 1 rfl) rfl (lv_at hl 0 rfl) ?_
  refine lv_iconst (v := Int32.ofInt 1) hx hb (hd 333 (.iconst 1) 1 rfl) (by decide) ?_
  refine zh_iadd hx hb (hd 334 .iadd 1 rfl) ?_
  refine yl_ld hx hb hX hbl hbA hS (x := i + 1) (by omega) (by omega) hL (hd 335 .iaload 1 rfl) ?_
  refine ycallG (as := [.inl (.inl (xs (i + 1).toNat).toInt)]) (rest := []) zX_ok ⟨hx, hb, hml, hown, hts⟩ (m_X8_cost (N := N) zX_ok zX_n l) (ci := 8) rfl (cwV 1 hts gL_law_X8_cost rfl rfl rfl (by decide +kernel) ⟨Nat.le_of_ble_eq_true rfl, Nat.le_of_ble_eq_true rfl⟩) rfl hK o8 rfl (List.forall_mem_cons.mpr ⟨zq_rng _, fun _ h => absurd h List.not_mem_nil⟩) (e_X8_cost h8) hP hD hS hA hx0 hl.1 (Nat.le_of_ble_eq_true rfl) (hd 336 (.invokevirtual 43) 3 rfl) hroom (fun H locs o8 _ hP hD hS => ?_)
  show W p l e room_1 s m #[Value.ref b] below meth c H locs cells slots Q (F0 m 339 ls [.int (Int32.ofInt a7)])
  refine lv_pop hx hb (hd 339 .pop 1 rfl) rfl ?_
  refine lv_goto (tgt := 1342) hx hb (hd 340 (.goto 1002) 3 rfl) (by decide) ?_
  exact kk σ' τ' H locs ⟨o7, o8, hR', hP, hD, hS, hl⟩
noncomputable def pr_lc_vow : List (Nat × Instr × Nat) := [(343, .aload_n 1, 1), (344, .aload_n 0, 1), (345, .iload_n 3, 1), (346, .iconst 1, 1), (347, .iadd, 1), (348, .iaload, 1), (349, .aload_n 0, 1), (350, .iload_n 3, 1), (351, .iconst 2, 1), (352, .iadd, 1), (353, .iaload, 1), (354, .invokevirtual 44, 3), (357, .pop, 1), (358, .aload_n 2, 1), (359, .aload_n 0, 1), (360, .iload_n 3, 1), (361, .iconst 1, 1), (362, .iadd, 1), (363, .iaload, 1), (364, .aload_n 0, 1), (365, .iload_n 3, 1), (366, .iconst 2, 1), (367, .iadd, 1), (368, .iaload, 1), (369, .invokevirtual 47, 3), (372, .pop, 1), (373, .goto 969, 3)]
set_option maxRecDepth 100000 in
theorem hp_lc_vow : pr_lc_vow.all (fun x => decide (decode code x.1 = .ok x.2)) = true := by decide +kernel
set_option maxHeartbeats 4000000 in
set_option maxRecDepth 100000 in
theorem lc_vow {N : Nat} (hN : 1000 ≤ N) {p : Program} {l : Launch} {e : Env} {s : State} {m : MethodId} {below : List Frame} {meth : Method} {c : Code} {cells slots : Nat} {Q : State → Prop} {b L : Nat} {xs : Nat → Int32} {D : va_G} {kA : Nat → ClassId} (hc : zLc p s m c b L xs D kA) {ad7 ad8 : Nat → Nat} {i : Int} {σ τ : yS} {H : Heap} {locs : List Loc} {ls : Array Slot} (hi : yLi s b D kA ad7 ad8 i σ τ H locs ls) (i0 : 0 ≤ i) (i1 : i + 5 ≤ (L : Int)) (hroom : cells ≤ room_1.cells ∧ slots ≤ room_1.slots)
    (kk : ∀ (σ τ : yS) (H : Heap) (locs : List Loc), yLi s b D kA ad7 ad8 i σ τ H locs ls → W p l e room_1 s m #[Value.ref b] below meth c H locs cells slots Q (F0 m 1342 ls [])) : W p l e room_1 s m #[Value.ref b] below meth c H locs cells slots Q (F0 m 343 ls []) := by
  obtain ⟨hx, hb, hml, hown, hts, hX, hbl, hK, hx0, hL⟩ := hc
  obtain ⟨o7, o8, hR, hP, hD, hS, hl⟩ := hi
  have hA : ∀ q : Nat, s.heap.size ≤ q → (fun q : Nat => s.heap.size ≤ q) q := fun _ h => h
  have hbA : ¬ (fun q : Nat => s.heap.size ≤ q) b := Nat.not_le.mpr hbl
  have hd := zpr_all hp_lc_vow
  obtain ⟨a7, σ', τ', h7, h8, hR'⟩ : ∃ (a7 : Int) (σ' τ' : yS), f_X7_vow N σ (xs (i + 1).toNat).toInt (xs (i + 2).toNat).toInt = some (a7, σ') ∧ f_X8_vow N τ (xs (i + 1).toNat).toInt (xs (i + 2).toNat).toInt = some (a7, τ') ∧ yRR σ' τ' := P_vow hR
  refine lv_aload_n hx hb (hd 343 (.aload_n 1) 1 rfl) rfl (lv_at hl 2 rfl) ?_
  refine lv_aload_n hx hb (hd 344 (.aload_n 0) 1 rfl) rfl (lv_at hl 3 rfl) ?_
  refine lv_iload_n hx hb (hd 345 (.iload_n 3) 1 rfl) rfl (lv_at hl 0 rfl) ?_
  refine lv_iconst (v := Int32.ofInt 1) hx hb (hd 346 (.iconst 1) 1 rfl) (by decide) ?_
  refine zh_iadd hx hb (hd 347 .iadd 1 rfl) ?_
  refine yl_ld hx hb hX hbl hbA hS (x := i + 1) (by omega) (by omega) hL (hd 348 .iaload 1 rfl) ?_
  refine lv_aload_n hx hb (hd 349 (.aload_n 0) 1 rfl) rfl (lv_at hl 3 rfl) ?_
  refine lv_iload_n hx hb (hd 350 (.iload_n 3) 1 rfl) rfl (lv_at hl 0 rfl) ?_
  refine lv_iconst (v := Int32.ofInt 2) hx hb (hd 351 (.iconst 2) 1 rfl) (by decide) ?_
  refine zh_iadd hx hb (hd 352 .iadd 1 rfl) ?_
  refine yl_ld hx hb hX hbl hbA hS (x := i + 2) (by omega) (by omega) hL (hd 353 .iaload 1 rfl) ?_
  refine ycallG (as := [.inl (.inl (xs (i + 1).toNat).toInt), .inl (.inl (xs (i + 2).toNat).toInt)]) (rest := []) zX_ok ⟨hx, hb, hml, hown, hts⟩ (m_X7_vow (N := N) zX_ok zX_n l) (ci := 7) rfl (cwV 2 hts gL_law_X7_vow rfl rfl rfl (by decide +kernel) ⟨Nat.le_of_ble_eq_true rfl, Nat.le_of_ble_eq_true rfl⟩) rfl hK o7 rfl (List.forall_mem_cons.mpr ⟨zq_rng _, List.forall_mem_cons.mpr ⟨zq_rng _, fun _ h => absurd h List.not_mem_nil⟩⟩) (e_X7_vow h7) hP hD hS hA hx0 hl.1 (Nat.le_of_ble_eq_true rfl) (hd 354 (.invokevirtual 44) 3 rfl) hroom (fun H locs o7 _ hP hD hS => ?_)
  show W p l e room_1 s m #[Value.ref b] below meth c H locs cells slots Q (F0 m 357 ls [.int (Int32.ofInt a7)])
  refine lv_pop hx hb (hd 357 .pop 1 rfl) rfl ?_
  refine lv_aload_n hx hb (hd 358 (.aload_n 2) 1 rfl) rfl (lv_at hl 1 rfl) ?_
  refine lv_aload_n hx hb (hd 359 (.aload_n 0) 1 rfl) rfl (lv_at hl 3 rfl) ?_
  refine lv_iload_n hx hb (hd 360 (.iload_n 3) 1 rfl) rfl (lv_at hl 0 rfl) ?_
  refine lv_iconst (v := Int32.ofInt 1) hx hb (hd 361 (.iconst 1) 1 rfl) (by decide) ?_
  refine zh_iadd hx hb (hd 362 .iadd 1 rfl) ?_
  refine yl_ld hx hb hX hbl hbA hS (x := i + 1) (by omega) (by omega) hL (hd 363 .iaload 1 rfl) ?_
  refine lv_aload_n hx hb (hd 364 (.aload_n 0) 1 rfl) rfl (lv_at hl 3 rfl) ?_
  refine lv_iload_n hx hb (hd 365 (.iload_n 3) 1 rfl) rfl (lv_at hl 0 rfl) ?_
  refine lv_iconst (v := Int32.ofInt 2) hx hb (hd 366 (.iconst 2) 1 rfl) (by decide) ?_
  refine zh_iadd hx hb (hd 367 .iadd 1 rfl) ?_
  refine yl_ld hx hb hX hbl hbA hS (x := i + 2) (by omega) (by omega) hL (hd 368 .iaload 1 rfl) ?_
  refine ycallG (as := [.inl (.inl (xs (i + 1).toNat).toInt), .inl (.inl (xs (i + 2).toNat).toInt)]) (rest := []) zX_ok ⟨hx, hb, hml, hown, hts⟩ (m_X8_vow (N := N) zX_ok zX_n l) (ci := 8) rfl (cwV 2 hts gL_law_X8_vow rfl rfl rfl (by decide +kernel) ⟨Nat.le_of_ble_eq_true rfl, Nat.le_of_ble_eq_true rfl⟩) rfl hK o8 rfl (List.forall_mem_cons.mpr ⟨zq_rng _, List.forall_mem_cons.mpr ⟨zq_rng _, fun _ h => absurd h List.not_mem_nil⟩⟩) (e_X8_vow h8) hP hD hS hA hx0 hl.1 (Nat.le_of_ble_eq_true rfl) (hd 369 (.invokevirtual 47) 3 rfl) hroom (fun H locs o8 _ hP hD hS => ?_)
  show W p l e room_1 s m #[Value.ref b] below meth c H locs cells slots Q (F0 m 372 ls [.int (Int32.ofInt a7)])
  refine lv_pop hx hb (hd 372 .pop 1 rfl) rfl ?_
  refine lv_goto (tgt := 1342) hx hb (hd 373 (.goto 969) 3 rfl) (by decide) ?_
  exact kk σ' τ' H locs ⟨o7, o8, hR', hP, hD, hS, hl⟩
noncomputable def pr_lc_want : List (Nat × Instr × Nat) := [(376, .aload_n 1, 1), (377, .aload_n 0, 1), (378, .iload_n 3, 1), (379, .iconst 1, 1), (380, .iadd, 1), (381, .iaload, 1), (382, .aload_n 0, 1), (383, .iload_n 3, 1), (384, .iconst 2, 1), (385, .iadd, 1), (386, .iaload, 1), (387, .invokevirtual 48, 3), (390, .pop, 1), (391, .aload_n 2, 1), (392, .aload_n 0, 1), (393, .iload_n 3, 1), (394, .iconst 1, 1), (395, .iadd, 1), (396, .iaload, 1), (397, .aload_n 0, 1), (398, .iload_n 3, 1), (399, .iconst 2, 1), (400, .iadd, 1), (401, .iaload, 1), (402, .invokevirtual 51, 3), (405, .pop, 1), (406, .goto 936, 3)]
set_option maxRecDepth 100000 in
theorem hp_lc_want : pr_lc_want.all (fun x => decide (decode code x.1 = .ok x.2)) = true := by decide +kernel
set_option maxHeartbeats 4000000 in
set_option maxRecDepth 100000 in
theorem lc_want {N : Nat} (hN : 1000 ≤ N) {p : Program} {l : Launch} {e : Env} {s : State} {m : MethodId} {below : List Frame} {meth : Method} {c : Code} {cells slots : Nat} {Q : State → Prop} {b L : Nat} {xs : Nat → Int32} {D : va_G} {kA : Nat → ClassId} (hc : zLc p s m c b L xs D kA) {ad7 ad8 : Nat → Nat} {i : Int} {σ τ : yS} {H : Heap} {locs : List Loc} {ls : Array Slot} (hi : yLi s b D kA ad7 ad8 i σ τ H locs ls) (i0 : 0 ≤ i) (i1 : i + 5 ≤ (L : Int)) (hroom : cells ≤ room_1.cells ∧ slots ≤ room_1.slots)
    (kk : ∀ (σ τ : yS) (H : Heap) (locs : List Loc), yLi s b D kA ad7 ad8 i σ τ H locs ls → W p l e room_1 s m #[Value.ref b] below meth c H locs cells slots Q (F0 m 1342 ls [])) : W p l e room_1 s m #[Value.ref b] below meth c H locs cells slots Q (F0 m 376 ls []) := by
  obtain ⟨hx, hb, hml, hown, hts, hX, hbl, hK, hx0, hL⟩ := hc
  obtain ⟨o7, o8, hR, hP, hD, hS, hl⟩ := hi
  have hA : ∀ q : Nat, s.heap.size ≤ q → (fun q : Nat => s.heap.size ≤ q) q := fun _ h => h
  have hbA : ¬ (fun q : Nat => s.heap.size ≤ q) b := Nat.not_le.mpr hbl
  have hd := zpr_all hp_lc_want
  obtain ⟨a7, σ', τ', h7, h8, hR'⟩ : ∃ (a7 : Int) (σ' τ' : yS), f_X7_want N σ (xs (i + 1).toNat).toInt (xs (i + 2).toNat).toInt = some (a7, σ') ∧ f_X8_want N τ (xs (i + 1).toNat).toInt (xs (i + 2).toNat).toInt = some (a7, τ') ∧ yRR σ' τ' := P_want hR
  refine lv_aload_n hx hb (hd 376 (.aload_n 1) 1 rfl) rfl (lv_at hl 2 rfl) ?_
  refine lv_aload_n hx hb (hd 377 (.aload_n 0) 1 rfl) rfl (lv_at hl 3 rfl) ?_
  refine lv_iload_n hx hb (hd 378 (.iload_n 3) 1 rfl) rfl (lv_at hl 0 rfl) ?_
  refine lv_iconst (v := Int32.ofInt 1) hx hb (hd 379 (.iconst 1) 1 rfl) (by decide) ?_
  refine zh_iadd hx hb (hd 380 .iadd 1 rfl) ?_
  refine yl_ld hx hb hX hbl hbA hS (x := i + 1) (by omega) (by omega) hL (hd 381 .iaload 1 rfl) ?_
  refine lv_aload_n hx hb (hd 382 (.aload_n 0) 1 rfl) rfl (lv_at hl 3 rfl) ?_
  refine lv_iload_n hx hb (hd 383 (.iload_n 3) 1 rfl) rfl (lv_at hl 0 rfl) ?_
  refine lv_iconst (v := Int32.ofInt 2) hx hb (hd 384 (.iconst 2) 1 rfl) (by decide) ?_
  refine zh_iadd hx hb (hd 385 .iadd 1 rfl) ?_
  refine yl_ld hx hb hX hbl hbA hS (x := i + 2) (by omega) (by omega) hL (hd 386 .iaload 1 rfl) ?_
  refine ycallG (as := [.inl (.inl (xs (i + 1).toNat).toInt), .inl (.inl (xs (i + 2).toNat).toInt)]) (rest := []) zX_ok ⟨hx, hb, hml, hown, hts⟩ (m_X7_want (N := N) zX_ok zX_n l) (ci := 7) rfl (cwV 2 hts gL_law_X7_want rfl rfl rfl (by decide +kernel) ⟨Nat.le_of_ble_eq_true rfl, Nat.le_of_ble_eq_true rfl⟩) rfl hK o7 rfl (List.forall_mem_cons.mpr ⟨zq_rng _, List.forall_mem_cons.mpr ⟨zq_rng _, fun _ h => absurd h List.not_mem_nil⟩⟩) (e_X7_want h7) hP hD hS hA hx0 hl.1 (Nat.le_of_ble_eq_true rfl) (hd 387 (.invokevirtual 48) 3 rfl) hroom (fun H locs o7 _ hP hD hS => ?_)
  show W p l e room_1 s m #[Value.ref b] below meth c H locs cells slots Q (F0 m 390 ls [.int (Int32.ofInt a7)])
  refine lv_pop hx hb (hd 390 .pop 1 rfl) rfl ?_
  refine lv_aload_n hx hb (hd 391 (.aload_n 2) 1 rfl) rfl (lv_at hl 1 rfl) ?_
  refine lv_aload_n hx hb (hd 392 (.aload_n 0) 1 rfl) rfl (lv_at hl 3 rfl) ?_
  refine lv_iload_n hx hb (hd 393 (.iload_n 3) 1 rfl) rfl (lv_at hl 0 rfl) ?_
  refine lv_iconst (v := Int32.ofInt 1) hx hb (hd 394 (.iconst 1) 1 rfl) (by decide) ?_
  refine zh_iadd hx hb (hd 395 .iadd 1 rfl) ?_
  refine yl_ld hx hb hX hbl hbA hS (x := i + 1) (by omega) (by omega) hL (hd 396 .iaload 1 rfl) ?_
  refine lv_aload_n hx hb (hd 397 (.aload_n 0) 1 rfl) rfl (lv_at hl 3 rfl) ?_
  refine lv_iload_n hx hb (hd 398 (.iload_n 3) 1 rfl) rfl (lv_at hl 0 rfl) ?_
  refine lv_iconst (v := Int32.ofInt 2) hx hb (hd 399 (.iconst 2) 1 rfl) (by decide) ?_
  refine zh_iadd hx hb (hd 400 .iadd 1 rfl) ?_
  refine yl_ld hx hb hX hbl hbA hS (x := i + 2) (by omega) (by omega) hL (hd 401 .iaload 1 rfl) ?_
  refine ycallG (as := [.inl (.inl (xs (i + 1).toNat).toInt), .inl (.inl (xs (i + 2).toNat).toInt)]) (rest := []) zX_ok ⟨hx, hb, hml, hown, hts⟩ (m_X8_want (N := N) zX_ok zX_n l) (ci := 8) rfl (cwV 2 hts gL_law_X8_want rfl rfl rfl (by decide +kernel) ⟨Nat.le_of_ble_eq_true rfl, Nat.le_of_ble_eq_true rfl⟩) rfl hK o8 rfl (List.forall_mem_cons.mpr ⟨zq_rng _, List.forall_mem_cons.mpr ⟨zq_rng _, fun _ h => absurd h List.not_mem_nil⟩⟩) (e_X8_want h8) hP hD hS hA hx0 hl.1 (Nat.le_of_ble_eq_true rfl) (hd 402 (.invokevirtual 51) 3 rfl) hroom (fun H locs o8 _ hP hD hS => ?_)
  show W p l e room_1 s m #[Value.ref b] below meth c H locs cells slots Q (F0 m 405 ls [.int (Int32.ofInt a7)])
  refine lv_pop hx hb (hd 405 .pop 1 rfl) rfl ?_
  refine lv_goto (tgt := 1342) hx hb (hd 406 (.goto 936) 3 rfl) (by decide) ?_
  exact kk σ' τ' H locs ⟨o7, o8, hR', hP, hD, hS, hl⟩
