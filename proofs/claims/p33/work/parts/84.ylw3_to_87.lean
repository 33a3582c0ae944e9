section
noncomputable def pr_lc_ahead : List (Nat × Instr × Nat) := [(778, .aload_n 1, 1), (779, .aload_n 0, 1), (780, .iload_n 3, 1), (781, .iconst 1, 1), (782, .iadd, 1), (783, .iaload, 1), (784, .aload_n 0, 1), (785, .iload_n 3, 1), (786, .iconst 2, 1), (787, .iadd, 1), (788, .iaload, 1), (789, .aload_n 0, 1), (790, .iload_n 3, 1), (791, .iconst 3, 1), (792, .iadd, 1), (793, .iaload, 1), (794, .invokevirtual 91, 3), (797, .pop, 1), (798, .aload_n 2, 1), (799, .aload_n 0, 1), (800, .iload_n 3, 1), (801, .iconst 1, 1), (802, .iadd, 1), (803, .iaload, 1), (804, .aload_n 0, 1), (805, .iload_n 3, 1), (806, .iconst 2, 1), (807, .iadd, 1), (808, .iaload, 1), (809, .aload_n 0, 1), (810, .iload_n 3, 1), (811, .iconst 3, 1), (812, .iadd, 1), (813, .iaload, 1), (814, .invokevirtual 95, 3), (817, .pop, 1), (818, .goto 524, 3)]
set_option maxRecDepth 100000 in
theorem hp_lc_ahead : pr_lc_ahead.all (fun x => decide (decode code x.1 = .ok x.2)) = true := by decide +kernel
set_option maxHeartbeats 4000000 in
set_option maxRecDepth 100000 in
theorem lc_ahead {N : Nat} (hN : 1000 ≤ N) {p : Program} {l : Launch} {e : Env} {s : State} {m : MethodId} {below : List Frame} {meth : Method} {c : Code} {cells slots : Nat} {Q : State → Prop} {b L : Nat} {xs : Nat → Int32} {D : va_G} {kA : Nat → ClassId} (hc : zLc p s m c b L xs D kA) {ad7 ad8 : Nat → Nat} {i : Int} {σ τ : yS} {H : Heap} {locs : List Loc} {ls : Array Slot} (hi : yLi s b D kA ad7 ad8 i σ τ H locs ls) (i0 : 0 ≤ i) (i1 : i + 5 ≤ (L : Int)) (hroom : cells ≤ room_1.cells ∧ slots ≤ room_1.slots)
    (kk : ∀ (σ τ : yS) (H : Heap) (locs : List Loc), yLi s b D kA ad7 ad8 i σ τ H locs ls → W p l e room_1 s m #[Value.ref b] below meth c H locs cells slots Q (F0 m 1342 ls [])) : W p l e room_1 s m #[Value.ref b] below meth c H locs cells slots Q (F0 m 778 ls []) := by
  obtain ⟨hx, hb, hml, hown, hts, hX, hbl, hK, hx0, hL⟩ := hc
  obtain ⟨o7, o8, hR, hP, hD, hS, hl⟩ := hi
  have hA : ∀ q : Nat, s.heap.size ≤ q → (fun q : Nat => s.heap.size ≤ q) q := fun _ h => h
  have hbA : ¬ (fun q : Nat => s.heap.size ≤ q) b := Nat.not_le.mpr hbl
  have hd := zpr_all hp_lc_ahead
  obtain ⟨a7, σ', τ', h7, h8, hR'⟩ : ∃ (a7 : Int) (σ' τ' : yS), f_X7_ahead N σ (xs (i + 1).toNat).toInt (xs (i + 2).toNat).toInt (xs (i + 3).toNat).toInt = some (a7, σ') ∧ f_X8_ahead N τ (xs (i + 1).toNat).toInt (xs (i + 2).toNat).toInt (xs (i + 3).toNat).toInt = some (a7, τ') ∧ yRR σ' τ' := P_ahead (by omega) hR
  refine lv_aload_n hx hb (hd 778 (.aload_n 1) 1 rfl) rfl (lv_at hl 2 rfl) ?_
  refine lv_aload_n hx hb (hd 779 (.aload_n 0) 1 rfl) rfl (lv_at hl 3 rfl) ?_
  refine lv_iload_n hx hb (hd 780 (.iload_n 3) 1 rfl) rfl (lv_at hl 0 rfl) ?_
  refine lv_iconst (v := Int32.ofInt 1) hx hb (hd 781 (.iconst 1) 1 rfl) (by decide) ?_
  refine zh_iadd hx hb (hd 782 .iadd 1 rfl) ?_
  refine yl_ld hx hb hX hbl hbA hS (x := i + 1) (by omega) (by omega) hL (hd 783 .iaload 1 rfl) ?_
  refine lv_aload_n hx hb (hd 784 (.aload_n 0) 1 rfl) rfl (lv_at hl 3 rfl) ?_
  refine lv_iload_n hx hb (hd 785 (.iload_n 3) 1 rfl) rfl (lv_at hl 0 rfl) ?_
  refine lv_iconst (v := Int32.ofInt 2) hx hb (hd 786 (.iconst 2) 1 rfl) (by decide) ?_
  refine zh_iadd hx hb (hd 787 .iadd 1 rfl) ?_
  refine yl_ld hx hb hX hbl hbA hS (x := i + 2) (by omega) (by omega) hL (hd 788 .iaload 1 rfl) ?_
  refine lv_aload_n hx hb (hd 789 (.aload_n 0) 1 rfl) rfl (lv_at hl 3 rfl) ?_
  refine lv_iload_n hx hb (hd 790 (.iload_n 3) 1 rfl) rfl (lv_at hl 0 rfl) ?_
  refine lv_iconst (v := Int32.ofInt 3) hx hb (hd 791 (.iconst 3) 1 rfl) (by decide) ?_
  refine zh_iadd hx hb (hd 792 .iadd 1 rfl) ?_
  refine yl_ld hx hb hX hbl hbA hS (x := i + 3) (by omega) (by omega) hL (hd 793 .iaload 1 rfl) ?_
  refine ycallG (as := [.inl (.inl (xs (i + 1).toNat).toInt), .inl (.inl (xs (i + 2).toNat).toInt), .inl (.inl (xs (i + 3).toNat).toInt)]) (rest := []) zX_ok ⟨hx, hb, hml, hown, hts⟩ (m_X7_ahead (N := N) zX_ok zX_n l) (ci := 7) rfl (cwV 3 hts gL_law_X7_ahead rfl rfl rfl (by decide +kernel) ⟨Nat.le_of_ble_eq_true rfl, Nat.le_of_ble_eq_true rfl⟩) rfl hK o7 rfl (List.forall_mem_cons.mpr ⟨zq_rng _, List.forall_mem_cons.mpr ⟨zq_rng _, List.forall_mem_cons.mpr ⟨zq_rng _, fun _ h => absurd h List.not_mem_nil⟩⟩⟩) (e_X7_ahead h7) hP hD hS hA hx0 hl.1 (Nat.le_of_ble_eq_true rfl) (hd 794 (.invokevirtual 91) 3 rfl) hroom (fun H locs o7 _ hP hD hS => ?_)
  show W p l e room_1 s m #[Value.ref b] below meth c H locs cells slots Q (F0 m 797 ls [.int (Int32.ofInt a7)])
  refine lv_pop hx hb (hd 797 .pop 1 rfl) rfl ?_
  refine lv_aload_n hx hb (hd 798 (.aload_n 2) 1 rfl) rfl (lv_at hl 1 rfl) ?_
  refine lv_aload_n hx hb (hd 799 (.aload_n 0) 1 rfl) rfl (lv_at hl 3 rfl) ?_
  refine lv_iload_n hx hb (hd 800 (.iload_n 3) 1 rfl) rfl (lv_at hl 0 rfl) ?_
  refine lv_iconst (v := Int32.ofInt 1) hx hb (hd 801 (.iconst 1) 1 rfl) (by decide) ?_
  refine zh_iadd hx hb (hd 802 .iadd 1 rfl) ?_
  refine yl_ld hx hb hX hbl hbA hS (x := i + 1) (by omega) (by omega) hL (hd 803 .iaload 1 rfl) ?_
  refine lv_aload_n hx hb (hd 804 (.aload_n 0) 1 rfl) rfl (lv_at hl 3 rfl) ?_
  refine lv_iload_n hx hb (hd 805 (.iload_n 3) 1 rfl) rfl (lv_at hl 0 rfl) ?_
  refine lv_iconst (v := Int32.ofInt 2) hx hb (hd 806 (.iconst 2) 1 rfl) (by decide) ?_
  refine zh_iadd hx hb (hd 807 .iadd 1 rfl) ?_
  refine yl_ld hx hb hX hbl hbA hS (x := i + 2) (by omega) (by omega) hL (hd 808 .iaload 1 rfl) ?_
  refine lv_aload_n hx hb (hd 809 (.aload_n 0) 1 rfl) rfl (lv_at hl 3 rfl) ?_
  refine lv_iload_n hx hb (hd 810 (.iload_n 3) 1 rfl) rfl (lv_at hl 0 rfl) ?_
  refine lv_iconst (v := Int32.ofInt 3) hx hb (hd 811 (.iconst 3) 1 rfl) (by decide) ?_
  refine zh_iadd hx hb (hd 812 .iadd 1 rfl) ?_
  refine yl_ld hx hb hX hbl hbA hS (x := i + 3) (by omega) (by omega) hL (hd 813 .iaload 1 rfl) ?_
  refine ycallG (as := [.inl (.inl (xs (i + 1).toNat).toInt), .inl (.inl (xs (i + 2).toNat).toInt), .inl (.inl (xs (i + 3).toNat).toInt)]) (rest := []) zX_ok ⟨hx, hb, hml, hown, hts⟩ (m_X8_ahead (N := N) zX_ok zX_n l) (ci := 8) rfl (cwV 3 hts gL_law_X8_ahead rfl rfl rfl (by decide +kernel) ⟨Nat.le_of_ble_eq_true rfl, Nat.le_of_ble_eq_true rfl⟩) rfl hK o8 rfl (List.forall_mem_cons.mpr ⟨zq_rng _, List.forall_mem_cons.mpr ⟨zq_rng _, List.forall_mem_cons.mpr ⟨zq_rng _, fun _ h => absurd h List.not_mem_nil⟩⟩⟩) (e_X8_ahead h8) hP hD hS hA hx0 hl.1 (Nat.le_of_ble_eq_true rfl) (hd 814 (.invokevirtual 95) 3 rfl) hroom (fun H locs o8 _ hP hD hS => ?_)
  show W p l e room_1 s m #[Value.ref b] below meth c H locs cells slots Q (F0 m 817 ls [.int (Int32.ofInt a7)])
  refine lv_pop hx hb (hd 817 .pop 1 rfl) rfl ?_
  refine lv_goto (tgt := 1342) hx hb (hd 818 (.goto 524) 3 rfl) (by decide) ?_
  exact kk σ' τ' H locs ⟨o7, o8, hR', hP, hD, hS, hl⟩
noncomputable def pr_lc_rest : List (Nat × Instr × Nat) := [(821, .aload_n 1, 1), (822, .invokevirtual 96, 3), (825, .pop, 1), (826, .aload_n 2, 1), (827, .invokevirtual 99, 3), (830, .pop, 1), (831, .goto 511, 3)]
set_option maxRecDepth 100000 in
theorem hp_lc_rest : pr_lc_rest.all (fun x => decide (decode code x.1 = .ok x.2)) = true := by decide +kernel
set_option maxHeartbeats 4000000 in
set_option maxRecDepth 100000 in
theorem lc_rest {N : Nat} (hN : 1000 ≤ N) {p : Program} {l : Launch} {e : Env} {s : State} {m : MethodId} {below : List Frame} {meth : Method} {c : Code} {cells slots : Nat} {Q : State → Prop} {b L : Nat} {xs : Nat → Int32} {D : va_G} {kA : Nat → ClassId} (hc : zLc p s m c b L xs D kA) {ad7 ad8 : Nat → Nat} {i : Int} {σ τ : yS} {H : Heap} {locs : List Loc} {ls : Array Slot} (hi : yLi s b D kA ad7 ad8 i σ τ H locs ls) (i0 : 0 ≤ i) (i1 : i + 5 ≤ (L : Int)) (hroom : cells ≤ room_1.cells ∧ slots ≤ room_1.slots)
    (kk : ∀ (σ τ : yS) (H : Heap) (locs : List Loc), yLi s b D kA ad7 ad8 i σ τ H locs ls → W p l e room_1 s m #[Value.ref b] below meth c H locs cells slots Q (F0 m 1342 ls [])) : W p l e room_1 s m #[Value.ref b] below meth c H locs cells slots Q (F0 m 821 ls []) := by
  obtain ⟨hx, hb, hml, hown, hts, hX, hbl, hK, hx0, hL⟩ := hc
  obtain ⟨o7, o8, hR, hP, hD, hS, hl⟩ := hi
  have hA : ∀ q : Nat, s.heap.size ≤ q → (fun q : Nat => s.heap.size ≤ q) q := fun _ h => h
  have hbA : ¬ (fun q : Nat => s.heap.size ≤ q) b := Nat.not_le.mpr hbl
  have hd := zpr_all hp_lc_rest
  obtain ⟨a7, σ', τ', h7, h8, hR'⟩ : ∃ (a7 : Int) (σ' τ' : yS), f_X7_rest N σ = some (a7, σ') ∧ f_X8_rest N τ = some (a7, τ') ∧ yRR σ' τ' := P_rest (by omega) hR
  refine lv_aload_n hx hb (hd 821 (.aload_n 1) 1 rfl) rfl (lv_at hl 2 rfl) ?_
  refine ycallG (as := []) (rest := []) zX_ok ⟨hx, hb, hml, hown, hts⟩ (m_X7_rest (N := N) zX_ok zX_n l) (ci := 7) rfl (cwV 0 hts gL_law_X7_rest rfl rfl rfl (by decide +kernel) ⟨Nat.le_of_ble_eq_true rfl, Nat.le_of_ble_eq_true rfl⟩) rfl hK o7 rfl (fun _ h => absurd h List.not_mem_nil) (e_X7_rest h7) hP hD hS hA hx0 hl.1 (Nat.le_of_ble_eq_true rfl) (hd 822 (.invokevirtual 96) 3 rfl) hroom (fun H locs o7 _ hP hD hS => ?_)
  show W p l e room_1 s m #[Value.ref b] below meth c H locs cells slots Q (F0 m 825 ls [.int (Int32.ofInt a7)])
  refine lv_pop hx hb (hd 825 .pop 1 rfl) rfl ?_
  refine lv_aload_n hx hb (hd 826 (.aload_n 2) 1 rfl) rfl (lv_at hl 1 rfl) ?_
  refine ycallG (as := []) (rest := []) zX_ok ⟨hx, hb, hml, hown, hts⟩ (m_X8_rest (N := N) zX_ok zX_n l) (ci := 8) rfl (cwV 0 hts gL_law_X8_rest rfl rfl rfl (by decide +kernel) ⟨Nat.le_of_ble_eq_true rfl, Nat.le_of_ble_eq_true rfl⟩) rfl hK o8 rfl (fun _ h => absurd h List.not_mem_nil) (e_X8_rest h8) hP hD hS hA hx0 hl.1 (Nat.le_of_ble_eq_true rfl) (hd 827 (.invokevirtual 99) 3 rfl) hroom (fun H locs o8 _ hP hD hS => ?_)
  show W p l e room_1 s m #[Value.ref b] below meth c H locs cells slots Q (F0 m 830 ls [.int (Int32.ofInt a7)])
  refine lv_pop hx hb (hd 830 .pop 1 rfl) rfl ?_
  refine lv_goto (tgt := 1342) hx hb (hd 831 (.goto 511) 3 rfl) (by decide) ?_
  exact kk σ' τ' H locs ⟨o7, o8, hR', hP, hD, hS, hl⟩
noncomputable def pr_lc_plan : List (Nat × Instr × Nat) := [(834, .aload_n 1, 1), (835, .aload_n 0, 1), (836, .iload_n 3, 1), (837, .iconst 1, 1), (838, .iadd, 1), (839, .iaload, 1), (840, .invokevirtual 100, 3), (843, .pop, 1), (844, .aload_n 2, 1), (845, .aload_n 0, 1), (846, .iload_n 3, 1), (847, .iconst 1, 1), (848, .iadd, 1), (849, .iaload, 1), (850, .invokevirtual 103, 3), (853, .pop, 1), (854, .goto 488, 3)]
set_option maxRecDepth 100000 in
theorem hp_lc_plan : pr_lc_plan.all (fun x => decide (decode code x.1 = .ok x.2)) = true := by decide +kernel
set_option maxHeartbeats 4000000 in
set_option maxRecDepth 100000 in
theorem lc_plan {N : Nat} (hN : 1000 ≤ N) {p : Program} {l : Launch} {e : Env} {s : State} {m : MethodId} {below : List Frame} {meth : Method} {c : Code} {cells slots : Nat} {Q : State → Prop} {b L : Nat} {xs : Nat → Int32} {D : va_G} {kA : Nat → ClassId} (hc : zLc p s m c b L xs D kA) {ad7 ad8 : Nat → Nat} {i : Int} {σ τ : yS} {H : Heap} {locs : List Loc} {ls : Array Slot} (hi : yLi s b D kA ad7 ad8 i σ τ H locs ls) (i0 : 0 ≤ i) (i1 : i + 5 ≤ (L : Int)) (hroom : cells ≤ room_1.cells ∧ slots ≤ room_1.slots)
    (kk : ∀ (σ τ : yS) (H : Heap) (locs : List Loc), yLi s b D kA ad7 ad8 i σ τ H locs ls → W p l e room_1 s m #[Value.ref b] below meth c H locs cells slots Q (F0 m 1342 ls [])) : W p l e room_1 s m #[Value.ref b] below meth c H locs cells slots Q (F0 m 834 ls []) := by
  obtain ⟨hx, hb, hml, hown, hts, hX, hbl, hK, hx0, hL⟩ := hc
  obtain ⟨o7, o8, hR, hP, hD, hS, hl⟩ := hi
  have hA : ∀ q : Nat, s.heap.size ≤ q → (fun q : Nat => s.heap.size ≤ q) q := fun _ h => h
  have hbA : ¬ (fun q : Nat => s.heap.size ≤ q) b := Nat.not_le.mpr hbl
  have hd := zpr_all hp_lc_plan
  obtain ⟨a7, a8, σ', τ', h7, h8, hR'⟩ : ∃ (a7 a8 : Int) (σ' τ' : yS), f_X7_plan N σ (xs (i + 1).toNat).toInt = some (a7, σ') ∧ f_X8_plan N τ (xs (i + 1).toNat).toInt = some (a8, τ') ∧ yRR σ' τ' := P_plan hN hR
  refine lv_aload_n hx hb (hd 834 (.aload_n 1) 1 rfl) rfl (lv_at hl 2 rfl) ?_
  refine lv_aload_n hx hb (hd 835 (.aload_n 0) 1 rfl) rfl (lv_at hl 3 rfl) ?_
  refine lv_iload_n hx hb (hd 836 (.iload_n 3) 1 rfl) rfl (lv_at hl 0 rfl) ?_
  refine lv_iconst (v := Int32.ofInt 1) hx hb (hd 837 (.iconst 1) 1 rfl) (by decide) ?_
  refine zh_iadd hx hb (hd 838 .iadd 1 rfl) ?_
  refine yl_ld hx hb hX hbl hbA hS (x := i + 1) (by omega) (by omega) hL (hd 839 .iaload 1 rfl) ?_
  refine ycallG (as := [.inl (.inl (xs (i + 1).toNat).toInt)]) (rest := []) zX_ok ⟨hx, hb, hml, hown, hts⟩ (m_X7_plan (N := N) zX_ok zX_n l) (ci := 7) rfl (cwV 1 hts gL_law_X7_plan rfl rfl rfl (by decide +kernel) ⟨Nat.le_of_ble_eq_true rfl, Nat.le_of_ble_eq_true rfl⟩) rfl hK o7 rfl (List.forall_mem_cons.mpr ⟨zq_rng _, fun _ h => absurd h List.not_mem_nil⟩) (e_X7_plan h7) hP hD hS hA hx0 hl.1 (Nat.le_of_ble_eq_true rfl) (hd 840 (.invokevirtual 100) 3 rfl) hroom (fun H locs o7 _ hP hD hS => ?_)
  show W p l e room_1 s m #[Value.ref b] below meth c H locs cells slots Q (F0 m 843 ls [.int (Int32.ofInt a7)])
  refine lv_pop hx hb (hd 843 .pop 1 rfl) rfl ?_
  refine lv_aload_n hx hb (hd 844 (.aload_n 2) 1 rfl) rfl (lv_at hl 1 rfl) ?_
  refine lv_aload_n hx hb (hd 845 (.aload_n 0) 1 rfl) rfl (lv_at hl 3 rfl) ?_
  refine lv_iload_n hx hb (hd 846 (.iload_n 3) 1 rfl) rfl (lv_at hl 0 rfl) ?_
  refine lv_iconst (v := Int32.ofInt 1) hx hb (hd 847 (.iconst 1) 1 rfl) (by decide) ?_
  refine zh_iadd hx hb (hd 848 .iadd 1 rfl) ?_
  refine yl_ld hx hb hX hbl hbA hS (x := i + 1) (by omega) (by omega) hL (hd 849 .iaload 1 rfl) ?_
  refine ycallG (as := [.inl (.inl (xs (i + 1).toNat).toInt)]) (rest := []) zX_ok ⟨hx, hb, hml, hown, hts⟩ (m_X8_plan (N := N) zX_ok zX_n l) (ci := 8) rfl (cwV 1 hts gL_law_X8_plan rfl rfl rfl (by decide +kernel) ⟨Nat.le_of_ble_eq_true rfl, Nat.le_of_ble_eq_true rfl⟩) rfl hK o8 rfl (List.forall_mem_cons.mpr ⟨zq_rng _, fun _ h => absurd h List.not_mem_nil⟩) (e_X8_plan h8) hP hD hS hA hx0 hl.1 (Nat.le_of_ble_eq_true rfl) (hd 850 (.invokevirtual 103) 3 rfl) hroom (fun H locs o8 _ hP hD hS => ?_)
  show W p l e room_1 s m #[Value.ref b] below meth c H locs cells slots Q (F0 m 853 ls [.int (Int32.ofInt a8)])
  refine lv_pop hx hb (hd 853 .pop 1 rfl) rfl ?_
  refine lv_goto (tgt := 1342) hx hb (hd 854 (.goto 488) 3 rfl) (by decide) ?_
  exact kk σ' τ' H locs ⟨o7, o8, hR', hP, hD, hS, hl⟩
noncomputable def pr_lc_who : List (Nat × Instr × Nat) := [(857, .aload_n 1, 1), (858, .aload_n 0, 1), (859, .iload_n 3, 1), (860, .iconst 1, 1), (861, .iadd, 1), (862, .iaload, 1), (863, .aload_n 0, 1), (864, .iload_n 3, 1), (865, .iconst 2, 1), (866, .iadd, 1), (867, .iaload, 1), (868, .aload_n 0, 1), (869, .iload_n 3, 1), (870, .iconst 3, 1), (871, .iadd, 1), (872, .iaload, 1), (873, .invokevirtual 104, 3), (876, .pop, 1), (877, .aload_n 2, 1), (878, .aload_n 0, 1), (879, .iload_n 3, 1), (880, .iconst 1, 1), (881, .iadd, 1), (882, .iaload, 1), (883, .aload_n 0, 1), (884, .iload_n 3, 1), (885, .iconst 2, 1), (886, .iadd, 1), (887, .iaload, 1), (888, .aload_n 0, 1), (889, .iload_n 3, 1), (890, .iconst 3, 1), (891, .iadd, 1), (892, .iaload, 1), (893, .invokevirtual 107, 3), (896, .pop, 1), (897, .goto 445, 3)]
set_option maxRecDepth 100000 in
theorem hp_lc_who : pr_lc_who.all (fun x => decide (decode code x.1 = .ok x.2)) = true := by decide +kernel
set_option maxHeartbeats 4000000 in
set_option maxRecDepth 100000 in
theorem lc_who {N : Nat} (hN : 1000 ≤ N) {p : Program} {l : Launch} {e : Env} {s : State} {m : MethodId} {below : List Frame} {meth : Method} {c : Code} {cells slots : Nat} {Q : State → Prop} {b L : Nat} {xs : Nat → Int32} {D : va_G} {kA : Nat → ClassId} (hc : zLc p s m c b L xs D kA) {ad7 ad8 : Nat → Nat} {i : Int} {σ τ : yS} {H : Heap} {locs : List Loc} {ls : Array Slot} (hi : yLi s b D kA ad7 ad8 i σ τ H locs ls) (i0 : 0 ≤ i) (i1 : i + 5 ≤ (L : Int)) (hroom : cells ≤ room_1.cells ∧ slots ≤ room_1.slots)
    (kk : ∀ (σ τ : yS) (H : Heap) (locs : List Loc), yLi s b D kA ad7 ad8 i σ τ H locs ls → W p l e room_1 s m #[Value.ref b] below meth c H locs cells slots Q (F0 m 1342 ls [])) : W p l e room_1 s m #[Value.ref b] below meth c H locs cells slots Q (F0 m 857 ls []) := by
  obtain ⟨hx, hb, hml, hown, hts, hX, hbl, hK, hx0, hL⟩ := hc
  obtain ⟨o7, o8, hR, hP, hD, hS, hl⟩ := hi
  have hA : ∀ q : Nat, s.heap.size ≤ q → (fun q : Nat => s.heap.size ≤ q) q := fun _ h => h
  have hbA : ¬ (fun q : Nat => s.heap.size ≤ q) b := Nat.not_le.mpr hbl
  have hd := zpr_all hp_lc_who
  obtain ⟨a7, σ', τ', h7, h8, hR'⟩ : ∃ (a7 : Int) (σ' τ' : yS), f_X7_who N σ (xs (i + 1).toNat).toInt (xs (i + 2).toNat).toInt (xs (i + 3).toNat).toInt = some (a7, σ') ∧ f_X8_who N τ (xs (i + 1).toNat).toInt (xs (i + 2).toNat).toInt (xs (i + 3).toNat).toInt = some (a7, τ') ∧ yRR σ' τ' := P_who (by omega) hR
  refine lv_aload_n hx hb (hd 857 (.aload_n 1) 1 rfl) rfl (lv_at hl 2 rfl) ?_
  refine lv_aload_n hx hb (hd 858 (.aload_n 0) 1 rfl) rfl (lv_at hl 3 rfl) ?_
  refine lv_iload_n hx hb (hd 859 (.iload_n 3) 1 rfl) rfl (lv_at hl 0 rfl) ?_
  refine lv_iconst (v := Int32.ofInt 1) hx hb (hd 860 (.iconst 1) 1 rfl) (by decide) ?_
  refine zh_iadd hx hb (hd 861 .iadd 1 rfl) ?_
  refine yl_ld hx hb hX hbl hbA hS (x := i + 1) (by omega) (by omega) hL (hd 862 .iaload 1 rfl) ?_
  refine lv_aload_n hx hb (hd 863 (.aload_n 0) 1 rfl) rfl (lv_at hl 3 rfl) ?_
  refine lv_iload_n hx hb (hd 864 (.iload_n 3) 1 rfl) rfl (lv_at hl 0 rfl) ?_
  refine lv_iconst (v := Int32.ofInt 2) hx hb (hd 865 (.iconst 2) 1 rfl) (by decide) ?_
  refine zh_iadd hx hb (hd 866 .iadd 1 rfl) ?_
  refine yl_ld hx hb hX hbl hbA hS (x := i + 2) (by omega) (by omega) hL (hd 867 .iaload 1 rfl) ?_
  refine lv_aload_n hx hb (hd 868 (.aload_n 0) 1 rfl) rfl (lv_at hl 3 rfl) ?_
  refine lv_iload_n hx hb (hd 869 (.iload_n 3) 1 rfl) rfl (lv_at hl 0 rfl) ?_
  refine lv_iconst (v := Int32.ofInt 3) hx hb (hd 870 (.iconst 3) 1 rfl) (by decide) ?_
  refine zh_iadd hx hb (hd 871 .iadd 1 rfl) ?_
  refine yl_ld hx hb hX hbl hbA hS (x := i + 3) (by omega) (by omega) hL (hd 872 .iaload 1 rfl) ?_
  refine ycallG (as := [.inl (.inl (xs (i + 1).toNat).toInt), .inl (.inl (xs (i + 2).toNat).toInt), .inl (.inl (xs (i + 3).toNat).toInt)]) (rest := []) zX_ok ⟨hx, hb, hml, hown, hts⟩ (m_X7_who (N := N) zX_ok zX_n l) (ci := 7) rfl (cwV 3 hts gL_law_X7_who rfl rfl rfl (by decide +kernel) ⟨Nat.le_of_ble_eq_true rfl, Nat.le_of_ble_eq_true rfl⟩) rfl hK o7 rfl (List.forall_mem_cons.mpr ⟨zq_rng _, List.forall_mem_cons.mpr ⟨zq_rng _, List.forall_mem_cons.mpr ⟨zq_rng _, fun _ h => absurd h List.not_mem_nil⟩⟩⟩) (e_X7_who h7) hP hD hS hA hx0 hl.1 (Nat.le_of_ble_eq_true rfl) (hd 873 (.invokevirtual 104) 3 rfl) hroom (fun H locs o7 _ hP hD hS => ?_)
  show W p l e room_1 s m #[Value.ref b] below meth c H locs cells slots Q (F0 m 876 ls [.int (Int32.ofInt a7)])
  refine lv_pop hx hb (hd 876 .pop 1 rfl) rfl ?_
  refine lv_aload_n hx hb (hd 877 (.aload_n 2) 1 rfl) rfl (lv_at hl 1 rfl) ?_
  refine lv_aload_n hx hb (hd 878 (.aload_n 0) 1 rfl) rfl (lv_at hl 3 rfl) ?_
  refine lv_iload_n hx hb (hd 879 (.iload_n 3) 1 rfl) rfl (lv_at hl 0 rfl) ?_
  refine lv_iconst (v := Int32.ofInt 1) hx hb (hd 880 (.iconst 1) 1 rfl) (by decide) ?_
  refine zh_iadd hx hb (hd 881 .iadd 1 rfl) ?_
  refine yl_ld hx hb hX hbl hbA hS (x := i + 1) (by omega) (by omega) hL (hd 882 .iaload 1 rfl) ?_
  refine lv_aload_n hx hb (hd 883 (.aload_n 0) 1 rfl) rfl (lv_at hl 3 rfl) ?_
  refine lv_iload_n hx hb (hd 884 (.iload_n 3) 1 rfl) rfl (lv_at hl 0 rfl) ?_
  refine lv_iconst (v := Int32.ofInt 2) hx hb (hd 885 (.iconst 2) 1 rfl) (by decide) ?_
  refine zh_iadd hx hb (hd 886 .iadd 1 rfl) ?_
  refine yl_ld hx hb hX hbl hbA hS (x := i + 2) (by omega) (by omega) hL (hd 887 .iaload 1 rfl) ?_
  refine lv_aload_n hx hb (hd 888 (.aload_n 0) 1 rfl) rfl (lv_at hl 3 rfl) ?_
  refine lv_iload_n hx hb (hd 889 (.iload_n 3) 1 rfl) rfl (lv_at hl 0 rfl) ?_
  refine lv_iconst (v := Int32.ofInt 3) hx hb (hd 890 (.iconst 3) 1 rfl) (by decide) ?_
  refine zh_iadd hx hb (hd 891 .iadd 1 rfl) ?_
  refine yl_ld hx hb hX hbl hbA hS (x := i + 3) (by omega) (by omega) hL (hd 892 .iaload 1 rfl) ?_
  refine ycallG (as := [.inl (.inl (xs (i + 1).toNat).toInt), .inl (.inl (xs (i + 2).toNat).toInt), .inl (.inl (xs (i + 3).toNat).toInt)]) (rest := []) zX_ok ⟨hx, hb, hml, hown, hts⟩ (m_X8_who (N := N) zX_ok zX_n l) (ci := 8) rfl (cwV 3 hts gL_law_X8_who rfl rfl rfl (by decide +kernel) ⟨Nat.le_of_ble_eq_true rfl, Nat.le_of_ble_eq_true rfl⟩) rfl hK o8 rfl (List.forall_mem_cons.mpr ⟨zq_rng _, List.forall_mem_cons.mpr ⟨zq_rng _, List.forall_mem_cons.mpr ⟨zq_rng _, fun _ h => absurd h List.not_mem_nil⟩⟩⟩) (e_X8_who h8) hP hD hS hA hx0 hl.1 (Nat.le_of_ble_eq_true rfl) (hd 893 (.invokevirtual 107) 3 rfl) hroom (fun H locs o8 _ hP hD hS => ?_)
  show W p l e room_1 s m #[Value.ref b] below meth c H locs cells slots Q (F0 m 896 ls [.int (Int32.ofInt a7)])
  refine lv_pop hx hb (hd 896 .pop 1 rfl) rfl ?_
  refine lv_goto (tgt := 1342) hx hb (hd 897 (.goto 445) 3 rfl) (by decide) ?_
  exact kk σ' τ' H locs ⟨o7, o8, hR', hP, hD, hS, hl⟩
noncomputable def pr_lc_ways : List (Nat × Instr × Nat) := [(900, .aload_n 1, 1), (901, .aload_n 0, 1), (902, .iload_n 3, 1), (903, .iconst 1, 1), (904, .iadd, 1), (905, .iaload, 1), (906, .aload_n 0, 1), (907, .iload_n 3, 1), (908, .iconst 2, 1), (909, .iadd, 1), (910, .iaload, 1), (911, .aload_n 0, 1), (912, .iload_n 3, 1), (913, .iconst 3, 1), (914, .iadd, 1), (915, .iaload, 1), (916, .invokevirtual 108, 3), (919, .pop, 1), (920, .aload_n 2, 1), (921, .aload_n 0, 1), (922, .iload_n 3, 1), (923, .iconst 1, 1), (924, .iadd, 1), (925, .iaload, 1), (926, .aload_n 0, 1), (927, .iload_n 3, 1), (928, .iconst 2, 1), (929, .iadd, 1), (930, .iaload, 1), (931, .aload_n 0, 1), (932, .iload_n 3, 1), (933, .iconst 3, 1), (934, .iadd, 1), (935, .iaload, 1), (936, .invokevirtual 111, 3), (939, .pop, 1), (940, .goto 402, 3)]
set_option maxRecDepth 100000 in
theorem hp_lc_ways : pr_lc_ways.all (fun x => decide (decode code x.1 = .ok x.2)) = true := by decide +kernel
set_option maxHeartbeats 4000000 in
set_option maxRecDepth 100000 in
theorem lc_ways {N : Nat} (hN : 1000 ≤ N) {p : Program} {l : Launch} {e : Env} {s : State} {m : MethodId} {below : List Frame} {meth : Method} {c : Code} {cells slots : Nat} {Q : State → Prop} {b L : Nat} {xs : Nat → Int32} {D : va_G} {kA : Nat → ClassId} (hc : zLc p s m c b L xs D kA) {ad7 ad8 : Nat → Nat} {i : Int} {σ τ : yS} {H : Heap} {locs : List Loc} {ls : Array Slot} (hi : yLi s b D kA ad7 ad8 i σ τ H locs ls) (i0 : 0 ≤ i) (i1 : i + 5 ≤ (L : Int)) (hroom : cells ≤ room_1.cells ∧ slots ≤ room_1.slots)
    (kk : ∀ (σ τ : yS) (H : Heap) (locs : List Loc), yLi s b D kA ad7 ad8 i σ τ H locs ls → W p l e room_1 s m #[Value.ref b] below meth c H locs cells slots Q (F0 m 1342 ls [])) : W p l e room_1 s m #[Value.ref b] below meth c H locs cells slots Q (F0 m 900 ls []) := by
  obtain ⟨hx, hb, hml, hown, hts, hX, hbl, hK, hx0, hL⟩ := hc
  obtain ⟨o7, o8, hR, hP, hD, hS, hl⟩ := hi
  have hA : ∀ q : Nat, s.heap.size ≤ q → (fun q : Nat => s.heap.size ≤ q) q := fun _ h => h
  have hbA : ¬ (fun q : Nat => s.heap.size ≤ q) b := Nat.not_le.mpr hbl
  have hd := zpr_all hp_lc_ways
  obtain ⟨a7, σ', τ', h7, h8, hR'⟩ : ∃ (a7 : Int) (σ' τ' : yS), f_X7_ways N σ (xs (i + 1).toNat).toInt (xs (i + 2).toNat).toInt (xs (i + 3).toNat).toInt = some (a7, σ') ∧ f_X8_ways N τ (xs (i + 1).toNat).toInt (xs (i + 2).toNat).toInt (xs (i + 3).toNat).toInt = some (a7, τ') ∧ yRR σ' τ' := P_ways hN hR
  refine lv_aload_n hx hb (hd 900 (.aload_n 1) 1 rfl) rfl (lv_at hl 2 rfl) ?_
  refine lv_aload_n hx hb (hd 901 (.aload_n 0) 1 rfl) rfl (lv_at hl 3 rfl) ?_
  refine lv_iload_n hx hb (hd 902 (.iload_n 3) 1 rfl) rfl (lv_at hl 0 rfl) ?_
  refine lv_iconst (v := Int32.ofInt 1) hx hb (hd 903 (.iconst 1) 1 rfl) (by decide) ?_
  refine zh_iadd hx hb (hd 904 .iadd 1 rfl) ?_
  refine yl_ld hx hb hX hbl hbA hS (x := i + 1) (by omega) (by omega) hL (hd 905 .iaload 1 rfl) ?_
  refine lv_aload_n hx hb (hd 906 (.aload_n 0) 1 rfl) rfl (lv_at hl 3 rfl) ?_
  refine lv_iload_n hx hb (hd 907 (.iload_n 3) 1 rfl) rfl (lv_at hl 0 rfl) ?_
  refine lv_iconst (v := Int32.ofInt 2) hx hb (hd 908 (.iconst 2) 1 rfl) (by decide) ?_
  refine zh_iadd hx hb (hd 909 .iadd 1 rfl) ?_
  refine yl_ld hx hb hX hbl hbA hS (x := i + 2) (by omega) (by omega) hL (hd 910 .iaload 1 rfl) ?_
  refine lv_aload_n hx hb (hd 911 (.aload_n 0) 1 rfl) rfl (lv_at hl 3 rfl) ?_
  refine lv_iload_n hx hb (hd 912 (.iload_n 3) 1 rfl) rfl (lv_at hl 0 rfl) ?_
  refine lv_iconst (v := Int32.ofInt 3) hx hb (hd 913 (.iconst 3) 1 rfl) (by decide) ?_
  refine zh_iadd hx hb (hd 914 .iadd 1 rfl) ?_
  refine yl_ld hx hb hX hbl hbA hS (x := i + 3) (by omega) (by omega) hL (hd 915 .iaload 1 rfl) ?_
  refine ycallG (as := [.inl (.inl (xs (i + 1).toNat).toInt), .inl (.inl (xs (i + 2).toNat).toInt), .inl (.inl (xs (i + 3).toNat).toInt)]) (rest := []) zX_ok ⟨hx, hb, hml, hown, hts⟩ (m_X7_ways (N := N) zX_ok zX_n l) (ci := 7) rfl (cwV 3 hts gL_law_X7_ways rfl rfl rfl (by decide +kernel) ⟨Nat.le_of_ble_eq_true rfl, Nat.le_of_ble_eq_true rfl⟩) rfl hK o7 rfl (List.forall_mem_cons.mpr ⟨zq_rng _, List.forall_mem_cons.mpr ⟨zq_rng _, List.forall_mem_cons.mpr ⟨zq_rng _, fun _ h => absurd h List.not_mem_nil⟩⟩⟩) (e_X7_ways h7) hP hD hS hA hx0 hl.1 (Nat.le_of_ble_eq_true rfl) (hd 916 (.invokevirtual 108) 3 rfl) hroom (fun H locs o7 _ hP hD hS => ?_)
  show W p l e room_1 s m #[Value.ref b] below meth c H locs cells slots Q (F0 m 919 ls [.int (Int32.ofInt a7)])
  refine lv_pop hx hb (hd 919 .pop 1 rfl) rfl ?_
  refine lv_aload_n hx hb (hd 920 (.aload_n 2) 1 rfl) rfl (lv_at hl 1 rfl) ?_
  refine lv_aload_n hx hb (hd 921 (.aload_n 0) 1 rfl) rfl (lv_at hl 3 rfl) ?_
  refine lv_iload_n hx hb (hd 922 (.iload_n 3) 1 rfl) rfl (lv_at hl 0 rfl) ?_
  refine lv_iconst (v := Int32.ofInt 1) hx hb (hd 923 (.iconst 1) 1 rfl) (by decide) ?_
  refine zh_iadd hx hb (hd 924 .iadd 1 rfl) ?_
  refine yl_ld hx hb hX hbl hbA hS (x := i + 1) (by omega) (by omega) hL (hd 925 .iaload 1 rfl) ?_
  refine lv_aload_n hx hb (hd 926 (.aload_n 0) 1 rfl) rfl (lv_at hl 3 rfl) ?_
  refine lv_iload_n hx hb (hd 927 (.iload_n 3) 1 rfl) rfl (lv_at hl 0 rfl) ?_
  refine lv_iconst (v := Int32.ofInt 2) hx hb (hd 928 (.iconst 2) 1 rfl) (by decide) ?_
  refine zh_iadd hx hb (hd 929 .iadd 1 rfl) ?_
  refine yl_ld hx hb hX hbl hbA hS (x := i + 2) (by omega) (by omega) hL (hd 930 .iaload 1 rfl) ?_
  refine lv_aload_n hx hb (hd 931 (.aload_n 0) 1 rfl) rfl (lv_at hl 3 rfl) ?_
  refine lv_iload_n hx hb (hd 932 (.iload_n 3) 1 rfl) rfl (lv_at hl 0 rfl) ?_
  refine lv_iconst (v := Int32.ofInt 3) hx hb (hd 933 (.iconst 3) 1 rfl) (by decide) ?_
  refine zh_iadd hx hb (hd 934 .iadd 1 rfl) ?_
  refine yl_ld hx hb hX hbl hbA hS (x := i + 3) (by omega) (by omega) hL (hd 935 .iaload 1 rfl) ?_
  refine ycallG (as := [.inl (.inl (xs (i + 1).toNat).toInt), .inl (.inl (xs (i + 2).toNat).toInt), .inl (.inl (xs (i + 3).toNat).toInt)]) (rest := []) zX_ok ⟨hx, hb, hml, hown, hts⟩ (m_X8_ways (N := N) zX_ok zX_n l) (ci := 8) rfl (cwV 3 hts gL_law_X8_ways rfl rfl rfl (by decide +kernel) ⟨Nat.le_of_ble_eq_true rfl, Nat.le_of_ble_eq_true rfl⟩) rfl hK o8 rfl (List.forall_mem_cons.mpr ⟨zq_rng _, List.forall_mem_cons.mpr ⟨zq_rng _, List.forall_mem_cons.mpr ⟨zq_rng _, fun _ h => absurd h List.not_mem_nil⟩⟩⟩) (e_X8_ways h8) hP hD hS hA hx0 hl.1 (Nat.le_of_ble_eq_true rfl) (hd 936 (.invokevirtual 111) 3 rfl) hroom (fun H locs o8 _ hP hD hS => ?_)
  show W p l e room_1 s m #[Value.ref b] below meth c H locs cells slots Q (F0 m 939 ls [.int (Int32.ofInt a7)])
  refine lv_pop hx hb (hd 939 .pop 1 rfl) rfl ?_
  refine lv_goto (tgt := 1342) hx hb (hd 940 (.goto 402) 3 rfl) (by decide) ?_
  exact kk σ' τ' H locs ⟨o7, o8, hR', hP, hD, hS, hl⟩
noncomputable def pr_lc_ever : List (Nat × Instr × Nat) := [(943, .aload_n 1, 1), (944, .invokevirtual 112, 3), (947, .pop, 1), (948, .aload_n 2, 1), (949, .invokevirtual 115, 3), (952, .pop, 1), (953, .goto 389, 3)]
set_option maxRecDepth 100000 in
theorem hp_lc_ever : pr_lc_ever.all (fun x => decide (decode code x.1 = .ok x.2)) = true := by decide +kernel
set_option maxHeartbeats 4000000 in
set_option maxRecDepth 100000 in
theorem lc_ever {N : Nat} (hN : 1000 ≤ N) {p : Program} {l : Launch} {e : Env} {s : State} {m : MethodId} {below : List Frame} {meth : Method} {c : Code} {cells slots : Nat} {Q : State → Prop} {b L : Nat} {xs : Nat → Int32} {D : va_G} {kA : Nat → ClassId} (hc : zLc p s m c b L xs D kA) {ad7 ad8 : Nat → Nat} {i : Int} {σ τ : yS} {H : Heap} {locs : List Loc} {ls : Array Slot} (hi : yLi s b D kA ad7 ad8 i σ τ H locs ls) (i0 : 0 ≤ i) (i1 : i + 5 ≤ (L : Int)) (hroom : cells ≤ room_1.cells ∧ slots ≤ room_1.slots)
    (kk : ∀ (σ τ : yS) (H : Heap) (locs : List Loc), yLi s b D kA ad7 ad8 i σ τ H locs ls → W p l e room_1 s m #[Value.ref b] below meth c H locs cells slots Q (F0 m 1342 ls [])) : W p l e room_1 s m #[Value.ref b] below meth c H locs cells slots Q (F0 m 943 ls []) := by
  obtain ⟨hx, hb, hml, hown, hts, hX, hbl, hK, hx0, hL⟩ := hc
  obtain ⟨o7, o8, hR, hP, hD, hS, hl⟩ := hi
  have hA : ∀ q : Nat, s.heap.size ≤ q → (fun q : Nat => s.heap.size ≤ q) q := fun _ h => h
  have hbA : ¬ (fun q : Nat => s.heap.size ≤ q) b := Nat.not_le.mpr hbl
  have hd := zpr_all hp_lc_ever
  obtain ⟨a7, σ', τ', h7, h8, hR'⟩ : ∃ (a7 : Int) (σ' τ' : yS), f_X7_ever N σ = some (a7, σ') ∧ f_X8_ever N τ = some (a7, τ') ∧ yRR σ' τ' := P_ever (by omega) hR
  refine lv_aload_n hx hb (hd 943 (.aload_n 1) 1 rfl) rfl (lv_at hl 2 rfl) ?_
  refine ycallG (as := []) (rest := []) zX_ok ⟨hx, hb, hml, hown, hts⟩ (m_X7_ever (N := N) zX_ok zX_n l) (ci := 7) rfl (cwV 0 hts gL_law_X7_ever rfl rfl rfl (by decide +kernel) ⟨Nat.le_of_ble_eq_true rfl, Nat.le_of_ble_eq_true rfl⟩) rfl hK o7 rfl (fun _ h => absurd h List.not_mem_nil) (e_X7_ever h7) hP hD hS hA hx0 hl.1 (Nat.le_of_ble_eq_true rfl) (hd 944 (.invokevirtual 112) 3 rfl) hroom (fun H locs o7 _ hP hD hS => ?_)
  show W p l e room_1 s m #[Value.ref b] below meth c H locs cells slots Q (F0 m 947 ls [.int (Int32.ofInt a7)])
  refine lv_pop hx hb (hd 947 .pop 1 rfl) rfl ?_
  refine lv_aload_n hx hb (hd 948 (.aload_n 2) 1 rfl) rfl (lv_at hl 1 rfl) ?_
  refine ycallG (as := []) (rest := []) zX_ok ⟨hx, hb, hml, hown, hts⟩ (m_X8_ever (N := N) zX_ok zX_n l) (ci := 8) rfl (cwV 0 hts gL_law_X8_ever rfl rfl rfl (by decide +kernel) ⟨Nat.le_of_ble_eq_true rfl, Nat.le_of_ble_eq_true rfl⟩) rfl hK o8 rfl (fun _ h => absurd h List.not_mem_nil) (e_X8_ever h8) hP hD hS hA hx0 hl.1 (Nat.le_of_ble_eq_true rfl) (hd 949 (.invokevirtual 115) 3 rfl) hroom (fun H locs o8 _ hP hD hS => ?_)
  show W p l e room_1 s m #[Value.ref b] below meth c H locs cells slots Q (F0 m 952 ls [.int (Int32.ofInt a7)])
  refine lv_pop hx hb (hd 952 .pop 1 rfl) rfl ?_
  refine lv_goto (tgt := 1342) hx hb (hd 953 (.goto 389) 3 rfl) (by decide) ?_
  exact kk σ' τ' H locs ⟨o7, o8, hR', hP, hD, hS, hl⟩
noncomputable def pr_lc_stop : List (Nat × Instr × Nat) := [(956, .aload_n 1, 1), (957, .aload_n 0, 1), (958, .iload_n 3, 1), (959, .iconst 1, 1), (960, .iadd, 1), (961, .iaload, 1), (962, .invokevirtual 116, 3), (965, .pop, 1), (966, .aload_n 2, 1), (967, .aload_n 0, 1), (968, .iload_n 3, 1), (969, .iconst 1, 1), (970, .iadd, 1), (971, .iaload, 1), (972, .invokevirtual 119, 3), (975, .pop, 1), (976, .goto 366, 3)]
set_option maxRecDepth 100000 in
theorem hp_lc_stop : pr_lc_stop.all (fun x => decide (decode code x.1 = .ok x.2)) = true := by decide +kernel
set_option maxHeartbeats 4000000 in
set_option maxRecDepth 100000 in
theorem lc_stop {N : Nat} (hN : 1000 ≤ N) {p : Program} {l : Launch} {e : Env} {s : State} {m : MethodId} {below : List Frame} {meth : Method} {c : Code} {cells slots : Nat} {Q : State → Prop} {b L : Nat} {xs : Nat → Int32} {D : va_G} {kA : Nat → ClassId} (hc : zLc p s m c b L xs D kA) {ad7 ad8 : Nat → Nat} {i : Int} {σ τ : yS} {H : Heap} {locs : List Loc} {ls : Array Slot} (hi : yLi s b D kA ad7 ad8 i σ τ H locs ls) (i0 : 0 ≤ i) (i1 : i + 5 ≤ (L : Int)) (hroom : cells ≤ room_1.cells ∧ slots ≤ room_1.slots)
    (kk : ∀ (σ τ : yS) (H : Heap) (locs : List Loc), yLi s b D kA ad7 ad8 i σ τ H locs ls → W p l e room_1 s m #[Value.ref b] below meth c H locs cells slots Q (F0 m 1342 ls [])) : W p l e room_1 s m #[Value.ref b] below meth c H locs cells slots Q (F0 m 956 ls []) := by
  obtain ⟨hx, hb, hml, hown, hts, hX, hbl, hK, hx0, hL⟩ := hc
  obtain ⟨o7, o8, hR, hP, hD, hS, hl⟩ := hi
  have hA : ∀ q : Nat, s.heap.size ≤ q → (fun q : Nat => s.heap.size ≤ q) q := fun _ h => h
  have hbA : ¬ (fun q : Nat => s.heap.size ≤ q) b := Nat.not_le.mpr hbl
  have hd := zpr_all hp_lc_stop
  obtain ⟨a7, σ', τ', h7, h8, hR'⟩ : ∃ (a7 : Int) (σ' τ' : yS), f_X7_stop N σ (xs (i + 1).toNat).toInt = some (a7, σ') ∧ f_X8_stop N τ (xs (i + 1).toNat).toInt = some (a7, τ') ∧ yRR σ' τ' := P_stop hN hR
  refine lv_aload_n hx hb (hd 956 (.aload_n 1) 1 rfl) rfl (lv_at hl 2 rfl) ?_
  refine lv_aload_n hx hb (hd 957 (.aload_n 0) 1 rfl) rfl (lv_at hl 3 rfl) ?_
  refine lv_iload_n hx hb (hd 958 (.iload_n 3) 1 rfl) rfl (lv_at hl 0 rfl) ?_
  refine lv_iconst (v := Int32.ofInt 1) hx hb (hd 959 (.iconst 1) 1 rfl) (by decide) ?_
  refine zh_iadd hx hb (hd 960 .iadd 1 rfl) ?_
  refine yl_ld hx hb hX hbl hbA hS (x := i + 1) (by omega) (by omega) hL (hd 961 .iaload 1 rfl) ?_
  refine ycallG (as := [.inl (.inl (xs (i + 1).toNat).toInt)]) (rest := []) zX_ok ⟨hx, hb, hml, hown, hts⟩ (m_X7_stop (N := N) zX_ok zX_n l) (ci := 7) rfl (cwV 1 hts gL_law_X7_stop rfl rfl rfl (by decide +kernel) ⟨Nat.le_of_ble_eq_true rfl, Nat.le_of_ble_eq_true rfl⟩) rfl hK o7 rfl (List.forall_mem_cons.mpr ⟨zq_rng _, fun _ h => absurd h List.not_mem_nil⟩) (e_X7_stop h7) hP hD hS hA hx0 hl.1 (Nat.le_of_ble_eq_true rfl) (hd 962 (.invokevirtual 116) 3 rfl) hroom (fun H locs o7 _ hP hD hS => ?_)
  show W p l e room_1 s m #[Value.ref b] below meth c H locs cells slots Q (F0 m 965 ls [.int (Int32.ofInt a7)])
  refine lv_pop hx hb (hd 965 .pop 1 rfl) rfl ?_
  refine lv_aload_n hx hb (hd 966 (.aload_n 2) 1 rfl) rfl (lv_at hl 1 rfl) ?_
  refine lv_aload_n hx hb (hd 967 (.aload_n 0) 1 rfl) rfl (lv_at hl 3 rfl) ?_
  refine lv_iload_n hx hb (hd 968 (.iload_n 3) 1 rfl) rfl (lv_at hl 0 rfl) ?_
  refine lv_iconst (v := Int32.ofInt 1) hx hb (hd 969 (.iconst 1) 1 rfl) (by decide) ?_
  refine zh_iadd hx hb (hd 970 .iadd 1 rfl) ?_
  refine yl_ld hx hb hX hbl hbA hS (x := i + 1) (by omega) (by omega) hL (hd 971 .iaload 1 rfl) ?_
  refine ycallG (as := [.inl (.inl (xs (i + 1).toNat).toInt)]) (rest := []) zX_ok ⟨hx, hb, hml, hown, hts⟩ (m_X8_stop (N := N) zX_ok zX_n l) (ci := 8) rfl (cwV 1 hts gL_law_X8_stop rfl rfl rfl (by decide +kernel) ⟨Nat.le_of_ble_eq_true rfl, Nat.le_of_ble_eq_true rfl⟩) rfl hK o8 rfl (List.forall_mem_cons.mpr ⟨zq_rng _, fun _ h => absurd h List.not_mem_nil⟩) (e_X8_stop h8) hP hD hS hA hx0 hl.1 (Nat.le_of_ble_eq_true rfl) (hd 972 (.invokevirtual 119) 3 rfl) hroom (fun H locs o8 _ hP hD hS => ?_)
  show W p l e room_1 s m #[Value.ref b] below meth c H locs cells slots Q (F0 m 975 ls [.int (Int32.ofInt a7)])
  refine lv_pop hx hb (hd 975 .pop 1 rfl) rfl ?_
  refine lv_goto (tgt := 1342) hx hb (hd 976 (.goto 366) 3 rfl) (by decide) ?_
  exact kk σ' τ' H locs ⟨o7, o8, hR', hP, hD, hS, hl⟩
noncomputable def pr_lc_best : List (Nat × Instr × Nat) := [(979, .aload_n 1, 1), (980, .aload_n 0, 1), (981, .iload_n 3, 1), (982, .iconst 1, 1), (983, .iadd, 1), (984, .iaload, 1), (985, .aload_n 0, 1), (986, .iload_n 3, 1), (987, .iconst 2, 1), (988, .iadd, 1), (989, .iaload, 1), (990, .invokevirtual 120, 3), (993, .pop, 1), (994, .aload_n 2, 1), (995, .aload_n 0, 1), (996, .iload_n 3, 1), (997, .iconst 1, 1), (998, .iadd, 1), (999, .iaload, 1), (1000, .aload_n 0, 1), (1001, .iload_n 3, 1), (1002, .iconst 2, 1), (1003, .iadd, 1), (1004, .iaload, 1), (1005, .invokevirtual 123, 3), (1008, .pop, 1), (1009, .goto 333, 3)]
set_option maxRecDepth 100000 in
theorem hp_lc_best : pr_lc_best.all (fun x => decide (decode code x.1 = .ok x.2)) = true := by decide +kernel
set_option maxHeartbeats 4000000 in
set_option maxRecDepth 100000 in
theorem lc_best {N : Nat} (hN : 1000 ≤ N) {p : Program} {l : Launch} {e : Env} {s : State} {m : MethodId} {below : List Frame} {meth : Method} {c : Code} {cells slots : Nat} {Q : State → Prop} {b L : Nat} {xs : Nat → Int32} {D : va_G} {kA : Nat → ClassId} (hc : zLc p s m c b L xs D kA) {ad7 ad8 : Nat → Nat} {i : Int} {σ τ : yS} {H : Heap} {locs : List Loc} {ls : Array Slot} (hi : yLi s b D kA ad7 ad8 i σ τ H locs ls) (i0 : 0 ≤ i) (i1 : i + 5 ≤ (L : Int)) (hroom : cells ≤ room_1.cells ∧ slots ≤ room_1.slots)
    (kk : ∀ (σ τ : yS) (H : Heap) (locs : List Loc), yLi s b D kA ad7 ad8 i σ τ H locs ls → W p l e room_1 s m #[Value.ref b] below meth c H locs cells slots Q (F0 m 1342 ls [])) : W p l e room_1 s m #[Value.ref b] below meth c H locs cells slots Q (F0 m 979 ls []) := by
  obtain ⟨hx, hb, hml, hown, hts, hX, hbl, hK, hx0, hL⟩ := hc
  obtain ⟨o7, o8, hR, hP, hD, hS, hl⟩ := hi
  have hA : ∀ q : Nat, s.heap.size ≤ q → (fun q : Nat => s.heap.size ≤ q) q := fun _ h => h
  have hbA : ¬ (fun q : Nat => s.heap.size ≤ q) b := Nat.not_le.mpr hbl
  have hd := zpr_all hp_lc_best
  obtain ⟨a7, σ', τ', h7, h8, hR'⟩ : ∃ (a7 : Int) (σ' τ' : yS), f_X7_best N σ (xs (i + 1).toNat).toInt (xs (i + 2).toNat).toInt = some (a7, σ') ∧ f_X8_best N τ (xs (i + 1).toNat).toInt (xs (i + 2).toNat).toInt = some (a7, τ') ∧ yRR σ' τ' := P_best (by omega) hR
  refine lv_aload_n hx hb (hd 979 (.aload_n 1) 1 rfl) rfl (lv_at hl 2 rfl) ?_
  refine lv_aload_n hx hb (hd 980 (.aload_n 0) 1 rfl) rfl (lv_at hl 3 rfl) ?_
  refine lv_iload_n hx hb (hd 981 (.iload_n 3) 1 rfl) rfl (lv_at hl 0 rfl) ?_
  refine lv_iconst (v := Int32.ofInt 1) hx hb (hd 982 (.iconst 1) 1 rfl) (by decide) ?_
  refine zh_iadd hx hb (hd 983 .iadd 1 rfl) ?_
  refine yl_ld hx hb hX hbl hbA hS (x := i + 1) (by omega) (by omega) hL (hd 984 .iaload 1 rfl) ?_
  refine lv_aload_n hx hb (hd 985 (.aload_n 0) 1 rfl) rfl (lv_at hl 3 rfl) ?_
  refine lv_iload_n hx hb (hd 986 (.iload_n 3) 1 rfl) rfl (lv_at hl 0 rfl) ?_
  refine lv_iconst (v := Int32.ofInt 2) hx hb (hd 987 (.iconst 2) 1 rfl) (by decide) ?_
  refine zh_iadd hx hb (hd 988 .iadd 1 rfl) ?_
  refine yl_ld hx hb hX hbl hbA hS (x := i + 2) (by omega) (by omega) hL (hd 989 .iaload 1 rfl) ?_
  refine ycallG (as := [.inl (.inl (xs (i + 1).toNat).toInt), .inl (.inl (xs (i + 2).toNat).toInt)]) (rest := []) zX_ok ⟨hx, hb, hml, hown, hts⟩ (m_X7_best (N := N) zX_ok zX_n l) (ci := 7) rfl (cwV 2 hts gL_law_X7_best rfl rfl rfl (by decide +kernel) ⟨Nat.le_of_ble_eq_true rfl, Nat.le_of_ble_eq_true rfl⟩) rfl hK o7 rfl (List.forall_mem_cons.mpr ⟨zq_rng _, List.forall_mem_cons.mpr ⟨zq_rng _, fun _ h => absurd h List.not_mem_nil⟩⟩) (e_X7_best h7) hP hD hS hA hx0 hl.1 (Nat.le_of_ble_eq_true rfl) (hd 990 (.invokevirtual 120) 3 rfl) hroom (fun H locs o7 _ hP hD hS => ?_)
  show W p l e room_1 s m #[Value.ref b] below meth c H locs cells slots Q (F0 m 993 ls [.int (Int32.ofInt a7)])
  refine lv_pop hx hb (hd 993 .pop 1 rfl) rfl ?_
  refine lv_aload_n hx hb (hd 994 (.aload_n 2) 1 rfl) rfl (lv_at hl 1 rfl) ?_
  refine lv_aload_n hx hb (hd 995 (.aload_n 0) 1 rfl) rfl (lv_at hl 3 rfl) ?_
  refine lv_iload_n hx hb (hd 996 (.iload_n 3) 1 rfl) rfl (lv_at hl 0 rfl) ?_
  refine lv_iconst (v := Int32.ofInt 1) hx hb (hd 997 (.iconst 1) 1 rfl) (by decide) ?_
  refine zh_iadd hx hb (hd 998 .iadd 1 rfl) ?_
  refine yl_ld hx hb hX hbl hbA hS (x := i + 1) (by omega) (by omega) hL (hd 999 .iaload 1 rfl) ?_
  refine lv_aload_n hx hb (hd 1000 (.aload_n 0) 1 rfl) rfl (lv_at hl 3 rfl) ?_
  refine lv_iload_n hx hb (hd 1001 (.iload_n 3) 1 rfl) rfl (lv_at hl 0 rfl) ?_
  refine lv_iconst (v := Int32.ofInt 2) hx hb (hd 1002 (.iconst 2) 1 rfl) (by decide) ?_
  refine zh_iadd hx hb (hd 1003 .iadd 1 rfl) ?_
  refine yl_ld hx hb hX hbl hbA hS (x := i + 2) (by omega) (by omega) hL (hd 1004 .iaload 1 rfl) ?_
  refine ycallG (as := [.inl (.inl (xs (i + 1).toNat).toInt), .inl (.inl (xs (i + 2).toNat).toInt)]) (rest := []) zX_ok ⟨hx, hb, hml, hown, hts⟩ (m_X8_best (N := N) zX_ok zX_n l) (ci := 8) rfl (cwV 2 hts gL_law_X8_best rfl rfl rfl (by decide +kernel) ⟨Nat.le_of_ble_eq_true rfl, Nat.le_of_ble_eq_true rfl⟩) rfl hK o8 rfl (List.forall_mem_cons.mpr ⟨zq_rng _, List.forall_mem_cons.mpr ⟨zq_rng _, fun _ h => absurd h List.not_mem_nil⟩⟩) (e_X8_best h8) hP hD hS hA hx0 hl.1 (Nat.le_of_ble_eq_true rfl) (hd 1005 (.invokevirtual 123) 3 rfl) hroom (fun H locs o8 _ hP hD hS => ?_)
  show W p l e room_1 s m #[Value.ref b] below meth c H locs cells slots Q (F0 m 1008 ls [.int (Int32.ofInt a7)])
  refine lv_pop hx hb (hd 1008 .pop 1 rfl) rfl ?_
  refine lv_goto (tgt := 1342) hx hb (hd 1009 (.goto 333) 3 rfl) (by decide) ?_
  exact kk σ' τ' H locs ⟨o7, o8, hR', hP, hD, hS, hl⟩
noncomputable def pr_lc_mean : List (Nat × Instr × Nat) := [(1012, .aload_n 1, 1), (1013, .aload_n 0, 1), (1014, .iload_n 3, 1), (1015, .iconst 1, 1), (1016, .iadd, 1), (1017, .iaload, 1), (1018, .aload_n 0, 1), (1019, .iload_n 3, 1), (1020, .iconst 2, 1), (1021, .iadd, 1), (1022, .iaload, 1), (1023, .invokevirtual 124, 3), (1026, .pop2, 1), (1027, .aload_n 2, 1), (1028, .aload_n 0, 1), (1029, .iload_n 3, 1), (1030, .iconst 1, 1), (1031, .iadd, 1), (1032, .iaload, 1), (1033, .aload_n 0, 1), (1034, .iload_n 3, 1), (1035, .iconst 2, 1), (1036, .iadd, 1), (1037, .iaload, 1), (1038, .invokevirtual 128, 3), (1041, .pop2, 1), (1042, .goto 300, 3)]
set_option maxRecDepth 100000 in
theorem hp_lc_mean : pr_lc_mean.all (fun x => decide (decode code x.1 = .ok x.2)) = true := by decide +kernel
set_option maxHeartbeats 4000000 in
set_option maxRecDepth 100000 in
theorem lc_mean {N : Nat} (hN : 1000 ≤ N) {p : Program} {l : Launch} {e : Env} {s : State} {m : MethodId} {below : List Frame} {meth : Method} {c : Code} {cells slots : Nat} {Q : State → Prop} {b L : Nat} {xs : Nat → Int32} {D : va_G} {kA : Nat → ClassId} (hc : zLc p s m c b L xs D kA) {ad7 ad8 : Nat → Nat} {i : Int} {σ τ : yS} {H : Heap} {locs : List Loc} {ls : Array Slot} (hi : yLi s b D kA ad7 ad8 i σ τ H locs ls) (i0 : 0 ≤ i) (i1 : i + 5 ≤ (L : Int)) (hroom : cells ≤ room_1.cells ∧ slots ≤ room_1.slots)
    (kk : ∀ (σ τ : yS) (H : Heap) (locs : List Loc), yLi s b D kA ad7 ad8 i σ τ H locs ls → W p l e room_1 s m #[Value.ref b] below meth c H locs cells slots Q (F0 m 1342 ls [])) : W p l e room_1 s m #[Value.ref b] below meth c H locs cells slots Q (F0 m 1012 ls []) := by
  obtain ⟨hx, hb, hml, hown, hts, hX, hbl, hK, hx0, hL⟩ := hc
  obtain ⟨o7, o8, hR, hP, hD, hS, hl⟩ := hi
  have hA : ∀ q : Nat, s.heap.size ≤ q → (fun q : Nat => s.heap.size ≤ q) q := fun _ h => h
  have hbA : ¬ (fun q : Nat => s.heap.size ≤ q) b := Nat.not_le.mpr hbl
  have hd := zpr_all hp_lc_mean
  obtain ⟨a7, σ', τ', h7, h8, hR'⟩ : ∃ (a7 : Int) (σ' τ' : yS), f_X7_mean N σ (xs (i + 1).toNat).toInt (xs (i + 2).toNat).toInt = some (a7, σ') ∧ f_X8_mean N τ (xs (i + 1).toNat).toInt (xs (i + 2).toNat).toInt = some (a7, τ') ∧ yRR σ' τ' := P_mean hN hR
  refine lv_aload_n hx hb (hd 1012 (.aload_n 1) 1 rfl) rfl (lv_at hl 2 rfl) ?_
  refine lv_aload_n hx hb (hd 1013 (.aload_n 0) 1 rfl) rfl (lv_at hl 3 rfl) ?_
  refine lv_iload_n hx hb (hd 1014 (.iload_n 3) 1 rfl) rfl (lv_at hl 0 rfl) ?_
  refine lv_iconst (v := Int32.ofInt 1) hx hb (hd 1015 (.iconst 1) 1 rfl) (by decide) ?_
  refine zh_iadd hx hb (hd 1016 .iadd 1 rfl) ?_
  refine yl_ld hx hb hX hbl hbA hS (x := i + 1) (by omega) (by omega) hL (hd 1017 .iaload 1 rfl) ?_
  refine lv_aload_n hx hb (hd 1018 (.aload_n 0) 1 rfl) rfl (lv_at hl 3 rfl) ?_
  refine lv_iload_n hx hb (hd 1019 (.iload_n 3) 1 rfl) rfl (lv_at hl 0 rfl) ?_
  refine lv_iconst (v := Int32.ofInt 2) hx hb (hd 1020 (.iconst 2) 1 rfl) (by decide) ?_
  refine zh_iadd hx hb (hd 1021 .iadd 1 rfl) ?_
  refine yl_ld hx hb hX hbl hbA hS (x := i + 2) (by omega) (by omega) hL (hd 1022 .iaload 1 rfl) ?_
  refine ycallG (as := [.inl (.inl (xs (i + 1).toNat).toInt), .inl (.inl (xs (i + 2).toNat).toInt)]) (rest := []) zX_ok ⟨hx, hb, hml, hown, hts⟩ (m_X7_mean (N := N) zX_ok zX_n l) (ci := 7) rfl (cwV 2 hts gL_law_X7_mean rfl rfl rfl (by decide +kernel) ⟨Nat.le_of_ble_eq_true rfl, Nat.le_of_ble_eq_true rfl⟩) rfl hK o7 rfl (List.forall_mem_cons.mpr ⟨zq_rng _, List.forall_mem_cons.mpr ⟨zq_rng _, fun _ h => absurd h List.not_mem_nil⟩⟩) (e_X7_mean h7) hP hD hS hA hx0 hl.1 (Nat.le_of_ble_eq_true rfl) (hd 1023 (.invokevirtual 124) 3 rfl) hroom (fun H locs o7 _ hP hD hS => ?_)
  show W p l e room_1 s m #[Value.ref b] below meth c H locs cells slots Q (F0 m 1026 ls [.long (Int64.ofInt a7)])
  refine lv_pop2_2 hx hb (hd 1026 .pop2 1 rfl) rfl ?_
  refine lv_aload_n hx hb (hd 1027 (.aload_n 2) 1 rfl) rfl (lv_at hl 1 rfl) ?_
  refine lv_aload_n hx hb (hd 1028 (.aload_n 0) 1 rfl) rfl (lv_at hl 3 rfl) ?_
  refine lv_iload_n hx hb (hd 1029 (.iload_n 3) 1 rfl) rfl (lv_at hl 0 rfl) ?_
  refine lv_iconst (v := Int32.ofInt 1) hx hb (hd 1030 (.iconst 1) 1 rfl) (by decide) ?_
  refine zh_iadd hx hb (hd 1031 .iadd 1 rfl) ?_
  refine yl_ld hx hb hX hbl hbA hS (x := i + 1) (by omega) (by omega) hL (hd 1032 .iaload 1 rfl) ?_
  refine lv_aload_n hx hb (hd 1033 (.aload_n 0) 1 rfl) rfl (lv_at hl 3 rfl) ?_
  refine lv_iload_n hx hb (hd 1034 (.iload_n 3) 1 rfl) rfl (lv_at hl 0 rfl) ?_
  refine lv_iconst (v := Int32.ofInt 2) hx hb (hd 1035 (.iconst 2) 1 rfl) (by decide) ?_
  refine zh_iadd hx hb (hd 1036 .iadd 1 rfl) ?_
  refine yl_ld hx hb hX hbl hbA hS (x := i + 2) (by omega) (by omega) hL (hd 1037 .iaload 1 rfl) ?_
  refine ycallG (as := [.inl (.inl (xs (i + 1).toNat).toInt), .inl (.inl (xs (i + 2).toNat).toInt)]) (rest := []) zX_ok ⟨hx, hb, hml, hown, hts⟩ (m_X8_mean (N := N) zX_ok zX_n l) (ci := 8) rfl (cwV 2 hts gL_law_X8_mean rfl rfl rfl (by decide +kernel) ⟨Nat.le_of_ble_eq_true rfl, Nat.le_of_ble_eq_true rfl⟩) rfl hK o8 rfl (List.forall_mem_cons.mpr ⟨zq_rng _, List.forall_mem_cons.mpr ⟨zq_rng _, fun _ h => absurd h List.not_mem_nil⟩⟩) (e_X8_mean h8) hP hD hS hA hx0 hl.1 (Nat.le_of_ble_eq_true rfl) (hd 1038 (.invokevirtual 128) 3 rfl) hroom (fun H locs o8 _ hP hD hS => ?_)
  show W p l e room_1 s m #[Value.ref b] below meth c H locs cells slots Q (F0 m 1041 ls [.long (Int64.ofInt a7)])
  refine lv_pop2_2 hx hb (hd 1041 .pop2 1 rfl) rfl ?_
  refine lv_goto (tgt := 1342) hx hb (hd 1042 (.goto 300) 3 rfl) (by decide) ?_
  exact kk σ' τ' H locs ⟨o7, o8, hR', hP, hD, hS, hl⟩
end
section
noncomputable def pr_lc_luck : List (Nat × Instr × Nat) := [(1045, .aload_n 1, 1), (1046, .aload_n 0, 1), (1047, .iload_n 3, 1), (1048, .iconst 1, 1), (1049, .iadd, 1), (1050, .iaload, 1), (1051, .aload_n 0, 1), (1052, .iload_n 3, 1), (1053, .iconst 2, 1), (1054, .iadd, 1), (1055, .iaload, 1), (1056, .invokevirtual 129, 3), (1059, .pop2, 1), (1060, .aload_n 2, 1), (1061, .aload_n 0, 1), (1062, .iload_n 3, 1), (1063, .iconst 1, 1), (1064, .iadd, 1), (1065, .iaload, 1), (1066, .aload_n 0, 1), (1067, .iload_n 3, 1), (1068, .iconst 2, 1), (1069, .iadd, 1), (1070, .iaload, 1), (1071, .invokevirtual 132, 3), (1074, .pop2, 1), (1075, .goto 267, 3)]
set_option maxRecDepth 100000 in
theorem hp_lc_luck : pr_lc_luck.all (fun x => decide (decode code x.1 = .ok x.2)) = true := by decide +kernel
set_option maxHeartbeats 4000000 in
set_option maxRecDepth 100000 in
theorem lc_luck {N : Nat} (hN : 1000 ≤ N) {p : Program} {l : Launch} {e : Env} {s : State} {m : MethodId} {below : List Frame} {meth : Method} {c : Code} {cells slots : Nat} {Q : State → Prop} {b L : Nat} {xs : Nat → Int32} {D : va_G} {kA : Nat → ClassId} (hc : zLc p s m c b L xs D kA) {ad7 ad8 : Nat → Nat} {i : Int} {σ τ : yS} {H : Heap} {locs : List Loc} {ls : Array Slot} (hi : yLi s b D kA ad7 ad8 i σ τ H locs ls) (i0 : 0 ≤ i) (i1 : i + 5 ≤ (L : Int)) (hroom : cells ≤ room_1.cells ∧ slots ≤ room_1.slots)
    (kk : ∀ (σ τ : yS) (H : Heap) (locs : List Loc), yLi s b D kA ad7 ad8 i σ τ H locs ls → W p l e room_1 s m #[Value.ref b] below meth c H locs cells slots Q (F0 m 1342 ls [])) : W p l e room_1 s m #[Value.ref b] below meth c H locs cells slots Q (F0 m 1045 ls []) := by
  obtain ⟨hx, hb, hml, hown, hts, hX, hbl, hK, hx0, hL⟩ := hc
  obtain ⟨o7, o8, hR, hP, hD, hS, hl⟩ := hi
  have hA : ∀ q : Nat, s.heap.size ≤ q → (fun q : Nat => s.heap.size ≤ q) q := fun _ h => h
  have hbA : ¬ (fun q : Nat => s.heap.size ≤ q) b := Nat.not_le.mpr hbl
  have hd := zpr_all hp_lc_luck
  obtain ⟨a7, σ', τ', h7, h8, hR'⟩ : ∃ (a7 : Int) (σ' τ' : yS), f_X7_luck N σ (xs (i + 1).toNat).toInt (xs (i + 2).toNat).toInt = some (a7, σ') ∧ f_X8_luck N τ (xs (i + 1).toNat).toInt (xs (i + 2).toNat).toInt = some (a7, τ') ∧ yRR σ' τ' := P_luck hN hR
  refine lv_aload_n hx hb (hd 1045 (.aload_n 1) 1 rfl) rfl (lv_at hl 2 rfl) ?_
  refine lv_aload_n hx hb (hd 1046 (.aload_n 0) 1 rfl) rfl (lv_at hl 3 rfl) ?_
  refine lv_iload_n hx hb (hd 1047 (.iload_n 3) 1 rfl) rfl (lv_at hl 0 rfl) ?_
  refine lv_iconst (v := Int32.ofInt 1) hx hb (hd 1048 (.iconst 1) 1 rfl) (by decide) ?_
  refine zh_iadd hx hb (hd 1049 .iadd 1 rfl) ?_
  refine yl_ld hx hb hX hbl hbA hS (x := i + 1) (by omega) (by omega) hL (hd 1050 .iaload 1 rfl) ?_
  refine lv_aload_n hx hb (hd 1051 (.aload_n 0) 1 rfl) rfl (lv_at hl 3 rfl) ?_
  refine lv_iload_n hx hb (hd 1052 (.iload_n 3) 1 rfl) rfl (lv_at hl 0 rfl) ?_
  refine lv_iconst (v := Int32.ofInt 2) hx hb (hd 1053 (.iconst 2) 1 rfl) (by decide) ?_
  refine zh_iadd hx hb (hd 1054 .iadd 1 rfl) ?_
  refine yl_ld hx hb hX hbl hbA hS (x := i + 2) (by omega) (by omega) hL (hd 1055 .iaload 1 rfl) ?_
  refine ycallG (as := [.inl (.inl (xs (i + 1).toNat).toInt), .inl (.inl (xs (i + 2).toNat).toInt)]) (rest := []) zX_ok ⟨hx, hb, hml, hown, hts⟩ (m_X7_luck (N := N) zX_ok zX_n l) (ci := 7) rfl (cwV 2 hts gL_law_X7_luck rfl rfl rfl (by decide +kernel) ⟨Nat.le_of_ble_eq_true rfl, Nat.le_of_ble_eq_true rfl⟩) rfl hK o7 rfl (List.forall_mem_cons.mpr ⟨zq_rng _, List.forall_mem_cons.mpr ⟨zq_rng _, fun _ h => absurd h List.not_mem_nil⟩⟩) (e_X7_luck h7) hP hD hS hA hx0 hl.1 (Nat.le_of_ble_eq_true rfl) (hd 1056 (.invokevirtual 129) 3 rfl) hroom (fun H locs o7 _ hP hD hS => ?_)
  show W p l e room_1 s m #[Value.ref b] below meth c H locs cells slots Q (F0 m 1059 ls [.long (Int64.ofInt a7)])
  refine lv_pop2_2 hx hb (hd 1059 .pop2 1 rfl) rfl ?_
  refine lv_aload_n hx hb (hd 1060 (.aload_n 2) 1 rfl) rfl (lv_at hl 1 rfl) ?_
  refine lv_aload_n hx hb (hd 1061 (.aload_n 0) 1 rfl) rfl (lv_at hl 3 rfl) ?_
  refine lv_iload_n hx hb (hd 1062 (.iload_n 3) 1 rfl) rfl (lv_at hl 0 rfl) ?_
  refine lv_iconst (v := Int32.ofInt 1) hx hb (hd 1063 (.iconst 1) 1 rfl) (by decide) ?_
  refine zh_iadd hx hb (hd 1064 .iadd 1 rfl) ?_
  refine yl_ld hx hb hX hbl hbA hS (x := i + 1) (by omega) (by omega) hL (hd 1065 .iaload 1 rfl) ?_
  refine lv_aload_n hx hb (hd 1066 (.aload_n 0) 1 rfl) rfl (lv_at hl 3 rfl) ?_
  refine lv_iload_n hx hb (hd 1067 (.iload_n 3) 1 rfl) rfl (lv_at hl 0 rfl) ?_
  refine lv_iconst (v := Int32.ofInt 2) hx hb (hd 1068 (.iconst 2) 1 rfl) (by decide) ?_
  refine zh_iadd hx hb (hd 1069 .iadd 1 rfl) ?_
  refine yl_ld hx hb hX hbl hbA hS (x := i + 2) (by omega) (by omega) hL (hd 1070 .iaload 1 rfl) ?_
  refine ycallG (as := [.inl (.inl (xs (i + 1).toNat).toInt), .inl (.inl (xs (i + 2).toNat).toInt)]) (rest := []) zX_ok ⟨hx, hb, hml, hown, hts⟩ (m_X8_luck (N := N) zX_ok zX_n l) (ci := 8) rfl (cwV 2 hts gL_law_X8_luck rfl rfl rfl (by decide +kernel) ⟨Nat.le_of_ble_eq_true rfl, Nat.le_of_ble_eq_true rfl⟩) rfl hK o8 rfl (List.forall_mem_cons.mpr ⟨zq_rng _, List.forall_mem_cons.mpr ⟨zq_rng _, fun _ h => absurd h List.not_mem_nil⟩⟩) (e_X8_luck h8) hP hD hS hA hx0 hl.1 (Nat.le_of_ble_eq_true rfl) (hd 1071 (.invokevirtual 132) 3 rfl) hroom (fun H locs o8 _ hP hD hS => ?_)
  show W p l e room_1 s m #[Value.ref b] below meth c H locs cells slots Q (F0 m 1074 ls [.long (Int64.ofInt a7)])
  refine lv_pop2_2 hx hb (hd 1074 .pop2 1 rfl) rfl ?_
  refine lv_goto (tgt := 1342) hx hb (hd 1075 (.goto 267) 3 rfl) (by decide) ?_
  exact kk σ' τ' H locs ⟨o7, o8, hR', hP, hD, hS, hl⟩
noncomputable def pr_lc_drift : List (Nat × Instr × Nat) := [(1078, .aload_n 1, 1), (1079, .aload_n 0, 1), (1080, .iload_n 3, 1), (1081, .iconst 1, 1), (1082, .iadd, 1), (1083, .iaload, 1), (1084, .aload_n 0, 1), (1085, .iload_n 3, 1), (1086, .iconst 2, 1), (1087, .iadd, 1), (1088, .iaload, 1), (1089, .aload_n 0, 1), (1090, .iload_n 3, 1), (1091, .iconst 3, 1), (1092, .iadd, 1), (1093, .iaload, 1), (1094, .invokevirtual 133, 3), (1097, .pop, 1), (1098, .aload_n 2, 1), (1099, .aload_n 0, 1), (1100, .iload_n 3, 1), (1101, .iconst 1, 1), (1102, .iadd, 1), (1103, .iaload, 1), (1104, .aload_n 0, 1), (1105, .iload_n 3, 1), (1106, .iconst 2, 1), (1107, .iadd, 1), (1108, .iaload, 1), (1109, .aload_n 0, 1), (1110, .iload_n 3, 1), (1111, .iconst 3, 1), (1112, .iadd, 1), (1113, .iaload, 1), (1114, .invokevirtual 136, 3), (1117, .pop, 1), (1118, .goto 224, 3)]
set_option maxRecDepth 100000 in
theorem hp_lc_drift : pr_lc_drift.all (fun x => decide (decode code x.1 = .ok x.2)) = true := by decide +kernel
set_option maxHeartbeats 4000000 in
set_option maxRecDepth 100000 in
theorem lc_drift {N : Nat} (hN : 1000 ≤ N) {p : Program} {l : Launch} {e : Env} {s : State} {m : MethodId} {below : List Frame} {meth : Method} {c : Code} {cells slots : Nat} {Q : State → Prop} {b L : Nat} {xs : Nat → Int32} {D : va_G} {kA : Nat → ClassId} (hc : zLc p s m c b L xs D kA) {ad7 ad8 : Nat → Nat} {i : Int} {σ τ : yS} {H : Heap} {locs : List Loc} {ls : Array Slot} (hi : yLi s b D kA ad7 ad8 i σ τ H locs ls) (i0 : 0 ≤ i) (i1 : i + 5 ≤ (L : Int)) (hroom : cells ≤ room_1.cells ∧ slots ≤ room_1.slots)
    (kk : ∀ (σ τ : yS) (H : Heap) (locs : List Loc), yLi s b D kA ad7 ad8 i σ τ H locs ls → W p l e room_1 s m #[Value.ref b] below meth c H locs cells slots Q (F0 m 1342 ls [])) : W p l e room_1 s m #[Value.ref b] below meth c H locs cells slots Q (F0 m 1078 ls []) := by
  obtain ⟨hx, hb, hml, hown, hts, hX, hbl, hK, hx0, hL⟩ := hc
  obtain ⟨o7, o8, hR, hP, hD, hS, hl⟩ := hi
  have hA : ∀ q : Nat, s.heap.size ≤ q → (fun q : Nat => s.heap.size ≤ q) q := fun _ h => h
  have hbA : ¬ (fun q : Nat => s.heap.size ≤ q) b := Nat.not_le.mpr hbl
  have hd := zpr_all hp_lc_drift
  obtain ⟨a7, σ', τ', h7, h8, hR'⟩ : ∃ (a7 : Int) (σ' τ' : yS), f_X7_drift N σ (xs (i + 1).toNat).toInt (xs (i + 2).toNat).toInt (xs (i + 3).toNat).toInt = some (a7, σ') ∧ f_X8_drift N τ (xs (i + 1).toNat).toInt (xs (i + 2).toNat).toInt (xs (i + 3).toNat).toInt = some (a7, τ') ∧ yRR σ' τ' := P_drift (by omega) hR
  refine lv_aload_n hx hb (hd 1078 (.aload_n 1) 1 rfl) rfl (lv_at hl 2 rfl) ?_
  refine lv_aload_n hx hb (hd 1079 (.aload_n 0) 1 rfl) rfl (lv_at hl 3 rfl) ?_
  refine lv_iload_n hx hb (hd 1080 (.iload_n 3) 1 rfl) rfl (lv_at hl 0 rfl) ?_
  refine lv_iconst (v := Int32.ofInt 1) hx hb (hd 1081 (.iconst 1) 1 rfl) (by decide) ?_
  refine zh_iadd hx hb (hd 1082 .iadd 1 rfl) ?_
  refine yl_ld hx hb hX hbl hbA hS (x := i + 1) (by omega) (by omega) hL (hd 1083 .iaload 1 rfl) ?_
  refine lv_aload_n hx hb (hd 1084 (.aload_n 0) 1 rfl) rfl (lv_at hl 3 rfl) ?_
  refine lv_iload_n hx hb (hd 1085 (.iload_n 3) 1 rfl) rfl (lv_at hl 0 rfl) ?_
  refine lv_iconst (v := Int32.ofInt 2) hx hb (hd 1086 (.iconst 2) 1 rfl) (by decide) ?_
  refine zh_iadd hx hb (hd 1087 .iadd 1 rfl) ?_
  refine yl_ld hx hb hX hbl hbA hS (x := i + 2) (by omega) (by omega) hL (hd 1088 .iaload 1 rfl) ?_
  refine lv_aload_n hx hb (hd 1089 (.aload_n 0) 1 rfl) rfl (lv_at hl 3 rfl) ?_
  refine lv_iload_n hx hb (hd 1090 (.iload_n 3) 1 rfl) rfl (lv_at hl 0 rfl) ?_
  refine lv_iconst (v := Int32.ofInt 3) hx hb (hd 1091 (.iconst 3) 1 rfl) (by decide) ?_
  refine zh_iadd hx hb (hd 1092 .iadd 1 rfl) ?_
  refine yl_ld hx hb hX hbl hbA hS (x := i + 3) (by omega) (by omega) hL (hd 1093 .iaload 1 rfl) ?_
  refine ycallG (as := [.inl (.inl (xs (i + 1).toNat).toInt), .inl (.inl (xs (i + 2).toNat).toInt), .inl (.inl (xs (i + 3).toNat).toInt)]) (rest := []) zX_ok ⟨hx, hb, hml, hown, hts⟩ (m_X7_drift (N := N) zX_ok zX_n l) (ci := 7) rfl (cwV 3 hts gL_law_X7_drift rfl rfl rfl (by decide +kernel) ⟨Nat.le_of_ble_eq_true rfl, Nat.le_of_ble_eq_true rfl⟩) rfl hK o7 rfl (List.forall_mem_cons.mpr ⟨zq_rng _, List.forall_mem_cons.mpr ⟨zq_rng _, List.forall_mem_cons.mpr ⟨zq_rng _, fun _ h => absurd h List.not_mem_nil⟩⟩⟩) (e_X7_drift h7) hP hD hS hA hx0 hl.1 (Nat.le_of_ble_eq_true rfl) (hd 1094 (.invokevirtual 133) 3 rfl) hroom (fun H locs o7 _ hP hD hS => ?_)
  show W p l e room_1 s m #[Value.ref b] below meth c H locs cells slots Q (F0 m 1097 ls [.int (Int32.ofInt a7)])
  refine lv_pop hx hb (hd 1097 .pop 1 rfl) rfl ?_
  refine lv_aload_n hx hb (hd 1098 (.aload_n 2) 1 rfl) rfl (lv_at hl 1 rfl) ?_
  refine lv_aload_n hx hb (hd 1099 (.aload_n 0) 1 rfl) rfl (lv_at hl 3 rfl) ?_
  refine lv_iload_n hx hb (hd 1100 (.iload_n 3) 1 rfl) rfl (lv_at hl 0 rfl) ?_
  refine lv_iconst (v := Int32.ofInt 1) hx hb (hd 1101 (.iconst 1) 1 rfl) (by decide) ?_
  refine zh_iadd hx hb (hd 1102 .iadd 1 rfl) ?_
  refine yl_ld hx hb hX hbl hbA hS (x := i + 1) (by omega) (by omega) hL (hd 1103 .iaload 1 rfl) ?_
  refine lv_aload_n hx hb (hd 1104 (.aload_n 0) 1 rfl) rfl (lv_at hl 3 rfl) ?_
  refine lv_iload_n hx hb (hd 1105 (.iload_n 3) 1 rfl) rfl (lv_at hl 0 rfl) ?_
  refine lv_iconst (v := Int32.ofInt 2) hx hb (hd 1106 (.iconst 2) 1 rfl) (by decide) ?_
  refine zh_iadd hx hb (hd 1107 .iadd 1 rfl) ?_
  refine yl_ld hx hb hX hbl hbA hS (x := i + 2) (by omega) (by omega) hL (hd 1108 .iaload 1 rfl) ?_
  refine lv_aload_n hx hb (hd 1109 (.aload_n 0) 1 rfl) rfl (lv_at hl 3 rfl) ?_
  refine lv_iload_n hx hb (hd 1110 (.iload_n 3) 1 rfl) rfl (lv_at hl 0 rfl) ?_
  refine lv_iconst (v := Int32.ofInt 3) hx hb (hd 1111 (.iconst 3) 1 rfl) (by decide) ?_
  refine zh_iadd hx hb (hd 1112 .iadd 1 rfl) ?_
  refine yl_ld hx hb hX hbl hbA hS (x := i + 3) (by omega) (by omega) hL (hd 1113 .iaload 1 rfl) ?_
  refine ycallG (as := [.inl (.inl (xs (i + 1).toNat).toInt), .inl (.inl (xs (i + 2).toNat).toInt), .inl (.inl (xs (i + 3).toNat).toInt)]) (rest := []) zX_ok ⟨hx, hb, hml, hown, hts⟩ (m_X8_drift (N := N) zX_ok zX_n l) (ci := 8) rfl (cwV 3 hts gL_law_X8_drift rfl rfl rfl (by decide +kernel) ⟨Nat.le_of_ble_eq_true rfl, Nat.le_of_ble_eq_true rfl⟩) rfl hK o8 rfl (List.forall_mem_cons.mpr ⟨zq_rng _, List.forall_mem_cons.mpr ⟨zq_rng _, List.forall_mem_cons.mpr ⟨zq_rng _, fun _ h => absurd h List.not_mem_nil⟩⟩⟩) (e_X8_drift h8) hP hD hS hA hx0 hl.1 (Nat.le_of_ble_eq_true rfl) (hd 1114 (.invokevirtual 136) 3 rfl) hroom (fun H locs o8 _ hP hD hS => ?_)
  show W p l e room_1 s m #[Value.ref b] below meth c H locs cells slots Q (F0 m 1117 ls [.int (Int32.ofInt a7)])
  refine lv_pop hx hb (hd 1117 .pop 1 rfl) rfl ?_
  refine lv_goto (tgt := 1342) hx hb (hd 1118 (.goto 224) 3 rfl) (by decide) ?_
  exact kk σ' τ' H locs ⟨o7, o8, hR', hP, hD, hS, hl⟩
noncomputable def pr_lc_keep : List (Nat × Instr × Nat) := [(1121, .aload_n 1, 1), (1122, .aload_n 0, 1), (1123, .iload_n 3, 1), (1124, .iconst 1, 1), (1125, .iadd, 1), (1126, .iaload, 1), (1127, .invokevirtual 137, 3), (1130, .pop, 1), (1131, .aload_n 2, 1), (1132, .aload_n 0, 1), (1133, .iload_n 3, 1), (1134, .iconst 1, 1), (1135, .iadd, 1), (1136, .iaload, 1), (1137, .invokevirtual 140, 3), (1140, .pop, 1), (1141, .goto 201, 3)]
set_option maxRecDepth 100000 in
theorem hp_lc_keep : pr_lc_keep.all (fun x => decide (decode code x.1 = .ok x.2)) = true := by decide +kernel
set_option maxHeartbeats 4000000 in
set_option maxRecDepth 100000 in
theorem lc_keep {N : Nat} (hN : 1000 ≤ N) {p : Program} {l : Launch} {e : Env} {s : State} {m : MethodId} {below : List Frame} {meth : Method} {c : Code} {cells slots : Nat} {Q : State → Prop} {b L : Nat} {xs : Nat → Int32} {D : va_G} {kA : Nat → ClassId} (hc : zLc p s m c b L xs D kA) {ad7 ad8 : Nat → Nat} {i : Int} {σ τ : yS} {H : Heap} {locs : List Loc} {ls : Array Slot} (hi : yLi s b D kA ad7 ad8 i σ τ H locs ls) (i0 : 0 ≤ i) (i1 : i + 5 ≤ (L : Int)) (hroom : cells ≤ room_1.cells ∧ slots ≤ room_1.slots)
    (kk : ∀ (σ τ : yS) (H : Heap) (locs : List Loc), yLi s b D kA ad7 ad8 i σ τ H locs ls → W p l e room_1 s m #[Value.ref b] below meth c H locs cells slots Q (F0 m 1342 ls [])) : W p l e room_1 s m #[Value.ref b] below meth c H locs cells slots Q (F0 m 1121 ls []) := by
  obtain ⟨hx, hb, hml, hown, hts, hX, hbl, hK, hx0, hL⟩ := hc
  obtain ⟨o7, o8, hR, hP, hD, hS, hl⟩ := hi
  have hA : ∀ q : Nat, s.heap.size ≤ q → (fun q : Nat => s.heap.size ≤ q) q := fun _ h => h
  have hbA : ¬ (fun q : Nat => s.heap.size ≤ q) b := Nat.not_le.mpr hbl
  have hd := zpr_all hp_lc_keep
  obtain ⟨a7, σ', τ', h7, h8, hR'⟩ : ∃ (a7 : Int) (σ' τ' : yS), f_X7_keep N σ (xs (i + 1).toNat).toInt = some (a7, σ') ∧ f_X8_keep N τ (xs (i + 1).toNat).toInt = some (a7, τ') ∧ yRR σ' τ' := P_keep (by omega) hR
  refine lv_aload_n hx hb (hd 1121 (.aload_n 1) 1 rfl) rfl (lv_at hl 2 rfl) ?_
  refine lv_aload_n hx hb (hd 1122 (.aload_n 0) 1 rfl) rfl (lv_at hl 3 rfl) ?_
  refine lv_iload_n hx hb (hd 1123 (.iload_n 3) 1 rfl) rfl (lv_at hl 0 rfl) ?_
  refine lv_iconst (v := Int32.ofInt 1) hx hb (hd 1124 (.iconst 1) 1 rfl) (by decide) ?_
  refine zh_iadd hx hb (hd 1125 .iadd 1 rfl) ?_
  refine yl_ld hx hb hX hbl hbA hS (x := i + 1) (by omega) (by omega) hL (hd 1126 .iaload 1 rfl) ?_
  refine ycallG (as := [.inl (.inl (xs (i + 1).toNat).toInt)]) (rest := []) zX_ok ⟨hx, hb, hml, hown, hts⟩ (m_X7_keep (N := N) zX_ok zX_n l) (ci := 7) rfl (cwV 1 hts gL_law_X7_keep rfl rfl rfl (by decide +kernel) ⟨Nat.le_of_ble_eq_true rfl, Nat.le_of_ble_eq_true rfl⟩) rfl hK o7 rfl (List.forall_mem_cons.mpr ⟨zq_rng _, fun _ h => absurd h List.not_mem_nil⟩) (e_X7_keep h7) hP hD hS hA hx0 hl.1 (Nat.le_of_ble_eq_true rfl) (hd 1127 (.invokevirtual 137) 3 rfl) hroom (fun H locs o7 _ hP hD hS => ?_)
  show W p l e room_1 s m #[Value.ref b] below meth c H locs cells slots Q (F0 m 1130 ls [.int (Int32.ofInt a7)])
  refine lv_pop hx hb (hd 1130 .pop 1 rfl) rfl ?_
  refine lv_aload_n hx hb (hd 1131 (.aload_n 2) 1 rfl) rfl (lv_at hl 1 rfl) ?_
  refine lv_aload_n hx hb (hd 1132 (.aload_n 0) 1 rfl) rfl (lv_at hl 3 rfl) ?_
  refine lv_iload_n hx hb (hd 1133 (.iload_n 3) 1 rfl) rfl (lv_at hl 0 rfl) ?_
  refine lv_iconst (v := Int32.ofInt 1) hx hb (hd 1134 (.iconst 1) 1 rfl) (by decide) ?_
  refine zh_iadd hx hb (hd 1135 .iadd 1 rfl) ?_
  refine yl_ld hx hb hX hbl hbA hS (x := i + 1) (by omega) (by omega) hL (hd 1136 .iaload 1 rfl) ?_
  refine ycallG (as := [.inl (.inl (xs (i + 1).toNat).toInt)]) (rest := []) zX_ok ⟨hx, hb, hml, hown, hts⟩ (m_X8_keep (N := N) zX_ok zX_n l) (ci := 8) rfl (cwV 1 hts gL_law_X8_keep rfl rfl rfl (by decide +kernel) ⟨Nat.le_of_ble_eq_true rfl, Nat.le_of_ble_eq_true rfl⟩) rfl hK o8 rfl (List.forall_mem_cons.mpr ⟨zq_rng _, fun _ h => absurd h List.not_mem_nil⟩) (e_X8_keep h8) hP hD hS hA hx0 hl.1 (Nat.le_of_ble_eq_true rfl) (hd 1137 (.invokevirtual 140) 3 rfl) hroom (fun H locs o8 _ hP hD hS => ?_)
  show W p l e room_1 s m #[Value.ref b] below meth c H locs cells slots Q (F0 m 1140 ls [.int (Int32.ofInt a7)])
  refine lv_pop hx hb (hd 1140 .pop 1 rfl) rfl ?_
  refine lv_goto (tgt := 1342) hx hb (hd 1141 (.goto 201) 3 rfl) (by decide) ?_
  exact kk σ' τ' H locs ⟨o7, o8, hR', hP, hD, hS, hl⟩
noncomputable def pr_lc_back : List (Nat × Instr × Nat) := [(1144, .aload_n 1, 1), (1145, .aload_n 0, 1), (1146, .iload_n 3, 1), (1147, .iconst 1, 1), (1148, .iadd, 1), (1149, .iaload, 1), (1150, .invokevirtual 141, 3), (1153, .pop, 1), (1154, .aload_n 2, 1), (1155, .aload_n 0, 1), (1156, .iload_n 3, 1), (1157, .iconst 1, 1), (1158, .iadd, 1), (1159, .iaload, 1), (1160, .invokevirtual 144, 3), (1163, .pop, 1), (1164, .goto 178, 3)]
set_option maxRecDepth 100000 in
theorem hp_lc_back : pr_lc_back.all (fun x => decide (decode code x.1 = .ok x.2)) = true := by decide +kernel
set_option maxHeartbeats 4000000 in
set_option maxRecDepth 100000 in
theorem lc_back {N : Nat} (hN : 1000 ≤ N) {p : Program} {l : Launch} {e : Env} {s : State} {m : MethodId} {below : List Frame} {meth : Method} {c : Code} {cells slots : Nat} {Q : State → Prop} {b L : Nat} {xs : Nat → Int32} {D : va_G} {kA : Nat → ClassId} (hc : zLc p s m c b L xs D kA) {ad7 ad8 : Nat → Nat} {i : Int} {σ τ : yS} {H : Heap} {locs : List Loc} {ls : Array Slot} (hi : yLi s b D kA ad7 ad8 i σ τ H locs ls) (i0 : 0 ≤ i) (i1 : i + 5 ≤ (L : Int)) (hroom : cells ≤ room_1.cells ∧ slots ≤ room_1.slots)
    (kk : ∀ (σ τ : yS) (H : Heap) (locs : List Loc), yLi s b D kA ad7 ad8 i σ τ H locs ls → W p l e room_1 s m #[Value.ref b] below meth c H locs cells slots Q (F0 m 1342 ls [])) : W p l e room_1 s m #[Value.ref b] below meth c H locs cells slots Q (F0 m 1144 ls []) := by
  obtain ⟨hx, hb, hml, hown, hts, hX, hbl, hK, hx0, hL⟩ := hc
  obtain ⟨o7, o8, hR, hP, hD, hS, hl⟩ := hi
  have hA : ∀ q : Nat, s.heap.size ≤ q → (fun q : Nat => s.heap.size ≤ q) q := fun _ h => h
  have hbA : ¬ (fun q : Nat => s.heap.size ≤ q) b := Nat.not_le.mpr hbl
  have hd := zpr_all hp_lc_back
  obtain ⟨a7, σ', τ', h7, h8, hR'⟩ : ∃ (a7 : Int) (σ' τ' : yS), f_X7_back N σ (xs (i + 1).toNat).toInt = some (a7, σ') ∧ f_X8_back N τ (xs (i + 1).toNat).toInt = some (a7, τ') ∧ yRR σ' τ' := P_back (by omega) hR
  refine lv_aload_n hx hb (hd 1144 (.aload_n 1) 1 rfl) rfl (lv_at hl 2 rfl) ?_
  refine lv_aload_n hx hb (hd 1145 (.aload_n 0) 1 rfl) rfl (lv_at hl 3 rfl) ?_
  refine lv_iload_n hx hb (hd 1146 (.iload_n 3) 1 rfl) rfl (lv_at hl 0 rfl) ?_
  refine lv_iconst (v := Int32.ofInt 1) hx hb (hd 1147 (.iconst 1) 1 rfl) (by decide) ?_
  refine zh_iadd hx hb (hd 1148 .iadd 1 rfl) ?_
  refine yl_ld hx hb hX hbl hbA hS (x := i + 1) (by omega) (by omega) hL (hd 1149 .iaload 1 rfl) ?_
  refine ycallG (as := [.inl (.inl (xs (i + 1).toNat).toInt)]) (rest := []) zX_ok ⟨hx, hb, hml, hown, hts⟩ (m_X7_back (N := N) zX_ok zX_n l) (ci := 7) rfl (cwV 1 hts gL_law_X7_back rfl rfl rfl (by decide +kernel) ⟨Nat.le_of_ble_eq_true rfl, Nat.le_of_ble_eq_true rfl⟩) rfl hK o7 rfl (List.forall_mem_cons.mpr ⟨zq_rng _, fun _ h => absurd h List.not_mem_nil⟩) (e_X7_back h7) hP hD hS hA hx0 hl.1 (Nat.le_of_ble_eq_true rfl) (hd 1150 (.invokevirtual 141) 3 rfl) hroom (fun H locs o7 _ hP hD hS => ?_)
  show W p l e room_1 s m #[Value.ref b] below meth c H locs cells slots Q (F0 m 1153 ls [.int (Int32.ofInt a7)])
  refine lv_pop hx hb (hd 1153 .pop 1 rfl) rfl ?_
  refine lv_aload_n hx hb (hd 1154 (.aload_n 2) 1 rfl) rfl (lv_at hl 1 rfl) ?_
  refine lv_aload_n hx hb (hd 1155 (.aload_n 0) 1 rfl) rfl (lv_at hl 3 rfl) ?_
  refine lv_iload_n hx hb (hd 1156 (.iload_n 3) 1 rfl) rfl (lv_at hl 0 rfl) ?_
  refine lv_iconst (v := Int32.ofInt 1) hx hb (hd 1157 (.iconst 1) 1 rfl) (by decide) ?_
  refine zh_iadd hx hb (hd 1158 .iadd 1 rfl) ?_
  refine yl_ld hx hb hX hbl hbA hS (x := i + 1) (by omega) (by omega) hL (hd 1159 .iaload 1 rfl) ?_
  refine ycallG (as := [.inl (.inl (xs (i + 1).toNat).toInt)]) (rest := []) zX_ok ⟨hx, hb, hml, hown, hts⟩ (m_X8_back (N := N) zX_ok zX_n l) (ci := 8) rfl (cwV 1 hts gL_law_X8_back rfl rfl rfl (by decide +kernel) ⟨Nat.le_of_ble_eq_true rfl, Nat.le_of_ble_eq_true rfl⟩) rfl hK o8 rfl (List.forall_mem_cons.mpr ⟨zq_rng _, fun _ h => absurd h List.not_mem_nil⟩) (e_X8_back h8) hP hD hS hA hx0 hl.1 (Nat.le_of_ble_eq_true rfl) (hd 1160 (.invokevirtual 144) 3 rfl) hroom (fun H locs o8 _ hP hD hS => ?_)
  show W p l e room_1 s m #[Value.ref b] below meth c H locs cells slots Q (F0 m 1163 ls [.int (Int32.ofInt a7)])
  refine lv_pop hx hb (hd 1163 .pop 1 rfl) rfl ?_
  refine lv_goto (tgt := 1342) hx hb (hd 1164 (.goto 178) 3 rfl) (by decide) ?_
  exact kk σ' τ' H locs ⟨o7, o8, hR', hP, hD, hS, hl⟩
noncomputable def pr_lc_sheet : List (Nat × Instr × Nat) := [(1167, .aload_n 1, 1), (1168, .aload_n 0, 1), (1169, .iload_n 3, 1), (1170, .iconst 1, 1), (1171, .iadd, 1), (1172, .iaload, 1), (1173, .aload_n 0, 1), (1174, .iload_n 3, 1), (1175, .iconst 2, 1), (1176, .iadd, 1), (1177, .iaload, 1), (1178, .aload_n 0, 1), (1179, .iload_n 3, 1), (1180, .iconst 3, 1), (1181, .iadd, 1), (1182, .iaload, 1), (1183, .invokevirtual 145, 3), (1186, .aload_n 2, 1), (1187, .aload_n 0, 1), (1188, .iload_n 3, 1), (1189, .iconst 1, 1), (1190, .iadd, 1), (1191, .iaload, 1), (1192, .aload_n 0, 1), (1193, .iload_n 3, 1), (1194, .iconst 2, 1), (1195, .iadd, 1), (1196, .iaload, 1), (1197, .aload_n 0, 1), (1198, .iload_n 3, 1), (1199, .iconst 3, 1), (1200, .iadd, 1), (1201, .iaload, 1), (1202, .invokevirtual 148, 3), (1205, .if_icmp .eq 137, 3), (1208, .iconst 0, 1), (1209, .ireturn, 1)]
set_option maxRecDepth 100000 in
theorem hp_lc_sheet : pr_lc_sheet.all (fun x => decide (decode code x.1 = .ok x.2)) = true := by decide +kernel
set_option maxHeartbeats 4000000 in
set_option maxRecDepth 100000 in
theorem lc_sheet {N : Nat} (hN : 1000 ≤ N) {p : Program} {l : Launch} {e : Env} {s : State} {m : MethodId} {below : List Frame} {meth : Method} {c : Code} {cells slots : Nat} {Q : State → Prop} {b L : Nat} {xs : Nat → Int32} {D : va_G} {kA : Nat → ClassId} (hc : zLc p s m c b L xs D kA) {ad7 ad8 : Nat → Nat} {i : Int} {σ τ : yS} {H : Heap} {locs : List Loc} {ls : Array Slot} (hi : yLi s b D kA ad7 ad8 i σ τ H locs ls) (i0 : 0 ≤ i) (i1 : i + 5 ≤ (L : Int)) (hroom : cells ≤ room_1.cells ∧ slots ≤ room_1.slots)
    (kk : ∀ (σ τ : yS) (H : Heap) (locs : List Loc), yLi s b D kA ad7 ad8 i σ τ H locs ls → W p l e room_1 s m #[Value.ref b] below meth c H locs cells slots Q (F0 m 1342 ls [])) : W p l e room_1 s m #[Value.ref b] below meth c H locs cells slots Q (F0 m 1167 ls []) := by
  obtain ⟨hx, hb, hml, hown, hts, hX, hbl, hK, hx0, hL⟩ := hc
  obtain ⟨o7, o8, hR, hP, hD, hS, hl⟩ := hi
  have hA : ∀ q : Nat, s.heap.size ≤ q → (fun q : Nat => s.heap.size ≤ q) q := fun _ h => h
  have hbA : ¬ (fun q : Nat => s.heap.size ≤ q) b := Nat.not_le.mpr hbl
  have hd := zpr_all hp_lc_sheet
  obtain ⟨a7, σ', τ', h7, h8, hR'⟩ : ∃ (a7 : Int) (σ' τ' : yS), f_X7_sheet N σ (xs (i + 1).toNat).toInt (xs (i + 2).toNat).toInt (xs (i + 3).toNat).toInt = some (a7, σ') ∧ f_X8_sheet N τ (xs (i + 1).toNat).toInt (xs (i + 2).toNat).toInt (xs (i + 3).toNat).toInt = some (a7, τ') ∧ yRR σ' τ' := P_sheet (by omega) hR
  refine lv_aload_n hx hb (hd 1167 (.aload_n 1) 1 rfl) rfl (lv_at hl 2 rfl) ?_
  refine lv_aload_n hx hb (hd 1168 (.aload_n 0) 1 rfl) rfl (lv_at hl 3 rfl) ?_
  refine lv_iload_n hx hb (hd 1169 (.iload_n 3) 1 rfl) rfl (lv_at hl 0 rfl) ?_
  refine lv_iconst (v := Int32.ofInt 1) hx hb (hd 1170 (.iconst 1) 1 rfl) (by decide) ?_
  refine zh_iadd hx hb (hd 1171 .iadd 1 rfl) ?_
  refine yl_ld hx hb hX hbl hbA hS (x := i + 1) (by omega) (by omega) hL (hd 1172 .iaload 1 rfl) ?_
  refine lv_aload_n hx hb (hd 1173 (.aload_n 0) 1 rfl) rfl (lv_at hl 3 rfl) ?_
  refine lv_iload_n hx hb (hd 1174 (.iload_n 3) 1 rfl) rfl (lv_at hl 0 rfl) ?_
  refine lv_iconst (v := Int32.ofInt 2) hx hb (hd 1175 (.iconst 2) 1 rfl) (by decide) ?_
  refine zh_iadd hx hb (hd 1176 .iadd 1 rfl) ?_
  refine yl_ld hx hb hX hbl hbA hS (x := i + 2) (by omega) (by omega) hL (hd 1177 .iaload 1 rfl) ?_
  refine lv_aload_n hx hb (hd 1178 (.aload_n 0) 1 rfl) rfl (lv_at hl 3 rfl) ?_
  refine lv_iload_n hx hb (hd 1179 (.iload_n 3) 1 rfl) rfl (lv_at hl 0 rfl) ?_
  refine lv_iconst (v := Int32.ofInt 3) hx hb (hd 1180 (.iconst 3) 1 rfl) (by decide) ?_
  refine zh_iadd hx hb (hd 1181 .iadd 1 rfl) ?_
  refine yl_ld hx hb hX hbl hbA hS (x := i + 3) (by omega) (by omega) hL (hd 1182 .iaload 1 rfl) ?_
  refine ycallG (as := [.inl (.inl (xs (i + 1).toNat).toInt), .inl (.inl (xs (i + 2).toNat).toInt), .inl (.inl (xs (i + 3).toNat).toInt)]) (rest := []) zX_ok ⟨hx, hb, hml, hown, hts⟩ (m_X7_sheet (N := N) zX_ok zX_n l) (ci := 7) rfl (cwV 3 hts gL_law_X7_sheet rfl rfl rfl (by decide +kernel) ⟨Nat.le_of_ble_eq_true rfl, Nat.le_of_ble_eq_true rfl⟩) rfl hK o7 rfl (List.forall_mem_cons.mpr ⟨zq_rng _, List.forall_mem_cons.mpr ⟨zq_rng _, List.forall_mem_cons.mpr ⟨zq_rng _, fun _ h => absurd h List.not_mem_nil⟩⟩⟩) (e_X7_sheet h7) hP hD hS hA hx0 hl.1 (Nat.le_of_ble_eq_true rfl) (hd 1183 (.invokevirtual 145) 3 rfl) hroom (fun H locs o7 _ hP hD hS => ?_)
  show W p l e room_1 s m #[Value.ref b] below meth c H locs cells slots Q (F0 m 1186 ls [.int (Int32.ofInt a7)])
  refine lv_aload_n hx hb (hd 1186 (.aload_n 2) 1 rfl) rfl (lv_at hl 1 rfl) ?_
  refine lv_aload_n hx hb (hd 1187 (.aload_n 0) 1 rfl) rfl (lv_at hl 3 rfl) ?_
  refine lv_iload_n hx hb (hd 1188 (.iload_n 3) 1 rfl) rfl (lv_at hl 0 rfl) ?_
  refine lv_iconst (v := Int32.ofInt 1) hx hb (hd 1189 (.iconst 1) 1 rfl) (by decide) ?_
  refine zh_iadd hx hb (hd 1190 .iadd 1 rfl) ?_
  refine yl_ld hx hb hX hbl hbA hS (x := i + 1) (by omega) (by omega) hL (hd 1191 .iaload 1 rfl) ?_
  refine lv_aload_n hx hb (hd 1192 (.aload_n 0) 1 rfl) rfl (lv_at hl 3 rfl) ?_
  refine lv_iload_n hx hb (hd 1193 (.iload_n 3) 1 rfl) rfl (lv_at hl 0 rfl) ?_
  refine lv_iconst (v := Int32.ofInt 2) hx hb (hd 1194 (.iconst 2) 1 rfl) (by decide) ?_
  refine zh_iadd hx hb (hd 1195 .iadd 1 rfl) ?_
  refine yl_ld hx hb hX hbl hbA hS (x := i + 2) (by omega) (by omega) hL (hd 1196 .iaload 1 rfl) ?_
  refine lv_aload_n hx hb (hd 1197 (.aload_n 0) 1 rfl) rfl (lv_at hl 3 rfl) ?_
  refine lv_iload_n hx hb (hd 1198 (.iload_n 3) 1 rfl) rfl (lv_at hl 0 rfl) ?_
  refine lv_iconst (v := Int32.ofInt 3) hx hb (hd 1199 (.iconst 3) 1 rfl) (by decide) ?_
  refine zh_iadd hx hb (hd 1200 .iadd 1 rfl) ?_
  refine yl_ld hx hb hX hbl hbA hS (x := i + 3) (by omega) (by omega) hL (hd 1201 .iaload 1 rfl) ?_
  refine ycallG (as := [.inl (.inl (xs (i + 1).toNat).toInt), .inl (.inl (xs (i + 2).toNat).toInt), .inl (.inl (xs (i + 3).toNat).toInt)]) (rest := [.int (Int32.ofInt a7)]) zX_ok ⟨hx, hb, hml, hown, hts⟩ (m_X8_sheet (N := N) zX_ok zX_n l) (ci := 8) rfl (cwV 3 hts gL_law_X8_sheet rfl rfl rfl (by decide +kernel) ⟨Nat.le_of_ble_eq_true rfl, Nat.le_of_ble_eq_true rfl⟩) rfl hK o8 rfl (List.forall_mem_cons.mpr ⟨zq_rng _, List.forall_mem_cons.mpr ⟨zq_rng _, List.forall_mem_cons.mpr ⟨zq_rng _, fun _ h => absurd h List.not_mem_nil⟩⟩⟩) (e_X8_sheet h8) hP hD hS hA hx0 hl.1 (Nat.le_of_ble_eq_true rfl) (hd 1202 (.invokevirtual 148) 3 rfl) hroom (fun H locs o8 _ hP hD hS => ?_)
  show W p l e room_1 s m #[Value.ref b] below meth c H locs cells slots Q (F0 m 1205 ls [.int (Int32.ofInt a7), .int (Int32.ofInt a7)])
  refine lv_icmp_eq (tgt := 1342) hx hb (hd 1205 (.if_icmp .eq 137) 3 rfl) (by decide) (fun _ => ?_) (fun h => absurd rfl h)
  exact kk σ' τ' H locs ⟨o7, o8, hR', hP, hD, hS, hl⟩
noncomputable def pr_lc_lay : List (Nat × Instr × Nat) := [(1210, .aload_n 1, 1), (1211, .aload_n 0, 1), (1212, .iload_n 3, 1), (1213, .iconst 1, 1), (1214, .iadd, 1), (1215, .iaload, 1), (1216, .aload_n 0, 1), (1217, .iload_n 3, 1), (1218, .iconst 2, 1), (1219, .iadd, 1), (1220, .iaload, 1), (1221, .aload_n 0, 1), (1222, .iload_n 3, 1), (1223, .iconst 3, 1), (1224, .iadd, 1), (1225, .iaload, 1), (1226, .invokevirtual 149, 3), (1229, .pop, 1), (1230, .aload_n 2, 1), (1231, .aload_n 0, 1), (1232, .iload_n 3, 1), (1233, .iconst 1, 1), (1234, .iadd, 1), (1235, .iaload, 1), (1236, .aload_n 0, 1), (1237, .iload_n 3, 1), (1238, .iconst 2, 1), (1239, .iadd, 1), (1240, .iaload, 1), (1241, .aload_n 0, 1), (1242, .iload_n 3, 1), (1243, .iconst 3, 1), (1244, .iadd, 1), (1245, .iaload, 1), (1246, .invokevirtual 152, 3), (1249, .pop, 1), (1250, .goto 92, 3)]
set_option maxRecDepth 100000 in
theorem hp_lc_lay : pr_lc_lay.all (fun x => decide (decode code x.1 = .ok x.2)) = true := by decide +kernel
set_option maxHeartbeats 4000000 in
set_option maxRecDepth 100000 in
theorem lc_lay {N : Nat} (hN : 1000 ≤ N) {p : Program} {l : Launch} {e : Env} {s : State} {m : MethodId} {below : List Frame} {meth : Method} {c : Code} {cells slots : Nat} {Q : State → Prop} {b L : Nat} {xs : Nat → Int32} {D : va_G} {kA : Nat → ClassId} (hc : zLc p s m c b L xs D kA) {ad7 ad8 : Nat → Nat} {i : Int} {σ τ : yS} {H : Heap} {locs : List Loc} {ls : Array Slot} (hi : yLi s b D kA ad7 ad8 i σ τ H locs ls) (i0 : 0 ≤ i) (i1 : i + 5 ≤ (L : Int)) (hroom : cells ≤ room_1.cells ∧ slots ≤ room_1.slots)
    (kk : ∀ (σ τ : yS) (H : Heap) (locs : List Loc), yLi s b D kA ad7 ad8 i σ τ H locs ls → W p l e room_1 s m #[Value.ref b] below meth c H locs cells slots Q (F0 m 1342 ls [])) : W p l e room_1 s m #[Value.ref b] below meth c H locs cells slots Q (F0 m 1210 ls []) := by
  obtain ⟨hx, hb, hml, hown, hts, hX, hbl, hK, hx0, hL⟩ := hc
  obtain ⟨o7, o8, hR, hP, hD, hS, hl⟩ := hi
  have hA : ∀ q : Nat, s.heap.size ≤ q → (fun q : Nat => s.heap.size ≤ q) q := fun _ h => h
  have hbA : ¬ (fun q : Nat => s.heap.size ≤ q) b := Nat.not_le.mpr hbl
  have hd := zpr_all hp_lc_lay
  obtain ⟨a7, σ', τ', h7, h8, hR'⟩ : ∃ (a7 : Int) (σ' τ' : yS), f_X7_lay N σ (xs (i + 1).toNat).toInt (xs (i + 2).toNat).toInt (xs (i + 3).toNat).toInt = some (a7, σ') ∧ f_X8_lay N τ (xs (i + 1).toNat).toInt (xs (i + 2).toNat).toInt (xs (i + 3).toNat).toInt = some (a7, τ') ∧ yRR σ' τ' := P_lay hR
  refine lv_aload_n hx hb (hd 1210 (.aload_n 1) 1 rfl) rfl (lv_at hl 2 rfl) ?_
  refine lv_aload_n hx hb (hd 1211 (.aload_n 0) 1 rfl) rfl (lv_at hl 3 rfl) ?_
  refine lv_iload_n hx hb (hd 1212 (.iload_n 3) 1 rfl) rfl (lv_at hl 0 rfl) ?_
  refine lv_iconst (v := Int32.ofInt 1) hx hb (hd 1213 (.iconst 1) 1 rfl) (by decide) ?_
  refine zh_iadd hx hb (hd 1214 .iadd 1 rfl) ?_
  refine yl_ld hx hb hX hbl hbA hS (x := i + 1) (by omega) (by omega) hL (hd 1215 .iaload 1 rfl) ?_
  refine lv_aload_n hx hb (hd 1216 (.aload_n 0) 1 rfl) rfl (lv_at hl 3 rfl) ?_
  refine lv_iload_n hx hb (hd 1217 (.iload_n 3) 1 rfl) rfl (lv_at hl 0 rfl) ?_
  refine lv_iconst (v := Int32.ofInt 2) hx hb (hd 1218 (.iconst 2) 1 rfl) (by decide) ?_
  refine zh_iadd hx hb (hd 1219 .iadd 1 rfl) ?_
  refine yl_ld hx hb hX hbl hbA hS (x := i + 2) (by omega) (by omega) hL (hd 1220 .iaload 1 rfl) ?_
  refine lv_aload_n hx hb (hd 1221 (.aload_n 0) 1 rfl) rfl (lv_at hl 3 rfl) ?_
  refine lv_iload_n hx hb (hd 1222 (.iload_n 3) 1 rfl) rfl (lv_at hl 0 rfl) ?_
  refine lv_iconst (v := Int32.ofInt 3) hx hb (hd 1223 (.iconst 3) 1 rfl) (by decide) ?_
  refine zh_iadd hx hb (hd 1224 .iadd 1 rfl) ?_
  refine yl_ld hx hb hX hbl hbA hS (x := i + 3) (by omega) (by omega) hL (hd 1225 .iaload 1 rfl) ?_
  refine ycallG (as := [.inl (.inl (xs (i + 1).toNat).toInt), .inl (.inl (xs (i + 2).toNat).toInt), .inl (.inl (xs (i + 3).toNat).toInt)]) (rest := []) zX_ok ⟨hx, hb, hml, hown, hts⟩ (m_X7_lay (N := N) zX_ok zX_n l) (ci := 7) rfl (cwV 3 hts gL_law_X7_lay rfl rfl rfl (by decide +kernel) ⟨Nat.le_of_ble_eq_true rfl, Nat.le_of_ble_eq_true rfl⟩) rfl hK o7 rfl (List.forall_mem_cons.mpr ⟨zq_rng _, List.forall_mem_cons.mpr ⟨zq_rng _, List.forall_mem_cons.mpr ⟨zq_rng _, fun _ h => absurd h List.not_mem_nil⟩⟩⟩) (e_X7_lay h7) hP hD hS hA hx0 hl.1 (Nat.le_of_ble_eq_true rfl) (hd 1226 (.invokevirtual 149) 3 rfl) hroom (fun H locs o7 _ hP hD hS => ?_)
  show W p l e room_1 s m #[Value.ref b] below meth c H locs cells slots Q (F0 m 1229 ls [.int (Int32.ofInt a7)])
  refine lv_pop hx hb (hd 1229 .pop 1 rfl) rfl ?_
  refine lv_aload_n hx hb (hd 1230 (.aload_n 2) 1 rfl) rfl (lv_at hl 1 rfl) ?_
  refine lv_aload_n hx hb (hd 1231 (.aload_n 0) 1 rfl) rfl (lv_at hl 3 rfl) ?_
  refine lv_iload_n hx hb (hd 1232 (.iload_n 3) 1 rfl) rfl (lv_at hl 0 rfl) ?_
  refine lv_iconst (v := Int32.ofInt 1) hx hb (hd 1233 (.iconst 1) 1 rfl) (by decide) ?_
  refine zh_iadd hx hb (hd 1234 .iadd 1 rfl) ?_
  refine yl_ld hx hb hX hbl hbA hS (x := i + 1) (by omega) (by omega) hL (hd 1235 .iaload 1 rfl) ?_
  refine lv_aload_n hx hb (hd 1236 (.aload_n 0) 1 rfl) rfl (lv_at hl 3 rfl) ?_
  refine lv_iload_n hx hb (hd 1237 (.iload_n 3) 1 rfl) rfl (lv_at hl 0 rfl) ?_
  refine lv_iconst (v := Int32.ofInt 2) hx hb (hd 1238 (.iconst 2) 1 rfl) (by decide) ?_
  refine zh_iadd hx hb (hd 1239 .iadd 1 rfl) ?_
  refine yl_ld hx hb hX hbl hbA hS (x := i + 2) (by omega) (by omega) hL (hd 1240 .iaload 1 rfl) ?_
  refine lv_aload_n hx hb (hd 1241 (.aload_n 0) 1 rfl) rfl (lv_at hl 3 rfl) ?_
  refine lv_iload_n hx hb (hd 1242 (.iload_n 3) 1 rfl) rfl (lv_at hl 0 rfl) ?_
  refine lv_iconst (v := Int32.ofInt 3) hx hb (hd 1243 (.iconst 3) 1 rfl) (by decide) ?_
  refine zh_iadd hx hb (hd 1244 .iadd 1 rfl) ?_
  refine yl_ld hx hb hX hbl hbA hS (x := i + 3) (by omega) (by omega) hL (hd 1245 .iaload 1 rfl) ?_
  refine ycallG (as := [.inl (.inl (xs (i + 1).toNat).toInt), .inl (.inl (xs (i + 2).toNat).toInt), .inl (.inl (xs (i + 3).toNat).toInt)]) (rest := []) zX_ok ⟨hx, hb, hml, hown, hts⟩ (m_X8_lay (N := N) zX_ok zX_n l) (ci := 8) rfl (cwV 3 hts gL_law_X8_lay rfl rfl rfl (by decide +kernel) ⟨Nat.le_of_ble_eq_true rfl, Nat.le_of_ble_eq_true rfl⟩) rfl hK o8 rfl (List.forall_mem_cons.mpr ⟨zq_rng _, List.forall_mem_cons.mpr ⟨zq_rng _, List.forall_mem_cons.mpr ⟨zq_rng _, fun _ h => absurd h List.not_mem_nil⟩⟩⟩) (e_X8_lay h8) hP hD hS hA hx0 hl.1 (Nat.le_of_ble_eq_true rfl) (hd 1246 (.invokevirtual 152) 3 rfl) hroom (fun H locs o8 _ hP hD hS => ?_)
  show W p l e room_1 s m #[Value.ref b] below meth c H locs cells slots Q (F0 m 1249 ls [.int (Int32.ofInt a7)])
  refine lv_pop hx hb (hd 1249 .pop 1 rfl) rfl ?_
  refine lv_goto (tgt := 1342) hx hb (hd 1250 (.goto 92) 3 rfl) (by decide) ?_
  exact kk σ' τ' H locs ⟨o7, o8, hR', hP, hD, hS, hl⟩
noncomputable def pr_lc_read : List (Nat × Instr × Nat) := [(1253, .aload_n 1, 1), (1254, .aload_n 0, 1), (1255, .iload_n 3, 1), (1256, .iconst 1, 1), (1257, .iadd, 1), (1258, .iaload, 1), (1259, .aload_n 0, 1), (1260, .iload_n 3, 1), (1261, .iconst 2, 1), (1262, .iadd, 1), (1263, .iaload, 1), (1264, .aload_n 0, 1), (1265, .iload_n 3, 1), (1266, .iconst 3, 1), (1267, .iadd, 1), (1268, .iaload, 1), (1269, .aload_n 0, 1), (1270, .iload_n 3, 1), (1271, .iconst 4, 1), (1272, .iadd, 1), (1273, .iaload, 1), (1274, .invokevirtual 153, 3), (1277, .pop, 1), (1278, .aload_n 2, 1), (1279, .aload_n 0, 1), (1280, .iload_n 3, 1), (1281, .iconst 1, 1), (1282, .iadd, 1), (1283, .iaload, 1), (1284, .aload_n 0, 1), (1285, .iload_n 3, 1), (1286, .iconst 2, 1), (1287, .iadd, 1), (1288, .iaload, 1), (1289, .aload_n 0, 1), (1290, .iload_n 3, 1), (1291, .iconst 3, 1), (1292, .iadd, 1), (1293, .iaload, 1), (1294, .aload_n 0, 1), (1295, .iload_n 3, 1), (1296, .iconst 4, 1), (1297, .iadd, 1), (1298, .iaload, 1), (1299, .invokevirtual 156, 3), (1302, .pop, 1), (1303, .goto 39, 3)]
set_option maxRecDepth 100000 in
theorem hp_lc_read : pr_lc_read.all (fun x => decide (decode code x.1 = .ok x.2)) = true := by decide +kernel
set_option maxHeartbeats 4000000 in
set_option maxRecDepth 100000 in
theorem lc_read {N : Nat} (hN : 1000 ≤ N) {p : Program} {l : Launch} {e : Env} {s : State} {m : MethodId} {below : List Frame} {meth : Method} {c : Code} {cells slots : Nat} {Q : State → Prop} {b L : Nat} {xs : Nat → Int32} {D : va_G} {kA : Nat → ClassId} (hc : zLc p s m c b L xs D kA) {ad7 ad8 : Nat → Nat} {i : Int} {σ τ : yS} {H : Heap} {locs : List Loc} {ls : Array Slot} (hi : yLi s b D kA ad7 ad8 i σ τ H locs ls) (i0 : 0 ≤ i) (i1 : i + 5 ≤ (L : Int)) (hroom : cells ≤ room_1.cells ∧ slots ≤ room_1.slots)
    (kk : ∀ (σ τ : yS) (H : Heap) (locs : List Loc), yLi s b D kA ad7 ad8 i σ τ H locs ls → W p l e room_1 s m #[Value.ref b] below meth c H locs cells slots Q (F0 m 1342 ls [])) : W p l e room_1 s m #[Value.ref b] below meth c H locs cells slots Q (F0 m 1253 ls []) := by
  obtain ⟨hx, hb, hml, hown, hts, hX, hbl, hK, hx0, hL⟩ := hc
  obtain ⟨o7, o8, hR, hP, hD, hS, hl⟩ := hi
  have hA : ∀ q : Nat, s.heap.size ≤ q → (fun q : Nat => s.heap.size ≤ q) q := fun _ h => h
  have hbA : ¬ (fun q : Nat => s.heap.size ≤ q) b := Nat.not_le.mpr hbl
  have hd := zpr_all hp_lc_read
  obtain ⟨a7, σ', τ', h7, h8, hR'⟩ : ∃ (a7 : Int) (σ' τ' : yS), f_X7_read N σ (xs (i + 1).toNat).toInt (xs (i + 2).toNat).toInt (xs (i + 3).toNat).toInt (xs (i + 4).toNat).toInt = some (a7, σ') ∧ f_X8_read N τ (xs (i + 1).toNat).toInt (xs (i + 2).toNat).toInt (xs (i + 3).toNat).toInt (xs (i + 4).toNat).toInt = some (a7, τ') ∧ yRR σ' τ' := P_read (by omega) (zq_rng _) hR
  refine lv_aload_n hx hb (hd 1253 (.aload_n 1) 1 rfl) rfl (lv_at hl 2 rfl) ?_
  refine lv_aload_n hx hb (hd 1254 (.aload_n 0) 1 rfl) rfl (lv_at hl 3 rfl) ?_
  refine lv_iload_n hx hb (hd 1255 (.iload_n 3) 1 rfl) rfl (lv_at hl 0 rfl) ?_
  refine lv_iconst (v := Int32.ofInt 1) hx hb (hd 1256 (.iconst 1) 1 rfl) (by decide) ?_
  refine zh_iadd hx hb (hd 1257 .iadd 1 rfl) ?_
  refine yl_ld hx hb hX hbl hbA hS (x := i + 1) (by omega) (by omega) hL (hd 1258 .iaload 1 rfl) ?_
  refine lv_aload_n hx hb (hd 1259 (.aload_n 0) 1 rfl) rfl (lv_at hl 3 rfl) ?_
  refine lv_iload_n hx hb (hd 1260 (.iload_n 3) 1 rfl) rfl (lv_at hl 0 rfl) ?_
  refine lv_iconst (v := Int32.ofInt 2) hx hb (hd 1261 (.iconst 2) 1 rfl) (by decide) ?_
  refine zh_iadd hx hb (hd 1262 .iadd 1 rfl) ?_
  refine yl_ld hx hb hX hbl hbA hS (x := i + 2) (by omega) (by omega) hL (hd 1263 .iaload 1 rfl) ?_
  refine lv_aload_n hx hb (hd 1264 (.aload_n 0) 1 rfl) rfl (lv_at hl 3 rfl) ?_
  refine lv_iload_n hx hb (hd 1265 (.iload_n 3) 1 rfl) rfl (lv_at hl 0 rfl) ?_
  refine lv_iconst (v := Int32.ofInt 3) hx hb (hd 1266 (.iconst 3) 1 rfl) (by decide) ?_
  refine zh_iadd hx hb (hd 1267 .iadd 1 rfl) ?_
  refine yl_ld hx hb hX hbl hbA hS (x := i + 3) (by omega) (by omega) hL (hd 1268 .iaload 1 rfl) ?_
  refine lv_aload_n hx hb (hd 1269 (.aload_n 0) 1 rfl) rfl (lv_at hl 3 rfl) ?_
  refine lv_iload_n hx hb (hd 1270 (.iload_n 3) 1 rfl) rfl (lv_at hl 0 rfl) ?_
  refine lv_iconst (v := Int32.ofInt 4) hx hb (hd 1271 (.iconst 4) 1 rfl) (by decide) ?_
  refine zh_iadd hx hb (hd 1272 .iadd 1 rfl) ?_
  refine yl_ld hx hb hX hbl hbA hS (x := i + 4) (by omega) (by omega) hL (hd 1273 .iaload 1 rfl) ?_
  refine ycallG (as := [.inl (.inl (xs (i + 1).toNat).toInt), .inl (.inl (xs (i + 2).toNat).toInt), .inl (.inl (xs (i + 3).toNat).toInt), .inl (.inl (xs (i + 4).toNat).toInt)]) (rest := []) zX_ok ⟨hx, hb, hml, hown, hts⟩ (m_X7_read (N := N) zX_ok zX_n l) (ci := 7) rfl (cwV 4 hts gL_law_X7_read rfl rfl rfl (by decide +kernel) ⟨Nat.le_of_ble_eq_true rfl, Nat.le_of_ble_eq_true rfl⟩) rfl hK o7 rfl (List.forall_mem_cons.mpr ⟨zq_rng _, List.forall_mem_cons.mpr ⟨zq_rng _, List.forall_mem_cons.mpr ⟨zq_rng _, List.forall_mem_cons.mpr ⟨zq_rng _, fun _ h => absurd h List.not_mem_nil⟩⟩⟩⟩) (e_X7_read h7) hP hD hS hA hx0 hl.1 (Nat.le_of_ble_eq_true rfl) (hd 1274 (.invokevirtual 153) 3 rfl) hroom (fun H locs o7 _ hP hD hS => ?_)
  show W p l e room_1 s m #[Value.ref b] below meth c H locs cells slots Q (F0 m 1277 ls [.int (Int32.ofInt a7)])
  refine lv_pop hx hb (hd 1277 .pop 1 rfl) rfl ?_
  refine lv_aload_n hx hb (hd 1278 (.aload_n 2) 1 rfl) rfl (lv_at hl 1 rfl) ?_
  refine lv_aload_n hx hb (hd 1279 (.aload_n 0) 1 rfl) rfl (lv_at hl 3 rfl) ?_
  refine lv_iload_n hx hb (hd 1280 (.iload_n 3) 1 rfl) rfl (lv_at hl 0 rfl) ?_
  refine lv_iconst (v := Int32.ofInt 1) hx hb (hd 1281 (.iconst 1) 1 rfl) (by decide) ?_
  refine zh_iadd hx hb (hd 1282 .iadd 1 rfl) ?_
  refine yl_ld hx hb hX hbl hbA hS (x := i + 1) (by omega) (by omega) hL (hd 1283 .iaload 1 rfl) ?_
  refine lv_aload_n hx hb (hd 1284 (.aload_n 0) 1 rfl) rfl (lv_at hl 3 rfl) ?_
  refine lv_iload_n hx hb (hd 1285 (.iload_n 3) 1 rfl) rfl (lv_at hl 0 rfl) ?_
  refine lv_iconst (v := Int32.ofInt 2) hx hb (hd 1286 (.iconst 2) 1 rfl) (by decide) ?_
  refine zh_iadd hx hb (hd 1287 .iadd 1 rfl) ?_
  refine yl_ld hx hb hX hbl hbA hS (x := i + 2) (by omega) (by omega) hL (hd 1288 .iaload 1 rfl) ?_
  refine lv_aload_n hx hb (hd 1289 (.aload_n 0) 1 rfl) rfl (lv_at hl 3 rfl) ?_
  refine lv_iload_n hx hb (hd 1290 (.iload_n 3) 1 rfl) rfl (lv_at hl 0 rfl) ?_
  refine lv_iconst (v := Int32.ofInt 3) hx hb (hd 1291 (.iconst 3) 1 rfl) (by decide) ?_
  refine zh_iadd hx hb (hd 1292 .iadd 1 rfl) ?_
  refine yl_ld hx hb hX hbl hbA hS (x := i + 3) (by omega) (by omega) hL (hd 1293 .iaload 1 rfl) ?_
  refine lv_aload_n hx hb (hd 1294 (.aload_n 0) 1 rfl) rfl (lv_at hl 3 rfl) ?_
  refine lv_iload_n hx hb (hd 1295 (.iload_n 3) 1 rfl) rfl (lv_at hl 0 rfl) ?_
  refine lv_iconst (v := Int32.ofInt 4) hx hb (hd 1296 (.iconst 4) 1 rfl) (by decide) ?_
  refine zh_iadd hx hb (hd 1297 .iadd 1 rfl) ?_
  refine yl_ld hx hb hX hbl hbA hS (x := i + 4) (by omega) (by omega) hL (hd 1298 .iaload 1 rfl) ?_
  refine ycallG (as := [.inl (.inl (xs (i + 1).toNat).toInt), .inl (.inl (xs (i + 2).toNat).toInt), .inl (.inl (xs (i + 3).toNat).toInt), .inl (.inl (xs (i + 4).toNat).toInt)]) (rest := []) zX_ok ⟨hx, hb, hml, hown, hts⟩ (m_X8_read (N := N) zX_ok zX_n l) (ci := 8) rfl (cwV 4 hts gL_law_X8_read rfl rfl rfl (by decide +kernel) ⟨Nat.le_of_ble_eq_true rfl, Nat.le_of_ble_eq_true rfl⟩) rfl hK o8 rfl (List.forall_mem_cons.mpr ⟨zq_rng _, List.forall_mem_cons.mpr ⟨zq_rng _, List.forall_mem_cons.mpr ⟨zq_rng _, List.forall_mem_cons.mpr ⟨zq_rng _, fun _ h => absurd h List.not_mem_nil⟩⟩⟩⟩) (e_X8_read h8) hP hD hS hA hx0 hl.1 (Nat.le_of_ble_eq_true rfl) (hd 1299 (.invokevirtual 156) 3 rfl) hroom (fun H locs o8 _ hP hD hS => ?_)
  show W p l e room_1 s m #[Value.ref b] below meth c H locs cells slots Q (F0 m 1302 ls [.int (Int32.ofInt a7)])
  refine lv_pop hx hb (hd 1302 .pop 1 rfl) rfl ?_
  refine lv_goto (tgt := 1342) hx hb (hd 1303 (.goto 39) 3 rfl) (by decide) ?_
  exact kk σ' τ' H locs ⟨o7, o8, hR', hP, hD, hS, hl⟩
noncomputable def pr_lc_torn : List (Nat × Instr × Nat) := [(1306, .aload_n 1, 1), (1307, .invokevirtual 157, 3), (1310, .pop, 1), (1311, .aload_n 2, 1), (1312, .invokevirtual 160, 3), (1315, .pop, 1), (1316, .goto 26, 3)]
set_option maxRecDepth 100000 in
theorem hp_lc_torn : pr_lc_torn.all (fun x => decide (decode code x.1 = .ok x.2)) = true := by decide +kernel
set_option maxHeartbeats 4000000 in
set_option maxRecDepth 100000 in
theorem lc_torn {N : Nat} (hN : 1000 ≤ N) {p : Program} {l : Launch} {e : Env} {s : State} {m : MethodId} {below : List Frame} {meth : Method} {c : Code} {cells slots : Nat} {Q : State → Prop} {b L : Nat} {xs : Nat → Int32} {D : va_G} {kA : Nat → ClassId} (hc : zLc p s m c b L xs D kA) {ad7 ad8 : Nat → Nat} {i : Int} {σ τ : yS} {H : Heap} {locs : List Loc} {ls : Array Slot} (hi : yLi s b D kA ad7 ad8 i σ τ H locs ls) (i0 : 0 ≤ i) (i1 : i + 5 ≤ (L : Int)) (hroom : cells ≤ room_1.cells ∧ slots ≤ room_1.slots)
    (kk : ∀ (σ τ : yS) (H : Heap) (locs : List Loc), yLi s b D kA ad7 ad8 i σ τ H locs ls → W p l e room_1 s m #[Value.ref b] below meth c H locs cells slots Q (F0 m 1342 ls [])) : W p l e room_1 s m #[Value.ref b] below meth c H locs cells slots Q (F0 m 1306 ls []) := by
  obtain ⟨hx, hb, hml, hown, hts, hX, hbl, hK, hx0, hL⟩ := hc
  obtain ⟨o7, o8, hR, hP, hD, hS, hl⟩ := hi
  have hA : ∀ q : Nat, s.heap.size ≤ q → (fun q : Nat => s.heap.size ≤ q) q := fun _ h => h
  have hbA : ¬ (fun q : Nat => s.heap.size ≤ q) b := Nat.not_le.mpr hbl
  have hd := zpr_all hp_lc_torn
  obtain ⟨a7, a8, σ', τ', h7, h8, hR'⟩ : ∃ (a7 a8 : Int) (σ' τ' : yS), f_X7_torn N σ = some (a7, σ') ∧ f_X8_torn N τ = some (a8, τ') ∧ yRR σ' τ' := P_torn hR
  refine lv_aload_n hx hb (hd 1306 (.aload_n 1) 1 rfl) rfl (lv_at hl 2 rfl) ?_
  refine ycallG (as := []) (rest := []) zX_ok ⟨hx, hb, hml, hown, hts⟩ (m_X7_torn (N := N) zX_ok zX_n l) (ci := 7) rfl (cwV 0 hts gL_law_X7_torn rfl rfl rfl (by decide +kernel) ⟨Nat.le_of_ble_eq_true rfl, Nat.le_of_ble_eq_true rfl⟩) rfl hK o7 rfl (fun _ h => absurd h List.not_mem_nil) (e_X7_torn h7) hP hD hS hA hx0 hl.1 (Nat.le_of_ble_eq_true rfl) (hd 1307 (.invokevirtual 157) 3 rfl) hroom (fun H locs o7 _ hP hD hS => ?_)
  show W p l e room_1 s m #[Value.ref b] below meth c H locs cells slots Q (F0 m 1310 ls [.int (Int32.ofInt a7)])
  refine lv_pop hx hb (hd 1310 .pop 1 rfl) rfl ?_
  refine lv_aload_n hx hb (hd 1311 (.aload_n 2) 1 rfl) rfl (lv_at hl 1 rfl) ?_
  refine ycallG (as := []) (rest := []) zX_ok ⟨hx, hb, hml, hown, hts⟩ (m_X8_torn (N := N) zX_ok zX_n l) (ci := 8) rfl (cwV 0 hts gL_law_X8_torn rfl rfl rfl (by decide +kernel) ⟨Nat.le_of_ble_eq_true rfl, Nat.le_of_ble_eq_true rfl⟩) rfl hK o8 rfl (fun _ h => absurd h List.not_mem_nil) (e_X8_torn h8) hP hD hS hA hx0 hl.1 (Nat.le_of_ble_eq_true rfl) (hd 1312 (.invokevirtual 160) 3 rfl) hroom (fun H locs o8 _ hP hD hS => ?_)
  show W p l e room_1 s m #[Value.ref b] below meth c H locs cells slots Q (F0 m 1315 ls [.int (Int32.ofInt a8)])
  refine lv_pop hx hb (hd 1315 .pop 1 rfl) rfl ?_
  refine lv_goto (tgt := 1342) hx hb (hd 1316 (.goto 26) 3 rfl) (by decide) ?_
  exact kk σ' τ' H locs ⟨o7, o8, hR', hP, hD, hS, hl⟩
noncomputable def pr_lc_count : List (Nat × Instr × Nat) := [(1319, .aload_n 1, 1), (1320, .aload_n 0, 1), (1321, .iload_n 3, 1), (1322, .iconst 1, 1), (1323, .iadd, 1), (1324, .iaload, 1), (1325, .invokevirtual 161, 3), (1328, .pop, 1), (1329, .aload_n 2, 1), (1330, .aload_n 0, 1), (1331, .iload_n 3, 1), (1332, .iconst 1, 1), (1333, .iadd, 1), (1334, .iaload, 1), (1335, .invokevirtual 164, 3), (1338, .pop, 1), (1339, .goto 3, 3)]
set_option maxRecDepth 100000 in
theorem hp_lc_count : pr_lc_count.all (fun x => decide (decode code x.1 = .ok x.2)) = true := by decide +kernel
set_option maxHeartbeats 4000000 in
set_option maxRecDepth 100000 in
theorem lc_count {N : Nat} (hN : 1000 ≤ N) {p : Program} {l : Launch} {e : Env} {s : State} {m : MethodId} {below : List Frame} {meth : Method} {c : Code} {cells slots : Nat} {Q : State → Prop} {b L : Nat} {xs : Nat → Int32} {D : va_G} {kA : Nat → ClassId} (hc : zLc p s m c b L xs D kA) {ad7 ad8 : Nat → Nat} {i : Int} {σ τ : yS} {H : Heap} {locs : List Loc} {ls : Array Slot} (hi : yLi s b D kA ad7 ad8 i σ τ H locs ls) (i0 : 0 ≤ i) (i1 : i + 5 ≤ (L : Int)) (hroom : cells ≤ room_1.cells ∧ slots ≤ room_1.slots)
    (kk : ∀ (σ τ : yS) (H : Heap) (locs : List Loc), yLi s b D kA ad7 ad8 i σ τ H locs ls → W p l e room_1 s m #[Value.ref b] below meth c H locs cells slots Q (F0 m 1342 ls [])) : W p l e room_1 s m #[Value.ref b] below meth c H locs cells slots Q (F0 m 1319 ls []) := by
  obtain ⟨hx, hb, hml, hown, hts, hX, hbl, hK, hx0, hL⟩ := hc
  obtain ⟨o7, o8, hR, hP, hD, hS, hl⟩ := hi
  have hA : ∀ q : Nat, s.heap.size ≤ q → (fun q : Nat => s.heap.size ≤ q) q := fun _ h => h
  have hbA : ¬ (fun q : Nat => s.heap.size ≤ q) b := Nat.not_le.mpr hbl
  have hd := zpr_all hp_lc_count
  obtain ⟨a7, σ', τ', h7, h8, hR'⟩ : ∃ (a7 : Int) (σ' τ' : yS), f_X7_count N σ (xs (i + 1).toNat).toInt = some (a7, σ') ∧ f_X8_count N τ (xs (i + 1).toNat).toInt = some (a7, τ') ∧ yRR σ' τ' := P_count (by omega) hR
  refine lv_aload_n hx hb (hd 1319 (.aload_n 1) 1 rfl) rfl (lv_at hl 2 rfl) ?_
  refine lv_aload_n hx hb (hd 1320 (.aload_n 0) 1 rfl) rfl (lv_at hl 3 rfl) ?_
  refine lv_iload_n hx hb (hd 1321 (.iload_n 3) 1 rfl) rfl (lv_at hl 0 rfl) ?_
  refine lv_iconst (v := Int32.ofInt 1) hx hb (hd 1322 (.iconst 1) 1 rfl) (by decide) ?_
  refine zh_iadd hx hb (hd 1323 .iadd 1 rfl) ?_
  refine yl_ld hx hb hX hbl hbA hS (x := i + 1) (by omega) (by omega) hL (hd 1324 .iaload 1 rfl) ?_
  refine ycallG (as := [.inl (.inl (xs (i + 1).toNat).toInt)]) (rest := []) zX_ok ⟨hx, hb, hml, hown, hts⟩ (m_X7_count (N := N) zX_ok zX_n l) (ci := 7) rfl (cwV 1 hts gL_law_X7_count rfl rfl rfl (by decide +kernel) ⟨Nat.le_of_ble_eq_true rfl, Nat.le_of_ble_eq_true rfl⟩) rfl hK o7 rfl (List.forall_mem_cons.mpr ⟨zq_rng _, fun _ h => absurd h List.not_mem_nil⟩) (e_X7_count h7) hP hD hS hA hx0 hl.1 (Nat.le_of_ble_eq_true rfl) (hd 1325 (.invokevirtual 161) 3 rfl) hroom (fun H locs o7 _ hP hD hS => ?_)
  show W p l e room_1 s m #[Value.ref b] below meth c H locs cells slots Q (F0 m 1328 ls [.int (Int32.ofInt a7)])
  refine lv_pop hx hb (hd 1328 .pop 1 rfl) rfl ?_
  refine lv_aload_n hx hb (hd 1329 (.aload_n 2) 1 rfl) rfl (lv_at hl 1 rfl) ?_
  refine lv_aload_n hx hb (hd 1330 (.aload_n 0) 1 rfl) rfl (lv_at hl 3 rfl) ?_
  refine lv_iload_n hx hb (hd 1331 (.iload_n 3) 1 rfl) rfl (lv_at hl 0 rfl) ?_
  refine lv_iconst (v := Int32.ofInt 1) hx hb (hd 1332 (.iconst 1) 1 rfl) (by decide) ?_
  refine zh_iadd hx hb (hd 1333 .iadd 1 rfl) ?_
  refine yl_ld hx hb hX hbl hbA hS (x := i + 1) (by omega) (by omega) hL (hd 1334 .iaload 1 rfl) ?_
  refine ycallG (as := [.inl (.inl (xs (i + 1).toNat).toInt)]) (rest := []) zX_ok ⟨hx, hb, hml, hown, hts⟩ (m_X8_count (N := N) zX_ok zX_n l) (ci := 8) rfl (cwV 1 hts gL_law_X8_count rfl rfl rfl (by decide +kernel) ⟨Nat.le_of_ble_eq_true rfl, Nat.le_of_ble_eq_true rfl⟩) rfl hK o8 rfl (List.forall_mem_cons.mpr ⟨zq_rng _, fun _ h => absurd h List.not_mem_nil⟩) (e_X8_count h8) hP hD hS hA hx0 hl.1 (Nat.le_of_ble_eq_true rfl) (hd 1335 (.invokevirtual 164) 3 rfl) hroom (fun H locs o8 _ hP hD hS => ?_)
  show W p l e room_1 s m #[Value.ref b] below meth c H locs cells slots Q (F0 m 1338 ls [.int (Int32.ofInt a7)])
  refine lv_pop hx hb (hd 1338 .pop 1 rfl) rfl ?_
  refine lv_goto (tgt := 1342) hx hb (hd 1339 (.goto 3) 3 rfl) (by decide) ?_
  exact kk σ' τ' H locs ⟨o7, o8, hR', hP, hD, hS, hl⟩
end
section
noncomputable def pr_L0 : List (Nat × Instr × Nat) := [(0, .new 7, 3), (3, .dup, 1), (4, .invokespecial 9, 3), (7, .astore_n 1, 1), (8, .new 10, 3), (11, .dup, 1), (12, .invokespecial 12, 3), (15, .astore_n 2, 1), (16, .iconst 0, 1), (17, .istore_n 3, 1), (18, .iload_n 3, 1), (19, .aload_n 0, 1), (20, .arraylength, 1), (21, .iconst 5, 1), (22, .isub, 1), (23, .if_icmp .gt 1325, 3), (26, .aload_n 0, 1), (27, .iload_n 3, 1), (28, .iaload, 1), (29, .bipush 63, 2), (31, .iand, 1), (32, .tableswitch 1310 0 35 #[160, 183, 206, 219, 232, 255, 288, 311, 344, 377, 410, 469, 518, 571, 624, 657, 690, 723, 746, 789, 802, 825, 868, 911, 924, 947, 980, 1013, 1046, 1089, 1112, 1135, 1178, 1221, 1274, 1287], 160), (1342, .iinc 3 5, 3), (1345, .goto (-1327), 3), (1348, .iconst 1, 1), (1349, .ireturn, 1)]
set_option maxRecDepth 100000 in
theorem hp_L0 : pr_L0.all (fun x => decide (decode code x.1 = .ok x.2)) = true := by decide +kernel
theorem zeL (L : Nat) : Int32.ofNat L = Int32.ofInt (L : Int) := rfl
set_option maxHeartbeats 4000000 in
set_option maxRecDepth 100000 in
theorem ylaw_body {N : Nat} (hN : 1000 ≤ N) {p : Program} {l : Launch} {e : Env} {s : State} {m : MethodId} {below : List Frame} {meth : Method} {c : Code} {Q : State → Prop} {b L : Nat} {xs : Nat → Int32} {D : va_G} {kA : Nat → ClassId} (hc : zLc p s m c b L xs D kA) {ad7 ad8 : Nat → Nat} {i : Int} (i0 : 0 ≤ i) (i1 : i + 5 ≤ (L : Int)) {ls : Array Slot} {σ τ : yS} {H : Heap} {locs : List Loc} (hi : yLi s b D kA ad7 ad8 i σ τ H locs ls)
    (nxt : ∀ (σ τ : yS) (H : Heap) (locs : List Loc), yLi s b D kA ad7 ad8 i σ τ H locs ls → W p l e room_1 s m #[Value.ref b] below meth c H locs 116 14159 Q (F0 m 1342 ls [])) : W p l e room_1 s m #[Value.ref b] below meth c H locs 116 14159 Q (F0 m 26 ls []) := by
  obtain ⟨hx, hb, hml, hown, hts, hX, hbl, hK, hx0, hL⟩ := id hc
  obtain ⟨o7, o8, hR, hP, hD, hS, hl⟩ := id hi
  have hbA : ¬ (fun q : Nat => s.heap.size ≤ q) b := Nat.not_le.mpr hbl
  have hd := zpr_all hp_L0
  have hroom : 116 ≤ room_1.cells ∧ 14159 ≤ room_1.slots := ⟨Nat.le_of_ble_eq_true rfl, Nat.le_of_ble_eq_true rfl⟩
  refine lv_aload_n hx hb (hd 26 (.aload_n 0) 1 rfl) rfl (lv_at hl 3 rfl) ?_
  refine lv_iload_n hx hb (hd 27 (.iload_n 3) 1 rfl) rfl (lv_at hl 0 rfl) ?_
  refine yl_ld hx hb hX hbl hbA hS (x := i) (by omega) (by omega) hL (hd 28 .iaload 1 rfl) ?_
  rw [Int32.ofInt_toInt]
  refine lv_bipush (v := Int32.ofInt 63) hx hb (hd 29 (.bipush 63) 2 rfl) (by decide) ?_
  refine lv_iand hx hb (hd 31 .iand 1 rfl) ?_
  have hz := zand_r (xs i.toNat) (Int32.ofInt 63) (by decide)
  rw [show (Int32.ofInt 63).toInt = 63 by decide] at hz
  generalize xs i.toNat &&& Int32.ofInt 63 = t at hz ⊢
  by_cases hb36 : 35 < t.toInt
  · refine lv_tableOut (tgt := 1342) hx hb (hd 32 (.tableswitch 1310 0 35 #[160, 183, 206, 219, 232, 255, 288, 311, 344, 377, 410, 469, 518, 571, 624, 657, 690, 723, 746, 789, 802, 825, 868, 911, 924, 947, 980, 1013, 1046, 1089, 1112, 1135, 1178, 1221, 1274, 1287]) 160 rfl) (Or.inr hb36) (by decide) ?_
    exact nxt σ τ H locs hi
  · have : t.toInt = 0 ∨ t.toInt = 1 ∨ t.toInt = 2 ∨ t.toInt = 3 ∨ t.toInt = 4 ∨ t.toInt = 5 ∨ t.toInt = 6 ∨ t.toInt = 7 ∨ t.toInt = 8 ∨ t.toInt = 9 ∨ t.toInt = 10 ∨ t.toInt = 11 ∨ t.toInt = 12 ∨ t.toInt = 13 ∨ t.toInt = 14 ∨ t.toInt = 15 ∨ t.toInt = 16 ∨ t.toInt = 17 ∨ t.toInt = 18 ∨ t.toInt = 19 ∨ t.toInt = 20 ∨ t.toInt = 21 ∨ t.toInt = 22 ∨ t.toInt = 23 ∨ t.toInt = 24 ∨ t.toInt = 25 ∨ t.toInt = 26 ∨ t.toInt = 27 ∨ t.toInt = 28 ∨ t.toInt = 29 ∨ t.toInt = 30 ∨ t.toInt = 31 ∨ t.toInt = 32 ∨ t.toInt = 33 ∨ t.toInt = 34 ∨ t.toInt = 35 := by omega
    rcases this with h | h | h | h | h | h | h | h | h | h | h | h | h | h | h | h | h | h | h | h | h | h | h | h | h | h | h | h | h | h | h | h | h | h | h | h
    · refine lv_tableIn (off := 160) (tgt := 192) hx hb (hd 32 (.tableswitch 1310 0 35 #[160, 183, 206, 219, 232, 255, 288, 311, 344, 377, 410, 469, 518, 571, 624, 657, 690, 723, 746, 789, 802, 825, 868, 911, 924, 947, 980, 1013, 1046, 1089, 1112, 1135, 1178, 1221, 1274, 1287]) 160 rfl) (by omega) (by omega) (by rw [h]; rfl) (by decide) ?_
      exact lc_feed hN hc hi i0 (by omega) hroom nxt
    · refine lv_tableIn (off := 183) (tgt := 215) hx hb (hd 32 (.tableswitch 1310 0 35 #[160, 183, 206, 219, 232, 255, 288, 311, 344, 377, 410, 469, 518, 571, 624, 657, 690, 723, 746, 789, 802, 825, 868, 911, 924, 947, 980, 1013, 1046, 1089, 1112, 1135, 1178, 1221, 1274, 1287]) 160 rfl) (by omega) (by omega) (by rw [h]; rfl) (by decide) ?_
      exact lc_end hN hc hi i0 (by omega) hroom nxt
    · refine lv_tableIn (off := 206) (tgt := 238) hx hb (hd 32 (.tableswitch 1310 0 35 #[160, 183, 206, 219, 232, 255, 288, 311, 344, 377, 410, 469, 518, 571, 624, 657, 690, 723, 746, 789, 802, 825, 868, 911, 924, 947, 980, 1013, 1046, 1089, 1112, 1135, 1178, 1221, 1274, 1287]) 160 rfl) (by omega) (by omega) (by rw [h]; rfl) (by decide) ?_
      exact lc_text hN hc hi i0 (by omega) hroom nxt
    · refine lv_tableIn (off := 219) (tgt := 251) hx hb (hd 32 (.tableswitch 1310 0 35 #[160, 183, 206, 219, 232, 255, 288, 311, 344, 377, 410, 469, 518, 571, 624, 657, 690, 723, 746, 789, 802, 825, 868, 911, 924, 947, 980, 1013, 1046, 1089, 1112, 1135, 1178, 1221, 1274, 1287]) 160 rfl) (by omega) (by omega) (by rw [h]; rfl) (by decide) ?_
      exact lc_fault hN hc hi i0 (by omega) hroom nxt
    · refine lv_tableIn (off := 232) (tgt := 264) hx hb (hd 32 (.tableswitch 1310 0 35 #[160, 183, 206, 219, 232, 255, 288, 311, 344, 377, 410, 469, 518, 571, 624, 657, 690, 723, 746, 789, 802, 825, 868, 911, 924, 947, 980, 1013, 1046, 1089, 1112, 1135, 1178, 1221, 1274, 1287]) 160 rfl) (by omega) (by omega) (by rw [h]; rfl) (by decide) ?_
      exact lc_rule hN hc hi i0 (by omega) hroom nxt
    · refine lv_tableIn (off := 255) (tgt := 287) hx hb (hd 32 (.tableswitch 1310 0 35 #[160, 183, 206, 219, 232, 255, 288, 311, 344, 377, 410, 469, 518, 571, 624, 657, 690, 723, 746, 789, 802, 825, 868, 911, 924, 947, 980, 1013, 1046, 1089, 1112, 1135, 1178, 1221, 1274, 1287]) 160 rfl) (by omega) (by omega) (by rw [h]; rfl) (by decide) ?_
      exact lc_house hN hc hi i0 (by omega) hroom nxt
    · refine lv_tableIn (off := 288) (tgt := 320) hx hb (hd 32 (.tableswitch 1310 0 35 #[160, 183, 206, 219, 232, 255, 288, 311, 344, 377, 410, 469, 518, 571, 624, 657, 690, 723, 746, 789, 802, 825, 868, 911, 924, 947, 980, 1013, 1046, 1089, 1112, 1135, 1178, 1221, 1274, 1287]) 160 rfl) (by omega) (by omega) (by rw [h]; rfl) (by decide) ?_
      exact lc_cost hN hc hi i0 (by omega) hroom nxt
    · refine lv_tableIn (off := 311) (tgt := 343) hx hb (hd 32 (.tableswitch 1310 0 35 #[160, 183, 206, 219, 232, 255, 288, 311, 344, 377, 410, 469, 518, 571, 624, 657, 690, 723, 746, 789, 802, 825, 868, 911, 924, 947, 980, 1013, 1046, 1089, 1112, 1135, 1178, 1221, 1274, 1287]) 160 rfl) (by omega) (by omega) (by rw [h]; rfl) (by decide) ?_
      exact lc_vow hN hc hi i0 (by omega) hroom nxt
    · refine lv_tableIn (off := 344) (tgt := 376) hx hb (hd 32 (.tableswitch 1310 0 35 #[160, 183, 206, 219, 232, 255, 288, 311, 344, 377, 410, 469, 518, 571, 624, 657, 690, 723, 746, 789, 802, 825, 868, 911, 924, 947, 980, 1013, 1046, 1089, 1112, 1135, 1178, 1221, 1274, 1287]) 160 rfl) (by omega) (by omega) (by rw [h]; rfl) (by decide) ?_
      exact lc_want hN hc hi i0 (by omega) hroom nxt
    · refine lv_tableIn (off := 377) (tgt := 409) hx hb (hd 32 (.tableswitch 1310 0 35 #[160, 183, 206, 219, 232, 255, 288, 311, 344, 377, 410, 469, 518, 571, 624, 657, 690, 723, 746, 789, 802, 825, 868, 911, 924, 947, 980, 1013, 1046, 1089, 1112, 1135, 1178, 1221, 1274, 1287]) 160 rfl) (by omega) (by omega) (by rw [h]; rfl) (by decide) ?_
      exact lc_fund hN hc hi i0 (by omega) hroom nxt
    · refine lv_tableIn (off := 410) (tgt := 442) hx hb (hd 32 (.tableswitch 1310 0 35 #[160, 183, 206, 219, 232, 255, 288, 311, 344, 377, 410, 469, 518, 571, 624, 657, 690, 723, 746, 789, 802, 825, 868, 911, 924, 947, 980, 1013, 1046, 1089, 1112, 1135, 1178, 1221, 1274, 1287]) 160 rfl) (by omega) (by omega) (by rw [h]; rfl) (by decide) ?_
      exact lc_can hN hc hi i0 (by omega) hroom nxt
    · refine lv_tableIn (off := 469) (tgt := 501) hx hb (hd 32 (.tableswitch 1310 0 35 #[160, 183, 206, 219, 232, 255, 288, 311, 344, 377, 410, 469, 518, 571, 624, 657, 690, 723, 746, 789, 802, 825, 868, 911, 924, 947, 980, 1013, 1046, 1089, 1112, 1135, 1178, 1221, 1274, 1287]) 160 rfl) (by omega) (by omega) (by rw [h]; rfl) (by decide) ?_
      exact lc_lawyer hN hc hi i0 (by omega) hroom nxt
    · refine lv_tableIn (off := 518) (tgt := 550) hx hb (hd 32 (.tableswitch 1310 0 35 #[160, 183, 206, 219, 232, 255, 288, 311, 344, 377, 410, 469, 518, 571, 624, 657, 690, 723, 746, 789, 802, 825, 868, 911, 924, 947, 980, 1013, 1046, 1089, 1112, 1135, 1178, 1221, 1274, 1287]) 160 rfl) (by omega) (by omega) (by rw [h]; rfl) (by decide) ?_
      exact lc_habit hN hc hi i0 (by omega) hroom nxt
    · refine lv_tableIn (off := 571) (tgt := 603) hx hb (hd 32 (.tableswitch 1310 0 35 #[160, 183, 206, 219, 232, 255, 288, 311, 344, 377, 410, 469, 518, 571, 624, 657, 690, 723, 746, 789, 802, 825, 868, 911, 924, 947, 980, 1013, 1046, 1089, 1112, 1135, 1178, 1221, 1274, 1287]) 160 rfl) (by omega) (by omega) (by rw [h]; rfl) (by decide) ?_
      exact lc_vows hN hc hi i0 (by omega) hroom nxt
    · refine lv_tableIn (off := 624) (tgt := 656) hx hb (hd 32 (.tableswitch 1310 0 35 #[160, 183, 206, 219, 232, 255, 288, 311, 344, 377, 410, 469, 518, 571, 624, 657, 690, 723, 746, 789, 802, 825, 868, 911, 924, 947, 980, 1013, 1046, 1089, 1112, 1135, 1178, 1221, 1274, 1287]) 160 rfl) (by omega) (by omega) (by rw [h]; rfl) (by decide) ?_
      exact lc_wish hN hc hi i0 (by omega) hroom nxt
    · refine lv_tableIn (off := 657) (tgt := 689) hx hb (hd 32 (.tableswitch 1310 0 35 #[160, 183, 206, 219, 232, 255, 288, 311, 344, 377, 410, 469, 518, 571, 624, 657, 690, 723, 746, 789, 802, 825, 868, 911, 924, 947, 980, 1013, 1046, 1089, 1112, 1135, 1178, 1221, 1274, 1287]) 160 rfl) (by omega) (by omega) (by rw [h]; rfl) (by decide) ?_
      exact lc_drop hN hc hi i0 (by omega) hroom nxt
    · refine lv_tableIn (off := 690) (tgt := 722) hx hb (hd 32 (.tableswitch 1310 0 35 #[160, 183, 206, 219, 232, 255, 288, 311, 344, 377, 410, 469, 518, 571, 624, 657, 690, 723, 746, 789, 802, 825, 868, 911, 924, 947, 980, 1013, 1046, 1089, 1112, 1135, 1178, 1221, 1274, 1287]) 160 rfl) (by omega) (by omega) (by rw [h]; rfl) (by decide) ?_
      exact lc_move hN hc hi i0 (by omega) hroom nxt
    · refine lv_tableIn (off := 723) (tgt := 755) hx hb (hd 32 (.tableswitch 1310 0 35 #[160, 183, 206, 219, 232, 255, 288, 311, 344, 377, 410, 469, 518, 571, 624, 657, 690, 723, 746, 789, 802, 825, 868, 911, 924, 947, 980, 1013, 1046, 1089, 1112, 1135, 1178, 1221, 1274, 1287]) 160 rfl) (by omega) (by omega) (by rw [h]; rfl) (by decide) ?_
      exact lc_go hN hc hi i0 (by omega) hroom nxt
    · refine lv_tableIn (off := 746) (tgt := 778) hx hb (hd 32 (.tableswitch 1310 0 35 #[160, 183, 206, 219, 232, 255, 288, 311, 344, 377, 410, 469, 518, 571, 624, 657, 690, 723, 746, 789, 802, 825, 868, 911, 924, 947, 980, 1013, 1046, 1089, 1112, 1135, 1178, 1221, 1274, 1287]) 160 rfl) (by omega) (by omega) (by rw [h]; rfl) (by decide) ?_
      exact lc_ahead hN hc hi i0 (by omega) hroom nxt
    · refine lv_tableIn (off := 789) (tgt := 821) hx hb (hd 32 (.tableswitch 1310 0 35 #[160, 183, 206, 219, 232, 255, 288, 311, 344, 377, 410, 469, 518, 571, 624, 657, 690, 723, 746, 789, 802, 825, 868, 911, 924, 947, 980, 1013, 1046, 1089, 1112, 1135, 1178, 1221, 1274, 1287]) 160 rfl) (by omega) (by omega) (by rw [h]; rfl) (by decide) ?_
      exact lc_rest hN hc hi i0 (by omega) hroom nxt
    · refine lv_tableIn (off := 802) (tgt := 834) hx hb (hd 32 (.tableswitch 1310 0 35 #[160, 183, 206, 219, 232, 255, 288, 311, 344, 377, 410, 469, 518, 571, 624, 657, 690, 723, 746, 789, 802, 825, 868, 911, 924, 947, 980, 1013, 1046, 1089, 1112, 1135, 1178, 1221, 1274, 1287]) 160 rfl) (by omega) (by omega) (by rw [h]; rfl) (by decide) ?_
      exact lc_plan hN hc hi i0 (by omega) hroom nxt
    · refine lv_tableIn (off := 825) (tgt := 857) hx hb (hd 32 (.tableswitch 1310 0 35 #[160, 183, 206, 219, 232, 255, 288, 311, 344, 377, 410, 469, 518, 571, 624, 657, 690, 723, 746, 789, 802, 825, 868, 911, 924, 947, 980, 1013, 1046, 1089, 1112, 1135, 1178, 1221, 1274, 1287]) 160 rfl) (by omega) (by omega) (by rw [h]; rfl) (by decide) ?_
      exact lc_who hN hc hi i0 (by omega) hroom nxt
    · refine lv_tableIn (off := 868) (tgt := 900) hx hb (hd 32 (.tableswitch 1310 0 35 #[160, 183, 206, 219, 232, 255, 288, 311, 344, 377, 410, 469, 518, 571, 624, 657, 690, 723, 746, 789, 802, 825, 868, 911, 924, 947, 980, 1013, 1046, 1089, 1112, 1135, 1178, 1221, 1274, 1287]) 160 rfl) (by omega) (by omega) (by rw [h]; rfl) (by decide) ?_
      exact lc_ways hN hc hi i0 (by omega) hroom nxt
    · refine lv_tableIn (off := 911) (tgt := 943) hx hb (hd 32 (.tableswitch 1310 0 35 #[160, 183, 206, 219, 232, 255, 288, 311, 344, 377, 410, 469, 518, 571, 624, 657, 690, 723, 746, 789, 802, 825, 868, 911, 924, 947, 980, 1013, 1046, 1089, 1112, 1135, 1178, 1221, 1274, 1287]) 160 rfl) (by omega) (by omega) (by rw [h]; rfl) (by decide) ?_
      exact lc_ever hN hc hi i0 (by omega) hroom nxt
    · refine lv_tableIn (off := 924) (tgt := 956) hx hb (hd 32 (.tableswitch 1310 0 35 #[160, 183, 206, 219, 232, 255, 288, 311, 344, 377, 410, 469, 518, 571, 624, 657, 690, 723, 746, 789, 802, 825, 868, 911, 924, 947, 980, 1013, 1046, 1089, 1112, 1135, 1178, 1221, 1274, 1287]) 160 rfl) (by omega) (by omega) (by rw [h]; rfl) (by decide) ?_
      exact lc_stop hN hc hi i0 (by omega) hroom nxt
    · refine lv_tableIn (off := 947) (tgt := 979) hx hb (hd 32 (.tableswitch 1310 0 35 #[160, 183, 206, 219, 232, 255, 288, 311, 344, 377, 410, 469, 518, 571, 624, 657, 690, 723, 746, 789, 802, 825, 868, 911, 924, 947, 980, 1013, 1046, 1089, 1112, 1135, 1178, 1221, 1274, 1287]) 160 rfl) (by omega) (by omega) (by rw [h]; rfl) (by decide) ?_
      exact lc_best hN hc hi i0 (by omega) hroom nxt
    · refine lv_tableIn (off := 980) (tgt := 1012) hx hb (hd 32 (.tableswitch 1310 0 35 #[160, 183, 206, 219, 232, 255, 288, 311, 344, 377, 410, 469, 518, 571, 624, 657, 690, 723, 746, 789, 802, 825, 868, 911, 924, 947, 980, 1013, 1046, 1089, 1112, 1135, 1178, 1221, 1274, 1287]) 160 rfl) (by omega) (by omega) (by rw [h]; rfl) (by decide) ?_
      exact lc_mean hN hc hi i0 (by omega) hroom nxt
    · refine lv_tableIn (off := 1013) (tgt := 1045) hx hb (hd 32 (.tableswitch 1310 0 35 #[160, 183, 206, 219, 232, 255, 288, 311, 344, 377, 410, 469, 518, 571, 624, 657, 690, 723, 746, 789, 802, 825, 868, 911, 924, 947, 980, 1013, 1046, 1089, 1112, 1135, 1178, 1221, 1274, 1287]) 160 rfl) (by omega) (by omega) (by rw [h]; rfl) (by decide) ?_
      exact lc_luck hN hc hi i0 (by omega) hroom nxt
    · refine lv_tableIn (off := 1046) (tgt := 1078) hx hb (hd 32 (.tableswitch 1310 0 35 #[160, 183, 206, 219, 232, 255, 288, 311, 344, 377, 410, 469, 518, 571, 624, 657, 690, 723, 746, 789, 802, 825, 868, 911, 924, 947, 980, 1013, 1046, 1089, 1112, 1135, 1178, 1221, 1274, 1287]) 160 rfl) (by omega) (by omega) (by rw [h]; rfl) (by decide) ?_
      exact lc_drift hN hc hi i0 (by omega) hroom nxt
    · refine lv_tableIn (off := 1089) (tgt := 1121) hx hb (hd 32 (.tableswitch 1310 0 35 #[160, 183, 206, 219, 232, 255, 288, 311, 344, 377, 410, 469, 518, 571, 624, 657, 690, 723, 746, 789, 802, 825, 868, 911, 924, 947, 980, 1013, 1046, 1089, 1112, 1135, 1178, 1221, 1274, 1287]) 160 rfl) (by omega) (by omega) (by rw [h]; rfl) (by decide) ?_
      exact lc_keep hN hc hi i0 (by omega) hroom nxt
    · refine lv_tableIn (off := 1112) (tgt := 1144) hx hb (hd 32 (.tableswitch 1310 0 35 #[160, 183, 206, 219, 232, 255, 288, 311, 344, 377, 410, 469, 518, 571, 624, 657, 690, 723, 746, 789, 802, 825, 868, 911, 924, 947, 980, 1013, 1046, 1089, 1112, 1135, 1178, 1221, 1274, 1287]) 160 rfl) (by omega) (by omega) (by rw [h]; rfl) (by decide) ?_
      exact lc_back hN hc hi i0 (by omega) hroom nxt
    · refine lv_tableIn (off := 1135) (tgt := 1167) hx hb (hd 32 (.tableswitch 1310 0 35 #[160, 183, 206, 219, 232, 255, 288, 311, 344, 377, 410, 469, 518, 571, 624, 657, 690, 723, 746, 789, 802, 825, 868, 911, 924, 947, 980, 1013, 1046, 1089, 1112, 1135, 1178, 1221, 1274, 1287]) 160 rfl) (by omega) (by omega) (by rw [h]; rfl) (by decide) ?_
      exact lc_sheet hN hc hi i0 (by omega) hroom nxt
    · refine lv_tableIn (off := 1178) (tgt := 1210) hx hb (hd 32 (.tableswitch 1310 0 35 #[160, 183, 206, 219, 232, 255, 288, 311, 344, 377, 410, 469, 518, 571, 624, 657, 690, 723, 746, 789, 802, 825, 868, 911, 924, 947, 980, 1013, 1046, 1089, 1112, 1135, 1178, 1221, 1274, 1287]) 160 rfl) (by omega) (by omega) (by rw [h]; rfl) (by decide) ?_
      exact lc_lay hN hc hi i0 (by omega) hroom nxt
    · refine lv_tableIn (off := 1221) (tgt := 1253) hx hb (hd 32 (.tableswitch 1310 0 35 #[160, 183, 206, 219, 232, 255, 288, 311, 344, 377, 410, 469, 518, 571, 624, 657, 690, 723, 746, 789, 802, 825, 868, 911, 924, 947, 980, 1013, 1046, 1089, 1112, 1135, 1178, 1221, 1274, 1287]) 160 rfl) (by omega) (by omega) (by rw [h]; rfl) (by decide) ?_
      exact lc_read hN hc hi i0 (by omega) hroom nxt
    · refine lv_tableIn (off := 1274) (tgt := 1306) hx hb (hd 32 (.tableswitch 1310 0 35 #[160, 183, 206, 219, 232, 255, 288, 311, 344, 377, 410, 469, 518, 571, 624, 657, 690, 723, 746, 789, 802, 825, 868, 911, 924, 947, 980, 1013, 1046, 1089, 1112, 1135, 1178, 1221, 1274, 1287]) 160 rfl) (by omega) (by omega) (by rw [h]; rfl) (by decide) ?_
      exact lc_torn hN hc hi i0 (by omega) hroom nxt
    · refine lv_tableIn (off := 1287) (tgt := 1319) hx hb (hd 32 (.tableswitch 1310 0 35 #[160, 183, 206, 219, 232, 255, 288, 311, 344, 377, 410, 469, 518, 571, 624, 657, 690, 723, 746, 789, 802, 825, 868, 911, 924, 947, 980, 1013, 1046, 1089, 1112, 1135, 1178, 1221, 1274, 1287]) 160 rfl) (by omega) (by omega) (by rw [h]; rfl) (by decide) ?_
      exact lc_count hN hc hi i0 (by omega) hroom nxt
set_option maxHeartbeats 4000000 in
set_option maxRecDepth 100000 in
theorem ylaw_loop {N : Nat} (hN : 1000 ≤ N) {p : Program} {l : Launch} {e : Env} {s : State} {m : MethodId} {below : List Frame} {meth : Method} {c : Code} {Q : State → Prop} {b L : Nat} {xs : Nat → Int32} {D : va_G} {kA : Nat → ClassId} (hc : zLc p s m c b L xs D kA) {ad7 ad8 : Nat → Nat} (fin : ∀ (H : Heap) (locs : List Loc) (ls : Array Slot), va_S (fun q => s.heap.size ≤ q) s.heap H locs → W p l e room_1 s m #[Value.ref b] below meth c H locs 116 14159 Q (F0 m 1348 ls [])) : ∀ (n : Nat) (i : Int) (ls : Array Slot) (σ τ : yS) (H : Heap) (locs : List Loc), (L : Int) - i ≤ n → 0 ≤ i → i ≤ 330 → yLi s b D kA ad7 ad8 i σ τ H locs ls → W p l e room_1 s m #[Value.ref b] below meth c H locs 116 14159 Q (F0 m 18 ls []) := by
  obtain ⟨hx, hb, hml, hown, hts, hX, hbl, hK, hx0, hL⟩ := id hc
  have hbA : ¬ (fun q : Nat => s.heap.size ≤ q) b := Nat.not_le.mpr hbl
  have hd := zpr_all hp_L0
  have head : ∀ (i : Int) (ls : Array Slot) (σ τ : yS) (H : Heap) (locs : List Loc), 0 ≤ i → i ≤ 330 → yLi s b D kA ad7 ad8 i σ τ H locs ls → (i + 5 ≤ (L : Int) → W p l e room_1 s m #[Value.ref b] below meth c H locs 116 14159 Q (F0 m 26 ls [])) → W p l e room_1 s m #[Value.ref b] below meth c H locs 116 14159 Q (F0 m 18 ls []) := by
    intro i ls σ τ H locs i0 i1 hi kk
    obtain ⟨o7, o8, hR, hP, hD, hS, hl⟩ := id hi
    refine lv_iload_n hx hb (hd 18 (.iload_n 3) 1 rfl) rfl (lv_at hl 0 rfl) ?_
    refine lv_aload_n hx hb (hd 19 (.aload_n 0) 1 rfl) rfl (lv_at hl 3 rfl) ?_
    refine va_slen hx hb hX hbl hbA hS (hd 20 .arraylength 1 rfl) ?_
    rw [zeL]
    refine lv_iconst (v := Int32.ofInt 5) hx hb (hd 21 (.iconst 5) 1 rfl) (by decide) ?_
    refine zh_isub hx hb (hd 22 .isub 1 rfl) ?_
    refine zicmp_W (tgt := 1348) hx hb (hd 23 (.if_icmp .gt 1325) 3 rfl) (by decide) (a := i) (b := (L : Int) - 5) (by omega) (by omega) (by omega) (by omega) (fun hc => ?_) (fun hc => ?_)
    · exact fin H locs ls hS
    · have hc : ¬ (L : Int) - 5 < i := hc
      exact kk (by omega)
  intro n
  induction n with
  | zero =>
    intro i ls σ τ H locs hn i0 i1 hi
    exact head i ls σ τ H locs i0 i1 hi (fun h => by omega)
  | succ n ih =>
    intro i ls σ τ H locs hn i0 i1 hi
    refine head i ls σ τ H locs i0 i1 hi (fun h => ylaw_body hN hc i0 h hi (fun σ τ H locs hi => ?_))
    obtain ⟨o7, o8, hR, hP, hD, hS, hl⟩ := hi
    refine lv_iinc (v := Int32.ofInt (i + 5)) (lv' := [(3, .int (Int32.ofInt (i + 5))), (2, .ref (ad8 0)), (1, .ref (ad7 0)), (0, .ref b)]) hx hb (hd 1342 (.iinc 3 5) 3 rfl) hl (k := 0) rfl (zq_addW _ _) (by decide) rfl (fun ls hl => ?_)
    refine lv_goto (tgt := 18) hx hb (hd 1345 (.goto (-1327)) 3 rfl) (by decide) ?_
    exact ih (i + 5) ls σ τ H locs (by omega) (by omega) (by omega) ⟨o7, o8, hR, hP, hD, hS, hl⟩
end
section
set_option maxRecDepth 100000 in
set_option maxHeartbeats 4000000 in
/-- the classes and the arrays' classes, as the tables have them -/
theorem zlaw_K {s : State} {args : Array Value} (hts : ∀ w ∈ wsL_law, w.before args s = true) (hov4 : (Cond.arrayOver (.object RX4)).before args s = true) (hov2 : (Cond.arrayOver (.object RX2)).before args s = true) : ∃ (D : va_G) (kA : Nat → ClassId), va_K D vwCl (ztys kA) s := by
  obtain ⟨c0, s0, k0⟩ := u_known (C := RX0) (T := TX0) (N := 2) (n := 2) hts (fun w h => List.mem_append_left _ (List.mem_append_left _ (List.mem_append_left _ (List.mem_append_left _ (List.mem_append_left _ (List.mem_append_right _ h)))))) (hts (.instantiable RX0 2) (List.mem_of_getElem? (i := 25) rfl))
  obtain ⟨c1, s1, k1⟩ := u_known (C := RX1) (T := TX1) (N := 13) (n := 13) hts (fun w h => List.mem_append_left _ (List.mem_append_left _ (List.mem_append_left _ (List.mem_append_left _ (List.mem_append_left _ (List.mem_append_left _ (List.mem_append_right _ h))))))) (hts (.instantiable RX1 13) (List.mem_of_getElem? (i := 19) rfl))
  obtain ⟨c2, s2, k2⟩ := u_known (C := RX2) (T := TX2) (N := 3) (n := 3) hts (fun w h => List.mem_append_left _ (List.mem_append_left _ (List.mem_append_left _ (List.mem_append_left _ (List.mem_append_right _ h))))) (hts (.instantiable RX2 3) (List.mem_of_getElem? (i := 30) rfl))
  obtain ⟨c3, s3, k3⟩ := u_known (C := RX3) (T := TX3) (N := 2) (n := 2) hts (fun w h => List.mem_append_left _ (List.mem_append_right _ h)) (hts (.instantiable RX3 2) (List.mem_of_getElem? (i := 69) rfl))
  obtain ⟨c4, s4, k4⟩ := u_known (C := RX4) (T := TX4) (N := 18) (n := 18) hts (fun w h => List.mem_append_left _ (List.mem_append_left _ (List.mem_append_left _ (List.mem_append_left _ (List.mem_append_left _ (List.mem_append_left _ (List.mem_append_left _ (List.mem_append_right _ h)))))))) (hts (.instantiable RX4 18) (List.mem_of_getElem? (i := 13) rfl))
  obtain ⟨c5, s5, k5⟩ := u_known (C := RX5) (T := TX5) (N := 5) (n := 5) hts (fun w h => List.mem_append_left _ (List.mem_append_left _ (List.mem_append_left _ (List.mem_append_right _ h)))) (hts (.instantiable RX5 5) (List.mem_of_getElem? (i := 45) rfl))
  obtain ⟨c6, s6, k6⟩ := u_known (C := RX6) (T := TX6) (N := 3) (n := 3) hts (fun w h => List.mem_append_left _ (List.mem_append_left _ (List.mem_append_right _ h))) (hts (.instantiable RX6 3) (List.mem_of_getElem? (i := 50) rfl))
  obtain ⟨c7, s7, k7⟩ := u_known (C := RX7) (T := TX7) (N := 9) (n := 9) hts (fun w h => List.mem_append_left _ (List.mem_append_left _ (List.mem_append_left _ (List.mem_append_left _ (List.mem_append_left _ (List.mem_append_left _ (List.mem_append_left _ (List.mem_append_left _ (List.mem_append_left _ (List.mem_append_right _ h)))))))))) (hts (.instantiable RX7 9) (List.mem_of_getElem? (i := 1) rfl))
  obtain ⟨c8, s8, k8⟩ := u_known (C := RX8) (T := TX8) (N := 33) (n := 33) hts (fun w h => List.mem_append_left _ (List.mem_append_left _ (List.mem_append_left _ (List.mem_append_left _ (List.mem_append_left _ (List.mem_append_left _ (List.mem_append_left _ (List.mem_append_left _ (List.mem_append_right _ h))))))))) (hts (.instantiable RX8 33) (List.mem_of_getElem? (i := 4) rfl))
  obtain ⟨a0, b0, m0, e0, f0, g0⟩ := Cond.arrayClass_spec (hts (.arrayClass .int) (List.mem_of_getElem? (i := 36) rfl))
  obtain ⟨a1, b1, m1, e1, f1, g1⟩ := Cond.arrayClass_spec (hts (.arrayClass .boolean) (List.mem_of_getElem? (i := 79) rfl))
  obtain ⟨m2, a2, b2, d2, -, e2, f2, g2⟩ := Cond.arrayOver_spec hov4
  obtain ⟨m3, a3, b3, d3, -, e3, f3, g3⟩ := Cond.arrayOver_spec hov2
  refine ⟨(fun k => if k = 0 then c0 else if k = 1 then c1 else if k = 2 then c2 else if k = 3 then c3 else if k = 4 then c4 else if k = 5 then c5 else if k = 6 then c6 else if k = 7 then c7 else c8, fun k => if k = 0 then s0 else if k = 1 then s1 else if k = 2 then s2 else if k = 3 then s3 else if k = 4 then s4 else if k = 5 then s5 else if k = 6 then s6 else if k = 7 then s7 else s8), fun k => if k = 0 then a0 else if k = 1 then a1 else if k = 2 then a2 else a3, fun k q hq => ?_, fun k q hq => ?_⟩
  · match k, hq with
    | 0, hq => cases hq; exact k0
    | 1, hq => cases hq; exact k1
    | 2, hq => cases hq; exact k2
    | 3, hq => cases hq; exact k3
    | 4, hq => cases hq; exact k4
    | 5, hq => cases hq; exact k5
    | 6, hq => cases hq; exact k6
    | 7, hq => cases hq; exact k7
    | 8, hq => cases hq; exact k8
    | k + 9, hq => simp [vwCl] at hq
  · match k, hq with
    | 0, hq => cases hq; exact ⟨fun n z => ⟨fun k h => (by cases h), b0, f0, m0, g0⟩, e0⟩
    | 1, hq => cases hq; exact ⟨fun n z => ⟨fun k h => (by cases h), b1, f1, m1, g1⟩, e1⟩
    | 2, hq => cases hq; exact ⟨fun n z => ⟨fun k h => (by cases h), b2, e2, m2, f2⟩, b2, m2, e2, f2, d2, g2⟩
    | 3, hq => cases hq; exact ⟨fun n z => ⟨fun k h => (by cases h), b3, e3, m3, f3⟩, b3, m3, e3, f3, d3, g3⟩
    | k + 4, hq => simp [ztys] at hq
set_option maxHeartbeats 4000000 in
set_option maxRecDepth 100000 in
theorem ylaw_start {N : Nat} (hN : 1000 ≤ N) {p : Program} {l : Launch} {e : Env} {s : State} {m : MethodId} {below : List Frame} {meth : Method} {c : Code} {Q : State → Prop} {b L : Nat} {xs : Nat → Int32} {D : va_G} {kA : Nat → ClassId} (hc : zLc p s m c b L xs D kA) (fin : ∀ (H : Heap) (locs : List Loc) (ls : Array Slot), va_S (fun q => s.heap.size ≤ q) s.heap H locs → W p l e room_1 s m #[Value.ref b] below meth c H locs 116 14159 Q (F0 m 1348 ls [])) {ls : Array Slot} (hl : lv_has ls 4 [(0, .ref b)]) : W p l e room_1 s m #[Value.ref b] below meth c s.heap [] 0 0 Q (F0 m 0 ls []) := by
  obtain ⟨hx, hb, hml, hown, hts, hX, hbl, hK, hx0, hL⟩ := id hc
  have hA : ∀ q : Nat, s.heap.size ≤ q → (fun q : Nat => s.heap.size ≤ q) q := fun _ h => h
  have hd := zpr_all hp_L0
  have hP : va_P D vwCl [] s.heap := fun k q h => by simp at h
  have hD : va_D (fun q : Nat => s.heap.size ≤ q) [] := ⟨fun i j p q h => by simp at h, fun k q h => by simp at h⟩
  have hS : va_S (fun q : Nat => s.heap.size ≤ q) s.heap s.heap [] := va_S.rf
  generalize hAe : (fun q : Nat => s.heap.size ≤ q) = A at hD hS hA hx0 fin
  refine va_new (ci := 7) (fs := dX7) (C := RX7) (T := TX7) (N := 9) hx hb hts (fun w h => List.mem_append_left _ (List.mem_append_left _ (List.mem_append_left _ (List.mem_append_left _ (List.mem_append_left _ (List.mem_append_left _ (List.mem_append_left _ (List.mem_append_left _ (List.mem_append_left _ (List.mem_append_right _ h)))))))))) tyX7 tyX7_ok hown (hts (.classLink RL 7 RX7) (List.mem_of_getElem? (i := 0) rfl)) (hts (.instantiable RX7 9) (List.mem_of_getElem? (i := 1) rfl)) (hts (.initialized RX7) (List.mem_of_getElem? (i := 2) rfl)) hK hP hD hS hA rfl (by decide) (Nat.le_of_ble_eq_true rfl) (Nat.le_of_ble_eq_true rfl) (hd 0 (.new 7) 3 rfl) (fun q7 H hP hD hS => ?_)
  refine W.widen (k := 1) (n := 9) (by omega) (by omega) ?_
  have hP : va_P D vwCl [(q7, .inr (7, dX7))] H := hP
  have hD : va_D A [(q7, .inr (7, dX7))] := hD
  refine lv_dup hx hb (hd 3 .dup 1 rfl) rfl ?_
  have hFc := va_free (wc := [(q7, .inr (7, dX7))]) hD hS hA [0] rfl
  have hxA := zX_ok.2.2.2 A _ s H hFc (zX_ok.2.2.1 A s s.heap H (fun a h1 h2 => hS.2.1 a h1 h2) hx0)
  refine va_callv (va_runI (As := []) (rest := [.ref q7]) ⟨hx, hb, hml, hown, hts⟩ (c_X7_init l D kA q7 H.size) (cwI 0 hts gL_law_X7_init rfl rfl rfl (hts (.initialized RX7) (List.mem_of_getElem? (i := 2) rfl)) (hts (.methodLink RL 9 yX7_init) (List.mem_of_getElem? (i := 6) rfl)) (hts (.instanceMethod yX7_init) (List.mem_of_getElem? (i := 7) rfl)) rfl (by decide +kernel) ⟨Nat.le_of_ble_eq_true rfl, Nat.le_of_ble_eq_true rfl⟩) ⟨zBf_blind zX_ok, fun U hU hW => zBf_of (av := [.ref q7]) zX_ok hK hP (hD.weaken (fun _ _ _ _ => trivial)) hxA U hU hW⟩ rfl rfl hl.1 rfl (lv_room (Nat.le_of_ble_eq_true rfl)) (hd 4 (.invokespecial 9) 3 rfl) ⟨Nat.le_of_ble_eq_true rfl, Nat.le_of_ble_eq_true rfl⟩) hS (fun q _ h => hFc q h) hFc (fun f t H1 locs ht hvm hw hB hz1 hk1 hS => ?_)
  obtain ⟨hP1, hD1⟩ := hB
  rw [ht] at hP1
  subst hw
  have hP := y7_P hP1
  have hD := y7_D (hD1.weaken (fun i x _ h => hFc x.1 h))
  obtain ⟨ad7, had7⟩ : ∃ ad7 : Nat → Nat, ad7 = fun i => f (y7pi i) := ⟨_, rfl⟩
  rw [← had7] at hP hD
  have h70 : f 0 = ad7 0 := by rw [had7]; rfl
  rw [h70]
  obtain ⟨u, hu⟩ : ∃ u : va_W, u = yws yct kA ad7 ysh7 y7S := ⟨_, rfl⟩
  rw [← hu] at hP hD
  generalize H1 = H at hP hS ⊢
  refine W.widen (k := 101) (n := 1172) (by omega) (by omega) ?_
  refine lv_astore_n (lv' := [(1, .ref (ad7 0)), (0, .ref b)]) hx hb (hd 7 (.astore_n 1) 1 rfl) rfl hl (by decide) rfl (fun ls hl => ?_)
  refine va_new (ci := 8) (fs := dX8) (C := RX8) (T := TX8) (N := 33) hx hb hts (fun w h => List.mem_append_left _ (List.mem_append_left _ (List.mem_append_left _ (List.mem_append_left _ (List.mem_append_left _ (List.mem_append_left _ (List.mem_append_left _ (List.mem_append_left _ (List.mem_append_right _ h))))))))) tyX8 tyX8_ok hown (hts (.classLink RL 10 RX8) (List.mem_of_getElem? (i := 3) rfl)) (hts (.instantiable RX8 33) (List.mem_of_getElem? (i := 4) rfl)) (hts (.initialized RX8) (List.mem_of_getElem? (i := 5) rfl)) hK hP hD hS hA rfl (by decide) (Nat.le_of_ble_eq_true rfl) (Nat.le_of_ble_eq_true rfl) (hd 8 (.new 10) 3 rfl) (fun q8 H hP hD hS => ?_)
  refine W.widen (k := 102) (n := 1205) (by omega) (by omega) ?_
  refine lv_dup hx hb (hd 11 .dup 1 rfl) rfl ?_
  have hPc : va_P D vwCl [(q8, .inr (8, dX8))] H := yP_r hP
  have hDc : va_D A [(q8, .inr (8, dX8))] := yD_r hD
  have hFc : ∀ q, va_A [(q8, .inr (8, dX8))] H.size q → A q := fun q h => by
    rcases h with ⟨j, e, h⟩ | h
    · exact hDc.2 j (q, e) h
    · exact hA q (Nat.le_trans hS.1 h)
  have hxA := zX_ok.2.2.2 A _ s H hFc (zX_ok.2.2.1 A s s.heap H (fun a h1 h2 => hS.2.1 a h1 h2) hx0)
  refine va_callv (va_runI (As := []) (rest := [.ref q8]) ⟨hx, hb, hml, hown, hts⟩ (y_X8_init (N := N) hN l D kA q8 H.size) (cwI 0 hts gL_law_X8_init rfl rfl rfl (hts (.initialized RX8) (List.mem_of_getElem? (i := 5) rfl)) (hts (.methodLink RL 12 yX8_init) (List.mem_of_getElem? (i := 87) rfl)) (hts (.instanceMethod yX8_init) (List.mem_of_getElem? (i := 88) rfl)) rfl (by decide +kernel) ⟨Nat.le_of_ble_eq_true rfl, Nat.le_of_ble_eq_true rfl⟩) ⟨zBf_blind zX_ok, fun U hU hW => zBf_of (av := [.ref q8]) zX_ok hK hPc (hDc.weaken (fun _ _ _ _ => trivial)) hxA U hU hW⟩ rfl rfl hl.1 rfl (lv_room (Nat.le_of_ble_eq_true rfl)) (hd 12 (.invokespecial 12) 3 rfl) ⟨Nat.le_of_ble_eq_true rfl, Nat.le_of_ble_eq_true rfl⟩) hS (fun q _ h => hFc q h) hFc (fun w8 t H1 locs ht hvm hv hB hz1 hk1 hS => ?_)
  obtain ⟨τ, ad8⟩ := w8
  obtain ⟨hv0, o8, hT8⟩ := hv
  obtain ⟨hP1, hD1⟩ := hB
  rw [ht] at hP1
  have hv0 : ad8 0 = q8 := hv0
  obtain ⟨v, hvw⟩ : ∃ v : va_W, v = yws yct kA ad8 ysh8 τ := ⟨_, rfl⟩
  have hP1 : va_P D vwCl v H1 := by rw [hvw]; exact hP1
  have hD1 : va_D (va_A [(q8, .inr (8, dX8))] H.size) v := by rw [hvw]; exact hD1
  have hPu := yP_l hP
  have hne : ∀ (i : Nat) (w : Nat × va_E), u[i]? = some w → ¬ va_A [(q8, .inr (8, dX8))] H.size w.1 := fun i w hi h => by
    rcases h with ⟨j, e, h⟩ | h
    · exact yD_x hD i j w (w.1, e) hi h rfl
    · have := (hPu i w hi).lt
      omega
  have hP2 : va_P D vwCl (u ++ v) H1 := va_P.app (hPu.kept (fun i w hi => hk1 w.1 (hPu i w hi).lt (hne i w hi))) hP1
  have hD2 : va_D A (u ++ v) := va_D.app (yD_l hD) (hD1.weaken (fun i w _ h => hFc w.1 h)) (fun i j w z hi hj e => hne i w hi (by rw [e]; exact hD1.2 j z hj))
  refine W.widen (k := 116) (n := 14159) (by omega) (by omega) ?_
  refine lv_astore_n (lv' := [(2, .ref q8), (1, .ref (ad7 0)), (0, .ref b)]) hx hb (hd 15 (.astore_n 2) 1 rfl) rfl hl (by decide) rfl (fun ls hl => ?_)
  refine lv_iconst (v := Int32.ofInt 0) hx hb (hd 16 (.iconst 0) 1 rfl) (by decide) ?_
  refine lv_istore_n (lv' := [(3, .int (Int32.ofInt 0)), (2, .ref q8), (1, .ref (ad7 0)), (0, .ref b)]) hx hb (hd 17 (.istore_n 3) 1 rfl) rfl hl (by decide) rfl (fun ls hl => ?_)
  subst hAe
  rw [← hv0] at hl
  rw [hu, hvw] at hP2 hD2
  exact ylaw_loop hN hc fin L 0 ls y7S τ H1 locs (by omega) (by omega) (by omega) ⟨y7S_ok, o8, yRR_0 hT8, hP2, hD2, hS, hl⟩
end
