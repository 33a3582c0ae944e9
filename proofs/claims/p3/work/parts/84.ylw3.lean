noncomputable def pr_lc_ahead : List (Nat × Instr × Nat) := [(778, .aload_n 1, 1), (779, .aload_n 0, 1), (780, .iload_n 3, 1), (781, .iconst 1, 1), (782, .iadd, 1), (783, .iaload, 1), (784, .aload_n 0, 1), (785, .iload_n 3, 1), (786, .iconst 2, 1), (787, .iadd, 1), (788, .iaload, 1), (789, .aload_n 0, 1), (790, .iload_n 3, 1), (791, .iconst 3, 1), (792, .iadd, 1), (793, .iaload, 1), (794, .invokevirtual 91, 3), (797, .pop, 1), (798, .aload_n 2, 1), (799, .aload_n 0, 1), (800, .iload_n 3, 1), (801, .iconst 1, 1), (802, .iadd, 1), (803, .iaload, 1), (804, .aload_n 0, 1), (805, .iload_n 3, 1), (806, .iconst 2, 1), (807, .iadd, 1), (808, .iaload, 1), (809, .aload_n 0, 1), (810, .iload_n 3, 1), (811, .iconst 3, 1), (812, .iadd, 1), (813, .iaload, 1), (814, .invokevirtual 95, 3), (817, .pop, 1), (818, .goto 524, 3)]
set_option maxRecDepth 100000 in
theorem hp_lc_ahead : pr_lc_ahead.all (fun x => decide (decode code x.1 = .ok x.2)) = true := by decide +kernel
set_option maxHeartbeats 4000000 in
set_option maxRecDepth 100000 in
theorem lc_ahead {N : Nat} (hN : 1000 ≤ N) {p : Program} {l : Launch} {e : Env} {s : State} {m : MethodId} {below : List Frame} {meth : Method} {c : Code} {cells slots : Nat} {Q : State → Prop} {b L : Nat} {xs : Nat → Int32} {D : va_G} {kA : Nat → ClassId} (hc : zLc p s m c b L xs D kA) {ad7 ad8 : Nat → Nat} {i : Int} {σ τ : yS} {H : Heap} {locs : List Loc} {ls : Array Slot} (hi : yLi s b D kA ad7 ad8 i σ τ H locs ls) (i0 : 0 ≤ i) (i1 : i + 5 ≤ (L : Int)) (hroom : cells ≤ room_1.cells ∧ slots ≤ room_1.slots)
    (kk : ∀ (σ τ : yS) (H : Heap) (locs : List Loc), yLi s b D kA ad7 ad8 i σ τ H locs ls → W p l e room_1 s m #[Value.ref b] below meth c H locs cells slots Q (F0 m 1342 ls [])) : W p l e room_1 s m #[Value.ref b] below meth c H locs cells slots Q (F0 m 778 ls []) := by
  obtain ⟨hx, hb, hml, hown, hts, hX, hbl, hK, hx0, hL⟩ := hc
  obtain ⟨o7, o8, hR, hP, hD, hS, hl⟩ := hi
  have hA : ∀ q : Nat, s.heap.size ≤ q → (fun q : Nat => s.heap.size ≤ q) q := fun _ h => h
  have hbA : ¬ (fun q : Nat => s.heap.size ≤ q) b := Nat.not_le.mpr hbl
  have hd := zpr_all hp_lc_ahead
  obtain ⟨a7, σ', τ', h7, h8, hR'⟩ : ∃ (a7 : Int) (σ' τ' : yS), f_X7_ahead N σ (xs (i + 1).toNat).toInt (xs (i + 2).toNat).toInt (xs (i + 3).toNat).toInt = some (a7, σ') ∧ f_X8_ahead N τ (xs (i + 1).toNat).toInt (xs (i + 2).toNat).toInt (xs (i + 3).toNat).toInt = some (a7, τ') ∧ yRR σ' τ' := P_ahead (by omega) hR
  refine lv_aload_n hx hb (hd 778 (.aload_n 1) 1 rfl) rfl (lv_at hl 2 rfl) ?_
  refine lv_aload_n hx hb (hd 779 (.aload_n 0) 1 rfl) rfl (lv_at hl 3 rfl) ?_
  refine lv_iload_n hx hb (hd 780 (.iload_n 3) 1 rfl) rfl (lv_at hl 0 rfl) ?_
  refine lv_iconst (v := Int32.ofInt 1) hx hb (hd 781 (.iconst 1) 1 rfl) (by decide) ?_
  refine zh_iadd hx hb (hd 782 .iadd 1 rfl) ?_
  refine yl_ld hx hb hX hbl hbA hS (x := i + 1) (by omega) (by omega) hL (hd 783 .iaload 1 rfl) ?_
  refine lv_aload_n hx hb (hd 784 (.aload_n 0) 1 rfl) rfl (lv_at hl 3 rfl) ?_
  refine lv_iload_n hx hb (hd 785 (.iload_n 3) 1 rfl) rfl (lv_at hl 0 rfl) ?_
  refine lv_iconst (v := Int32.ofInt 2) hx hb (hd 786 (.iconst 2) 1 rfl) (by decide) ?_
  refine zh_iadd hx hb (hd 787 .iadd 1 rfl) ?_
  refine yl_ld hx hb hX hbl hbA hS (x := i + 2) (by omega) (by omega) hL (hd 788 .iaload 1 rfl) ?_
  refine lv_aload_n hx hb (hd 789 (.aload_n 0) 1 rfl) rfl (lv_at hl 3 rfl) ?_
  refine lv_iload_n hx hb (hd 790 (.iload_n 3) 1 rfl) rfl (lv_at hl 0 rfl) ?_
  refine lv_iconst (v := Int32.ofInt 3) hx hb (hd 791 (.iconst 3) 1 rfl) (by decide) ?_
  refine zh_iadd hx hb (hd 792 .iadd 1 rfl) ?_
  refine yl_ld hx hb hX hbl hbA hS (x := i + 3) (by omega) (by omega) hL (hd 793 .iaload 1 rfl) ?_
  refine ycallG (as := [.inl (.inl (xs (i + 1).toNat).toInt), .inl (.inl (xs (i + 2).toNat).toInt), .inl (.inl (xs (i + 3).toNat).toInt)]) (rest := []) zX_ok ⟨hx, hb, hml, hown, hts⟩ (m_X7_ahead (N := N) zX_ok zX_n l) (ci := 7) rfl (cwV 3 hts gL_law_X7_ahead rfl rfl rfl (by decide +kernel) ⟨Nat.le_of_ble_eq_true rfl, Nat.le_of_ble_eq_true rfl⟩) rfl hK o7 rfl (List.forall_mem_cons.mpr ⟨zq_rng _, List.forall_mem_cons.mpr ⟨zq_rng _, List.forall_mem_cons.mpr ⟨zq_rng _, fun _ h => absurd h List.not_mem_nil⟩⟩⟩) (e_X7_ahead h7) hP hD hS hA hx0 hl.1 (Nat.le_of_ble_eq_true rfl) (hd 794 (.invokevirtual 91) 3 rfl) hroom (fun H locs o7 _ hP hD hS => ?_)
  show W p l e room_1 s m #[Value.ref b] below meth c H locs cells slots Q (F0 m 797 ls [.int (Int32.ofInt a7)])
  refine lv_pop hx hb (hd 797 .pop 1 rfl) rfl ?_
  refine lv_aload_n hx hb (hd 798 (.aload_n 2) 1 rfl) rfl (lv_at hl 1 rfl) ?_
  refine lv_aload_n hx hb (hd 799 (.aload_n 0) 1 rfl) rfl (lv_at hl 3 rfl) ?_
  refine lv_iload_n hx hb (hd 800 (.iload_n 3) 1 rfl) rfl (lv_at hl 0 rfl) ?_
  refine lv_iconst (v := Int32.ofInt 1) hx hb (hd 801 (.iconst 1) 1 rfl) (by decide) ?_
  refine zh_iadd hx hb (hd 802 .iadd 1 rfl) ?_
  refine yl_ld hx hb hX hbl hbA hS (x := i + 1) (by omega) (by omega) hL (hd 803 .iaload 1 rfl) ?_
  refine lv_aload_n hx hb (hd 804 (.aload_n 0) 1 rfl) rfl (lv_at hl 3 rfl) ?_
  refine lv_iload_n hx hb (hd 805 (.iload_n 3) 1 rfl) rfl (lv_at hl 0 rfl) ?_
  refine lv_iconst (v := Int32.ofInt 2) hx hb (hd 806 (.iconst 2) 1 rfl) (by decide) ?_
  refine zh_iadd hx hb (hd 807 .iadd 1 rfl) ?_
  refine yl_ld hx hb hX hbl hbA hS (x := i + 2) (by omega) (by omega) hL (hd 808 .iaload 1 rfl) ?_
  refine lv_aload_n hx hb (hd 809 (.aload_n 0) 1 rfl) rfl (lv_at hl 3 rfl) ?_
  refine lv_iload_n hx hb (hd 810 (.iload_n 3) 1 rfl) rfl (lv_at hl 0 rfl) ?_
  refine lv_iconst (v := Int32.ofInt 3) hx hb (hd 811 (.iconst 3) 1 rfl) (by decide) ?_
  refine zh_iadd hx hb (hd 812 .iadd 1 rfl) ?_
  refine yl_ld hx hb hX hbl hbA hS (x := i + 3) (by omega) (by omega) hL (hd 813 .iaload 1 rfl) ?_
  refine ycallG (as := [.inl (.inl (xs (i + 1).toNat).toInt), .inl (.inl (xs (i + 2).toNat).toInt), .inl (.inl (xs (i + 3).toNat).toInt)]) (rest := []) zX_ok ⟨hx, hb, hml, hown, hts⟩ (m_X8_ahead (N := N) zX_ok zX_n l) (ci := 8) rfl (cwV 3 hts gL_law_X8_ahead rfl rfl rfl (by decide +kernel) ⟨Nat.le_of_ble_eq_true rfl, Nat.le_of_ble_eq_true rfl⟩) rfl hK o8 rfl (List.forall_mem_cons.mpr ⟨zq_rng _, List.forall_mem_cons.mpr ⟨zq_rng _, List.forall_mem_cons.mpr ⟨zq_rng _, fun _ h => absurd h List.not_mem_nil⟩⟩⟩) (e_X8_ahead h8) hP hD hS hA hx0 hl.1 (Nat.le_of_ble_eq_true rfl) (hd 814 (.invokevirtual 95) 3 rfl) hroom (fun H locs o8 _ hP hD hS => ?_)
  show W p l e room_1 s m #[Value.ref b] below meth c H locs cells slots Q (F0 m 817 ls [.int (Int32.ofInt a7)])
  refine lv_pop hx hb (hd 817 .pop 1 rfl) rfl ?_
  refine lv_goto (tgt := 1342) hx hb (hd 818 (.goto 524) 3 rfl) (by decide) ?_
  exact kk σ' τ' H locs ⟨o7, o8, hR', hP, hD, hS, hl⟩
noncomputable def pr_lc_rest : List (Nat × Instr × Nat) := [(821, .aload_n 1, 1), (822, .invokevirtual 96, 3), (825, .pop, 1), (826, .aload_n 2, 1), (827, .invokevirtual 99, 3), (830, .pop, 1), (831, .goto 511, 3)]
set_option maxRecDepth 100000 in
theorem hp_lc_rest : pr_lc_rest.all (fun x => decide (decode code x.1 = .ok x.2)) = true := by decide +kernel
set_option maxHeartbeats 4000000 in
set_option maxRecDepth 100000 in
theorem lc_rest {N : Nat} (hN : 1000 ≤ N) {p : Program} {l : Launch} {e : Env} {s : State} {m : MethodId} {below : List Frame} {meth : Method} {c : Code} {cells slots : Nat} {Q : State → Prop} {b L : Nat} {xs : Nat → Int32} {D : va_G} {kA : Nat → ClassId} (hc : zLc p s m c b L xs D kA) {ad7 ad8 : Nat → Nat} {i : Int} {σ τ : yS} {H : Heap} {locs : List Loc} {ls : Array Slot} (hi : yLi s b D kA ad7 ad8 i σ τ H locs ls) (i0 : 0 ≤ i) (i1 : i + 5 ≤ (L : Int)) (hroom : cells ≤ room_1.cells ∧ slots ≤ room_1.slots)
    (kk : ∀ (σ τ : yS) (H : Heap) (locs : List Loc), yLi s b D kA ad7 ad8 i σ τ H locs ls → W p l e room_1 s m #[Value.ref b] below meth c H locs cells slots Q (F0 m 1342 ls [])) : W p l e room_1 s m #[Value.ref b] below meth c H locs cells slots Q (F0 m 821 ls []) := by
  obtain ⟨hx, hb, hml, hown, hts, hX, hbl, hK, hx0, hL⟩ := hc
  obtain ⟨o7, o8, hR, hP, hD, hS, hl⟩ := hi
  have hA : ∀ q : Nat, s.heap.size ≤ q → (fun q : Nat => s.heap.size ≤ q) q := fun _ h => h
  have hbA : ¬ (fun q : Nat => s.heap.size ≤ q) b := Nat.not_le.mpr hbl
  have hd := zpr_all hp_lc_rest
  obtain ⟨a7, σ', τ', h7, h8, hR'⟩ : ∃ (a7 : Int) (σ' τ' : yS), f_X7_rest N σ = some (a7, σ') ∧ f_X8_rest N τ = some (a7, τ') ∧ yRR σ' τ' := P_rest (by omega) hR
  refine lv_aload_n hx hb (hd 821 (.aload_n 1) 1 rfl) rfl (lv_at hl 2 rfl) ?_
  refine ycallG (as := []) (rest := []) zX_ok ⟨hx, hb, hml, hown, hts⟩ (m_X7_rest (N := N) zX_ok zX_n l) (ci := 7) rfl (cwV 0 hts gL_law_X7_rest rfl rfl rfl (by decide +kernel) ⟨Nat.le_of_ble_eq_true rfl, Nat.le_of_ble_eq_true rfl⟩) rfl hK o7 rfl (fun _ h => absurd h List.not_mem_nil) (e_X7_rest h7) hP hD hS hA hx0 hl.1 (Nat.le_of_ble_eq_true rfl) (hd 822 (.invokevirtual 96) 3 rfl) hroom (fun H locs o7 _ hP hD hS => ?_)
  show W p l e room_1 s m #[Value.ref b] below meth c H locs cells slots Q (F0 m 825 ls [.int (Int32.ofInt a7)])
  refine lv_pop hx hb (hd 825 .pop 1 rfl) rfl ?_
  refine lv_aload_n hx hb (hd 826 (.aload_n 2) 1 rfl) rfl (lv_at hl 1 rfl) ?_
  refine ycallG (as := []) (rest := []) zX_ok ⟨hx, hb, hml, hown, hts⟩ (m_X8_rest (N := N) zX_ok zX_n l) (ci := 8) rfl (cwV 0 hts gL_law_X8_rest rfl rfl rfl (by decide +kernel) ⟨Nat.le_of_ble_eq_true rfl, Nat.le_of_ble_eq_true rfl⟩) rfl hK o8 rfl (fun _ h => absurd h List.not_mem_nil) (e_X8_rest h8) hP hD hS hA hx0 hl.1 (Nat.le_of_ble_eq_true rfl) (hd 827 (.invokevirtual 99) 3 rfl) hroom (fun H locs o8 _ hP hD hS => ?_)
  show W p l e room_1 s m #[Value.ref b] below meth c H locs cells slots Q (F0 m 830 ls [.int (Int32.ofInt a7)])
  refine lv_pop hx hb (hd 830 .pop 1 rfl) rfl ?_
  refine lv_goto (tgt := 1342) hx hb (hd 831 (.goto 511) 3 rfl) (by decide) ?_
  exact kk σ' τ' H locs ⟨o7, o8, hR', hP, hD, hS, hl⟩
noncomputable def pr_lc_plan : List (Nat × Instr × Nat) := [(834, .aload_n 1, 1), (835, .aload_n 0, 1), (836, .iload_n 3, 1), (837, .iconst 1, 1), (838, .iadd, 1), (839, .iaload, 1), (840, .invokevirtual 100, 3), (843, .pop, 1), (844, .aload_n 2, 1), (845, .aload_n 0, 1), (846, .iload_n 3, 1), (847, .iconst 1, 1), (848, .iadd, 1), (849, .iaload, 1), (850, .invokevirtual 103, 3), (853, .pop, 1), (854, .goto 488, 3)]
set_option maxRecDepth 100000 in
theorem hp_lc_plan : pr_lc_plan.all (fun x => decide (decode code x.1 = .ok x.2)) = true := by decide +kernel
set_option maxHeartbeats 4000000 in
set_option maxRecDepth 100000 in
theorem lc_plan {N : Nat} (hN : 1000 ≤ N) {p : Program} {l : Launch} {e : Env} {s : State} {m : MethodId} {below : List Frame} {meth : Method} {c : Code} {cells slots : Nat} {Q : State → Prop} {b L : Nat} {xs : Nat → Int32} {D : va_G} {kA : Nat → ClassId} (hc : zLc p s m c b L xs D kA) {ad7 ad8 : Nat → Nat} {i : Int} {σ τ : yS} {H : Heap} {locs : List Loc} {ls : Array Slot} (hi : yLi s b D kA ad7 ad8 i σ τ H locs ls) (i0 : 0 ≤ i) (i1 : i + 5 ≤ (L : Int)) (hroom : cells ≤ room_1.cells ∧ slots ≤ room_1.slots)
    (kk : ∀ (σ τ : yS) (H : Heap) (locs : List Loc), yLi s b D kA ad7 ad8 i σ τ H locs ls → W p l e room_1 s m #[Value.ref b] below meth c H locs cells slots Q (F0 m 1342 ls [])) : W p l e room_1 s m #[Value.ref b] below meth c H locs cells slots Q (F0 m 834 ls []) := by
  obtain ⟨hx, hb, hml, hown, hts, hX, hbl, hK, hx0, hL⟩ := hc
  obtain ⟨o7, o8, hR, hP, hD, hS, hl⟩ := hi
  have hA : ∀ q : Nat, s.heap.size ≤ q → (fun q : Nat => s.heap.size ≤ q) q := fun _ h => h
  have hbA : ¬ (fun q : Nat => s.heap.size ≤ q) b := Nat.not_le.mpr hbl
  have hd := zpr_all hp_lc_plan
  obtain ⟨a7, a8, σ', τ', h7, h8, hR'⟩ : ∃ (a7 a8 : Int) (σ' τ' : yS), f_X7_plan N σ (xs (i + 1).toNat).toInt = some (a7, σ') ∧ f_X8_plan N τ (xs (i + 1).toNat).toInt = some (a8, τ') ∧ yRR σ' τ' := P_plan hN hR
  refine lv_aload_n hx hb (hd 834 (.aload_n 1) 1 rfl) rfl (lv_at hl 2 rfl) ?_
  refine lv_aload_n hx hb (hd 835 (.aload_n 0) 1 rfl) rfl (lv_at hl 3 rfl) ?_
  refine lv_iload_n hx hb (hd 836 (.iload_n 3) 1 rfl) rfl (lv_at hl 0 rfl) ?_
  refine lv_iconst (v := Int32.ofInt 1) hx hb (hd 837 (.iconst 1) 1 rfl) (by decide) ?_
  refine zh_iadd hx hb (hd 838 .iadd 1 rfl) ?_
  refine yl_ld hx hb hX hbl hbA hS (x := i + 1) (by omega) (by omega) hL (hd 839 .iaload 1 rfl) ?_
  refine ycallG (as := [.inl (.inl (xs (i + 1).toNat).toInt)]) (rest := []) zX_ok ⟨hx, hb, hml, hown, hts⟩ (m_X7_plan (N := N) zX_ok zX_n l) (ci := 7) rfl (cwV 1 hts gL_law_X7_plan rfl rfl rfl (by decide +kernel) ⟨Nat.le_of_ble_eq_true rfl, Nat.le_of_ble_eq_true rfl⟩) rfl hK o7 rfl (List.forall_mem_cons.mpr ⟨zq_rng _, fun _ h => absurd h List.not_mem_nil⟩) (e_X7_plan h7) hP hD hS hA hx0 hl.1 (Nat.le_of_ble_eq_true rfl) (hd 840 (.invokevirtual 100) 3 rfl) hroom (fun H locs o7 _ hP hD hS => ?_)
  show W p l e room_1 s m #[Value.ref b] below meth c H locs cells slots Q (F0 m 843 ls [.int (Int32.ofInt a7)])
  refine lv_pop hx hb (hd 843 .pop 1 rfl) rfl ?_
  refine lv_aload_n hx hb (hd 844 (.aload_n 2) 1 rfl) rfl (lv_at hl 1 rfl) ?_
  refine lv_aload_n hx hb (hd 845 (.aload_n 0) 1 rfl) rfl (lv_at hl 3 rfl) ?_
  refine lv_iload_n hx hb (hd 846 (.iload_n 3) 1 rfl) rfl (lv_at hl 0 rfl) ?_
  refine lv_iconst (v := Int32.ofInt 1) hx hb (hd 847 (.iconst 1) 1 rfl) (by decide) ?_
  refine zh_iadd hx hb (hd 848 .iadd 1 rfl) ?_
  refine yl_ld hx hb hX hbl hbA hS (x := i + 1) (by omega) (by omega) hL (hd 849 .iaload 1 rfl) ?_
  refine ycallG (as := [.inl (.inl (xs (i + 1).toNat).toInt)]) (rest := []) zX_ok ⟨hx, hb, hml, hown, hts⟩ (m_X8_plan (N := N) zX_ok zX_n l) (ci := 8) rfl (cwV 1 hts gL_law_X8_plan rfl rfl rfl (by decide +kernel) ⟨Nat.le_of_ble_eq_true rfl, Nat.le_of_ble_eq_true rfl⟩) rfl hK o8 rfl (List.forall_mem_cons.mpr ⟨zq_rng _, fun _ h => absurd h List.not_mem_nil⟩) (e_X8_plan h8) hP hD hS hA hx0 hl.1 (Nat.le_of_ble_eq_true rfl) (hd 850 (.invokevirtual 103) 3 rfl) hroom (fun H locs o8 _ hP hD hS => ?_)
  show W p l e room_1 s m #[Value.ref b] below meth c H locs cells slots Q (F0 m 853 ls [.int (Int32.ofInt a8)])
  refine lv_pop hx hb (hd 853 .pop 1 rfl) rfl ?_
  refine lv_goto (tgt := 1342) hx hb (hd 854 (.goto 488) 3 rfl) (by decide) ?_
  exact kk σ' τ' H locs ⟨o7, o8, hR', hP, hD, hS, hl⟩
noncomputable def pr_lc_who : List (Nat × Instr × Nat) := [(857, .aload_n 1, 1), (858, .aload_n 0, 1), (859, .iload_n 3, 1), (860, .iconst 1, 1), (861, .iadd, 1), (862, .iaload, 1), (863, .aload_n 0, 1), (864, .iload_n 3, 1), (865, .iconst 2, 1), (866, .iadd, 1), (867, .iaload, 1), (868, .aload_n 0, 1), (869, .iload_n 3, 1), (870, .iconst 3, 1), (871, .iadd, 1), (872, .iaload, 1), (873, .invokevirtual 104, 3), (876, .pop, 1), (877, .aload_n 2, 1), (878, .aload_n 0, 1), (879, .iload_n 3, 1), (880, .iconst 1, 1), (881, .iadd, 1), (882, .iaload, 1), (883, .aload_n 0, 1), (884, .iload_n 3, 1), (885, .iconst 2, 1), (886, .iadd, 1), (887, .iaload, 1), (888, .aload_n 0, 1), (889, .iload_n 3, 1), (890, .iconst 3, 1), (891, .iadd, 1), (892, .iaload, 1), (893, .invokevirtual 107, 3), (896, .pop, 1), (897, .goto 445, 3)]
set_option maxRecDepth 100000 in
theorem hp_lc_who : pr_lc_who.all (fun x => decide (decode code x.1 = .ok x.2)) = true := by decide +kernel
set_option maxHeartbeats 4000000 in
set_option maxRecDepth 100000 in
theorem lc_who {N : Nat} (hN : 1000 ≤ N) {p : Program} {l : Launch} {e : Env} {s : State} {m : MethodId} {below : List Frame} {meth : Method} {c : Code} {cells slots : Nat} {Q : State → Prop} {b L : Nat} {xs : Nat → Int32} {D : va_G} {kA : Nat → ClassId} (hc : zLc p s m c b L xs D kA) {ad7 ad8 : Nat → Nat} {i : Int} {σ τ : yS} {H : Heap} {locs : List Loc} {ls : Array Slot} (hi : yLi s b D kA ad7 ad8 i σ τ H locs ls) (i0 : 0 ≤ i) (i1 : i + 5 ≤ (L : Int)) (hroom : cells ≤ room_1.cells ∧ slots ≤ room_1.slots)
    (kk : ∀ (σ τ : yS) (H : Heap) (locs : List Loc), yLi s b D kA ad7 ad8 i σ τ H locs ls → W p l e room_1 s m #[Value.ref b] below meth c H locs cells slots Q (F0 m 1342 ls [])) : W p l e room_1 s m #[Value.ref b] below meth c H locs cells slots Q (F0 m 857 ls []) := by
  obtain ⟨hx, hb, hml, hown, hts, hX, hbl, hK, hx0, hL⟩ := hc
  obtain ⟨o7, o8, hR, hP, hD, hS, hl⟩ := hi
  have hA : ∀ q : Nat, s.heap.size ≤ q → (fun q : Nat => s.heap.size ≤ q) q := fun _ h => h
  have hbA : ¬ (fun q : Nat => s.heap.size ≤ q) b := Nat.not_le.mpr hbl
  have hd := zpr_all hp_lc_who
  obtain ⟨a7, σ', τ', h7, h8, hR'⟩ : ∃ (a7 : Int) (σ' τ' : yS), f_X7_who N σ (xs (i + 1).toNat).toInt (xs (i + 2).toNat).toInt (xs (i + 3).toNat).toInt = some (a7, σ') ∧ f_X8_who N τ (xs (i + 1).toNat).toInt (xs (i + 2).toNat).toInt (xs (i + 3).toNat).toInt = some (a7, τ') ∧ yRR σ' τ' := P_who (by omega) hR
  refine lv_aload_n hx hb (hd 857 (.aload_n 1) 1 rfl) rfl (lv_at hl 2 rfl) ?_
  refine lv_aload_n hx hb (hd 858 (.aload_n 0) 1 rfl) rfl (lv_at hl 3 rfl) ?_
  refine lv_iload_n hx hb (hd 859 (.iload_n 3) 1 rfl) rfl (lv_at hl 0 rfl) ?_
  refine lv_iconst (v := Int32.ofInt 1) hx hb (hd 860 (.iconst 1) 1 rfl) (by decide) ?_
  refine zh_iadd hx hb (hd 861 .iadd 1 rfl) ?_
  refine yl_ld hx hb hX hbl hbA hS (x := i + 1) (by omega) (by omega) hL (hd 862 .iaload 1 rfl) ?_
  refine lv_aload_n hx hb (hd 863 (.aload_n 0) 1 rfl) rfl (lv_at hl 3 rfl) ?_
  refine lv_iload_n hx hb (hd 864 (.iload_n 3) 1 rfl) rfl (lv_at hl 0 rfl) ?_
  refine lv_iconst (v := Int32.ofInt 2) hx hb (hd 865 (.iconst 2) 1 rfl) (by decide) ?_
  refine zh_iadd hx hb (hd 866 .iadd 1 rfl) ?_
  refine yl_ld hx hb hX hbl hbA hS (x := i + 2) (by omega) (by omega) hL (hd 867 .iaload 1 rfl) ?_
  refine lv_aload_n hx hb (hd 868 (.aload_n 0) 1 rfl) rfl (lv_at hl 3 rfl) ?_
  refine lv_iload_n hx hb (hd 869 (.iload_n 3) 1 rfl) rfl (lv_at hl 0 rfl) ?_
  refine lv_iconst (v := Int32.ofInt 3) hx hb (hd 870 (.iconst 3) 1 rfl) (by decide) ?_
  refine zh_iadd hx hb (hd 871 .iadd 1 rfl) ?_
  refine yl_ld hx hb hX hbl hbA hS (x := i + 3) (by omega) (by omega) hL (hd 872 .iaload 1 rfl) ?_
  refine ycallG (as := [.inl (.inl (xs (i + 1).toNat).toInt), .inl (.inl (xs (i + 2).toNat).toInt), .inl (.inl (xs (i + 3).toNat).toInt)]) (rest := []) zX_ok ⟨hx, hb, hml, hown, hts⟩ (m_X7_who (N := N) zX_ok zX_n l) (ci := 7) rfl (cwV 3 hts gL_law_X7_who rfl rfl rfl (by decide +kernel) ⟨Nat.le_of_ble_eq_true rfl, Nat.le_of_ble_eq_true rfl⟩) rfl hK o7 rfl (List.forall_mem_cons.mpr ⟨zq_rng _, List.forall_mem_cons.mpr ⟨zq_rng _, List.forall_mem_cons.mpr ⟨zq_rng _, fun _ h => absurd h List.not_mem_nil⟩⟩⟩) (e_X7_who h7) hP hD hS hA hx0 hl.1 (Nat.le_of_ble_eq_true rfl) (hd 873 (.invokevirtual 104) 3 rfl) hroom (fun H locs o7 _ hP hD hS => ?_)
  show W p l e room_1 s m #[Value.ref b] below meth c H locs cells slots Q (F0 m 876 ls [.int (Int32.ofInt a7)])
  refine lv_pop hx hb (hd 876 .pop 1 rfl) rfl ?_
  refine lv_aload_n hx hb (hd 877 (.aload_n 2) 1 rfl) rfl (lv_at hl 1 rfl) ?_
  refine lv_aload_n hx hb (hd 878 (.aload_n 0) 1 rfl) rfl (lv_at hl 3 rfl) ?_
  refine lv_iload_n hx hb (hd 879 (.iload_n 3) 1 rfl) rfl (lv_at hl 0 rfl) ?_
  refine lv_iconst (v := Int32.ofInt 1) hx hb (hd 880 (.iconst 1) 1 rfl) (by decide) ?_
  refine zh_iadd hx hb (hd 881 .iadd 1 rfl) ?_
  refine yl_ld hx hb hX hbl hbA hS (x := i + 1) (by omega) (by omega) hL (hd 882 .iaload 1 rfl) ?_
  refine lv_aload_n hx hb (hd 883 (.aload_n 0) 1 rfl) rfl (lv_at hl 3 rfl) ?_
  refine lv_iload_n hx hb (hd 884 (.iload_n 3) 1 rfl) rfl (lv_at hl 0 rfl) ?_
  refine lv_iconst (v := Int32.ofInt 2) hx hb (hd 885 (.iconst 2) 1 rfl) (by decide) ?_
  refine zh_iadd hx hb (hd 886 .iadd 1 rfl) ?_
  refine yl_ld hx hb hX hbl hbA hS (x := i + 2) (by omega) (by omega) hL (hd 887 .iaload 1 rfl) ?_
  refine lv_aload_n hx hb (hd 888 (.aload_n 0) 1 rfl) rfl (lv_at hl 3 rfl) ?_
  refine lv_iload_n hx hb (hd 889 (.iload_n 3) 1 rfl) rfl (lv_at hl 0 rfl) ?_
  refine lv_iconst (v := Int32.ofInt 3) hx hb (hd 890 (.iconst 3) 1 rfl) (by decide) ?_
  refine zh_iadd hx hb (hd 891 .iadd 1 rfl) ?_
  refine yl_ld hx hb hX hbl hbA hS (x := i + 3) (by omega) (by omega) hL (hd 892 .iaload 1 rfl) ?_
  refine ycallG (as := [.inl (.inl (xs (i + 1).toNat).toInt), .inl (.inl (xs (i + 2).toNat).toInt), .inl (.inl (xs (i + 3).toNat).toInt)]) (rest := []) zX_ok ⟨hx, hb, hml, hown, hts⟩ (m_X8_who (N := N) zX_ok zX_n l) (ci := 8) rfl (cwV 3 hts gL_law_X8_who rfl rfl rfl (by decide +kernel) ⟨Nat.le_of_ble_eq_true rfl, Nat.le_of_ble_eq_true rfl⟩) rfl hK o8 rfl (List.forall_mem_cons.mpr ⟨zq_rng _, List.forall_mem_cons.mpr ⟨zq_rng _, List.forall_mem_cons.mpr ⟨zq_rng _, fun _ h => absurd h List.not_mem_nil⟩⟩⟩) (e_X8_who h8) hP hD hS hA hx0 hl.1 (Nat.le_of_ble_eq_true rfl) (hd 893 (.invokevirtual 107) 3 rfl) hroom (fun H locs o8 _ hP hD hS => ?_)
  show W p l e room_1 s m #[Value.ref b] below meth c H locs cells slots Q (F0 m 896 ls [.int (Int32.ofInt a7)])
  refine lv_pop hx hb (hd 896 .pop 1 rfl) rfl ?_
  refine lv_goto (tgt := 1342) hx hb (hd 897 (.goto 445) 3 rfl) (by decide) ?_
  exact kk σ' τ' H locs ⟨o7, o8, hR', hP, hD, hS, hl⟩
noncomputable def pr_lc_ways : List (Nat × Instr × Nat) := [(900, .aload_n 1, 1), (901, .aload_n 0, 1), (902, .iload_n 3, 1), (903, .iconst 1, 1), (904, .iadd, 1), (905, .iaload, 1), (906, .aload_n 0, 1), (907, .iload_n 3, 1), (908, .iconst 2, 1), (909, .iadd, 1), (910, .iaload, 1), (911, .aload_n 0, 1), (912, .iload_n 3, 1), (913, .iconst 3, 1), (914, .iadd, 1), (915, .iaload, 1), (916, .invokevirtual 108, 3), (919, .pop, 1), (920, .aload_n 2, 1), (921, .aload_n 0, 1), (922, .iload_n 3, 1), (923, .iconst 1, 1), (924, .iadd, 1), (925, .iaload, 1), (926, .aload_n 0, 1), (927, .iload_n 3, 1), (928, .iconst 2, 1), (929, .iadd, 1), (930, .iaload, 1), (931, .aload_n 0, 1), (932, .iload_n 3, 1), (933, .iconst 3, 1), (934, .iadd, 1), (935, .iaload, 1), (936, .invokevirtual 111, 3), (939, .pop, 1), (940, .goto 402, 3)]
set_option maxRecDepth 100000 in
theorem hp_lc_ways : pr_lc_ways.all (fun x => decide (decode code x.1 = .ok x.2)) = true := by decide +kernel
set_option maxHeartbeats 4000000 in
set_option maxRecDepth 100000 in
theorem lc_ways {N : Nat} (hN : 1000 ≤ N) {p : Program} {l : Launch} {e : Env} {s : State} {m : MethodId} {below : List Frame} {meth : Method} {c : Code} {cells slots : Nat} {Q : State → Prop} {b L : Nat} {xs : Nat → Int32} {D : va_G} {kA : Nat → ClassId} (hc : zLc p s m c b L xs D kA) {ad7 ad8 : Nat → Nat} {i : Int} {σ τ : yS} {H : Heap} {locs : List Loc} {ls : Array Slot} (hi : yLi s b D kA ad7 ad8 i σ τ H locs ls) (i0 : 0 ≤ i) (i1 : i + 5 ≤ (L : Int)) (hroom : cells ≤ room_1.cells ∧ slots ≤ room_1.slots)
    (kk : ∀ (σ τ : yS) (H : Heap) (locs : List Loc), yLi s b D kA ad7 ad8 i σ τ H locs ls → W p l e room_1 s m #[Value.ref b] below meth c H locs cells slots Q (F0 m 1342 ls [])) : W p l e room_1 s m #[Value.ref b] below meth c H locs cells slots Q (F0 m 900 ls []) := by
  obtain ⟨hx, hb, hml, hown, hts, hX, hbl, hK, hx0, hL⟩ := hc
  obtain ⟨o7, o8, hR, hP, hD, hS, hl⟩ := hi
  have hA : ∀ q : Nat, s.heap.size ≤ q → (fun q : Nat => s.heap.size ≤ q) q := fun _ h => h
  have hbA : ¬ (fun q : Nat => s.heap.size ≤ q) b := Nat.not_le.mpr hbl
  have hd := zpr_all hp_lc_ways
  obtain ⟨a7, σ', τ', h7, h8, hR'⟩ : ∃ (a7 : Int) (σ' τ' : yS), f_X7_ways N σ (xs (i + 1).toNat).toInt (xs (i + 2).toNat).toInt (xs (i + 3).toNat).toInt = some (a7, σ') ∧ f_X8_ways N τ (xs (i + 1).toNat).toInt (xs (i + 2).toNat).toInt (xs (i + 3).toNat).toInt = some (a7, τ') ∧ yRR σ' τ' := P_ways hN hR
  refine lv_aload_n hx hb (hd 900 (.aload_n 1) 1 rfl) rfl (lv_at hl 2 rfl) ?_
  refine lv_aload_n hx hb (hd 901 (.aload_n 0) 1 rfl) rfl (lv_at hl 3 rfl) ?_
  refine lv_iload_n hx hb (hd 902 (.iload_n 3) 1 rfl) rfl (lv_at hl 0 rfl) ?_
  refine lv_iconst (v := Int32.ofInt 1) hx hb (hd 903 (.iconst 1) 1 rfl) (by decide) ?_
  refine zh_iadd hx hb (hd 904 .iadd 1 rfl) ?_
  refine yl_ld hx hb hX hbl hbA hS (x := i + 1) (by omega) (by omega) hL (hd 905 .iaload 1 rfl) ?_
  refine lv_aload_n hx hb (hd 906 (.aload_n 0) 1 rfl) rfl (lv_at hl 3 rfl) ?_
  refine lv_iload_n hx hb (hd 907 (.iload_n 3) 1 rfl) rfl (lv_at hl 0 rfl) ?_
  refine lv_iconst (v := Int32.ofInt 2) hx hb (hd 908 (.iconst 2) 1 rfl) (by decide) ?_
  refine zh_iadd hx hb (hd 909 .iadd 1 rfl) ?_
  refine yl_ld hx hb hX hbl hbA hS (x := i + 2) (by omega) (by omega) hL (hd 910 .iaload 1 rfl) ?_
  refine lv_aload_n hx hb (hd 911 (.aload_n 0) 1 rfl) rfl (lv_at hl 3 rfl) ?_
  refine lv_iload_n hx hb (hd 912 (.iload_n 3) 1 rfl) rfl (lv_at hl 0 rfl) ?_
  refine lv_iconst (v := Int32.ofInt 3) hx hb (hd 913 (.iconst 3) 1 rfl) (by decide) ?_
  refine zh_iadd hx hb (hd 914 .iadd 1 rfl) ?_
  refine yl_ld hx hb hX hbl hbA hS (x := i + 3) (by omega) (by omega) hL (hd 915 .iaload 1 rfl) ?_
  refine ycallG (as := [.inl (.inl (xs (i + 1).toNat).toInt), .inl (.inl (xs (i + 2).toNat).toInt), .inl (.inl (xs (i + 3).toNat).toInt)]) (rest := []) zX_ok ⟨hx, hb, hml, hown, hts⟩ (m_X7_ways (N := N) zX_ok zX_n l) (ci := 7) rfl (cwV 3 hts gL_law_X7_ways rfl rfl rfl (by decide +kernel) ⟨Nat.le_of_ble_eq_true rfl, Nat.le_of_ble_eq_true rfl⟩) rfl hK o7 rfl (List.forall_mem_cons.mpr ⟨zq_rng _, List.forall_mem_cons.mpr ⟨zq_rng _, List.forall_mem_cons.mpr ⟨zq_rng _, fun _ h => absurd h List.not_mem_nil⟩⟩⟩) (e_X7_ways h7) hP hD hS hA hx0 hl.1 (Nat.le_of_ble_eq_true rfl) (hd 916 (.invokevirtual 108) 3 rfl) hroom (fun H locs o7 _ hP hD hS => ?_)
  show W p l e room_1 s m #[Value.ref b] below meth c H locs cells slots Q (F0 m 919 ls [.int (Int32.ofInt a7)])
  refine lv_pop hx hb (hd 919 .pop 1 rfl) rfl ?_
  refine lv_aload_n hx hb (hd 920 (.aload_n 2) 1 rfl) rfl (lv_at hl 1 rfl) ?_
  refine lv_aload_n hx hb (hd 921 (.aload_n 0) 1 rfl) rfl (lv_at hl 3 rfl) ?_
  refine lv_iload_n hx hb (hd 922 (.iload_n 3) 1 rfl) rfl (lv_at hl 0 rfl) ?_
  refine lv_iconst (v := Int32.ofInt 1) hx hb (hd 923 (.iconst 1) 1 rfl) (by decide) ?_
  refine zh_iadd hx hb (hd 924 .iadd 1 rfl) ?_
  refine yl_ld hx hb hX hbl hbA hS (x := i + 1) (by omega) (by omega) hL (hd 925 .iaload 1 rfl) ?_
  refine lv_aload_n hx hb (hd 926 (.aload_n 0) 1 rfl) rfl (lv_at hl 3 rfl) ?_
  refine lv_iload_n hx hb (hd 927 (.iload_n 3) 1 rfl) rfl (lv_at hl 0 rfl) ?_
  refine lv_iconst (v := Int32.ofInt 2) hx hb (hd 928 (.iconst 2) 1 rfl) (by decide) ?_
  refine zh_iadd hx hb (hd 929 .iadd 1 rfl) ?_
  refine yl_ld hx hb hX hbl hbA hS (x := i + 2) (by omega) (by omega) hL (hd 930 .iaload 1 rfl) ?_
  refine lv_aload_n hx hb (hd 931 (.aload_n 0) 1 rfl) rfl (lv_at hl 3 rfl) ?_
  refine lv_iload_n hx hb (hd 932 (.iload_n 3) 1 rfl) rfl (lv_at hl 0 rfl) ?_
  refine lv_iconst (v := Int32.ofInt 3) hx hb (hd 933 (.iconst 3) 1 rfl) (by decide) ?_
  refine zh_iadd hx hb (hd 934 .iadd 1 rfl) ?_
  refine yl_ld hx hb hX hbl hbA hS (x := i + 3) (by omega) (by omega) hL (hd 935 .iaload 1 rfl) ?_
  refine ycallG (as := [.inl (.inl (xs (i + 1).toNat).toInt), .inl (.inl (xs (i + 2).toNat).toInt), .inl (.inl (xs (i + 3).toNat).toInt)]) (rest := []) zX_ok ⟨hx, hb, hml, hown, hts⟩ (m_X8_ways (N := N) zX_ok zX_n l) (ci := 8) rfl (cwV 3 hts gL_law_X8_ways rfl rfl rfl (by decide +kernel) ⟨Nat.le_of_ble_eq_true rfl, Nat.le_of_ble_eq_true rfl⟩) rfl hK o8 rfl (List.forall_mem_cons.mpr ⟨zq_rng _, List.forall_mem_cons.mpr ⟨zq_rng _, List.forall_mem_cons.mpr ⟨zq_rng _, fun _ h => absurd h List.not_mem_nil⟩⟩⟩) (e_X8_ways h8) hP hD hS hA hx0 hl.1 (Nat.le_of_ble_eq_true rfl) (hd 936 (.invokevirtual 111) 3 rfl) hroom (fun H locs o8 _ hP hD hS => ?_)
  show W p l e room_1 s m #[Value.ref b] below meth c H locs cells slots Q (F0 m 939 ls [.int (Int32.ofInt a7)])
  refine lv_pop hx hb (hd 939 .pop 1 rfl) rfl ?_
  refine lv_goto (tgt := 1342) hx hb (hd 940 (.goto 402) 3 rfl) (by decide) ?_
  exact kk σ' τ' H locs ⟨o7, o8, hR', hP, hD, hS, hl⟩
noncomputable def pr_lc_ever : List (Nat × Instr × Nat) := [(943, .aload_n 1, 1), (944, .invokevirtual 112, 3), (947, .pop, 1), (948, .aload_n 2, 1), (949, .invokevirtual 115, 3), (952, .pop, 1), (953, .goto 389, 3)]
set_option maxRecDepth 100000 in
theorem hp_lc_ever : pr_lc_ever.all (fun x => decide (decode code x.1 = .ok x.2)) = true := by decide +kernel
set_option maxHeartbeats 4000000 in
set_option maxRecDepth 100000 in
theorem lc_ever {N : Nat} (hN : 1000 ≤ N) {p : Program} {l : Launch} {e : Env} {s : State} {m : MethodId} {below : List Frame} {meth : Method} {c : Code} {cells slots : Nat} {Q : State → Prop} {b L : Nat} {xs : Nat → Int32} {D : va_G} {kA : Nat → ClassId} (hc : zLc p s m c b L xs D kA) {ad7 ad8 : Nat → Nat} {i : Int} {σ τ : yS} {H : Heap} {locs : List Loc} {ls : Array Slot} (hi : yLi s b D kA ad7 ad8 i σ τ H locs ls) (i0 : 0 ≤ i) (i1 : i + 5 ≤ (L : Int)) (hroom : cells ≤ room_1.cells ∧ slots ≤ room_1.slots)
    (kk : ∀ (σ τ : yS) (H : Heap) (locs : List Loc), yLi s b D kA ad7 ad8 i σ τ H locs ls → W p l e room_1 s m #[Value.ref b] below meth c H locs cells slots Q (F0 m 1342 ls [])) : W p l e room_1 s m #[Value.ref b] below meth c H locs cells slots Q (F0 m 943 ls []) := by
  obtain ⟨hx, hb, hml, hown, hts, hX, hbl, hK, hx0, hL⟩ := hc
  obtain ⟨o7, o8, hR, hP, hD, hS, hl⟩ := hi
  have hA : ∀ q : Nat, s.heap.size ≤ q → (fun q : Nat => s.heap.size ≤ q) q := fun _ h => h
  have hbA : ¬ (fun q : Nat => s.heap.size ≤ q) b := Nat.not_le.mpr hbl
  have hd := zpr_all hp_lc_ever
  obtain ⟨a7, σ', τ', h7, h8, hR'⟩ : ∃ (a7 : Int) (σ' τ' : yS), f_X7_ever N σ = some (a7, σ') ∧ f_X8_ever N τ = some (a7, τ') ∧ yRR σ' τ' := P_ever (by omega) hR
  refine lv_aload_n hx hb (hd 943 (.aload_n 1) 1 rfl) rfl (lv_at hl 2 rfl) ?_
  refine ycallG (as := []) (rest := []) zX_ok ⟨hx, hb, hml, hown, hts⟩ (m_X7_ever (N := N) zX_ok zX_n l) (ci := 7) rfl (cwV 0 hts gL_law_X7_ever rfl rfl rfl (by decide +kernel) ⟨Nat.le_of_ble_eq_true rfl, Nat.le_of_ble_eq_true rfl⟩) rfl hK o7 rfl (fun _ h => absurd h List.not_mem_nil) (e_X7_ever h7) hP hD hS hA hx0 hl.1 (Nat.le_of_ble_eq_true rfl) (hd 944 (.invokevirtual 112) 3 rfl) hroom (fun H locs o7 _ hP hD hS => ?_)
  show W p l e room_1 s m #[Value.ref b] below meth c H locs cells slots Q (F0 m 947 ls [.int (Int32.ofInt a7)])
  refine lv_pop hx hb (hd 947 .pop 1 rfl) rfl ?_
  refine lv_aload_n hx hb (hd 948 (.aload_n 2) 1 rfl) rfl (lv_at hl 1 rfl) ?_
  refine ycallG (as := []) (rest := []) zX_ok ⟨hx, hb, hml, hown, hts⟩ (m_X8_ever (N := N) zX_ok zX_n l) (ci := 8) rfl (cwV 0 hts gL_law_X8_ever rfl rfl rfl (by decide +kernel) ⟨Nat.le_of_ble_eq_true rfl, Nat.le_of_ble_eq_true rfl⟩) rfl hK o8 rfl (fun _ h => absurd h List.not_mem_nil) (e_X8_ever h8) hP hD hS hA hx0 hl.1 (Nat.le_of_ble_eq_true rfl) (hd 949 (.invokevirtual 115) 3 rfl) hroom (fun H locs o8 _ hP hD hS => ?_)
  show W p l e room_1 s m #[Value.ref b] below meth c H locs cells slots Q (F0 m 952 ls [.int (Int32.ofInt a7)])
  refine lv_pop hx hb (hd 952 .pop 1 rfl) rfl ?_
  refine lv_goto (tgt := 1342) hx hb (hd 953 (.goto 389) 3 rfl) (by decide) ?_
  exact kk σ' τ' H locs ⟨o7, o8, hR', hP, hD, hS, hl⟩
noncomputable def pr_lc_stop : List (Nat × Instr × Nat) := [(956, .aload_n 1, 1), (957, .aload_n 0, 1), (958, .iload_n 3, 1), (959, .iconst 1, 1), (960, .iadd, 1), (961, .iaload, 1), (962, .invokevirtual 116, 3), (965, .pop, 1), (966, .aload_n 2, 1), (967, .aload_n 0, 1), (968, .iload_n 3, 1), (969, .iconst 1, 1), (970, .iadd, 1), (971, .iaload, 1), (972, .invokevirtual 119, 3), (975, .pop, 1), (976, .goto 366, 3)]
set_option maxRecDepth 100000 in
theorem hp_lc_stop : pr_lc_stop.all (fun x => decide (decode code x.1 = .ok x.2)) = true := by decide +kernel
set_option maxHeartbeats 4000000 in
set_option maxRecDepth 100000 in
theorem lc_stop {N : Nat} (hN : 1000 ≤ N) {p : Program} {l : Launch} {e : Env} {s : State} {m : MethodId} {below : List Frame} {meth : Method} {c : Code} {cells slots : Nat} {Q : State → Prop} {b L : Nat} {xs : Nat → Int32} {D : va_G} {kA : Nat → ClassId} (hc : zLc p s m c b L xs D kA) {ad7 ad8 : Nat → Nat} {i : Int} {σ τ : yS} {H : Heap} {locs : List Loc} {ls : Array Slot} (hi : yLi s b D kA ad7 ad8 i σ τ H locs ls) (i0 : 0 ≤ i) (i1 : i + 5 ≤ (L : Int)) (hroom : cells ≤ room_1.cells ∧ slots ≤ room_1.slots)
    (kk : ∀ (σ τ : yS) (H : Heap) (locs : List Loc), yLi s b D kA ad7 ad8 i σ τ H locs ls → W p l e room_1 s m #[Value.ref b] below meth c H locs cells slots Q (F0 m 1342 ls [])) : W p l e room_1 s m #[Value.ref b] below meth c H locs cells slots Q (F0 m 956 ls []) := by
  obtain ⟨hx, hb, hml, hown, hts, hX, hbl, hK, hx0, hL⟩ := hc
  obtain ⟨o7, o8, hR, hP, hD, hS, hl⟩ := hi
  have hA : ∀ q : Nat, s.heap.size ≤ q → (fun q : Nat => s.heap.size ≤ q) q := fun _ h => h
  have hbA : ¬ (fun q : Nat => s.heap.size ≤ q) b := Nat.not_le.mpr hbl
  have hd := zpr_all hp_lc_stop
  obtain ⟨a7, σ', τ', h7, h8, hR'⟩ : ∃ (a7 : Int) (σ' τ' : yS), f_X7_stop N σ (xs (i + 1).toNat).toInt = some (a7, σ') ∧ f_X8_stop N τ (xs (i + 1).toNat).toInt = some (a7, τ') ∧ yRR σ' τ' := P_stop hN hR
  refine lv_aload_n hx hb (hd 956 (.aload_n 1) 1 rfl) rfl (lv_at hl 2 rfl) ?_
  refine lv_aload_n hx hb (hd 957 (.aload_n 0) 1 rfl) rfl (lv_at hl 3 rfl) ?_
  refine lv_iload_n hx hb (hd 958 (.iload_n 3) 1 rfl) rfl (lv_at hl 0 rfl) ?_
  refine lv_iconst (v := Int32.ofInt 1) hx hb (hd 959 (.iconst 1) 1 rfl) (by decide) ?_
  refine zh_iadd hx hb (hd 960 .iadd 1 rfl) ?_
  refine yl_ld hx hb hX hbl hbA hS (x := i + 1) (by omega) (by omega) hL (hd 961 .iaload 1 rfl) ?_
  refine ycallG (as := [.inl (.inl (xs (i + 1).toNat).toInt)]) (rest := []) zX_ok ⟨hx, hb, hml, hown, hts⟩ (m_X7_stop (N := N) zX_ok zX_n l) (ci := 7) rfl (cwV 1 hts gL_law_X7_stop rfl rfl rfl (by decide +kernel) ⟨Nat.le_of_ble_eq_true rfl, Nat.le_of_ble_eq_true rfl⟩) rfl hK o7 rfl (List.forall_mem_cons.mpr ⟨zq_rng _, fun _ h => absurd h List.not_mem_nil⟩) (e_X7_stop h7) hP hD hS hA hx0 hl.1 (Nat.le_of_ble_eq_true rfl) (hd 962 (.invokevirtual 116) 3 rfl) hroom (fun H locs o7 _ hP hD hS => ?_)
  show W p l e room_1 s m #[Value.ref b] below meth c H locs cells slots Q (F0 m 965 ls [.int (Int32.ofInt a7)])
  refine lv_pop hx hb (hd 965 .pop 1 rfl) rfl ?_
  refine lv_aload_n hx hb (hd 966 (.aload_n 2) 1 rfl) rfl (lv_at hl 1 rfl) ?_
  refine lv_aload_n hx hb (hd 967 (.aload_n 0) 1 rfl) rfl (lv_at hl 3 rfl) ?_
  refine lv_iload_n hx hb (hd 968 (.iload_n 3) 1 rfl) rfl (lv_at hl 0 rfl) ?_
  refine lv_iconst (v := Int32.ofInt 1) hx hb (hd 969 (.iconst 1) 1 rfl) (by decide) ?_
  refine zh_iadd hx hb (hd 970 .iadd 1 rfl) ?_
  refine yl_ld hx hb hX hbl hbA hS (x := i + 1) (by omega) (by omega) hL (hd 971 .iaload 1 rfl) ?_
  refine ycallG (as := [.inl (.inl (xs (i + 1).toNat).toInt)]) (rest := []) zX_ok ⟨hx, hb, hml, hown, hts⟩ (m_X8_stop (N := N) zX_ok zX_n l) (ci := 8) rfl (cwV 1 hts gL_law_X8_stop rfl rfl rfl (by decide +kernel) ⟨Nat.le_of_ble_eq_true rfl, Nat.le_of_ble_eq_true rfl⟩) rfl hK o8 rfl (List.forall_mem_cons.mpr ⟨zq_rng _, fun _ h => absurd h List.not_mem_nil⟩) (e_X8_stop h8) hP hD hS hA hx0 hl.1 (Nat.le_of_ble_eq_true rfl) (hd 972 (.invokevirtual 119) 3 rfl) hroom (fun H locs o8 _ hP hD hS => ?_)
  show W p l e room_1 s m #[Value.ref b] below meth c H locs cells slots Q (F0 m 975 ls [.int (Int32.ofInt a7)])
  refine lv_pop hx hb (hd 975 .pop 1 rfl) rfl ?_
  refine lv_goto (tgt := 1342) hx hb (hd 976 (.goto 366) 3 rfl) (by decide) ?_
  exact kk σ' τ' H locs ⟨o7, o8, hR', hP, hD, hS, hl⟩
noncomputable def pr_lc_best : List (Nat × Instr × Nat) := [(979, .aload_n 1, 1), (980, .aload_n 0, 1), (981, .iload_n 3, 1), (982, .iconst 1, 1), (983, .iadd, 1), (984, .iaload, 1), (985, .aload_n 0, 1), (986, .iload_n 3, 1), (987, .iconst 2, 1), (988, .iadd, 1), (989, .iaload, 1), (990, .invokevirtual 120, 3), (993, .pop, 1), (994, .aload_n 2, 1), (995, .aload_n 0, 1), (996, .iload_n 3, 1), (997, .iconst 1, 1), (998, .iadd, 1), (999, .iaload, 1), (1000, .aload_n 0, 1), (1001, .iload_n 3, 1), (1002, .iconst 2, 1), (1003, .iadd, 1), (1004, .iaload, 1), (1005, .invokevirtual 123, 3), (1008, .pop, 1), (1009, .goto 333, 3)]
set_option maxRecDepth 100000 in
theorem hp_lc_best : pr_lc_best.all (fun x => decide (decode code x.1 = .ok x.2)) = true := by decide +kernel
set_option maxHeartbeats 4000000 in
set_option maxRecDepth 100000 in
theorem lc_best {N : Nat} (hN : 1000 ≤ N) {p : Program} {l : Launch} {e : Env} {s : State} {m : MethodId} {below : List Frame} {meth : Method} {c : Code} {cells slots : Nat} {Q : State → Prop} {b L : Nat} {xs : Nat → Int32} {D : va_G} {kA : Nat → ClassId} (hc : zLc p s m c b L xs D kA) {ad7 ad8 : Nat → Nat} {i : Int} {σ τ : yS} {H : Heap} {locs : List Loc} {ls : Array Slot} (hi : yLi s b D kA ad7 ad8 i σ τ H locs ls) (i0 : 0 ≤ i) (i1 : i + 5 ≤ (L : Int)) (hroom : cells ≤ room_1.cells ∧ slots ≤ room_1.slots)
    (kk : ∀ (σ τ : yS) (H : Heap) (locs : List Loc), yLi s b D kA ad7 ad8 i σ τ H locs ls → W p l e room_1 s m #[Value.ref b] below meth c H locs cells slots Q (F0 m 1342 ls [])) : W p l e room_1 s m #[Value.ref b] below meth c H locs cells slots Q (F0 m 979 ls []) := by
  obtain ⟨hx, hb, hml, hown, hts, hX, hbl, hK, hx0, hL⟩ := hc
  obtain ⟨o7, o8, hR, hP, hD, hS, hl⟩ := hi
  have hA : ∀ q : Nat, s.heap.size ≤ q → (fun q : Nat => s.heap.size ≤ q) q := fun _ h => h
  have hbA : ¬ (fun q : Nat => s.heap.size ≤ q) b := Nat.not_le.mpr hbl
  have hd := zpr_all hp_lc_best
  obtain ⟨a7, σ', τ', h7, h8, hR'⟩ : ∃ (a7 : Int) (σ' τ' : yS), f_X7_best N σ (xs (i + 1).toNat).toInt (xs (i + 2).toNat).toInt = some (a7, σ') ∧ f_X8_best N τ (xs (i + 1).toNat).toInt (xs (i + 2).toNat).toInt = some (a7, τ') ∧ yRR σ' τ' := P_best (by omega) hR
  refine lv_aload_n hx hb (hd 979 (.aload_n 1) 1 rfl) rfl (lv_at hl 2 rfl) ?_
  refine lv_aload_n hx hb (hd 980 (.aload_n 0) 1 rfl) rfl (lv_at hl 3 rfl) ?_
  refine lv_iload_n hx hb (hd 981 (.iload_n 3) 1 rfl) rfl (lv_at hl 0 rfl) ?_
  refine lv_iconst (v := Int32.ofInt 1) hx hb (hd 982 (.iconst 1) 1 rfl) (by decide) ?_
  refine zh_iadd hx hb (hd 983 .iadd 1 rfl) ?_
  refine yl_ld hx hb hX hbl hbA hS (x := i + 1) (by omega) (by omega) hL (hd 984 .iaload 1 rfl) ?_
  refine lv_aload_n hx hb (hd 985 (.aload_n 0) 1 rfl) rfl (lv_at hl 3 rfl) ?_
  refine lv_iload_n hx hb (hd 986 (.iload_n 3) 1 rfl) rfl (lv_at hl 0 rfl) ?_
  refine lv_iconst (v := Int32.ofInt 2) hx hb (hd 987 (.iconst 2) 1 rfl) (by decide) ?_
  refine zh_iadd hx hb (hd 988 .iadd 1 rfl) ?_
  refine yl_ld hx hb hX hbl hbA hS (x := i + 2) (by omega) (by omega) hL (hd 989 .iaload 1 rfl) ?_
  refine ycallG (as := [.inl (.inl (xs (i + 1).toNat).toInt), .inl (.inl (xs (i + 2).toNat).toInt)]) (rest := []) zX_ok ⟨hx, hb, hml, hown, hts⟩ (m_X7_best (N := N) zX_ok zX_n l) (ci := 7) rfl (cwV 2 hts gL_law_X7_best rfl rfl rfl (by decide +kernel) ⟨Nat.le_of_ble_eq_true rfl, Nat.le_of_ble_eq_true rfl⟩) rfl hK o7 rfl (List.forall_mem_cons.mpr ⟨zq_rng _, List.forall_mem_cons.mpr ⟨zq_rng _, fun _ h => absurd h List.not_mem_nil⟩⟩) (e_X7_best h7) hP hD hS hA hx0 hl.1 (Nat.le_of_ble_eq_true rfl) (hd 990 (.invokevirtual 120) 3 rfl) hroom (fun H locs o7 _ hP hD hS => ?_)
  show W p l e room_1 s m #[Value.ref b] below meth c H locs cells slots Q (F0 m 993 ls [.int (Int32.ofInt a7)])
  refine lv_pop hx hb (hd 993 .pop 1 rfl) rfl ?_
  refine lv_aload_n hx hb (hd 994 (.aload_n 2) 1 rfl) rfl (lv_at hl 1 rfl) ?_
  refine lv_aload_n hx hb (hd 995 (.aload_n 0) 1 rfl) rfl (lv_at hl 3 rfl) ?_
  refine lv_iload_n hx hb (hd 996 (.iload_n 3) 1 rfl) rfl (lv_at hl 0 rfl) ?_
  refine lv_iconst (v := Int32.ofInt 1) hx hb (hd 997 (.iconst 1) 1 rfl) (by decide) ?_
  refine zh_iadd hx hb (hd 998 .iadd 1 rfl) ?_
  refine yl_ld hx hb hX hbl hbA hS (x := i + 1) (by omega) (by omega) hL (hd 999 .iaload 1 rfl) ?_
  refine lv_aload_n hx hb (hd 1000 (.aload_n 0) 1 rfl) rfl (lv_at hl 3 rfl) ?_
  refine lv_iload_n hx hb (hd 1001 (.iload_n 3) 1 rfl) rfl (lv_at hl 0 rfl) ?_
  refine lv_iconst (v := Int32.ofInt 2) hx hb (hd 1002 (.iconst 2) 1 rfl) (by decide) ?_
  refine zh_iadd hx hb (hd 1003 .iadd 1 rfl) ?_
  refine yl_ld hx hb hX hbl hbA hS (x := i + 2) (by omega) (by omega) hL (hd 1004 .iaload 1 rfl) ?_
  refine ycallG (as := [.inl (.inl (xs (i + 1).toNat).toInt), .inl (.inl (xs (i + 2).toNat).toInt)]) (rest := []) zX_ok ⟨hx, hb, hml, hown, hts⟩ (m_X8_best (N := N) zX_ok zX_n l) (ci := 8) rfl (cwV 2 hts gL_law_X8_best rfl rfl rfl (by decide +kernel) ⟨Nat.le_of_ble_eq_true rfl, Nat.le_of_ble_eq_true rfl⟩) rfl hK o8 rfl (List.forall_mem_cons.mpr ⟨zq_rng _, List.forall_mem_cons.mpr ⟨zq_rng _, fun _ h => absurd h List.not_mem_nil⟩⟩) (e_X8_best h8) hP hD hS hA hx0 hl.1 (Nat.le_of_ble_eq_true rfl) (hd 1005 (.invokevirtual 123) 3 rfl) hroom (fun H locs o8 _ hP hD hS => ?_)
  show W p l e room_1 s m #[Value.ref b] below meth c H locs cells slots Q (F0 m 1008 ls [.int (Int32.ofInt a7)])
  refine lv_pop hx hb (hd 1008 .pop 1 rfl) rfl ?_
  refine lv_goto (tgt := 1342) hx hb (hd 1009 (.goto 333) 3 rfl) (by decide) ?_
  exact kk σ' τ' H locs ⟨o7, o8, hR', hP, hD, hS, hl⟩
noncomputable def pr_lc_mean : List (Nat × Instr × Nat) := [(1012, .aload_n 1, 1), (1013, .aload_n 0, 1), (1014, .iload_n 3, 1), (1015, .iconst 1, 1), (1016, .iadd, 1), (1017, .iaload, 1), (1018, .aload_n 0, 1), (1019, .iload_n 3, 1), (1020, .iconst 2, 1), (1021, .iadd, 1), (1022, .iaload, 1), (1023, .invokevirtual 124, 3), (1026, .pop2, 1), (1027, .aload_n 2, 1), (1028, .aload_n 0, 1), (1029, .iload_n 3, 1), (1030, .iconst 1, 1), (1031, .iadd, 1), (1032, .iaload, 1), (1033, .aload_n 0, 1), (1034, .iload_n 3, 1), (1035, .iconst 2, 1), (1036, .iadd, 1), (1037, .iaload, 1), (1038, .invokevirtual 128, 3), (1041, .pop2, 1), (1042, .goto 300, 3)]
set_option maxRecDepth 100000 in
theorem hp_lc_mean : pr_lc_mean.all (fun x => decide (decode code x.1 = .ok x.2)) = true := by decide +kernel
set_option maxHeartbeats 4000000 in
set_option maxRecDepth 100000 in
theorem lc_mean {N : Nat} (hN : 1000 ≤ N) {p : Program} {l : Launch} {e : Env} {s : State} {m : MethodId} {below : List Frame} {meth : Method} {c : Code} {cells slots : Nat} {Q : State → Prop} {b L : Nat} {xs : Nat → Int32} {D : va_G} {kA : Nat → ClassId} (hc : zLc p s m c b L xs D kA) {ad7 ad8 : Nat → Nat} {i : Int} {σ τ : yS} {H : Heap} {locs : List Loc} {ls : Array Slot} (hi : yLi s b D kA ad7 ad8 i σ τ H locs ls) (i0 : 0 ≤ i) (i1 : i + 5 ≤ (L : Int)) (hroom : cells ≤ room_1.cells ∧ slots ≤ room_1.slots)
    (kk : ∀ (σ τ : yS) (H : Heap) (locs : List Loc), yLi s b D kA ad7 ad8 i σ τ H locs ls → W p l e room_1 s m #[Value.ref b] below meth c H locs cells slots Q (F0 m 1342 ls [])) : W p l e room_1 s m #[Value.ref b] below meth c H locs cells slots Q (F0 m 1012 ls []) := by
  obtain ⟨hx, hb, hml, hown, hts, hX, hbl, hK, hx0, hL⟩ := hc
  obtain ⟨o7, o8, hR, hP, hD, hS, hl⟩ := hi
  have hA : ∀ q : Nat, s.heap.size ≤ q → (fun q : Nat => s.heap.size ≤ q) q := fun _ h => h
  have hbA : ¬ (fun q : Nat => s.heap.size ≤ q) b := Nat.not_le.mpr hbl
  have hd := zpr_all hp_lc_mean
  obtain ⟨a7, σ', τ', h7, h8, hR'⟩ : ∃ (a7 : Int) (σ' τ' : yS), f_X7_mean N σ (xs (i + 1).toNat).toInt (xs (i + 2).toNat).toInt = some (a7, σ') ∧ f_X8_mean N τ (xs (i + 1).toNat).toInt (xs (i + 2).toNat).toInt = some (a7, τ') ∧ yRR σ' τ' := P_mean hN hR
  refine lv_aload_n hx hb (hd 1012 (.aload_n 1) 1 rfl) rfl (lv_at hl 2 rfl) ?_
  refine lv_aload_n hx hb (hd 1013 (.aload_n 0) 1 rfl) rfl (lv_at hl 3 rfl) ?_
  refine lv_iload_n hx hb (hd 1014 (.iload_n 3) 1 rfl) rfl (lv_at hl 0 rfl) ?_
  refine lv_iconst (v := Int32.ofInt 1) hx hb (hd 1015 (.iconst 1) 1 rfl) (by decide) ?_
  refine zh_iadd hx hb (hd 1016 .iadd 1 rfl) ?_
  refine yl_ld hx hb hX hbl hbA hS (x := i + 1) (by omega) (by omega) hL (hd 1017 .iaload 1 rfl) ?_
  refine lv_aload_n hx hb (hd 1018 (.aload_n 0) 1 rfl) rfl (lv_at hl 3 rfl) ?_
  refine lv_iload_n hx hb (hd 1019 (.iload_n 3) 1 rfl) rfl (lv_at hl 0 rfl) ?_
  refine lv_iconst (v := Int32.ofInt 2) hx hb (hd 1020 (.iconst 2) 1 rfl) (by decide) ?_
  refine zh_iadd hx hb (hd 1021 .iadd 1 rfl) ?_
  refine yl_ld hx hb hX hbl hbA hS (x := i + 2) (by omega) (by omega) hL (hd 1022 .iaload 1 rfl) ?_
  refine ycallG (as := [.inl (.inl (xs (i + 1).toNat).toInt), .inl (.inl (xs (i + 2).toNat).toInt)]) (rest := []) zX_ok ⟨hx, hb, hml, hown, hts⟩ (m_X7_mean (N := N) zX_ok zX_n l) (ci := 7) rfl (cwV 2 hts gL_law_X7_mean rfl rfl rfl (by decide +kernel) ⟨Nat.le_of_ble_eq_true rfl, Nat.le_of_ble_eq_true rfl⟩) rfl hK o7 rfl (List.forall_mem_cons.mpr ⟨zq_rng _, List.forall_mem_cons.mpr ⟨zq_rng _, fun _ h => absurd h List.not_mem_nil⟩⟩) (e_X7_mean h7) hP hD hS hA hx0 hl.1 (Nat.le_of_ble_eq_true rfl) (hd 1023 (.invokevirtual 124) 3 rfl) hroom (fun H locs o7 _ hP hD hS => ?_)
  show W p l e room_1 s m #[Value.ref b] below meth c H locs cells slots Q (F0 m 1026 ls [.long (Int64.ofInt a7)])
  refine lv_pop2_2 hx hb (hd 1026 .pop2 1 rfl) rfl ?_
  refine lv_aload_n hx hb (hd 1027 (.aload_n 2) 1 rfl) rfl (lv_at hl 1 rfl) ?_
  refine lv_aload_n hx hb (hd 1028 (.aload_n 0) 1 rfl) rfl (lv_at hl 3 rfl) ?_
  refine lv_iload_n hx hb (hd 1029 (.iload_n 3) 1 rfl) rfl (lv_at hl 0 rfl) ?_
  refine lv_iconst (v := Int32.ofInt 1) hx hb (hd 1030 (.iconst 1) 1 rfl) (by decide) ?_
  refine zh_iadd hx hb (hd 1031 .iadd 1 rfl) ?_
  refine yl_ld hx hb hX hbl hbA hS (x := i + 1) (by omega) (by omega) hL (hd 1032 .iaload 1 rfl) ?_
  refine lv_aload_n hx hb (hd 1033 (.aload_n 0) 1 rfl) rfl (lv_at hl 3 rfl) ?_
  refine lv_iload_n hx hb (hd 1034 (.iload_n 3) 1 rfl) rfl (lv_at hl 0 rfl) ?_
  refine lv_iconst (v := Int32.ofInt 2) hx hb (hd 1035 (.iconst 2) 1 rfl) (by decide) ?_
  refine zh_iadd hx hb (hd 1036 .iadd 1 rfl) ?_
  refine yl_ld hx hb hX hbl hbA hS (x := i + 2) (by omega) (by omega) hL (hd 1037 .iaload 1 rfl) ?_
  refine ycallG (as := [.inl (.inl (xs (i + 1).toNat).toInt), .inl (.inl (xs (i + 2).toNat).toInt)]) (rest := []) zX_ok ⟨hx, hb, hml, hown, hts⟩ (m_X8_mean (N := N) zX_ok zX_n l) (ci := 8) rfl (cwV 2 hts gL_law_X8_mean rfl rfl rfl (by decide +kernel) ⟨Nat.le_of_ble_eq_true rfl, Nat.le_of_ble_eq_true rfl⟩) rfl hK o8 rfl (List.forall_mem_cons.mpr ⟨zq_rng _, List.forall_mem_cons.mpr ⟨zq_rng _, fun _ h => absurd h List.not_mem_nil⟩⟩) (e_X8_mean h8) hP hD hS hA hx0 hl.1 (Nat.le_of_ble_eq_true rfl) (hd 1038 (.invokevirtual 128) 3 rfl) hroom (fun H locs o8 _ hP hD hS => ?_)
  show W p l e room_1 s m #[Value.ref b] below meth c H locs cells slots Q (F0 m 1041 ls [.long (Int64.ofInt a7)])
  refine lv_pop2_2 hx hb (hd 1041 .pop2 1 rfl) rfl ?_
  refine lv_goto (tgt := 1342) hx hb (hd 1042 (.goto 300) 3 rfl) (by decide) ?_
  exact kk σ' τ' H locs ⟨o7, o8, hR', hP, hD, hS, hl⟩
