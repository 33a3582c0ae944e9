abbrev zz0 : Nat → Int := fun _ => 0
abbrev zp0 : Nat → Nat → Int := fun _ _ => 0
theorem zi0 : Int32.ofInt 0 = 0 := by decide
theorem zha0 (cA : ClassId) (n : Nat) : vp_cell cA (n, .inl (fun _ => Int32.ofInt 0)) = arrV cA n (fun _ => defaultValue .int) := by
  rw [vp_cell_i, zi0]
  rfl
theorem zha1 (cA : ClassId) (n : Nat) : vp_cell cA (n, .inl (fun _ => Int32.ofInt 0)) = arrV cA n (fun _ => defaultValue .boolean) := by
  rw [vp_cell_i, zi0]
  rfl
theorem zcA0 {D : va_G} {cl : List vw_C} {kA : Nat → ClassId} {s : State} {cA : ClassId} (h1 : va_K D cl (ztys kA) s) (h2 : va_K D cl (ztys kA ++ [(cA, .int)]) s) : cA = kA 0 := by
  have a : s.vm.findClass ("[" ++ FieldType.int.toString) = some (kA 0) := (h1.2 0 _ rfl).2
  have b : s.vm.findClass ("[" ++ FieldType.int.toString) = some cA := (h2.2 4 _ rfl).2
  exact Option.some.inj (b.symm.trans a)
theorem zcA1 {D : va_G} {cl : List vw_C} {kA : Nat → ClassId} {s : State} {cA : ClassId} (h1 : va_K D cl (ztys kA) s) (h2 : va_K D cl (ztys kA ++ [(cA, .boolean)]) s) : cA = kA 1 := by
  have a : s.vm.findClass ("[" ++ FieldType.boolean.toString) = some (kA 1) := (h1.2 1 _ rfl).2
  have b : s.vm.findClass ("[" ++ FieldType.boolean.toString) = some cA := (h2.2 4 _ rfl).2
  exact Option.some.inj (b.symm.trans a)
theorem zcA2 {D : va_G} {cl : List vw_C} {kA : Nat → ClassId} {s : State} {cA : ClassId} (h1 : va_K D cl (ztys kA) s) (h2 : va_K D cl (ztys kA ++ [(cA, .object "VowTerrace$Terrace")]) s) : cA = kA 2 := by
  obtain ⟨_, _, _, _, _, a⟩ : va_RA s (kA 2) (.object "VowTerrace$Terrace") := (h1.2 2 _ rfl).2
  obtain ⟨_, _, _, _, _, b⟩ : va_RA s cA (.object "VowTerrace$Terrace") := (h2.2 4 _ rfl).2
  exact Option.some.inj (b.symm.trans a)
theorem zcA3 {D : va_G} {cl : List vw_C} {kA : Nat → ClassId} {s : State} {cA : ClassId} (h1 : va_K D cl (ztys kA) s) (h2 : va_K D cl (ztys kA ++ [(cA, .object "VowTerrace$Sheet")]) s) : cA = kA 3 := by
  obtain ⟨_, _, _, _, _, a⟩ : va_RA s (kA 3) (.object "VowTerrace$Sheet") := (h1.2 3 _ rfl).2
  obtain ⟨_, _, _, _, _, b⟩ : va_RA s cA (.object "VowTerrace$Sheet") := (h2.2 4 _ rfl).2
  exact Option.some.inj (b.symm.trans a)
noncomputable def dX0 : List Value := [.null, .null]
noncomputable def dX1 : List Value := [.null, .int (Int32.ofInt 0), .int (Int32.ofInt 0), .int (Int32.ofInt 0), .int (Int32.ofInt 0), .int (Int32.ofInt 0), .int (Int32.ofInt 0), .int (Int32.ofInt 0), .int (Int32.ofInt 0), .int (Int32.ofInt 0), .int (Int32.ofInt 0), .int (Int32.ofInt 0), .int (Int32.ofInt 0)]
noncomputable def dX2 : List Value := [.int (Int32.ofInt 0), .int (Int32.ofInt 0), .null]
noncomputable def dX3 : List Value := [.int (Int32.ofInt 0), .null]
noncomputable def dX4 : List Value := [.int (Int32.ofInt 0), .int (Int32.ofInt 0), .int (Int32.ofInt 0), .null, .null, .null, .int (Int32.ofInt 0), .null, .null, .null, .null, .null, .null, .null, .int (Int32.ofInt 0), .int (Int32.ofInt 0), .int (Int32.ofInt 0), .int (Int32.ofInt 0)]
noncomputable def dX5 : List Value := [.int (Int32.ofInt 0), .null, .null, .null, .null]
noncomputable def dX6 : List Value := [.int (Int32.ofInt 0), .null, .null]
noncomputable def dX7 : List Value := [.null, .null, .null, .null, .null, .null, .null, .int (Int32.ofInt 0), .int (Int32.ofInt 0)]
noncomputable def dX8 : List Value := [.null, .null, .null, .int (Int32.ofInt 0), .int (Int32.ofInt 0), .int (Int32.ofInt 0), .null, .null, .int (Int32.ofInt 0), .int (Int32.ofInt 0), .int (Int32.ofInt 0), .int (Int32.ofInt 0), .null, .null, .int (Int32.ofInt 0), .int (Int32.ofInt 0), .null, .int (Int32.ofInt 0), .int (Int32.ofInt 0), .int (Int32.ofInt 0), .int (Int32.ofInt 0), .int (Int32.ofInt 0), .int (Int32.ofInt 0), .int (Int32.ofInt 0), .null, .int (Int32.ofInt 0), .int (Int32.ofInt 0), .null, .null, .null, .null, .null, .int (Int32.ofInt 0)]
noncomputable def pr_X5_init : List (Nat × Instr × Nat) := [(0, .aload_n 0, 1), (1, .invokespecial 3, 3), (4, .aload_n 0, 1), (5, .bipush 10, 2), (7, .newarray .int, 2), (9, .putfield 9, 3), (12, .aload_n 0, 1), (13, .bipush 10, 2), (15, .newarray .int, 2), (17, .putfield 15, 3), (20, .aload_n 0, 1), (21, .bipush 10, 2), (23, .newarray .int, 2), (25, .putfield 18, 3), (28, .aload_n 0, 1), (29, .bipush 10, 2), (31, .newarray .int, 2), (33, .putfield 21, 3), (36, .return_, 1)]
set_option maxRecDepth 100000 in
theorem hp_X5_init : pr_X5_init.all (fun x => decide (decode cX5_init x.1 = .ok x.2)) = true := by decide +kernel
noncomputable def wI_X5 : zW := [(0, .inl (5, [zi 0 0, zr 1, zr 2, zr 3, zr 4])),
  (1, .inr (.inl (0, 10, [(10, .inl (0, 0))], []))),
  (2, .inr (.inl (0, 10, [(10, .inl (0, 0))], []))),
  (3, .inr (.inl (0, 10, [(10, .inl (0, 0))], []))),
  (4, .inr (.inl (0, 10, [(10, .inl (0, 0))], [])))]
set_option maxHeartbeats 2000000 in
set_option maxRecDepth 100000 in
theorem c_X5_init (l : Launch) (D : va_G) (kA : Nat → ClassId) (h0 sz : Nat) : Met l yX5_init wsX5_init { frames := 1, cells := 4, slots := 40, locals := 64 } (va_Pc [.ref h0] (zBf zX D vwCl kA [(h0, .inr (5, dX5))] sz)) (va_Qv (fun (f : Nat → Nat) => f 0 = h0) (fun f t => va_P D vwCl (zws kA zz0 f zp0 wI_X5) t.heap ∧ va_D (va_A [(h0, .inr (5, dX5))] sz) (zws kA zz0 f zp0 wI_X5)) (va_A [(h0, .inr (5, dX5))] sz)) 4 40 (va_A [(h0, .inr (5, dX5))] sz) := by
  refine Met.ofW (cc := cX5_init) (maxL := 1) (ret := none) (by decide +kernel) rfl ?_
  intro p e s m args below meth c s₁ B hml hv
  obtain ⟨rfl, hsz, hP, hK, hD0, hx0⟩ := hv
  have hx := B.exec
  have hb := B.bytes
  have hr := B.returns
  have hts := atoms_spec (ws := wsX5_init) B.pre
  have hown : s.vm.findClass RX5 = some m.cls := findClass_of_methodNamed B.named
  have hlocks := B.notSynchronized
  have hin : meth.name = "<init>" := (name_of_methodNamed B.named B.method).1
  have hd := zpr_all hp_X5_init
  subst hsz
  have hD := hD0.self (sz := s.heap.size)
  have hA : ∀ q : Nat, s.heap.size ≤ q → va_A [(h0, .inr (5, dX5))] s.heap.size q := fun q h => Or.inr h
  generalize hAe : va_A [(h0, .inr (5, dX5))] s.heap.size = A at hD hA hx0 ⊢
  have hS : va_S A s.heap s.heap [] := va_S.rf
  have hl := lv_entry ([.ref h0]) (n := 1) (Nat.le_of_ble_eq_true rfl)
  rw [lg_entry_eq]
  generalize (lg_sl ([.ref h0]) ++ List.replicate (1 - (lg_sl ([.ref h0])).length) Slot.unset).toArray = ls at hl ⊢
  have hl : lv_has ls 1 [(0, .ref h0)] := hl
  have hP : va_P D vwCl [(h0, .inr (5, [.int (Int32.ofInt 0), .null, .null, .null, .null]))] s.heap := hP
  have hD : va_D A [(h0, .inr (5, [.int (Int32.ofInt 0), .null, .null, .null, .null]))] := hD
  refine lv_aload_n hx hb (hd 0 (.aload_n 0) 1 rfl) rfl (lv_at hl 0 rfl) ?_
  refine W.objInit hx hb hown (hts (.methodLink RX5 3 objectInit) (List.mem_of_getElem? (i := 1) rfl)) (hts (.instanceMethod objectInit) (List.mem_of_getElem? (i := 2) rfl)) (hts _ (List.mem_of_getElem? (i := 3) rfl)) rfl (by rw [hml]; exact hl.1) rfl (hd 1 (.invokespecial 3) 3 rfl) (Nat.le_of_ble_eq_true rfl) (Nat.le_of_ble_eq_true rfl) ?_
  refine lv_aload_n hx hb (hd 4 (.aload_n 0) 1 rfl) rfl (lv_at hl 0 rfl) ?_
  refine lv_bipush (v := Int32.ofInt 10) hx hb (hd 5 (.bipush 10) 2 rfl) (by decide) ?_
  refine va_newa (atype := .int) (a0 := (10, .inl (fun _ => Int32.ofInt 0))) hx hb (hts (.arrayClass .int) (List.mem_of_getElem? (i := 4) rfl)) (ty := .int) rfl hK hP hD hS hA (fun cA => zha0 cA 10) (by decide) (by decide) (by decide) (Nat.le_of_ble_eq_true rfl) (Nat.le_of_ble_eq_true rfl) (hd 7 (.newarray .int) 2 rfl) (fun q1 cA H hK2 hP hD hS => ?_)
  obtain rfl := zcA0 hK hK2
  refine W.widen (k := 1) (n := 10) (by omega) (by omega) ?_
  have hP : va_P D vwCl [(h0, .inr (5, [.int (Int32.ofInt 0), .null, .null, .null, .null])), (q1, .inl (kA 0, 10, .inl (fun _ => Int32.ofInt 0)))] H := hP
  have hD : va_D A [(h0, .inr (5, [.int (Int32.ofInt 0), .null, .null, .null, .null])), (q1, .inl (kA 0, 10, .inl (fun _ => Int32.ofInt 0)))] := hD
  refine va_putF (ci := 5) (v := .ref q1) (ty := (.array .int)) (C := RX5) (T := TX5) (N := 5) hx hb hts (fun w h => List.mem_cons_of_mem _ (List.mem_append_right _ h)) tyX5 tyX5_ok nmX5 hown hK hP hD hS 0 rfl rfl 1 (by decide) (hts (.fieldLink RX5 9 "VowTerrace$VowRow" "house" "[I") (List.mem_of_getElem? (i := 5) rfl)) (fun _ h => h) rfl hin rfl (by decide +kernel) rfl rfl (Nat.le_of_ble_eq_true rfl) (hd 9 (.putfield 9) 3 rfl) (fun H locs hP hD hS => ?_)
  have hP : va_P D vwCl [(h0, .inr (5, [.int (Int32.ofInt 0), .ref q1, .null, .null, .null])), (q1, .inl (kA 0, 10, .inl (fun _ => Int32.ofInt 0)))] H := hP
  have hD : va_D A [(h0, .inr (5, [.int (Int32.ofInt 0), .ref q1, .null, .null, .null])), (q1, .inl (kA 0, 10, .inl (fun _ => Int32.ofInt 0)))] := hD
  refine lv_aload_n hx hb (hd 12 (.aload_n 0) 1 rfl) rfl (lv_at hl 0 rfl) ?_
  refine lv_bipush (v := Int32.ofInt 10) hx hb (hd 13 (.bipush 10) 2 rfl) (by decide) ?_
  refine va_newa (atype := .int) (a0 := (10, .inl (fun _ => Int32.ofInt 0))) hx hb (hts (.arrayClass .int) (List.mem_of_getElem? (i := 4) rfl)) (ty := .int) rfl hK hP hD hS hA (fun cA => zha0 cA 10) (by decide) (by decide) (by decide) (Nat.le_of_ble_eq_true rfl) (Nat.le_of_ble_eq_true rfl) (hd 15 (.newarray .int) 2 rfl) (fun q2 cA H hK2 hP hD hS => ?_)
  obtain rfl := zcA0 hK hK2
  refine W.widen (k := 2) (n := 20) (by omega) (by omega) ?_
  have hP : va_P D vwCl [(h0, .inr (5, [.int (Int32.ofInt 0), .ref q1, .null, .null, .null])), (q1, .inl (kA 0, 10, .inl (fun _ => Int32.ofInt 0))), (q2, .inl (kA 0, 10, .inl (fun _ => Int32.ofInt 0)))] H := hP
  have hD : va_D A [(h0, .inr (5, [.int (Int32.ofInt 0), .ref q1, .null, .null, .null])), (q1, .inl (kA 0, 10, .inl (fun _ => Int32.ofInt 0))), (q2, .inl (kA 0, 10, .inl (fun _ => Int32.ofInt 0)))] := hD
  refine va_putF (ci := 5) (v := .ref q2) (ty := (.array .int)) (C := RX5) (T := TX5) (N := 5) hx hb hts (fun w h => List.mem_cons_of_mem _ (List.mem_append_right _ h)) tyX5 tyX5_ok nmX5 hown hK hP hD hS 0 rfl rfl 2 (by decide) (hts (.fieldLink RX5 15 "VowTerrace$VowRow" "kind" "[I") (List.mem_of_getElem? (i := 6) rfl)) (fun _ h => h) rfl hin rfl (by decide +kernel) rfl rfl (Nat.le_of_ble_eq_true rfl) (hd 17 (.putfield 15) 3 rfl) (fun H locs hP hD hS => ?_)
  have hP : va_P D vwCl [(h0, .inr (5, [.int (Int32.ofInt 0), .ref q1, .ref q2, .null, .null])), (q1, .inl (kA 0, 10, .inl (fun _ => Int32.ofInt 0))), (q2, .inl (kA 0, 10, .inl (fun _ => Int32.ofInt 0)))] H := hP
  have hD : va_D A [(h0, .inr (5, [.int (Int32.ofInt 0), .ref q1, .ref q2, .null, .null])), (q1, .inl (kA 0, 10, .inl (fun _ => Int32.ofInt 0))), (q2, .inl (kA 0, 10, .inl (fun _ => Int32.ofInt 0)))] := hD
  refine lv_aload_n hx hb (hd 20 (.aload_n 0) 1 rfl) rfl (lv_at hl 0 rfl) ?_
  refine lv_bipush (v := Int32.ofInt 10) hx hb (hd 21 (.bipush 10) 2 rfl) (by decide) ?_
  refine va_newa (atype := .int) (a0 := (10, .inl (fun _ => Int32.ofInt 0))) hx hb (hts (.arrayClass .int) (List.mem_of_getElem? (i := 4) rfl)) (ty := .int) rfl hK hP hD hS hA (fun cA => zha0 cA 10) (by decide) (by decide) (by decide) (Nat.le_of_ble_eq_true rfl) (Nat.le_of_ble_eq_true rfl) (hd 23 (.newarray .int) 2 rfl) (fun q3 cA H hK2 hP hD hS => ?_)
  obtain rfl := zcA0 hK hK2
  refine W.widen (k := 3) (n := 30) (by omega) (by omega) ?_
  have hP : va_P D vwCl [(h0, .inr (5, [.int (Int32.ofInt 0), .ref q1, .ref q2, .null, .null])), (q1, .inl (kA 0, 10, .inl (fun _ => Int32.ofInt 0))), (q2, .inl (kA 0, 10, .inl (fun _ => Int32.ofInt 0))), (q3, .inl (kA 0, 10, .inl (fun _ => Int32.ofInt 0)))] H := hP
  have hD : va_D A [(h0, .inr (5, [.int (Int32.ofInt 0), .ref q1, .ref q2, .null, .null])), (q1, .inl (kA 0, 10, .inl (fun _ => Int32.ofInt 0))), (q2, .inl (kA 0, 10, .inl (fun _ => Int32.ofInt 0))), (q3, .inl (kA 0, 10, .inl (fun _ => Int32.ofInt 0)))] := hD
  refine va_putF (ci := 5) (v := .ref q3) (ty := (.array .int)) (C := RX5) (T := TX5) (N := 5) hx hb hts (fun w h => List.mem_cons_of_mem _ (List.mem_append_right _ h)) tyX5 tyX5_ok nmX5 hown hK hP hD hS 0 rfl rfl 3 (by decide) (hts (.fieldLink RX5 18 "VowTerrace$VowRow" "deep" "[I") (List.mem_of_getElem? (i := 7) rfl)) (fun _ h => h) rfl hin rfl (by decide +kernel) rfl rfl (Nat.le_of_ble_eq_true rfl) (hd 25 (.putfield 18) 3 rfl) (fun H locs hP hD hS => ?_)
  have hP : va_P D vwCl [(h0, .inr (5, [.int (Int32.ofInt 0), .ref q1, .ref q2, .ref q3, .null])), (q1, .inl (kA 0, 10, .inl (fun _ => Int32.ofInt 0))), (q2, .inl (kA 0, 10, .inl (fun _ => Int32.ofInt 0))), (q3, .inl (kA 0, 10, .inl (fun _ => Int32.ofInt 0)))] H := hP
  have hD : va_D A [(h0, .inr (5, [.int (Int32.ofInt 0), .ref q1, .ref q2, .ref q3, .null])), (q1, .inl (kA 0, 10, .inl (fun _ => Int32.ofInt 0))), (q2, .inl (kA 0, 10, .inl (fun _ => Int32.ofInt 0))), (q3, .inl (kA 0, 10, .inl (fun _ => Int32.ofInt 0)))] := hD
  refine lv_aload_n hx hb (hd 28 (.aload_n 0) 1 rfl) rfl (lv_at hl 0 rfl) ?_
  refine lv_bipush (v := Int32.ofInt 10) hx hb (hd 29 (.bipush 10) 2 rfl) (by decide) ?_
  refine va_newa (atype := .int) (a0 := (10, .inl (fun _ => Int32.ofInt 0))) hx hb (hts (.arrayClass .int) (List.mem_of_getElem? (i := 4) rfl)) (ty := .int) rfl hK hP hD hS hA (fun cA => zha0 cA 10) (by decide) (by decide) (by decide) (Nat.le_of_ble_eq_true rfl) (Nat.le_of_ble_eq_true rfl) (hd 31 (.newarray .int) 2 rfl) (fun q4 cA H hK2 hP hD hS => ?_)
  obtain rfl := zcA0 hK hK2
  refine W.widen (k := 4) (n := 40) (by omega) (by omega) ?_
  have hP : va_P D vwCl [(h0, .inr (5, [.int (Int32.ofInt 0), .ref q1, .ref q2, .ref q3, .null])), (q1, .inl (kA 0, 10, .inl (fun _ => Int32.ofInt 0))), (q2, .inl (kA 0, 10, .inl (fun _ => Int32.ofInt 0))), (q3, .inl (kA 0, 10, .inl (fun _ => Int32.ofInt 0))), (q4, .inl (kA 0, 10, .inl (fun _ => Int32.ofInt 0)))] H := hP
  have hD : va_D A [(h0, .inr (5, [.int (Int32.ofInt 0), .ref q1, .ref q2, .ref q3, .null])), (q1, .inl (kA 0, 10, .inl (fun _ => Int32.ofInt 0))), (q2, .inl (kA 0, 10, .inl (fun _ => Int32.ofInt 0))), (q3, .inl (kA 0, 10, .inl (fun _ => Int32.ofInt 0))), (q4, .inl (kA 0, 10, .inl (fun _ => Int32.ofInt 0)))] := hD
  refine va_putF (ci := 5) (v := .ref q4) (ty := (.array .int)) (C := RX5) (T := TX5) (N := 5) hx hb hts (fun w h => List.mem_cons_of_mem _ (List.mem_append_right _ h)) tyX5 tyX5_ok nmX5 hown hK hP hD hS 0 rfl rfl 4 (by decide) (hts (.fieldLink RX5 21 "VowTerrace$VowRow" "deed" "[I") (List.mem_of_getElem? (i := 8) rfl)) (fun _ h => h) rfl hin rfl (by decide +kernel) rfl rfl (Nat.le_of_ble_eq_true rfl) (hd 33 (.putfield 21) 3 rfl) (fun H locs hP hD hS => ?_)
  have hP : va_P D vwCl [(h0, .inr (5, [.int (Int32.ofInt 0), .ref q1, .ref q2, .ref q3, .ref q4])), (q1, .inl (kA 0, 10, .inl (fun _ => Int32.ofInt 0))), (q2, .inl (kA 0, 10, .inl (fun _ => Int32.ofInt 0))), (q3, .inl (kA 0, 10, .inl (fun _ => Int32.ofInt 0))), (q4, .inl (kA 0, 10, .inl (fun _ => Int32.ofInt 0)))] H := hP
  have hD : va_D A [(h0, .inr (5, [.int (Int32.ofInt 0), .ref q1, .ref q2, .ref q3, .ref q4])), (q1, .inl (kA 0, 10, .inl (fun _ => Int32.ofInt 0))), (q2, .inl (kA 0, 10, .inl (fun _ => Int32.ofInt 0))), (q3, .inl (kA 0, 10, .inl (fun _ => Int32.ofInt 0))), (q4, .inl (kA 0, 10, .inl (fun _ => Int32.ofInt 0)))] := hD
  exact W.vret hx hb hr (fun t ht hW => ⟨⟨fun i => ([h0, q1, q2, q3, q4] : List Nat).getD i 0, rfl, rfl, by rw [ht]; exact hP, hD⟩, hS.F ht⟩) hS.2.2 (hd 36 .return_ 1 rfl)
noncomputable def pr_X6_init : List (Nat × Instr × Nat) := [(0, .aload_n 0, 1), (1, .invokespecial 3, 3), (4, .aload_n 0, 1), (5, .iconst 4, 1), (6, .newarray .int, 2), (8, .putfield 9, 3), (11, .aload_n 0, 1), (12, .iconst 4, 1), (13, .newarray .int, 2), (15, .putfield 15, 3), (18, .return_, 1)]
set_option maxRecDepth 100000 in
theorem hp_X6_init : pr_X6_init.all (fun x => decide (decode cX6_init x.1 = .ok x.2)) = true := by decide +kernel
noncomputable def wI_X6 : zW := [(0, .inl (6, [zi 0 0, zr 1, zr 2])),
  (1, .inr (.inl (0, 4, [(4, .inl (0, 0))], []))),
  (2, .inr (.inl (0, 4, [(4, .inl (0, 0))], [])))]
set_option maxHeartbeats 2000000 in
set_option maxRecDepth 100000 in
theorem c_X6_init (l : Launch) (D : va_G) (kA : Nat → ClassId) (h0 sz : Nat) : Met l yX6_init wsX6_init { frames := 1, cells := 2, slots := 8, locals := 64 } (va_Pc [.ref h0] (zBf zX D vwCl kA [(h0, .inr (6, dX6))] sz)) (va_Qv (fun (f : Nat → Nat) => f 0 = h0) (fun f t => va_P D vwCl (zws kA zz0 f zp0 wI_X6) t.heap ∧ va_D (va_A [(h0, .inr (6, dX6))] sz) (zws kA zz0 f zp0 wI_X6)) (va_A [(h0, .inr (6, dX6))] sz)) 2 8 (va_A [(h0, .inr (6, dX6))] sz) := by
  refine Met.ofW (cc := cX6_init) (maxL := 1) (ret := none) (by decide +kernel) rfl ?_
  intro p e s m args below meth c s₁ B hml hv
  obtain ⟨rfl, hsz, hP, hK, hD0, hx0⟩ := hv
  have hx := B.exec
  have hb := B.bytes
  have hr := B.returns
  have hts := atoms_spec (ws := wsX6_init) B.pre
  have hown : s.vm.findClass RX6 = some m.cls := findClass_of_methodNamed B.named
  have hlocks := B.notSynchronized
  have hin : meth.name = "<init>" := (name_of_methodNamed B.named B.method).1
  have hd := zpr_all hp_X6_init
  subst hsz
  have hD := hD0.self (sz := s.heap.size)
  have hA : ∀ q : Nat, s.heap.size ≤ q → va_A [(h0, .inr (6, dX6))] s.heap.size q := fun q h => Or.inr h
  generalize hAe : va_A [(h0, .inr (6, dX6))] s.heap.size = A at hD hA hx0 ⊢
  have hS : va_S A s.heap s.heap [] := va_S.rf
  have hl := lv_entry ([.ref h0]) (n := 1) (Nat.le_of_ble_eq_true rfl)
  rw [lg_entry_eq]
  generalize (lg_sl ([.ref h0]) ++ List.replicate (1 - (lg_sl ([.ref h0])).length) Slot.unset).toArray = ls at hl ⊢
  have hl : lv_has ls 1 [(0, .ref h0)] := hl
  have hP : va_P D vwCl [(h0, .inr (6, [.int (Int32.ofInt 0), .null, .null]))] s.heap := hP
  have hD : va_D A [(h0, .inr (6, [.int (Int32.ofInt 0), .null, .null]))] := hD
  refine lv_aload_n hx hb (hd 0 (.aload_n 0) 1 rfl) rfl (lv_at hl 0 rfl) ?_
  refine W.objInit hx hb hown (hts (.methodLink RX6 3 objectInit) (List.mem_of_getElem? (i := 1) rfl)) (hts (.instanceMethod objectInit) (List.mem_of_getElem? (i := 2) rfl)) (hts _ (List.mem_of_getElem? (i := 3) rfl)) rfl (by rw [hml]; exact hl.1) rfl (hd 1 (.invokespecial 3) 3 rfl) (Nat.le_of_ble_eq_true rfl) (Nat.le_of_ble_eq_true rfl) ?_
  refine lv_aload_n hx hb (hd 4 (.aload_n 0) 1 rfl) rfl (lv_at hl 0 rfl) ?_
  refine lv_iconst (v := Int32.ofInt 4) hx hb (hd 5 (.iconst 4) 1 rfl) (by decide) ?_
  refine va_newa (atype := .int) (a0 := (4, .inl (fun _ => Int32.ofInt 0))) hx hb (hts (.arrayClass .int) (List.mem_of_getElem? (i := 4) rfl)) (ty := .int) rfl hK hP hD hS hA (fun cA => zha0 cA 4) (by decide) (by decide) (by decide) (Nat.le_of_ble_eq_true rfl) (Nat.le_of_ble_eq_true rfl) (hd 6 (.newarray .int) 2 rfl) (fun q1 cA H hK2 hP hD hS => ?_)
  obtain rfl := zcA0 hK hK2
  refine W.widen (k := 1) (n := 4) (by omega) (by omega) ?_
  have hP : va_P D vwCl [(h0, .inr (6, [.int (Int32.ofInt 0), .null, .null])), (q1, .inl (kA 0, 4, .inl (fun _ => Int32.ofInt 0)))] H := hP
  have hD : va_D A [(h0, .inr (6, [.int (Int32.ofInt 0), .null, .null])), (q1, .inl (kA 0, 4, .inl (fun _ => Int32.ofInt 0)))] := hD
  refine va_putF (ci := 6) (v := .ref q1) (ty := (.array .int)) (C := RX6) (T := TX6) (N := 3) hx hb hts (fun w h => List.mem_cons_of_mem _ (List.mem_append_right _ h)) tyX6 tyX6_ok nmX6 hown hK hP hD hS 0 rfl rfl 1 (by decide) (hts (.fieldLink RX6 9 "VowTerrace$WantRow" "house" "[I") (List.mem_of_getElem? (i := 5) rfl)) (fun _ h => h) rfl hin rfl (by decide +kernel) rfl rfl (Nat.le_of_ble_eq_true rfl) (hd 8 (.putfield 9) 3 rfl) (fun H locs hP hD hS => ?_)
  have hP : va_P D vwCl [(h0, .inr (6, [.int (Int32.ofInt 0), .ref q1, .null])), (q1, .inl (kA 0, 4, .inl (fun _ => Int32.ofInt 0)))] H := hP
  have hD : va_D A [(h0, .inr (6, [.int (Int32.ofInt 0), .ref q1, .null])), (q1, .inl (kA 0, 4, .inl (fun _ => Int32.ofInt 0)))] := hD
  refine lv_aload_n hx hb (hd 11 (.aload_n 0) 1 rfl) rfl (lv_at hl 0 rfl) ?_
  refine lv_iconst (v := Int32.ofInt 4) hx hb (hd 12 (.iconst 4) 1 rfl) (by decide) ?_
  refine va_newa (atype := .int) (a0 := (4, .inl (fun _ => Int32.ofInt 0))) hx hb (hts (.arrayClass .int) (List.mem_of_getElem? (i := 4) rfl)) (ty := .int) rfl hK hP hD hS hA (fun cA => zha0 cA 4) (by decide) (by decide) (by decide) (Nat.le_of_ble_eq_true rfl) (Nat.le_of_ble_eq_true rfl) (hd 13 (.newarray .int) 2 rfl) (fun q2 cA H hK2 hP hD hS => ?_)
  obtain rfl := zcA0 hK hK2
  refine W.widen (k := 2) (n := 8) (by omega) (by omega) ?_
  have hP : va_P D vwCl [(h0, .inr (6, [.int (Int32.ofInt 0), .ref q1, .null])), (q1, .inl (kA 0, 4, .inl (fun _ => Int32.ofInt 0))), (q2, .inl (kA 0, 4, .inl (fun _ => Int32.ofInt 0)))] H := hP
  have hD : va_D A [(h0, .inr (6, [.int (Int32.ofInt 0), .ref q1, .null])), (q1, .inl (kA 0, 4, .inl (fun _ => Int32.ofInt 0))), (q2, .inl (kA 0, 4, .inl (fun _ => Int32.ofInt 0)))] := hD
  refine va_putF (ci := 6) (v := .ref q2) (ty := (.array .int)) (C := RX6) (T := TX6) (N := 3) hx hb hts (fun w h => List.mem_cons_of_mem _ (List.mem_append_right _ h)) tyX6 tyX6_ok nmX6 hown hK hP hD hS 0 rfl rfl 2 (by decide) (hts (.fieldLink RX6 15 "VowTerrace$WantRow" "deed" "[I") (List.mem_of_getElem? (i := 6) rfl)) (fun _ h => h) rfl hin rfl (by decide +kernel) rfl rfl (Nat.le_of_ble_eq_true rfl) (hd 15 (.putfield 15) 3 rfl) (fun H locs hP hD hS => ?_)
  have hP : va_P D vwCl [(h0, .inr (6, [.int (Int32.ofInt 0), .ref q1, .ref q2])), (q1, .inl (kA 0, 4, .inl (fun _ => Int32.ofInt 0))), (q2, .inl (kA 0, 4, .inl (fun _ => Int32.ofInt 0)))] H := hP
  have hD : va_D A [(h0, .inr (6, [.int (Int32.ofInt 0), .ref q1, .ref q2])), (q1, .inl (kA 0, 4, .inl (fun _ => Int32.ofInt 0))), (q2, .inl (kA 0, 4, .inl (fun _ => Int32.ofInt 0)))] := hD
  exact W.vret hx hb hr (fun t ht hW => ⟨⟨fun i => ([h0, q1, q2] : List Nat).getD i 0, rfl, rfl, by rw [ht]; exact hP, hD⟩, hS.F ht⟩) hS.2.2 (hd 18 .return_ 1 rfl)
noncomputable def pr_X4_init : List (Nat × Instr × Nat) := [(0, .aload_n 0, 1), (1, .invokespecial 3, 3), (4, .aload_n 0, 1), (5, .iconst 3, 1), (6, .putfield 9, 3), (9, .aload_n 0, 1), (10, .iconst 5, 1), (11, .newarray .int, 2), (13, .putfield 15, 3), (16, .aload_n 0, 1), (17, .bipush 7, 2), (19, .newarray .int, 2), (21, .putfield 19, 3), (24, .aload_n 0, 1), (25, .bipush 7, 2), (27, .newarray .int, 2), (29, .putfield 22, 3), (32, .aload_n 0, 1), (33, .bipush 7, 2), (35, .newarray .int, 2), (37, .putfield 25, 3), (40, .aload_n 0, 1), (41, .bipush 7, 2), (43, .newarray .int, 2), (45, .putfield 28, 3), (48, .aload_n 0, 1), (49, .bipush 7, 2), (51, .newarray .int, 2), (53, .putfield 31, 3), (56, .aload_n 0, 1), (57, .bipush 35, 2), (59, .newarray .int, 2), (61, .putfield 34, 3), (64, .aload_n 0, 1), (65, .new 37, 3), (68, .dup, 1), (69, .invokespecial 39, 3), (72, .putfield 40, 3), (75, .aload_n 0, 1), (76, .new 37, 3), (79, .dup, 1), (80, .invokespecial 39, 3), (83, .putfield 44, 3), (86, .aload_n 0, 1), (87, .new 47, 3), (90, .dup, 1), (91, .invokespecial 49, 3), (94, .putfield 50, 3), (97, .return_, 1)]
set_option maxRecDepth 100000 in
theorem hp_X4_init : pr_X4_init.all (fun x => decide (decode cX4_init x.1 = .ok x.2)) = true := by decide +kernel
noncomputable def wI_X4 : zW := [(0, .inl (4, [zi 0 3, zi 0 0, zi 0 0, zr 1, zr 2, zr 3, zi 0 0, zr 4, zr 5, zr 6, zr 7, zr 8, zr 13, zr 18, zi 0 0, zi 0 0, zi 0 0, zi 0 0])),
  (1, .inr (.inl (0, 5, [(5, .inl (0, 0))], []))),
  (2, .inr (.inl (0, 7, [(7, .inl (0, 0))], []))),
  (3, .inr (.inl (0, 7, [(7, .inl (0, 0))], []))),
  (4, .inr (.inl (0, 7, [(7, .inl (0, 0))], []))),
  (5, .inr (.inl (0, 7, [(7, .inl (0, 0))], []))),
  (6, .inr (.inl (0, 7, [(7, .inl (0, 0))], []))),
  (7, .inr (.inl (0, 35, [(35, .inl (0, 0))], []))),
  (8, .inl (5, [zi 0 0, zr 9, zr 10, zr 11, zr 12])),
  (9, .inr (.inl (0, 10, [(10, .inl (0, 0))], []))),
  (10, .inr (.inl (0, 10, [(10, .inl (0, 0))], []))),
  (11, .inr (.inl (0, 10, [(10, .inl (0, 0))], []))),
  (12, .inr (.inl (0, 10, [(10, .inl (0, 0))], []))),
  (13, .inl (5, [zi 0 0, zr 14, zr 15, zr 16, zr 17])),
  (14, .inr (.inl (0, 10, [(10, .inl (0, 0))], []))),
  (15, .inr (.inl (0, 10, [(10, .inl (0, 0))], []))),
  (16, .inr (.inl (0, 10, [(10, .inl (0, 0))], []))),
  (17, .inr (.inl (0, 10, [(10, .inl (0, 0))], []))),
  (18, .inl (6, [zi 0 0, zr 19, zr 20])),
  (19, .inr (.inl (0, 4, [(4, .inl (0, 0))], []))),
  (20, .inr (.inl (0, 4, [(4, .inl (0, 0))], [])))]
set_option maxHeartbeats 2000000 in
set_option maxRecDepth 100000 in
theorem c_X4_init (l : Launch) (D : va_G) (kA : Nat → ClassId) (h0 sz : Nat) : Met l yX4_init wsX4_init { frames := 2, cells := 20, slots := 176, locals := 84 } (va_Pc [.ref h0] (zBf zX D vwCl kA [(h0, .inr (4, dX4))] sz)) (va_Qv (fun (f : Nat → Nat) => f 0 = h0) (fun f t => va_P D vwCl (zws kA zz0 f zp0 wI_X4) t.heap ∧ va_D (va_A [(h0, .inr (4, dX4))] sz) (zws kA zz0 f zp0 wI_X4)) (va_A [(h0, .inr (4, dX4))] sz)) 20 176 (va_A [(h0, .inr (4, dX4))] sz) := by
  refine Met.ofW (cc := cX4_init) (maxL := 1) (ret := none) (by decide +kernel) rfl ?_
  intro p e s m args below meth c s₁ B hml hv
  obtain ⟨rfl, hsz, hP, hK, hD0, hx0⟩ := hv
  have hx := B.exec
  have hb := B.bytes
  have hr := B.returns
  have hts := atoms_spec (ws := wsX4_init) B.pre
  have hown : s.vm.findClass RX4 = some m.cls := findClass_of_methodNamed B.named
  have hlocks := B.notSynchronized
  have hin : meth.name = "<init>" := (name_of_methodNamed B.named B.method).1
  have hd := zpr_all hp_X4_init
  subst hsz
  have hD := hD0.self (sz := s.heap.size)
  have hA : ∀ q : Nat, s.heap.size ≤ q → va_A [(h0, .inr (4, dX4))] s.heap.size q := fun q h => Or.inr h
  generalize hAe : va_A [(h0, .inr (4, dX4))] s.heap.size = A at hD hA hx0 ⊢
  have hS : va_S A s.heap s.heap [] := va_S.rf
  have hl := lv_entry ([.ref h0]) (n := 1) (Nat.le_of_ble_eq_true rfl)
  rw [lg_entry_eq]
  generalize (lg_sl ([.ref h0]) ++ List.replicate (1 - (lg_sl ([.ref h0])).length) Slot.unset).toArray = ls at hl ⊢
  have hl : lv_has ls 1 [(0, .ref h0)] := hl
  have hP : va_P D vwCl [(h0, .inr (4, [.int (Int32.ofInt 0), .int (Int32.ofInt 0), .int (Int32.ofInt 0), .null, .null, .null, .int (Int32.ofInt 0), .null, .null, .null, .null, .null, .null, .null, .int (Int32.ofInt 0), .int (Int32.ofInt 0), .int (Int32.ofInt 0), .int (Int32.ofInt 0)]))] s.heap := hP
  have hD : va_D A [(h0, .inr (4, [.int (Int32.ofInt 0), .int (Int32.ofInt 0), .int (Int32.ofInt 0), .null, .null, .null, .int (Int32.ofInt 0), .null, .null, .null, .null, .null, .null, .null, .int (Int32.ofInt 0), .int (Int32.ofInt 0), .int (Int32.ofInt 0), .int (Int32.ofInt 0)]))] := hD
  refine lv_aload_n hx hb (hd 0 (.aload_n 0) 1 rfl) rfl (lv_at hl 0 rfl) ?_
  refine W.objInit hx hb hown (hts (.methodLink RX4 3 objectInit) (List.mem_of_getElem? (i := 1) rfl)) (hts (.instanceMethod objectInit) (List.mem_of_getElem? (i := 2) rfl)) (hts _ (List.mem_of_getElem? (i := 3) rfl)) rfl (by rw [hml]; exact hl.1) rfl (hd 1 (.invokespecial 3) 3 rfl) (Nat.le_of_ble_eq_true rfl) (Nat.le_of_ble_eq_true rfl) ?_
  refine lv_aload_n hx hb (hd 4 (.aload_n 0) 1 rfl) rfl (lv_at hl 0 rfl) ?_
  refine lv_iconst (v := Int32.ofInt 3) hx hb (hd 5 (.iconst 3) 1 rfl) (by decide) ?_
  refine va_put (ci := 4) (v := .int (Int32.ofInt 3)) (ty := .int) (C := RX4) (T := TX4) (N := 18) hx hb hts (fun w h => List.mem_cons_of_mem _ (List.mem_append_left _ (List.mem_append_left _ (List.mem_append_right _ h)))) tyX4 tyX4_ok nmX4 hown hK hP hD hS 0 rfl rfl 0 (by decide) (hts (.fieldLink RX4 9 "VowTerrace$Terrace" "houses" "I") (List.mem_of_getElem? (i := 4) rfl)) (fun _ h => h) rfl (by decide +kernel) rfl rfl (Nat.le_of_ble_eq_true rfl) (hd 6 (.putfield 9) 3 rfl) (fun H locs hP hD hS => ?_)
  have hP : va_P D vwCl [(h0, .inr (4, [.int (Int32.ofInt 3), .int (Int32.ofInt 0), .int (Int32.ofInt 0), .null, .null, .null, .int (Int32.ofInt 0), .null, .null, .null, .null, .null, .null, .null, .int (Int32.ofInt 0), .int (Int32.ofInt 0), .int (Int32.ofInt 0), .int (Int32.ofInt 0)]))] H := hP
  have hD : va_D A [(h0, .inr (4, [.int (Int32.ofInt 3), .int (Int32.ofInt 0), .int (Int32.ofInt 0), .null, .null, .null, .int (Int32.ofInt 0), .null, .null, .null, .null, .null, .null, .null, .int (Int32.ofInt 0), .int (Int32.ofInt 0), .int (Int32.ofInt 0), .int (Int32.ofInt 0)]))] := hD
  refine lv_aload_n hx hb (hd 9 (.aload_n 0) 1 rfl) rfl (lv_at hl 0 rfl) ?_
  refine lv_iconst (v := Int32.ofInt 5) hx hb (hd 10 (.iconst 5) 1 rfl) (by decide) ?_
  refine va_newa (atype := .int) (a0 := (5, .inl (fun _ => Int32.ofInt 0))) hx hb (hts (.arrayClass .int) (List.mem_of_getElem? (i := 5) rfl)) (ty := .int) rfl hK hP hD hS hA (fun cA => zha0 cA 5) (by decide) (by decide) (by decide) (Nat.le_of_ble_eq_true rfl) (Nat.le_of_ble_eq_true rfl) (hd 11 (.newarray .int) 2 rfl) (fun q1 cA H hK2 hP hD hS => ?_)
  obtain rfl := zcA0 hK hK2
  refine W.widen (k := 1) (n := 5) (by omega) (by omega) ?_
  have hP : va_P D vwCl [(h0, .inr (4, [.int (Int32.ofInt 3), .int (Int32.ofInt 0), .int (Int32.ofInt 0), .null, .null, .null, .int (Int32.ofInt 0), .null, .null, .null, .null, .null, .null, .null, .int (Int32.ofInt 0), .int (Int32.ofInt 0), .int (Int32.ofInt 0), .int (Int32.ofInt 0)])), (q1, .inl (kA 0, 5, .inl (fun _ => Int32.ofInt 0)))] H := hP
  have hD : va_D A [(h0, .inr (4, [.int (Int32.ofInt 3), .int (Int32.ofInt 0), .int (Int32.ofInt 0), .null, .null, .null, .int (Int32.ofInt 0), .null, .null, .null, .null, .null, .null, .null, .int (Int32.ofInt 0), .int (Int32.ofInt 0), .int (Int32.ofInt 0), .int (Int32.ofInt 0)])), (q1, .inl (kA 0, 5, .inl (fun _ => Int32.ofInt 0)))] := hD
  refine va_putF (ci := 4) (v := .ref q1) (ty := (.array .int)) (C := RX4) (T := TX4) (N := 18) hx hb hts (fun w h => List.mem_cons_of_mem _ (List.mem_append_left _ (List.mem_append_left _ (List.mem_append_right _ h)))) tyX4 tyX4_ok nmX4 hown hK hP hD hS 0 rfl rfl 3 (by decide) (hts (.fieldLink RX4 15 "VowTerrace$Terrace" "costs" "[I") (List.mem_of_getElem? (i := 6) rfl)) (fun _ h => h) rfl hin rfl (by decide +kernel) rfl rfl (Nat.le_of_ble_eq_true rfl) (hd 13 (.putfield 15) 3 rfl) (fun H locs hP hD hS => ?_)
  have hP : va_P D vwCl [(h0, .inr (4, [.int (Int32.ofInt 3), .int (Int32.ofInt 0), .int (Int32.ofInt 0), .ref q1, .null, .null, .int (Int32.ofInt 0), .null, .null, .null, .null, .null, .null, .null, .int (Int32.ofInt 0), .int (Int32.ofInt 0), .int (Int32.ofInt 0), .int (Int32.ofInt 0)])), (q1, .inl (kA 0, 5, .inl (fun _ => Int32.ofInt 0)))] H := hP
  have hD : va_D A [(h0, .inr (4, [.int (Int32.ofInt 3), .int (Int32.ofInt 0), .int (Int32.ofInt 0), .ref q1, .null, .null, .int (Int32.ofInt 0), .null, .null, .null, .null, .null, .null, .null, .int (Int32.ofInt 0), .int (Int32.ofInt 0), .int (Int32.ofInt 0), .int (Int32.ofInt 0)])), (q1, .inl (kA 0, 5, .inl (fun _ => Int32.ofInt 0)))] := hD
  refine lv_aload_n hx hb (hd 16 (.aload_n 0) 1 rfl) rfl (lv_at hl 0 rfl) ?_
  refine lv_bipush (v := Int32.ofInt 7) hx hb (hd 17 (.bipush 7) 2 rfl) (by decide) ?_
  refine va_newa (atype := .int) (a0 := (7, .inl (fun _ => Int32.ofInt 0))) hx hb (hts (.arrayClass .int) (List.mem_of_getElem? (i := 5) rfl)) (ty := .int) rfl hK hP hD hS hA (fun cA => zha0 cA 7) (by decide) (by decide) (by decide) (Nat.le_of_ble_eq_true rfl) (Nat.le_of_ble_eq_true rfl) (hd 19 (.newarray .int) 2 rfl) (fun q2 cA H hK2 hP hD hS => ?_)
  obtain rfl := zcA0 hK hK2
  refine W.widen (k := 2) (n := 12) (by omega) (by omega) ?_
  have hP : va_P D vwCl [(h0, .inr (4, [.int (Int32.ofInt 3), .int (Int32.ofInt 0), .int (Int32.ofInt 0), .ref q1, .null, .null, .int (Int32.ofInt 0), .null, .null, .null, .null, .null, .null, .null, .int (Int32.ofInt 0), .int (Int32.ofInt 0), .int (Int32.ofInt 0), .int (Int32.ofInt 0)])), (q1, .inl (kA 0, 5, .inl (fun _ => Int32.ofInt 0))), (q2, .inl (kA 0, 7, .inl (fun _ => Int32.ofInt 0)))] H := hP
  have hD : va_D A [(h0, .inr (4, [.int (Int32.ofInt 3), .int (Int32.ofInt 0), .int (Int32.ofInt 0), .ref q1, .null, .null, .int (Int32.ofInt 0), .null, .null, .null, .null, .null, .null, .null, .int (Int32.ofInt 0), .int (Int32.ofInt 0), .int (Int32.ofInt 0), .int (Int32.ofInt 0)])), (q1, .inl (kA 0, 5, .inl (fun _ => Int32.ofInt 0))), (q2, .inl (kA 0, 7, .inl (fun _ => Int32.ofInt 0)))] := hD
  refine va_putF (ci := 4) (v := .ref q2) (ty := (.array .int)) (C := RX4) (T := TX4) (N := 18) hx hb hts (fun w h => List.mem_cons_of_mem _ (List.mem_append_left _ (List.mem_append_left _ (List.mem_append_right _ h)))) tyX4 tyX4_ok nmX4 hown hK hP hD hS 0 rfl rfl 4 (by decide) (hts (.fieldLink RX4 19 "VowTerrace$Terrace" "purse" "[I") (List.mem_of_getElem? (i := 7) rfl)) (fun _ h => h) rfl hin rfl (by decide +kernel) rfl rfl (Nat.le_of_ble_eq_true rfl) (hd 21 (.putfield 19) 3 rfl) (fun H locs hP hD hS => ?_)
  have hP : va_P D vwCl [(h0, .inr (4, [.int (Int32.ofInt 3), .int (Int32.ofInt 0), .int (Int32.ofInt 0), .ref q1, .ref q2, .null, .int (Int32.ofInt 0), .null, .null, .null, .null, .null, .null, .null, .int (Int32.ofInt 0), .int (Int32.ofInt 0), .int (Int32.ofInt 0), .int (Int32.ofInt 0)])), (q1, .inl (kA 0, 5, .inl (fun _ => Int32.ofInt 0))), (q2, .inl (kA 0, 7, .inl (fun _ => Int32.ofInt 0)))] H := hP
  have hD : va_D A [(h0, .inr (4, [.int (Int32.ofInt 3), .int (Int32.ofInt 0), .int (Int32.ofInt 0), .ref q1, .ref q2, .null, .int (Int32.ofInt 0), .null, .null, .null, .null, .null, .null, .null, .int (Int32.ofInt 0), .int (Int32.ofInt 0), .int (Int32.ofInt 0), .int (Int32.ofInt 0)])), (q1, .inl (kA 0, 5, .inl (fun _ => Int32.ofInt 0))), (q2, .inl (kA 0, 7, .inl (fun _ => Int32.ofInt 0)))] := hD
  refine lv_aload_n hx hb (hd 24 (.aload_n 0) 1 rfl) rfl (lv_at hl 0 rfl) ?_
  refine lv_bipush (v := Int32.ofInt 7) hx hb (hd 25 (.bipush 7) 2 rfl) (by decide) ?_
  refine va_newa (atype := .int) (a0 := (7, .inl (fun _ => Int32.ofInt 0))) hx hb (hts (.arrayClass .int) (List.mem_of_getElem? (i := 5) rfl)) (ty := .int) rfl hK hP hD hS hA (fun cA => zha0 cA 7) (by decide) (by decide) (by decide) (Nat.le_of_ble_eq_true rfl) (Nat.le_of_ble_eq_true rfl) (hd 27 (.newarray .int) 2 rfl) (fun q3 cA H hK2 hP hD hS => ?_)
  obtain rfl := zcA0 hK hK2
  refine W.widen (k := 3) (n := 19) (by omega) (by omega) ?_
  have hP : va_P D vwCl [(h0, .inr (4, [.int (Int32.ofInt 3), .int (Int32.ofInt 0), .int (Int32.ofInt 0), .ref q1, .ref q2, .null, .int (Int32.ofInt 0), .null, .null, .null, .null, .null, .null, .null, .int (Int32.ofInt 0), .int (Int32.ofInt 0), .int (Int32.ofInt 0), .int (Int32.ofInt 0)])), (q1, .inl (kA 0, 5, .inl (fun _ => Int32.ofInt 0))), (q2, .inl (kA 0, 7, .inl (fun _ => Int32.ofInt 0))), (q3, .inl (kA 0, 7, .inl (fun _ => Int32.ofInt 0)))] H := hP
  have hD : va_D A [(h0, .inr (4, [.int (Int32.ofInt 3), .int (Int32.ofInt 0), .int (Int32.ofInt 0), .ref q1, .ref q2, .null, .int (Int32.ofInt 0), .null, .null, .null, .null, .null, .null, .null, .int (Int32.ofInt 0), .int (Int32.ofInt 0), .int (Int32.ofInt 0), .int (Int32.ofInt 0)])), (q1, .inl (kA 0, 5, .inl (fun _ => Int32.ofInt 0))), (q2, .inl (kA 0, 7, .inl (fun _ => Int32.ofInt 0))), (q3, .inl (kA 0, 7, .inl (fun _ => Int32.ofInt 0)))] := hD
  refine va_putF (ci := 4) (v := .ref q3) (ty := (.array .int)) (C := RX4) (T := TX4) (N := 18) hx hb hts (fun w h => List.mem_cons_of_mem _ (List.mem_append_left _ (List.mem_append_left _ (List.mem_append_right _ h)))) tyX4 tyX4_ok nmX4 hown hK hP hD hS 0 rfl rfl 5 (by decide) (hts (.fieldLink RX4 22 "VowTerrace$Terrace" "skills" "[I") (List.mem_of_getElem? (i := 8) rfl)) (fun _ h => h) rfl hin rfl (by decide +kernel) rfl rfl (Nat.le_of_ble_eq_true rfl) (hd 29 (.putfield 22) 3 rfl) (fun H locs hP hD hS => ?_)
  have hP : va_P D vwCl [(h0, .inr (4, [.int (Int32.ofInt 3), .int (Int32.ofInt 0), .int (Int32.ofInt 0), .ref q1, .ref q2, .ref q3, .int (Int32.ofInt 0), .null, .null, .null, .null, .null, .null, .null, .int (Int32.ofInt 0), .int (Int32.ofInt 0), .int (Int32.ofInt 0), .int (Int32.ofInt 0)])), (q1, .inl (kA 0, 5, .inl (fun _ => Int32.ofInt 0))), (q2, .inl (kA 0, 7, .inl (fun _ => Int32.ofInt 0))), (q3, .inl (kA 0, 7, .inl (fun _ => Int32.ofInt 0)))] H := hP
  have hD : va_D A [(h0, .inr (4, [.int (Int32.ofInt 3), .int (Int32.ofInt 0), .int (Int32.ofInt 0), .ref q1, .ref q2, .ref q3, .int (Int32.ofInt 0), .null, .null, .null, .null, .null, .null, .null, .int (Int32.ofInt 0), .int (Int32.ofInt 0), .int (Int32.ofInt 0), .int (Int32.ofInt 0)])), (q1, .inl (kA 0, 5, .inl (fun _ => Int32.ofInt 0))), (q2, .inl (kA 0, 7, .inl (fun _ => Int32.ofInt 0))), (q3, .inl (kA 0, 7, .inl (fun _ => Int32.ofInt 0)))] := hD
  refine lv_aload_n hx hb (hd 32 (.aload_n 0) 1 rfl) rfl (lv_at hl 0 rfl) ?_
  refine lv_bipush (v := Int32.ofInt 7) hx hb (hd 33 (.bipush 7) 2 rfl) (by decide) ?_
  refine va_newa (atype := .int) (a0 := (7, .inl (fun _ => Int32.ofInt 0))) hx hb (hts (.arrayClass .int) (List.mem_of_getElem? (i := 5) rfl)) (ty := .int) rfl hK hP hD hS hA (fun cA => zha0 cA 7) (by decide) (by decide) (by decide) (Nat.le_of_ble_eq_true rfl) (Nat.le_of_ble_eq_true rfl) (hd 35 (.newarray .int) 2 rfl) (fun q4 cA H hK2 hP hD hS => ?_)
  obtain rfl := zcA0 hK hK2
  refine W.widen (k := 4) (n := 26) (by omega) (by omega) ?_
  have hP : va_P D vwCl [(h0, .inr (4, [.int (Int32.ofInt 3), .int (Int32.ofInt 0), .int (Int32.ofInt 0), .ref q1, .ref q2, .ref q3, .int (Int32.ofInt 0), .null, .null, .null, .null, .null, .null, .null, .int (Int32.ofInt 0), .int (Int32.ofInt 0), .int (Int32.ofInt 0), .int (Int32.ofInt 0)])), (q1, .inl (kA 0, 5, .inl (fun _ => Int32.ofInt 0))), (q2, .inl (kA 0, 7, .inl (fun _ => Int32.ofInt 0))), (q3, .inl (kA 0, 7, .inl (fun _ => Int32.ofInt 0))), (q4, .inl (kA 0, 7, .inl (fun _ => Int32.ofInt 0)))] H := hP
  have hD : va_D A [(h0, .inr (4, [.int (Int32.ofInt 3), .int (Int32.ofInt 0), .int (Int32.ofInt 0), .ref q1, .ref q2, .ref q3, .int (Int32.ofInt 0), .null, .null, .null, .null, .null, .null, .null, .int (Int32.ofInt 0), .int (Int32.ofInt 0), .int (Int32.ofInt 0), .int (Int32.ofInt 0)])), (q1, .inl (kA 0, 5, .inl (fun _ => Int32.ofInt 0))), (q2, .inl (kA 0, 7, .inl (fun _ => Int32.ofInt 0))), (q3, .inl (kA 0, 7, .inl (fun _ => Int32.ofInt 0))), (q4, .inl (kA 0, 7, .inl (fun _ => Int32.ofInt 0)))] := hD
  refine va_putF (ci := 4) (v := .ref q4) (ty := (.array .int)) (C := RX4) (T := TX4) (N := 18) hx hb hts (fun w h => List.mem_cons_of_mem _ (List.mem_append_left _ (List.mem_append_left _ (List.mem_append_right _ h)))) tyX4 tyX4_ok nmX4 hown hK hP hD hS 0 rfl rfl 7 (by decide) (hts (.fieldLink RX4 25 "VowTerrace$Terrace" "habitKind" "[I") (List.mem_of_getElem? (i := 9) rfl)) (fun _ h => h) rfl hin rfl (by decide +kernel) rfl rfl (Nat.le_of_ble_eq_true rfl) (hd 37 (.putfield 25) 3 rfl) (fun H locs hP hD hS => ?_)
  have hP : va_P D vwCl [(h0, .inr (4, [.int (Int32.ofInt 3), .int (Int32.ofInt 0), .int (Int32.ofInt 0), .ref q1, .ref q2, .ref q3, .int (Int32.ofInt 0), .ref q4, .null, .null, .null, .null, .null, .null, .int (Int32.ofInt 0), .int (Int32.ofInt 0), .int (Int32.ofInt 0), .int (Int32.ofInt 0)])), (q1, .inl (kA 0, 5, .inl (fun _ => Int32.ofInt 0))), (q2, .inl (kA 0, 7, .inl (fun _ => Int32.ofInt 0))), (q3, .inl (kA 0, 7, .inl (fun _ => Int32.ofInt 0))), (q4, .inl (kA 0, 7, .inl (fun _ => Int32.ofInt 0)))] H := hP
  have hD : va_D A [(h0, .inr (4, [.int (Int32.ofInt 3), .int (Int32.ofInt 0), .int (Int32.ofInt 0), .ref q1, .ref q2, .ref q3, .int (Int32.ofInt 0), .ref q4, .null, .null, .null, .null, .null, .null, .int (Int32.ofInt 0), .int (Int32.ofInt 0), .int (Int32.ofInt 0), .int (Int32.ofInt 0)])), (q1, .inl (kA 0, 5, .inl (fun _ => Int32.ofInt 0))), (q2, .inl (kA 0, 7, .inl (fun _ => Int32.ofInt 0))), (q3, .inl (kA 0, 7, .inl (fun _ => Int32.ofInt 0))), (q4, .inl (kA 0, 7, .inl (fun _ => Int32.ofInt 0)))] := hD
  refine lv_aload_n hx hb (hd 40 (.aload_n 0) 1 rfl) rfl (lv_at hl 0 rfl) ?_
  refine lv_bipush (v := Int32.ofInt 7) hx hb (hd 41 (.bipush 7) 2 rfl) (by decide) ?_
  refine va_newa (atype := .int) (a0 := (7, .inl (fun _ => Int32.ofInt 0))) hx hb (hts (.arrayClass .int) (List.mem_of_getElem? (i := 5) rfl)) (ty := .int) rfl hK hP hD hS hA (fun cA => zha0 cA 7) (by decide) (by decide) (by decide) (Nat.le_of_ble_eq_true rfl) (Nat.le_of_ble_eq_true rfl) (hd 43 (.newarray .int) 2 rfl) (fun q5 cA H hK2 hP hD hS => ?_)
  obtain rfl := zcA0 hK hK2
  refine W.widen (k := 5) (n := 33) (by omega) (by omega) ?_
  have hP : va_P D vwCl [(h0, .inr (4, [.int (Int32.ofInt 3), .int (Int32.ofInt 0), .int (Int32.ofInt 0), .ref q1, .ref q2, .ref q3, .int (Int32.ofInt 0), .ref q4, .null, .null, .null, .null, .null, .null, .int (Int32.ofInt 0), .int (Int32.ofInt 0), .int (Int32.ofInt 0), .int (Int32.ofInt 0)])), (q1, .inl (kA 0, 5, .inl (fun _ => Int32.ofInt 0))), (q2, .inl (kA 0, 7, .inl (fun _ => Int32.ofInt 0))), (q3, .inl (kA 0, 7, .inl (fun _ => Int32.ofInt 0))), (q4, .inl (kA 0, 7, .inl (fun _ => Int32.ofInt 0))), (q5, .inl (kA 0, 7, .inl (fun _ => Int32.ofInt 0)))] H := hP
  have hD : va_D A [(h0, .inr (4, [.int (Int32.ofInt 3), .int (Int32.ofInt 0), .int (Int32.ofInt 0), .ref q1, .ref q2, .ref q3, .int (Int32.ofInt 0), .ref q4, .null, .null, .null, .null, .null, .null, .int (Int32.ofInt 0), .int (Int32.ofInt 0), .int (Int32.ofInt 0), .int (Int32.ofInt 0)])), (q1, .inl (kA 0, 5, .inl (fun _ => Int32.ofInt 0))), (q2, .inl (kA 0, 7, .inl (fun _ => Int32.ofInt 0))), (q3, .inl (kA 0, 7, .inl (fun _ => Int32.ofInt 0))), (q4, .inl (kA 0, 7, .inl (fun _ => Int32.ofInt 0))), (q5, .inl (kA 0, 7, .inl (fun _ => Int32.ofInt 0)))] := hD
  refine va_putF (ci := 4) (v := .ref q5) (ty := (.array .int)) (C := RX4) (T := TX4) (N := 18) hx hb hts (fun w h => List.mem_cons_of_mem _ (List.mem_append_left _ (List.mem_append_left _ (List.mem_append_right _ h)))) tyX4 tyX4_ok nmX4 hown hK hP hD hS 0 rfl rfl 8 (by decide) (hts (.fieldLink RX4 28 "VowTerrace$Terrace" "habitDeed" "[I") (List.mem_of_getElem? (i := 10) rfl)) (fun _ h => h) rfl hin rfl (by decide +kernel) rfl rfl (Nat.le_of_ble_eq_true rfl) (hd 45 (.putfield 28) 3 rfl) (fun H locs hP hD hS => ?_)
  have hP : va_P D vwCl [(h0, .inr (4, [.int (Int32.ofInt 3), .int (Int32.ofInt 0), .int (Int32.ofInt 0), .ref q1, .ref q2, .ref q3, .int (Int32.ofInt 0), .ref q4, .ref q5, .null, .null, .null, .null, .null, .int (Int32.ofInt 0), .int (Int32.ofInt 0), .int (Int32.ofInt 0), .int (Int32.ofInt 0)])), (q1, .inl (kA 0, 5, .inl (fun _ => Int32.ofInt 0))), (q2, .inl (kA 0, 7, .inl (fun _ => Int32.ofInt 0))), (q3, .inl (kA 0, 7, .inl (fun _ => Int32.ofInt 0))), (q4, .inl (kA 0, 7, .inl (fun _ => Int32.ofInt 0))), (q5, .inl (kA 0, 7, .inl (fun _ => Int32.ofInt 0)))] H := hP
  have hD : va_D A [(h0, .inr (4, [.int (Int32.ofInt 3), .int (Int32.ofInt 0), .int (Int32.ofInt 0), .ref q1, .ref q2, .ref q3, .int (Int32.ofInt 0), .ref q4, .ref q5, .null, .null, .null, .null, .null, .int (Int32.ofInt 0), .int (Int32.ofInt 0), .int (Int32.ofInt 0), .int (Int32.ofInt 0)])), (q1, .inl (kA 0, 5, .inl (fun _ => Int32.ofInt 0))), (q2, .inl (kA 0, 7, .inl (fun _ => Int32.ofInt 0))), (q3, .inl (kA 0, 7, .inl (fun _ => Int32.ofInt 0))), (q4, .inl (kA 0, 7, .inl (fun _ => Int32.ofInt 0))), (q5, .inl (kA 0, 7, .inl (fun _ => Int32.ofInt 0)))] := hD
  refine lv_aload_n hx hb (hd 48 (.aload_n 0) 1 rfl) rfl (lv_at hl 0 rfl) ?_
  refine lv_bipush (v := Int32.ofInt 7) hx hb (hd 49 (.bipush 7) 2 rfl) (by decide) ?_
  refine va_newa (atype := .int) (a0 := (7, .inl (fun _ => Int32.ofInt 0))) hx hb (hts (.arrayClass .int) (List.mem_of_getElem? (i := 5) rfl)) (ty := .int) rfl hK hP hD hS hA (fun cA => zha0 cA 7) (by decide) (by decide) (by decide) (Nat.le_of_ble_eq_true rfl) (Nat.le_of_ble_eq_true rfl) (hd 51 (.newarray .int) 2 rfl) (fun q6 cA H hK2 hP hD hS => ?_)
  obtain rfl := zcA0 hK hK2
  refine W.widen (k := 6) (n := 40) (by omega) (by omega) ?_
  have hP : va_P D vwCl [(h0, .inr (4, [.int (Int32.ofInt 3), .int (Int32.ofInt 0), .int (Int32.ofInt 0), .ref q1, .ref q2, .ref q3, .int (Int32.ofInt 0), .ref q4, .ref q5, .null, .null, .null, .null, .null, .int (Int32.ofInt 0), .int (Int32.ofInt 0), .int (Int32.ofInt 0), .int (Int32.ofInt 0)])), (q1, .inl (kA 0, 5, .inl (fun _ => Int32.ofInt 0))), (q2, .inl (kA 0, 7, .inl (fun _ => Int32.ofInt 0))), (q3, .inl (kA 0, 7, .inl (fun _ => Int32.ofInt 0))), (q4, .inl (kA 0, 7, .inl (fun _ => Int32.ofInt 0))), (q5, .inl (kA 0, 7, .inl (fun _ => Int32.ofInt 0))), (q6, .inl (kA 0, 7, .inl (fun _ => Int32.ofInt 0)))] H := hP
  have hD : va_D A [(h0, .inr (4, [.int (Int32.ofInt 3), .int (Int32.ofInt 0), .int (Int32.ofInt 0), .ref q1, .ref q2, .ref q3, .int (Int32.ofInt 0), .ref q4, .ref q5, .null, .null, .null, .null, .null, .int (Int32.ofInt 0), .int (Int32.ofInt 0), .int (Int32.ofInt 0), .int (Int32.ofInt 0)])), (q1, .inl (kA 0, 5, .inl (fun _ => Int32.ofInt 0))), (q2, .inl (kA 0, 7, .inl (fun _ => Int32.ofInt 0))), (q3, .inl (kA 0, 7, .inl (fun _ => Int32.ofInt 0))), (q4, .inl (kA 0, 7, .inl (fun _ => Int32.ofInt 0))), (q5, .inl (kA 0, 7, .inl (fun _ => Int32.ofInt 0))), (q6, .inl (kA 0, 7, .inl (fun _ => Int32.ofInt 0)))] := hD
  refine va_putF (ci := 4) (v := .ref q6) (ty := (.array .int)) (C := RX4) (T := TX4) (N := 18) hx hb hts (fun w h => List.mem_cons_of_mem _ (List.mem_append_left _ (List.mem_append_left _ (List.mem_append_right _ h)))) tyX4 tyX4_ok nmX4 hown hK hP hD hS 0 rfl rfl 9 (by decide) (hts (.fieldLink RX4 31 "VowTerrace$Terrace" "habitOdds" "[I") (List.mem_of_getElem? (i := 11) rfl)) (fun _ h => h) rfl hin rfl (by decide +kernel) rfl rfl (Nat.le_of_ble_eq_true rfl) (hd 53 (.putfield 31) 3 rfl) (fun H locs hP hD hS => ?_)
  have hP : va_P D vwCl [(h0, .inr (4, [.int (Int32.ofInt 3), .int (Int32.ofInt 0), .int (Int32.ofInt 0), .ref q1, .ref q2, .ref q3, .int (Int32.ofInt 0), .ref q4, .ref q5, .ref q6, .null, .null, .null, .null, .int (Int32.ofInt 0), .int (Int32.ofInt 0), .int (Int32.ofInt 0), .int (Int32.ofInt 0)])), (q1, .inl (kA 0, 5, .inl (fun _ => Int32.ofInt 0))), (q2, .inl (kA 0, 7, .inl (fun _ => Int32.ofInt 0))), (q3, .inl (kA 0, 7, .inl (fun _ => Int32.ofInt 0))), (q4, .inl (kA 0, 7, .inl (fun _ => Int32.ofInt 0))), (q5, .inl (kA 0, 7, .inl (fun _ => Int32.ofInt 0))), (q6, .inl (kA 0, 7, .inl (fun _ => Int32.ofInt 0)))] H := hP
  have hD : va_D A [(h0, .inr (4, [.int (Int32.ofInt 3), .int (Int32.ofInt 0), .int (Int32.ofInt 0), .ref q1, .ref q2, .ref q3, .int (Int32.ofInt 0), .ref q4, .ref q5, .ref q6, .null, .null, .null, .null, .int (Int32.ofInt 0), .int (Int32.ofInt 0), .int (Int32.ofInt 0), .int (Int32.ofInt 0)])), (q1, .inl (kA 0, 5, .inl (fun _ => Int32.ofInt 0))), (q2, .inl (kA 0, 7, .inl (fun _ => Int32.ofInt 0))), (q3, .inl (kA 0, 7, .inl (fun _ => Int32.ofInt 0))), (q4, .inl (kA 0, 7, .inl (fun _ => Int32.ofInt 0))), (q5, .inl (kA 0, 7, .inl (fun _ => Int32.ofInt 0))), (q6, .inl (kA 0, 7, .inl (fun _ => Int32.ofInt 0)))] := hD
  refine lv_aload_n hx hb (hd 56 (.aload_n 0) 1 rfl) rfl (lv_at hl 0 rfl) ?_
  refine lv_bipush (v := Int32.ofInt 35) hx hb (hd 57 (.bipush 35) 2 rfl) (by decide) ?_
  refine va_newa (atype := .int) (a0 := (35, .inl (fun _ => Int32.ofInt 0))) hx hb (hts (.arrayClass .int) (List.mem_of_getElem? (i := 5) rfl)) (ty := .int) rfl hK hP hD hS hA (fun cA => zha0 cA 35) (by decide) (by decide) (by decide) (Nat.le_of_ble_eq_true rfl) (Nat.le_of_ble_eq_true rfl) (hd 59 (.newarray .int) 2 rfl) (fun q7 cA H hK2 hP hD hS => ?_)
  obtain rfl := zcA0 hK hK2
  refine W.widen (k := 7) (n := 75) (by omega) (by omega) ?_
  have hP : va_P D vwCl [(h0, .inr (4, [.int (Int32.ofInt 3), .int (Int32.ofInt 0), .int (Int32.ofInt 0), .ref q1, .ref q2, .ref q3, .int (Int32.ofInt 0), .ref q4, .ref q5, .ref q6, .null, .null, .null, .null, .int (Int32.ofInt 0), .int (Int32.ofInt 0), .int (Int32.ofInt 0), .int (Int32.ofInt 0)])), (q1, .inl (kA 0, 5, .inl (fun _ => Int32.ofInt 0))), (q2, .inl (kA 0, 7, .inl (fun _ => Int32.ofInt 0))), (q3, .inl (kA 0, 7, .inl (fun _ => Int32.ofInt 0))), (q4, .inl (kA 0, 7, .inl (fun _ => Int32.ofInt 0))), (q5, .inl (kA 0, 7, .inl (fun _ => Int32.ofInt 0))), (q6, .inl (kA 0, 7, .inl (fun _ => Int32.ofInt 0))), (q7, .inl (kA 0, 35, .inl (fun _ => Int32.ofInt 0)))] H := hP
  have hD : va_D A [(h0, .inr (4, [.int (Int32.ofInt 3), .int (Int32.ofInt 0), .int (Int32.ofInt 0), .ref q1, .ref q2, .ref q3, .int (Int32.ofInt 0), .ref q4, .ref q5, .ref q6, .null, .null, .null, .null, .int (Int32.ofInt 0), .int (Int32.ofInt 0), .int (Int32.ofInt 0), .int (Int32.ofInt 0)])), (q1, .inl (kA 0, 5, .inl (fun _ => Int32.ofInt 0))), (q2, .inl (kA 0, 7, .inl (fun _ => Int32.ofInt 0))), (q3, .inl (kA 0, 7, .inl (fun _ => Int32.ofInt 0))), (q4, .inl (kA 0, 7, .inl (fun _ => Int32.ofInt 0))), (q5, .inl (kA 0, 7, .inl (fun _ => Int32.ofInt 0))), (q6, .inl (kA 0, 7, .inl (fun _ => Int32.ofInt 0))), (q7, .inl (kA 0, 35, .inl (fun _ => Int32.ofInt 0)))] := hD
  refine va_putF (ci := 4) (v := .ref q7) (ty := (.array .int)) (C := RX4) (T := TX4) (N := 18) hx hb hts (fun w h => List.mem_cons_of_mem _ (List.mem_append_left _ (List.mem_append_left _ (List.mem_append_right _ h)))) tyX4 tyX4_ok nmX4 hown hK hP hD hS 0 rfl rfl 10 (by decide) (hts (.fieldLink RX4 34 "VowTerrace$Terrace" "done" "[I") (List.mem_of_getElem? (i := 12) rfl)) (fun _ h => h) rfl hin rfl (by decide +kernel) rfl rfl (Nat.le_of_ble_eq_true rfl) (hd 61 (.putfield 34) 3 rfl) (fun H locs hP hD hS => ?_)
  have hP : va_P D vwCl [(h0, .inr (4, [.int (Int32.ofInt 3), .int (Int32.ofInt 0), .int (Int32.ofInt 0), .ref q1, .ref q2, .ref q3, .int (Int32.ofInt 0), .ref q4, .ref q5, .ref q6, .ref q7, .null, .null, .null, .int (Int32.ofInt 0), .int (Int32.ofInt 0), .int (Int32.ofInt 0), .int (Int32.ofInt 0)])), (q1, .inl (kA 0, 5, .inl (fun _ => Int32.ofInt 0))), (q2, .inl (kA 0, 7, .inl (fun _ => Int32.ofInt 0))), (q3, .inl (kA 0, 7, .inl (fun _ => Int32.ofInt 0))), (q4, .inl (kA 0, 7, .inl (fun _ => Int32.ofInt 0))), (q5, .inl (kA 0, 7, .inl (fun _ => Int32.ofInt 0))), (q6, .inl (kA 0, 7, .inl (fun _ => Int32.ofInt 0))), (q7, .inl (kA 0, 35, .inl (fun _ => Int32.ofInt 0)))] H := hP
  have hD : va_D A [(h0, .inr (4, [.int (Int32.ofInt 3), .int (Int32.ofInt 0), .int (Int32.ofInt 0), .ref q1, .ref q2, .ref q3, .int (Int32.ofInt 0), .ref q4, .ref q5, .ref q6, .ref q7, .null, .null, .null, .int (Int32.ofInt 0), .int (Int32.ofInt 0), .int (Int32.ofInt 0), .int (Int32.ofInt 0)])), (q1, .inl (kA 0, 5, .inl (fun _ => Int32.ofInt 0))), (q2, .inl (kA 0, 7, .inl (fun _ => Int32.ofInt 0))), (q3, .inl (kA 0, 7, .inl (fun _ => Int32.ofInt 0))), (q4, .inl (kA 0, 7, .inl (fun _ => Int32.ofInt 0))), (q5, .inl (kA 0, 7, .inl (fun _ => Int32.ofInt 0))), (q6, .inl (kA 0, 7, .inl (fun _ => Int32.ofInt 0))), (q7, .inl (kA 0, 35, .inl (fun _ => Int32.ofInt 0)))] := hD
  refine lv_aload_n hx hb (hd 64 (.aload_n 0) 1 rfl) rfl (lv_at hl 0 rfl) ?_
  refine va_new (ci := 5) (fs := dX5) (C := RX5) (T := TX5) (N := 5) hx hb hts (fun w h => List.mem_cons_of_mem _ (List.mem_append_left _ (List.mem_append_right _ h))) tyX5 tyX5_ok hown (hts (.classLink RX4 37 RX5) (List.mem_of_getElem? (i := 13) rfl)) (hts (.instantiable RX5 5) (List.mem_of_getElem? (i := 14) rfl)) (hts (.initialized RX5) (List.mem_of_getElem? (i := 15) rfl)) hK hP hD hS hA rfl (by decide) (Nat.le_of_ble_eq_true rfl) (Nat.le_of_ble_eq_true rfl) (hd 65 (.new 37) 3 rfl) (fun q8 H hP hD hS => ?_)
  refine W.widen (k := 8) (n := 80) (by omega) (by omega) ?_
  have hP : va_P D vwCl [(h0, .inr (4, [.int (Int32.ofInt 3), .int (Int32.ofInt 0), .int (Int32.ofInt 0), .ref q1, .ref q2, .ref q3, .int (Int32.ofInt 0), .ref q4, .ref q5, .ref q6, .ref q7, .null, .null, .null, .int (Int32.ofInt 0), .int (Int32.ofInt 0), .int (Int32.ofInt 0), .int (Int32.ofInt 0)])), (q1, .inl (kA 0, 5, .inl (fun _ => Int32.ofInt 0))), (q2, .inl (kA 0, 7, .inl (fun _ => Int32.ofInt 0))), (q3, .inl (kA 0, 7, .inl (fun _ => Int32.ofInt 0))), (q4, .inl (kA 0, 7, .inl (fun _ => Int32.ofInt 0))), (q5, .inl (kA 0, 7, .inl (fun _ => Int32.ofInt 0))), (q6, .inl (kA 0, 7, .inl (fun _ => Int32.ofInt 0))), (q7, .inl (kA 0, 35, .inl (fun _ => Int32.ofInt 0))), (q8, .inr (5, [.int (Int32.ofInt 0), .null, .null, .null, .null]))] H := hP
  have hD : va_D A [(h0, .inr (4, [.int (Int32.ofInt 3), .int (Int32.ofInt 0), .int (Int32.ofInt 0), .ref q1, .ref q2, .ref q3, .int (Int32.ofInt 0), .ref q4, .ref q5, .ref q6, .ref q7, .null, .null, .null, .int (Int32.ofInt 0), .int (Int32.ofInt 0), .int (Int32.ofInt 0), .int (Int32.ofInt 0)])), (q1, .inl (kA 0, 5, .inl (fun _ => Int32.ofInt 0))), (q2, .inl (kA 0, 7, .inl (fun _ => Int32.ofInt 0))), (q3, .inl (kA 0, 7, .inl (fun _ => Int32.ofInt 0))), (q4, .inl (kA 0, 7, .inl (fun _ => Int32.ofInt 0))), (q5, .inl (kA 0, 7, .inl (fun _ => Int32.ofInt 0))), (q6, .inl (kA 0, 7, .inl (fun _ => Int32.ofInt 0))), (q7, .inl (kA 0, 35, .inl (fun _ => Int32.ofInt 0))), (q8, .inr (5, [.int (Int32.ofInt 0), .null, .null, .null, .null]))] := hD
  refine lv_dup hx hb (hd 68 .dup 1 rfl) rfl ?_
  have hPc := hP.sub (ws' := [(q8, .inr (5, dX5))]) [8] rfl
  have hDc := hD.sub (ws' := [(q8, .inr (5, dX5))]) [8] (by decide) rfl
  have hFc := va_free (wc := [(q8, .inr (5, dX5))]) hD hS hA [8] rfl
  have hxA := zX_ok.2.2.2 A _ s H hFc (zX_ok.2.2.1 A s s.heap H (fun a h1 h2 => hS.2.1 a h1 h2) hx0)
  refine va_callv (va_runIN (As := []) (rest := [.ref q8, .ref h0]) ⟨hx, hb, hml, hown, hts⟩ (c_X5_init l D kA q8 H.size) ⟨va_cnB 0 hts ggX4_init_X5_init rfl rfl rfl (zX_i (ho := RX7) hx0 (by decide +kernel)) (hts (.initialized RX5) (List.mem_of_getElem? (i := 15) rfl)) (by decide +kernel) ⟨Nat.le_of_ble_eq_true rfl, Nat.le_of_ble_eq_true rfl⟩, rfl, (hts (.instanceMethod yX5_init) (List.mem_of_getElem? (i := 22) rfl))⟩ ⟨zBf_blind zX_ok, fun U hU hW => zBf_of (av := [.ref q8]) zX_ok hK hPc (hDc.weaken (fun _ _ _ _ => trivial)) hxA U hU hW⟩ rfl rfl hl.1 rfl (lv_room (Nat.le_of_ble_eq_true rfl)) (hd 69 (.invokespecial 39) 3 rfl) ⟨Nat.le_of_ble_eq_true rfl, Nat.le_of_ble_eq_true rfl⟩) hS (fun q _ h => hFc q h) hFc (fun f9 t H1 locs ht hvm hw hB hz1 hk1 hS => ?_)
  obtain ⟨hP1, hD1⟩ := hB
  rw [ht] at hP1
  subst hw
  obtain ⟨hP, hD⟩ := va_join (wr := [(h0, .inr (4, [.int (Int32.ofInt 3), .int (Int32.ofInt 0), .int (Int32.ofInt 0), .ref q1, .ref q2, .ref q3, .int (Int32.ofInt 0), .ref q4, .ref q5, .ref q6, .ref q7, .null, .null, .null, .int (Int32.ofInt 0), .int (Int32.ofInt 0), .int (Int32.ofInt 0), .int (Int32.ofInt 0)])), (q1, .inl (kA 0, 5, .inl (fun _ => Int32.ofInt 0))), (q2, .inl (kA 0, 7, .inl (fun _ => Int32.ofInt 0))), (q3, .inl (kA 0, 7, .inl (fun _ => Int32.ofInt 0))), (q4, .inl (kA 0, 7, .inl (fun _ => Int32.ofInt 0))), (q5, .inl (kA 0, 7, .inl (fun _ => Int32.ofInt 0))), (q6, .inl (kA 0, 7, .inl (fun _ => Int32.ofInt 0))), (q7, .inl (kA 0, 35, .inl (fun _ => Int32.ofInt 0)))]) (w1 := (zws kA zz0 f9 zp0 wI_X5)) hP hD [8] [0, 1, 2, 3, 4, 5, 6, 7] rfl rfl (by decide) (by decide) hk1 hFc hP1 hD1
  generalize H1 = H at hP hS ⊢
  refine W.widen (k := 12) (n := 120) (by omega) (by omega) ?_
  have hP : va_P D vwCl [(h0, .inr (4, [.int (Int32.ofInt 3), .int (Int32.ofInt 0), .int (Int32.ofInt 0), .ref q1, .ref q2, .ref q3, .int (Int32.ofInt 0), .ref q4, .ref q5, .ref q6, .ref q7, .null, .null, .null, .int (Int32.ofInt 0), .int (Int32.ofInt 0), .int (Int32.ofInt 0), .int (Int32.ofInt 0)])), (q1, .inl (kA 0, 5, .inl (fun _ => Int32.ofInt 0))), (q2, .inl (kA 0, 7, .inl (fun _ => Int32.ofInt 0))), (q3, .inl (kA 0, 7, .inl (fun _ => Int32.ofInt 0))), (q4, .inl (kA 0, 7, .inl (fun _ => Int32.ofInt 0))), (q5, .inl (kA 0, 7, .inl (fun _ => Int32.ofInt 0))), (q6, .inl (kA 0, 7, .inl (fun _ => Int32.ofInt 0))), (q7, .inl (kA 0, 35, .inl (fun _ => Int32.ofInt 0))), ((f9 0), .inr (5, [.int (Int32.ofInt 0), .ref (f9 1), .ref (f9 2), .ref (f9 3), .ref (f9 4)])), ((f9 1), .inl (kA 0, 10, .inl (fun _ => Int32.ofInt 0))), ((f9 2), .inl (kA 0, 10, .inl (fun _ => Int32.ofInt 0))), ((f9 3), .inl (kA 0, 10, .inl (fun _ => Int32.ofInt 0))), ((f9 4), .inl (kA 0, 10, .inl (fun _ => Int32.ofInt 0)))] H := hP
  have hD : va_D A [(h0, .inr (4, [.int (Int32.ofInt 3), .int (Int32.ofInt 0), .int (Int32.ofInt 0), .ref q1, .ref q2, .ref q3, .int (Int32.ofInt 0), .ref q4, .ref q5, .ref q6, .ref q7, .null, .null, .null, .int (Int32.ofInt 0), .int (Int32.ofInt 0), .int (Int32.ofInt 0), .int (Int32.ofInt 0)])), (q1, .inl (kA 0, 5, .inl (fun _ => Int32.ofInt 0))), (q2, .inl (kA 0, 7, .inl (fun _ => Int32.ofInt 0))), (q3, .inl (kA 0, 7, .inl (fun _ => Int32.ofInt 0))), (q4, .inl (kA 0, 7, .inl (fun _ => Int32.ofInt 0))), (q5, .inl (kA 0, 7, .inl (fun _ => Int32.ofInt 0))), (q6, .inl (kA 0, 7, .inl (fun _ => Int32.ofInt 0))), (q7, .inl (kA 0, 35, .inl (fun _ => Int32.ofInt 0))), ((f9 0), .inr (5, [.int (Int32.ofInt 0), .ref (f9 1), .ref (f9 2), .ref (f9 3), .ref (f9 4)])), ((f9 1), .inl (kA 0, 10, .inl (fun _ => Int32.ofInt 0))), ((f9 2), .inl (kA 0, 10, .inl (fun _ => Int32.ofInt 0))), ((f9 3), .inl (kA 0, 10, .inl (fun _ => Int32.ofInt 0))), ((f9 4), .inl (kA 0, 10, .inl (fun _ => Int32.ofInt 0)))] := hD
  refine va_put (ci := 4) (v := .ref (f9 0)) (ty := .object "VowTerrace$VowRow") (C := RX4) (T := TX4) (N := 18) hx hb hts (fun w h => List.mem_cons_of_mem _ (List.mem_append_left _ (List.mem_append_left _ (List.mem_append_right _ h)))) tyX4 tyX4_ok nmX4 hown hK hP hD hS 0 rfl rfl 11 (by decide) (hts (.fieldLink RX4 40 "VowTerrace$Terrace" "vowRow" "LVowTerrace$VowRow;") (List.mem_of_getElem? (i := 16) rfl)) (fun _ h => h) rfl (by decide +kernel) rfl rfl (Nat.le_of_ble_eq_true rfl) (hd 72 (.putfield 40) 3 rfl) (fun H locs hP hD hS => ?_)
  have hP : va_P D vwCl [(h0, .inr (4, [.int (Int32.ofInt 3), .int (Int32.ofInt 0), .int (Int32.ofInt 0), .ref q1, .ref q2, .ref q3, .int (Int32.ofInt 0), .ref q4, .ref q5, .ref q6, .ref q7, .ref (f9 0), .null, .null, .int (Int32.ofInt 0), .int (Int32.ofInt 0), .int (Int32.ofInt 0), .int (Int32.ofInt 0)])), (q1, .inl (kA 0, 5, .inl (fun _ => Int32.ofInt 0))), (q2, .inl (kA 0, 7, .inl (fun _ => Int32.ofInt 0))), (q3, .inl (kA 0, 7, .inl (fun _ => Int32.ofInt 0))), (q4, .inl (kA 0, 7, .inl (fun _ => Int32.ofInt 0))), (q5, .inl (kA 0, 7, .inl (fun _ => Int32.ofInt 0))), (q6, .inl (kA 0, 7, .inl (fun _ => Int32.ofInt 0))), (q7, .inl (kA 0, 35, .inl (fun _ => Int32.ofInt 0))), ((f9 0), .inr (5, [.int (Int32.ofInt 0), .ref (f9 1), .ref (f9 2), .ref (f9 3), .ref (f9 4)])), ((f9 1), .inl (kA 0, 10, .inl (fun _ => Int32.ofInt 0))), ((f9 2), .inl (kA 0, 10, .inl (fun _ => Int32.ofInt 0))), ((f9 3), .inl (kA 0, 10, .inl (fun _ => Int32.ofInt 0))), ((f9 4), .inl (kA 0, 10, .inl (fun _ => Int32.ofInt 0)))] H := hP
  have hD : va_D A [(h0, .inr (4, [.int (Int32.ofInt 3), .int (Int32.ofInt 0), .int (Int32.ofInt 0), .ref q1, .ref q2, .ref q3, .int (Int32.ofInt 0), .ref q4, .ref q5, .ref q6, .ref q7, .ref (f9 0), .null, .null, .int (Int32.ofInt 0), .int (Int32.ofInt 0), .int (Int32.ofInt 0), .int (Int32.ofInt 0)])), (q1, .inl (kA 0, 5, .inl (fun _ => Int32.ofInt 0))), (q2, .inl (kA 0, 7, .inl (fun _ => Int32.ofInt 0))), (q3, .inl (kA 0, 7, .inl (fun _ => Int32.ofInt 0))), (q4, .inl (kA 0, 7, .inl (fun _ => Int32.ofInt 0))), (q5, .inl (kA 0, 7, .inl (fun _ => Int32.ofInt 0))), (q6, .inl (kA 0, 7, .inl (fun _ => Int32.ofInt 0))), (q7, .inl (kA 0, 35, .inl (fun _ => Int32.ofInt 0))), ((f9 0), .inr (5, [.int (Int32.ofInt 0), .ref (f9 1), .ref (f9 2), .ref (f9 3), .ref (f9 4)])), ((f9 1), .inl (kA 0, 10, .inl (fun _ => Int32.ofInt 0))), ((f9 2), .inl (kA 0, 10, .inl (fun _ => Int32.ofInt 0))), ((f9 3), .inl (kA 0, 10, .inl (fun _ => Int32.ofInt 0))), ((f9 4), .inl (kA 0, 10, .inl (fun _ => Int32.ofInt 0)))] := hD
  refine lv_aload_n hx hb (hd 75 (.aload_n 0) 1 rfl) rfl (lv_at hl 0 rfl) ?_
  refine va_new (ci := 5) (fs := dX5) (C := RX5) (T := TX5) (N := 5) hx hb hts (fun w h => List.mem_cons_of_mem _ (List.mem_append_left _ (List.mem_append_right _ h))) tyX5 tyX5_ok hown (hts (.classLink RX4 37 RX5) (List.mem_of_getElem? (i := 13) rfl)) (hts (.instantiable RX5 5) (List.mem_of_getElem? (i := 14) rfl)) (hts (.initialized RX5) (List.mem_of_getElem? (i := 15) rfl)) hK hP hD hS hA rfl (by decide) (Nat.le_of_ble_eq_true rfl) (Nat.le_of_ble_eq_true rfl) (hd 76 (.new 37) 3 rfl) (fun q10 H hP hD hS => ?_)
  refine W.widen (k := 13) (n := 125) (by omega) (by omega) ?_
  have hP : va_P D vwCl [(h0, .inr (4, [.int (Int32.ofInt 3), .int (Int32.ofInt 0), .int (Int32.ofInt 0), .ref q1, .ref q2, .ref q3, .int (Int32.ofInt 0), .ref q4, .ref q5, .ref q6, .ref q7, .ref (f9 0), .null, .null, .int (Int32.ofInt 0), .int (Int32.ofInt 0), .int (Int32.ofInt 0), .int (Int32.ofInt 0)])), (q1, .inl (kA 0, 5, .inl (fun _ => Int32.ofInt 0))), (q2, .inl (kA 0, 7, .inl (fun _ => Int32.ofInt 0))), (q3, .inl (kA 0, 7, .inl (fun _ => Int32.ofInt 0))), (q4, .inl (kA 0, 7, .inl (fun _ => Int32.ofInt 0))), (q5, .inl (kA 0, 7, .inl (fun _ => Int32.ofInt 0))), (q6, .inl (kA 0, 7, .inl (fun _ => Int32.ofInt 0))), (q7, .inl (kA 0, 35, .inl (fun _ => Int32.ofInt 0))), ((f9 0), .inr (5, [.int (Int32.ofInt 0), .ref (f9 1), .ref (f9 2), .ref (f9 3), .ref (f9 4)])), ((f9 1), .inl (kA 0, 10, .inl (fun _ => Int32.ofInt 0))), ((f9 2), .inl (kA 0, 10, .inl (fun _ => Int32.ofInt 0))), ((f9 3), .inl (kA 0, 10, .inl (fun _ => Int32.ofInt 0))), ((f9 4), .inl (kA 0, 10, .inl (fun _ => Int32.ofInt 0))), (q10, .inr (5, [.int (Int32.ofInt 0), .null, .null, .null, .null]))] H := hP
  have hD : va_D A [(h0, .inr (4, [.int (Int32.ofInt 3), .int (Int32.ofInt 0), .int (Int32.ofInt 0), .ref q1, .ref q2, .ref q3, .int (Int32.ofInt 0), .ref q4, .ref q5, .ref q6, .ref q7, .ref (f9 0), .null, .null, .int (Int32.ofInt 0), .int (Int32.ofInt 0), .int (Int32.ofInt 0), .int (Int32.ofInt 0)])), (q1, .inl (kA 0, 5, .inl (fun _ => Int32.ofInt 0))), (q2, .inl (kA 0, 7, .inl (fun _ => Int32.ofInt 0))), (q3, .inl (kA 0, 7, .inl (fun _ => Int32.ofInt 0))), (q4, .inl (kA 0, 7, .inl (fun _ => Int32.ofInt 0))), (q5, .inl (kA 0, 7, .inl (fun _ => Int32.ofInt 0))), (q6, .inl (kA 0, 7, .inl (fun _ => Int32.ofInt 0))), (q7, .inl (kA 0, 35, .inl (fun _ => Int32.ofInt 0))), ((f9 0), .inr (5, [.int (Int32.ofInt 0), .ref (f9 1), .ref (f9 2), .ref (f9 3), .ref (f9 4)])), ((f9 1), .inl (kA 0, 10, .inl (fun _ => Int32.ofInt 0))), ((f9 2), .inl (kA 0, 10, .inl (fun _ => Int32.ofInt 0))), ((f9 3), .inl (kA 0, 10, .inl (fun _ => Int32.ofInt 0))), ((f9 4), .inl (kA 0, 10, .inl (fun _ => Int32.ofInt 0))), (q10, .inr (5, [.int (Int32.ofInt 0), .null, .null, .null, .null]))] := hD
  refine lv_dup hx hb (hd 79 .dup 1 rfl) rfl ?_
  have hPc := hP.sub (ws' := [(q10, .inr (5, dX5))]) [13] rfl
  have hDc := hD.sub (ws' := [(q10, .inr (5, dX5))]) [13] (by decide) rfl
  have hFc := va_free (wc := [(q10, .inr (5, dX5))]) hD hS hA [13] rfl
  have hxA := zX_ok.2.2.2 A _ s H hFc (zX_ok.2.2.1 A s s.heap H (fun a h1 h2 => hS.2.1 a h1 h2) hx0)
  refine va_callv (va_runIN (As := []) (rest := [.ref q10, .ref h0]) ⟨hx, hb, hml, hown, hts⟩ (c_X5_init l D kA q10 H.size) ⟨va_cnB 0 hts ggX4_init_X5_init rfl rfl rfl (zX_i (ho := RX7) hx0 (by decide +kernel)) (hts (.initialized RX5) (List.mem_of_getElem? (i := 15) rfl)) (by decide +kernel) ⟨Nat.le_of_ble_eq_true rfl, Nat.le_of_ble_eq_true rfl⟩, rfl, (hts (.instanceMethod yX5_init) (List.mem_of_getElem? (i := 22) rfl))⟩ ⟨zBf_blind zX_ok, fun U hU hW => zBf_of (av := [.ref q10]) zX_ok hK hPc (hDc.weaken (fun _ _ _ _ => trivial)) hxA U hU hW⟩ rfl rfl hl.1 rfl (lv_room (Nat.le_of_ble_eq_true rfl)) (hd 80 (.invokespecial 39) 3 rfl) ⟨Nat.le_of_ble_eq_true rfl, Nat.le_of_ble_eq_true rfl⟩) hS (fun q _ h => hFc q h) hFc (fun f11 t H1 locs ht hvm hw hB hz1 hk1 hS => ?_)
  obtain ⟨hP1, hD1⟩ := hB
  rw [ht] at hP1
  subst hw
  obtain ⟨hP, hD⟩ := va_join (wr := [(h0, .inr (4, [.int (Int32.ofInt 3), .int (Int32.ofInt 0), .int (Int32.ofInt 0), .ref q1, .ref q2, .ref q3, .int (Int32.ofInt 0), .ref q4, .ref q5, .ref q6, .ref q7, .ref (f9 0), .null, .null, .int (Int32.ofInt 0), .int (Int32.ofInt 0), .int (Int32.ofInt 0), .int (Int32.ofInt 0)])), (q1, .inl (kA 0, 5, .inl (fun _ => Int32.ofInt 0))), (q2, .inl (kA 0, 7, .inl (fun _ => Int32.ofInt 0))), (q3, .inl (kA 0, 7, .inl (fun _ => Int32.ofInt 0))), (q4, .inl (kA 0, 7, .inl (fun _ => Int32.ofInt 0))), (q5, .inl (kA 0, 7, .inl (fun _ => Int32.ofInt 0))), (q6, .inl (kA 0, 7, .inl (fun _ => Int32.ofInt 0))), (q7, .inl (kA 0, 35, .inl (fun _ => Int32.ofInt 0))), ((f9 0), .inr (5, [.int (Int32.ofInt 0), .ref (f9 1), .ref (f9 2), .ref (f9 3), .ref (f9 4)])), ((f9 1), .inl (kA 0, 10, .inl (fun _ => Int32.ofInt 0))), ((f9 2), .inl (kA 0, 10, .inl (fun _ => Int32.ofInt 0))), ((f9 3), .inl (kA 0, 10, .inl (fun _ => Int32.ofInt 0))), ((f9 4), .inl (kA 0, 10, .inl (fun _ => Int32.ofInt 0)))]) (w1 := (zws kA zz0 f11 zp0 wI_X5)) hP hD [13] [0, 1, 2, 3, 4, 5, 6, 7, 8, 9, 10, 11, 12] rfl rfl (by decide) (by decide) hk1 hFc hP1 hD1
  generalize H1 = H at hP hS ⊢
  refine W.widen (k := 17) (n := 165) (by omega) (by omega) ?_
  have hP : va_P D vwCl [(h0, .inr (4, [.int (Int32.ofInt 3), .int (Int32.ofInt 0), .int (Int32.ofInt 0), .ref q1, .ref q2, .ref q3, .int (Int32.ofInt 0), .ref q4, .ref q5, .ref q6, .ref q7, .ref (f9 0), .null, .null, .int (Int32.ofInt 0), .int (Int32.ofInt 0), .int (Int32.ofInt 0), .int (Int32.ofInt 0)])), (q1, .inl (kA 0, 5, .inl (fun _ => Int32.ofInt 0))), (q2, .inl (kA 0, 7, .inl (fun _ => Int32.ofInt 0))), (q3, .inl (kA 0, 7, .inl (fun _ => Int32.ofInt 0))), (q4, .inl (kA 0, 7, .inl (fun _ => Int32.ofInt 0))), (q5, .inl (kA 0, 7, .inl (fun _ => Int32.ofInt 0))), (q6, .inl (kA 0, 7, .inl (fun _ => Int32.ofInt 0))), (q7, .inl (kA 0, 35, .inl (fun _ => Int32.ofInt 0))), ((f9 0), .inr (5, [.int (Int32.ofInt 0), .ref (f9 1), .ref (f9 2), .ref (f9 3), .ref (f9 4)])), ((f9 1), .inl (kA 0, 10, .inl (fun _ => Int32.ofInt 0))), ((f9 2), .inl (kA 0, 10, .inl (fun _ => Int32.ofInt 0))), ((f9 3), .inl (kA 0, 10, .inl (fun _ => Int32.ofInt 0))), ((f9 4), .inl (kA 0, 10, .inl (fun _ => Int32.ofInt 0))), ((f11 0), .inr (5, [.int (Int32.ofInt 0), .ref (f11 1), .ref (f11 2), .ref (f11 3), .ref (f11 4)])), ((f11 1), .inl (kA 0, 10, .inl (fun _ => Int32.ofInt 0))), ((f11 2), .inl (kA 0, 10, .inl (fun _ => Int32.ofInt 0))), ((f11 3), .inl (kA 0, 10, .inl (fun _ => Int32.ofInt 0))), ((f11 4), .inl (kA 0, 10, .inl (fun _ => Int32.ofInt 0)))] H := hP
  have hD : va_D A [(h0, .inr (4, [.int (Int32.ofInt 3), .int (Int32.ofInt 0), .int (Int32.ofInt 0), .ref q1, .ref q2, .ref q3, .int (Int32.ofInt 0), .ref q4, .ref q5, .ref q6, .ref q7, .ref (f9 0), .null, .null, .int (Int32.ofInt 0), .int (Int32.ofInt 0), .int (Int32.ofInt 0), .int (Int32.ofInt 0)])), (q1, .inl (kA 0, 5, .inl (fun _ => Int32.ofInt 0))), (q2, .inl (kA 0, 7, .inl (fun _ => Int32.ofInt 0))), (q3, .inl (kA 0, 7, .inl (fun _ => Int32.ofInt 0))), (q4, .inl (kA 0, 7, .inl (fun _ => Int32.ofInt 0))), (q5, .inl (kA 0, 7, .inl (fun _ => Int32.ofInt 0))), (q6, .inl (kA 0, 7, .inl (fun _ => Int32.ofInt 0))), (q7, .inl (kA 0, 35, .inl (fun _ => Int32.ofInt 0))), ((f9 0), .inr (5, [.int (Int32.ofInt 0), .ref (f9 1), .ref (f9 2), .ref (f9 3), .ref (f9 4)])), ((f9 1), .inl (kA 0, 10, .inl (fun _ => Int32.ofInt 0))), ((f9 2), .inl (kA 0, 10, .inl (fun _ => Int32.ofInt 0))), ((f9 3), .inl (kA 0, 10, .inl (fun _ => Int32.ofInt 0))), ((f9 4), .inl (kA 0, 10, .inl (fun _ => Int32.ofInt 0))), ((f11 0), .inr (5, [.int (Int32.ofInt 0), .ref (f11 1), .ref (f11 2), .ref (f11 3), .ref (f11 4)])), ((f11 1), .inl (kA 0, 10, .inl (fun _ => Int32.ofInt 0))), ((f11 2), .inl (kA 0, 10, .inl (fun _ => Int32.ofInt 0))), ((f11 3), .inl (kA 0, 10, .inl (fun _ => Int32.ofInt 0))), ((f11 4), .inl (kA 0, 10, .inl (fun _ => Int32.ofInt 0)))] := hD
  refine va_put (ci := 4) (v := .ref (f11 0)) (ty := .object "VowTerrace$VowRow") (C := RX4) (T := TX4) (N := 18) hx hb hts (fun w h => List.mem_cons_of_mem _ (List.mem_append_left _ (List.mem_append_left _ (List.mem_append_right _ h)))) tyX4 tyX4_ok nmX4 hown hK hP hD hS 0 rfl rfl 12 (by decide) (hts (.fieldLink RX4 44 "VowTerrace$Terrace" "fallen" "LVowTerrace$VowRow;") (List.mem_of_getElem? (i := 17) rfl)) (fun _ h => h) rfl (by decide +kernel) rfl rfl (Nat.le_of_ble_eq_true rfl) (hd 83 (.putfield 44) 3 rfl) (fun H locs hP hD hS => ?_)
  have hP : va_P D vwCl [(h0, .inr (4, [.int (Int32.ofInt 3), .int (Int32.ofInt 0), .int (Int32.ofInt 0), .ref q1, .ref q2, .ref q3, .int (Int32.ofInt 0), .ref q4, .ref q5, .ref q6, .ref q7, .ref (f9 0), .ref (f11 0), .null, .int (Int32.ofInt 0), .int (Int32.ofInt 0), .int (Int32.ofInt 0), .int (Int32.ofInt 0)])), (q1, .inl (kA 0, 5, .inl (fun _ => Int32.ofInt 0))), (q2, .inl (kA 0, 7, .inl (fun _ => Int32.ofInt 0))), (q3, .inl (kA 0, 7, .inl (fun _ => Int32.ofInt 0))), (q4, .inl (kA 0, 7, .inl (fun _ => Int32.ofInt 0))), (q5, .inl (kA 0, 7, .inl (fun _ => Int32.ofInt 0))), (q6, .inl (kA 0, 7, .inl (fun _ => Int32.ofInt 0))), (q7, .inl (kA 0, 35, .inl (fun _ => Int32.ofInt 0))), ((f9 0), .inr (5, [.int (Int32.ofInt 0), .ref (f9 1), .ref (f9 2), .ref (f9 3), .ref (f9 4)])), ((f9 1), .inl (kA 0, 10, .inl (fun _ => Int32.ofInt 0))), ((f9 2), .inl (kA 0, 10, .inl (fun _ => Int32.ofInt 0))), ((f9 3), .inl (kA 0, 10, .inl (fun _ => Int32.ofInt 0))), ((f9 4), .inl (kA 0, 10, .inl (fun _ => Int32.ofInt 0))), ((f11 0), .inr (5, [.int (Int32.ofInt 0), .ref (f11 1), .ref (f11 2), .ref (f11 3), .ref (f11 4)])), ((f11 1), .inl (kA 0, 10, .inl (fun _ => Int32.ofInt 0))), ((f11 2), .inl (kA 0, 10, .inl (fun _ => Int32.ofInt 0))), ((f11 3), .inl (kA 0, 10, .inl (fun _ => Int32.ofInt 0))), ((f11 4), .inl (kA 0, 10, .inl (fun _ => Int32.ofInt 0)))] H := hP
  have hD : va_D A [(h0, .inr (4, [.int (Int32.ofInt 3), .int (Int32.ofInt 0), .int (Int32.ofInt 0), .ref q1, .ref q2, .ref q3, .int (Int32.ofInt 0), .ref q4, .ref q5, .ref q6, .ref q7, .ref (f9 0), .ref (f11 0), .null, .int (Int32.ofInt 0), .int (Int32.ofInt 0), .int (Int32.ofInt 0), .int (Int32.ofInt 0)])), (q1, .inl (kA 0, 5, .inl (fun _ => Int32.ofInt 0))), (q2, .inl (kA 0, 7, .inl (fun _ => Int32.ofInt 0))), (q3, .inl (kA 0, 7, .inl (fun _ => Int32.ofInt 0))), (q4, .inl (kA 0, 7, .inl (fun _ => Int32.ofInt 0))), (q5, .inl (kA 0, 7, .inl (fun _ => Int32.ofInt 0))), (q6, .inl (kA 0, 7, .inl (fun _ => Int32.ofInt 0))), (q7, .inl (kA 0, 35, .inl (fun _ => Int32.ofInt 0))), ((f9 0), .inr (5, [.int (Int32.ofInt 0), .ref (f9 1), .ref (f9 2), .ref (f9 3), .ref (f9 4)])), ((f9 1), .inl (kA 0, 10, .inl (fun _ => Int32.ofInt 0))), ((f9 2), .inl (kA 0, 10, .inl (fun _ => Int32.ofInt 0))), ((f9 3), .inl (kA 0, 10, .inl (fun _ => Int32.ofInt 0))), ((f9 4), .inl (kA 0, 10, .inl (fun _ => Int32.ofInt 0))), ((f11 0), .inr (5, [.int (Int32.ofInt 0), .ref (f11 1), .ref (f11 2), .ref (f11 3), .ref (f11 4)])), ((f11 1), .inl (kA 0, 10, .inl (fun _ => Int32.ofInt 0))), ((f11 2), .inl (kA 0, 10, .inl (fun _ => Int32.ofInt 0))), ((f11 3), .inl (kA 0, 10, .inl (fun _ => Int32.ofInt 0))), ((f11 4), .inl (kA 0, 10, .inl (fun _ => Int32.ofInt 0)))] := hD
  refine lv_aload_n hx hb (hd 86 (.aload_n 0) 1 rfl) rfl (lv_at hl 0 rfl) ?_
  refine va_new (ci := 6) (fs := dX6) (C := RX6) (T := TX6) (N := 3) hx hb hts (fun w h => List.mem_cons_of_mem _ (List.mem_append_right _ h)) tyX6 tyX6_ok hown (hts (.classLink RX4 47 RX6) (List.mem_of_getElem? (i := 18) rfl)) (hts (.instantiable RX6 3) (List.mem_of_getElem? (i := 19) rfl)) (hts (.initialized RX6) (List.mem_of_getElem? (i := 20) rfl)) hK hP hD hS hA rfl (by decide) (Nat.le_of_ble_eq_true rfl) (Nat.le_of_ble_eq_true rfl) (hd 87 (.new 47) 3 rfl) (fun q12 H hP hD hS => ?_)
  refine W.widen (k := 18) (n := 168) (by omega) (by omega) ?_
  have hP : va_P D vwCl [(h0, .inr (4, [.int (Int32.ofInt 3), .int (Int32.ofInt 0), .int (Int32.ofInt 0), .ref q1, .ref q2, .ref q3, .int (Int32.ofInt 0), .ref q4, .ref q5, .ref q6, .ref q7, .ref (f9 0), .ref (f11 0), .null, .int (Int32.ofInt 0), .int (Int32.ofInt 0), .int (Int32.ofInt 0), .int (Int32.ofInt 0)])), (q1, .inl (kA 0, 5, .inl (fun _ => Int32.ofInt 0))), (q2, .inl (kA 0, 7, .inl (fun _ => Int32.ofInt 0))), (q3, .inl (kA 0, 7, .inl (fun _ => Int32.ofInt 0))), (q4, .inl (kA 0, 7, .inl (fun _ => Int32.ofInt 0))), (q5, .inl (kA 0, 7, .inl (fun _ => Int32.ofInt 0))), (q6, .inl (kA 0, 7, .inl (fun _ => Int32.ofInt 0))), (q7, .inl (kA 0, 35, .inl (fun _ => Int32.ofInt 0))), ((f9 0), .inr (5, [.int (Int32.ofInt 0), .ref (f9 1), .ref (f9 2), .ref (f9 3), .ref (f9 4)])), ((f9 1), .inl (kA 0, 10, .inl (fun _ => Int32.ofInt 0))), ((f9 2), .inl (kA 0, 10, .inl (fun _ => Int32.ofInt 0))), ((f9 3), .inl (kA 0, 10, .inl (fun _ => Int32.ofInt 0))), ((f9 4), .inl (kA 0, 10, .inl (fun _ => Int32.ofInt 0))), ((f11 0), .inr (5, [.int (Int32.ofInt 0), .ref (f11 1), .ref (f11 2), .ref (f11 3), .ref (f11 4)])), ((f11 1), .inl (kA 0, 10, .inl (fun _ => Int32.ofInt 0))), ((f11 2), .inl (kA 0, 10, .inl (fun _ => Int32.ofInt 0))), ((f11 3), .inl (kA 0, 10, .inl (fun _ => Int32.ofInt 0))), ((f11 4), .inl (kA 0, 10, .inl (fun _ => Int32.ofInt 0))), (q12, .inr (6, [.int (Int32.ofInt 0), .null, .null]))] H := hP
  have hD : va_D A [(h0, .inr (4, [.int (Int32.ofInt 3), .int (Int32.ofInt 0), .int (Int32.ofInt 0), .ref q1, .ref q2, .ref q3, .int (Int32.ofInt 0), .ref q4, .ref q5, .ref q6, .ref q7, .ref (f9 0), .ref (f11 0), .null, .int (Int32.ofInt 0), .int (Int32.ofInt 0), .int (Int32.ofInt 0), .int (Int32.ofInt 0)])), (q1, .inl (kA 0, 5, .inl (fun _ => Int32.ofInt 0))), (q2, .inl (kA 0, 7, .inl (fun _ => Int32.ofInt 0))), (q3, .inl (kA 0, 7, .inl (fun _ => Int32.ofInt 0))), (q4, .inl (kA 0, 7, .inl (fun _ => Int32.ofInt 0))), (q5, .inl (kA 0, 7, .inl (fun _ => Int32.ofInt 0))), (q6, .inl (kA 0, 7, .inl (fun _ => Int32.ofInt 0))), (q7, .inl (kA 0, 35, .inl (fun _ => Int32.ofInt 0))), ((f9 0), .inr (5, [.int (Int32.ofInt 0), .ref (f9 1), .ref (f9 2), .ref (f9 3), .ref (f9 4)])), ((f9 1), .inl (kA 0, 10, .inl (fun _ => Int32.ofInt 0))), ((f9 2), .inl (kA 0, 10, .inl (fun _ => Int32.ofInt 0))), ((f9 3), .inl (kA 0, 10, .inl (fun _ => Int32.ofInt 0))), ((f9 4), .inl (kA 0, 10, .inl (fun _ => Int32.ofInt 0))), ((f11 0), .inr (5, [.int (Int32.ofInt 0), .ref (f11 1), .ref (f11 2), .ref (f11 3), .ref (f11 4)])), ((f11 1), .inl (kA 0, 10, .inl (fun _ => Int32.ofInt 0))), ((f11 2), .inl (kA 0, 10, .inl (fun _ => Int32.ofInt 0))), ((f11 3), .inl (kA 0, 10, .inl (fun _ => Int32.ofInt 0))), ((f11 4), .inl (kA 0, 10, .inl (fun _ => Int32.ofInt 0))), (q12, .inr (6, [.int (Int32.ofInt 0), .null, .null]))] := hD
  refine lv_dup hx hb (hd 90 .dup 1 rfl) rfl ?_
  have hPc := hP.sub (ws' := [(q12, .inr (6, dX6))]) [18] rfl
  have hDc := hD.sub (ws' := [(q12, .inr (6, dX6))]) [18] (by decide) rfl
  have hFc := va_free (wc := [(q12, .inr (6, dX6))]) hD hS hA [18] rfl
  have hxA := zX_ok.2.2.2 A _ s H hFc (zX_ok.2.2.1 A s s.heap H (fun a h1 h2 => hS.2.1 a h1 h2) hx0)
  refine va_callv (va_runIN (As := []) (rest := [.ref q12, .ref h0]) ⟨hx, hb, hml, hown, hts⟩ (c_X6_init l D kA q12 H.size) ⟨va_cnB 0 hts ggX4_init_X6_init rfl rfl rfl (zX_i (ho := RX7) hx0 (by decide +kernel)) (hts (.initialized RX6) (List.mem_of_getElem? (i := 20) rfl)) (by decide +kernel) ⟨Nat.le_of_ble_eq_true rfl, Nat.le_of_ble_eq_true rfl⟩, rfl, (hts (.instanceMethod yX6_init) (List.mem_of_getElem? (i := 29) rfl))⟩ ⟨zBf_blind zX_ok, fun U hU hW => zBf_of (av := [.ref q12]) zX_ok hK hPc (hDc.weaken (fun _ _ _ _ => trivial)) hxA U hU hW⟩ rfl rfl hl.1 rfl (lv_room (Nat.le_of_ble_eq_true rfl)) (hd 91 (.invokespecial 49) 3 rfl) ⟨Nat.le_of_ble_eq_true rfl, Nat.le_of_ble_eq_true rfl⟩) hS (fun q _ h => hFc q h) hFc (fun f13 t H1 locs ht hvm hw hB hz1 hk1 hS => ?_)
  obtain ⟨hP1, hD1⟩ := hB
  rw [ht] at hP1
  subst hw
  obtain ⟨hP, hD⟩ := va_join (wr := [(h0, .inr (4, [.int (Int32.ofInt 3), .int (Int32.ofInt 0), .int (Int32.ofInt 0), .ref q1, .ref q2, .ref q3, .int (Int32.ofInt 0), .ref q4, .ref q5, .ref q6, .ref q7, .ref (f9 0), .ref (f11 0), .null, .int (Int32.ofInt 0), .int (Int32.ofInt 0), .int (Int32.ofInt 0), .int (Int32.ofInt 0)])), (q1, .inl (kA 0, 5, .inl (fun _ => Int32.ofInt 0))), (q2, .inl (kA 0, 7, .inl (fun _ => Int32.ofInt 0))), (q3, .inl (kA 0, 7, .inl (fun _ => Int32.ofInt 0))), (q4, .inl (kA 0, 7, .inl (fun _ => Int32.ofInt 0))), (q5, .inl (kA 0, 7, .inl (fun _ => Int32.ofInt 0))), (q6, .inl (kA 0, 7, .inl (fun _ => Int32.ofInt 0))), (q7, .inl (kA 0, 35, .inl (fun _ => Int32.ofInt 0))), ((f9 0), .inr (5, [.int (Int32.ofInt 0), .ref (f9 1), .ref (f9 2), .ref (f9 3), .ref (f9 4)])), ((f9 1), .inl (kA 0, 10, .inl (fun _ => Int32.ofInt 0))), ((f9 2), .inl (kA 0, 10, .inl (fun _ => Int32.ofInt 0))), ((f9 3), .inl (kA 0, 10, .inl (fun _ => Int32.ofInt 0))), ((f9 4), .inl (kA 0, 10, .inl (fun _ => Int32.ofInt 0))), ((f11 0), .inr (5, [.int (Int32.ofInt 0), .ref (f11 1), .ref (f11 2), .ref (f11 3), .ref (f11 4)])), ((f11 1), .inl (kA 0, 10, .inl (fun _ => Int32.ofInt 0))), ((f11 2), .inl (kA 0, 10, .inl (fun _ => Int32.ofInt 0))), ((f11 3), .inl (kA 0, 10, .inl (fun _ => Int32.ofInt 0))), ((f11 4), .inl (kA 0, 10, .inl (fun _ => Int32.ofInt 0)))]) (w1 := (zws kA zz0 f13 zp0 wI_X6)) hP hD [18] [0, 1, 2, 3, 4, 5, 6, 7, 8, 9, 10, 11, 12, 13, 14, 15, 16, 17] rfl rfl (by decide) (by decide) hk1 hFc hP1 hD1
  generalize H1 = H at hP hS ⊢
  refine W.widen (k := 20) (n := 176) (by omega) (by omega) ?_
  have hP : va_P D vwCl [(h0, .inr (4, [.int (Int32.ofInt 3), .int (Int32.ofInt 0), .int (Int32.ofInt 0), .ref q1, .ref q2, .ref q3, .int (Int32.ofInt 0), .ref q4, .ref q5, .ref q6, .ref q7, .ref (f9 0), .ref (f11 0), .null, .int (Int32.ofInt 0), .int (Int32.ofInt 0), .int (Int32.ofInt 0), .int (Int32.ofInt 0)])), (q1, .inl (kA 0, 5, .inl (fun _ => Int32.ofInt 0))), (q2, .inl (kA 0, 7, .inl (fun _ => Int32.ofInt 0))), (q3, .inl (kA 0, 7, .inl (fun _ => Int32.ofInt 0))), (q4, .inl (kA 0, 7, .inl (fun _ => Int32.ofInt 0))), (q5, .inl (kA 0, 7, .inl (fun _ => Int32.ofInt 0))), (q6, .inl (kA 0, 7, .inl (fun _ => Int32.ofInt 0))), (q7, .inl (kA 0, 35, .inl (fun _ => Int32.ofInt 0))), ((f9 0), .inr (5, [.int (Int32.ofInt 0), .ref (f9 1), .ref (f9 2), .ref (f9 3), .ref (f9 4)])), ((f9 1), .inl (kA 0, 10, .inl (fun _ => Int32.ofInt 0))), ((f9 2), .inl (kA 0, 10, .inl (fun _ => Int32.ofInt 0))), ((f9 3), .inl (kA 0, 10, .inl (fun _ => Int32.ofInt 0))), ((f9 4), .inl (kA 0, 10, .inl (fun _ => Int32.ofInt 0))), ((f11 0), .inr (5, [.int (Int32.ofInt 0), .ref (f11 1), .ref (f11 2), .ref (f11 3), .ref (f11 4)])), ((f11 1), .inl (kA 0, 10, .inl (fun _ => Int32.ofInt 0))), ((f11 2), .inl (kA 0, 10, .inl (fun _ => Int32.ofInt 0))), ((f11 3), .inl (kA 0, 10, .inl (fun _ => Int32.ofInt 0))), ((f11 4), .inl (kA 0, 10, .inl (fun _ => Int32.ofInt 0))), ((f13 0), .inr (6, [.int (Int32.ofInt 0), .ref (f13 1), .ref (f13 2)])), ((f13 1), .inl (kA 0, 4, .inl (fun _ => Int32.ofInt 0))), ((f13 2), .inl (kA 0, 4, .inl (fun _ => Int32.ofInt 0)))] H := hP
  have hD : va_D A [(h0, .inr (4, [.int (Int32.ofInt 3), .int (Int32.ofInt 0), .int (Int32.ofInt 0), .ref q1, .ref q2, .ref q3, .int (Int32.ofInt 0), .ref q4, .ref q5, .ref q6, .ref q7, .ref (f9 0), .ref (f11 0), .null, .int (Int32.ofInt 0), .int (Int32.ofInt 0), .int (Int32.ofInt 0), .int (Int32.ofInt 0)])), (q1, .inl (kA 0, 5, .inl (fun _ => Int32.ofInt 0))), (q2, .inl (kA 0, 7, .inl (fun _ => Int32.ofInt 0))), (q3, .inl (kA 0, 7, .inl (fun _ => Int32.ofInt 0))), (q4, .inl (kA 0, 7, .inl (fun _ => Int32.ofInt 0))), (q5, .inl (kA 0, 7, .inl (fun _ => Int32.ofInt 0))), (q6, .inl (kA 0, 7, .inl (fun _ => Int32.ofInt 0))), (q7, .inl (kA 0, 35, .inl (fun _ => Int32.ofInt 0))), ((f9 0), .inr (5, [.int (Int32.ofInt 0), .ref (f9 1), .ref (f9 2), .ref (f9 3), .ref (f9 4)])), ((f9 1), .inl (kA 0, 10, .inl (fun _ => Int32.ofInt 0))), ((f9 2), .inl (kA 0, 10, .inl (fun _ => Int32.ofInt 0))), ((f9 3), .inl (kA 0, 10, .inl (fun _ => Int32.ofInt 0))), ((f9 4), .inl (kA 0, 10, .inl (fun _ => Int32.ofInt 0))), ((f11 0), .inr (5, [.int (Int32.ofInt 0), .ref (f11 1), .ref (f11 2), .ref (f11 3), .ref (f11 4)])), ((f11 1), .inl (kA 0, 10, .inl (fun _ => Int32.ofInt 0))), ((f11 2), .inl (kA 0, 10, .inl (fun _ => Int32.ofInt 0))), ((f11 3), .inl (kA 0, 10, .inl (fun _ => Int32.ofInt 0))), ((f11 4), .inl (kA 0, 10, .inl (fun _ => Int32.ofInt 0))), ((f13 0), .inr (6, [.int (Int32.ofInt 0), .ref (f13 1), .ref (f13 2)])), ((f13 1), .inl (kA 0, 4, .inl (fun _ => Int32.ofInt 0))), ((f13 2), .inl (kA 0, 4, .inl (fun _ => Int32.ofInt 0)))] := hD
  refine va_putF (ci := 4) (v := .ref (f13 0)) (ty := .object "VowTerrace$WantRow") (C := RX4) (T := TX4) (N := 18) hx hb hts (fun w h => List.mem_cons_of_mem _ (List.mem_append_left _ (List.mem_append_left _ (List.mem_append_right _ h)))) tyX4 tyX4_ok nmX4 hown hK hP hD hS 0 rfl rfl 13 (by decide) (hts (.fieldLink RX4 50 "VowTerrace$Terrace" "wantRow" "LVowTerrace$WantRow;") (List.mem_of_getElem? (i := 21) rfl)) (fun _ h => h) rfl hin rfl (by decide +kernel) rfl rfl (Nat.le_of_ble_eq_true rfl) (hd 94 (.putfield 50) 3 rfl) (fun H locs hP hD hS => ?_)
  have hP : va_P D vwCl [(h0, .inr (4, [.int (Int32.ofInt 3), .int (Int32.ofInt 0), .int (Int32.ofInt 0), .ref q1, .ref q2, .ref q3, .int (Int32.ofInt 0), .ref q4, .ref q5, .ref q6, .ref q7, .ref (f9 0), .ref (f11 0), .ref (f13 0), .int (Int32.ofInt 0), .int (Int32.ofInt 0), .int (Int32.ofInt 0), .int (Int32.ofInt 0)])), (q1, .inl (kA 0, 5, .inl (fun _ => Int32.ofInt 0))), (q2, .inl (kA 0, 7, .inl (fun _ => Int32.ofInt 0))), (q3, .inl (kA 0, 7, .inl (fun _ => Int32.ofInt 0))), (q4, .inl (kA 0, 7, .inl (fun _ => Int32.ofInt 0))), (q5, .inl (kA 0, 7, .inl (fun _ => Int32.ofInt 0))), (q6, .inl (kA 0, 7, .inl (fun _ => Int32.ofInt 0))), (q7, .inl (kA 0, 35, .inl (fun _ => Int32.ofInt 0))), ((f9 0), .inr (5, [.int (Int32.ofInt 0), .ref (f9 1), .ref (f9 2), .ref (f9 3), .ref (f9 4)])), ((f9 1), .inl (kA 0, 10, .inl (fun _ => Int32.ofInt 0))), ((f9 2), .inl (kA 0, 10, .inl (fun _ => Int32.ofInt 0))), ((f9 3), .inl (kA 0, 10, .inl (fun _ => Int32.ofInt 0))), ((f9 4), .inl (kA 0, 10, .inl (fun _ => Int32.ofInt 0))), ((f11 0), .inr (5, [.int (Int32.ofInt 0), .ref (f11 1), .ref (f11 2), .ref (f11 3), .ref (f11 4)])), ((f11 1), .inl (kA 0, 10, .inl (fun _ => Int32.ofInt 0))), ((f11 2), .inl (kA 0, 10, .inl (fun _ => Int32.ofInt 0))), ((f11 3), .inl (kA 0, 10, .inl (fun _ => Int32.ofInt 0))), ((f11 4), .inl (kA 0, 10, .inl (fun _ => Int32.ofInt 0))), ((f13 0), .inr (6, [.int (Int32.ofInt 0), .ref (f13 1), .ref (f13 2)])), ((f13 1), .inl (kA 0, 4, .inl (fun _ => Int32.ofInt 0))), ((f13 2), .inl (kA 0, 4, .inl (fun _ => Int32.ofInt 0)))] H := hP
  have hD : va_D A [(h0, .inr (4, [.int (Int32.ofInt 3), .int (Int32.ofInt 0), .int (Int32.ofInt 0), .ref q1, .ref q2, .ref q3, .int (Int32.ofInt 0), .ref q4, .ref q5, .ref q6, .ref q7, .ref (f9 0), .ref (f11 0), .ref (f13 0), .int (Int32.ofInt 0), .int (Int32.ofInt 0), .int (Int32.ofInt 0), .int (Int32.ofInt 0)])), (q1, .inl (kA 0, 5, .inl (fun _ => Int32.ofInt 0))), (q2, .inl (kA 0, 7, .inl (fun _ => Int32.ofInt 0))), (q3, .inl (kA 0, 7, .inl (fun _ => Int32.ofInt 0))), (q4, .inl (kA 0, 7, .inl (fun _ => Int32.ofInt 0))), (q5, .inl (kA 0, 7, .inl (fun _ => Int32.ofInt 0))), (q6, .inl (kA 0, 7, .inl (fun _ => Int32.ofInt 0))), (q7, .inl (kA 0, 35, .inl (fun _ => Int32.ofInt 0))), ((f9 0), .inr (5, [.int (Int32.ofInt 0), .ref (f9 1), .ref (f9 2), .ref (f9 3), .ref (f9 4)])), ((f9 1), .inl (kA 0, 10, .inl (fun _ => Int32.ofInt 0))), ((f9 2), .inl (kA 0, 10, .inl (fun _ => Int32.ofInt 0))), ((f9 3), .inl (kA 0, 10, .inl (fun _ => Int32.ofInt 0))), ((f9 4), .inl (kA 0, 10, .inl (fun _ => Int32.ofInt 0))), ((f11 0), .inr (5, [.int (Int32.ofInt 0), .ref (f11 1), .ref (f11 2), .ref (f11 3), .ref (f11 4)])), ((f11 1), .inl (kA 0, 10, .inl (fun _ => Int32.ofInt 0))), ((f11 2), .inl (kA 0, 10, .inl (fun _ => Int32.ofInt 0))), ((f11 3), .inl (kA 0, 10, .inl (fun _ => Int32.ofInt 0))), ((f11 4), .inl (kA 0, 10, .inl (fun _ => Int32.ofInt 0))), ((f13 0), .inr (6, [.int (Int32.ofInt 0), .ref (f13 1), .ref (f13 2)])), ((f13 1), .inl (kA 0, 4, .inl (fun _ => Int32.ofInt 0))), ((f13 2), .inl (kA 0, 4, .inl (fun _ => Int32.ofInt 0)))] := hD
  exact W.vret hx hb hr (fun t ht hW => ⟨⟨fun i => ([h0, q1, q2, q3, q4, q5, q6, q7, (f9 0), (f9 1), (f9 2), (f9 3), (f9 4), (f11 0), (f11 1), (f11 2), (f11 3), (f11 4), (f13 0), (f13 1), (f13 2)] : List Nat).getD i 0, rfl, rfl, by rw [ht]; exact hP, hD⟩, hS.F ht⟩) hS.2.2 (hd 97 .return_ 1 rfl)
noncomputable def pr_X3_init : List (Nat × Instr × Nat) := [(0, .aload_n 0, 1), (1, .invokespecial 3, 3), (4, .aload_n 0, 1), (5, .sipush 160, 3), (8, .newarray .int, 2), (10, .putfield 9, 3), (13, .return_, 1)]
set_option maxRecDepth 100000 in
theorem hp_X3_init : pr_X3_init.all (fun x => decide (decode cX3_init x.1 = .ok x.2)) = true := by decide +kernel
noncomputable def wI_X3 : zW := [(0, .inl (3, [zi 0 0, zr 1])),
  (1, .inr (.inl (0, 160, [(160, .inl (0, 0))], [])))]
set_option maxHeartbeats 2000000 in
set_option maxRecDepth 100000 in
theorem c_X3_init (l : Launch) (D : va_G) (kA : Nat → ClassId) (h0 sz : Nat) : Met l yX3_init wsX3_init { frames := 1, cells := 1, slots := 160, locals := 64 } (va_Pc [.ref h0] (zBf zX D vwCl kA [(h0, .inr (3, dX3))] sz)) (va_Qv (fun (f : Nat → Nat) => f 0 = h0) (fun f t => va_P D vwCl (zws kA zz0 f zp0 wI_X3) t.heap ∧ va_D (va_A [(h0, .inr (3, dX3))] sz) (zws kA zz0 f zp0 wI_X3)) (va_A [(h0, .inr (3, dX3))] sz)) 1 160 (va_A [(h0, .inr (3, dX3))] sz) := by
  refine Met.ofW (cc := cX3_init) (maxL := 1) (ret := none) (by decide +kernel) rfl ?_
  intro p e s m args below meth c s₁ B hml hv
  obtain ⟨rfl, hsz, hP, hK, hD0, hx0⟩ := hv
  have hx := B.exec
  have hb := B.bytes
  have hr := B.returns
  have hts := atoms_spec (ws := wsX3_init) B.pre
  have hown : s.vm.findClass RX3 = some m.cls := findClass_of_methodNamed B.named
  have hlocks := B.notSynchronized
  have hin : meth.name = "<init>" := (name_of_methodNamed B.named B.method).1
  have hd := zpr_all hp_X3_init
  subst hsz
  have hD := hD0.self (sz := s.heap.size)
  have hA : ∀ q : Nat, s.heap.size ≤ q → va_A [(h0, .inr (3, dX3))] s.heap.size q := fun q h => Or.inr h
  generalize hAe : va_A [(h0, .inr (3, dX3))] s.heap.size = A at hD hA hx0 ⊢
  have hS : va_S A s.heap s.heap [] := va_S.rf
  have hl := lv_entry ([.ref h0]) (n := 1) (Nat.le_of_ble_eq_true rfl)
  rw [lg_entry_eq]
  generalize (lg_sl ([.ref h0]) ++ List.replicate (1 - (lg_sl ([.ref h0])).length) Slot.unset).toArray = ls at hl ⊢
  have hl : lv_has ls 1 [(0, .ref h0)] := hl
  have hP : va_P D vwCl [(h0, .inr (3, [.int (Int32.ofInt 0), .null]))] s.heap := hP
  have hD : va_D A [(h0, .inr (3, [.int (Int32.ofInt 0), .null]))] := hD
  refine lv_aload_n hx hb (hd 0 (.aload_n 0) 1 rfl) rfl (lv_at hl 0 rfl) ?_
  refine W.objInit hx hb hown (hts (.methodLink RX3 3 objectInit) (List.mem_of_getElem? (i := 1) rfl)) (hts (.instanceMethod objectInit) (List.mem_of_getElem? (i := 2) rfl)) (hts _ (List.mem_of_getElem? (i := 3) rfl)) rfl (by rw [hml]; exact hl.1) rfl (hd 1 (.invokespecial 3) 3 rfl) (Nat.le_of_ble_eq_true rfl) (Nat.le_of_ble_eq_true rfl) ?_
  refine lv_aload_n hx hb (hd 4 (.aload_n 0) 1 rfl) rfl (lv_at hl 0 rfl) ?_
  refine lv_sipush (v := Int32.ofInt 160) hx hb (hd 5 (.sipush 160) 3 rfl) (by decide) ?_
  refine va_newa (atype := .int) (a0 := (160, .inl (fun _ => Int32.ofInt 0))) hx hb (hts (.arrayClass .int) (List.mem_of_getElem? (i := 4) rfl)) (ty := .int) rfl hK hP hD hS hA (fun cA => zha0 cA 160) (by decide) (by decide) (by decide) (Nat.le_of_ble_eq_true rfl) (Nat.le_of_ble_eq_true rfl) (hd 8 (.newarray .int) 2 rfl) (fun q1 cA H hK2 hP hD hS => ?_)
  obtain rfl := zcA0 hK hK2
  refine W.widen (k := 1) (n := 160) (by omega) (by omega) ?_
  have hP : va_P D vwCl [(h0, .inr (3, [.int (Int32.ofInt 0), .null])), (q1, .inl (kA 0, 160, .inl (fun _ => Int32.ofInt 0)))] H := hP
  have hD : va_D A [(h0, .inr (3, [.int (Int32.ofInt 0), .null])), (q1, .inl (kA 0, 160, .inl (fun _ => Int32.ofInt 0)))] := hD
  refine va_putF (ci := 3) (v := .ref q1) (ty := (.array .int)) (C := RX3) (T := TX3) (N := 2) hx hb hts (fun w h => List.mem_cons_of_mem _ (List.mem_append_right _ h)) tyX3 tyX3_ok nmX3 hown hK hP hD hS 0 rfl rfl 1 (by decide) (hts (.fieldLink RX3 9 "VowTerrace$Tape" "bytes" "[I") (List.mem_of_getElem? (i := 5) rfl)) (fun _ h => h) rfl hin rfl (by decide +kernel) rfl rfl (Nat.le_of_ble_eq_true rfl) (hd 10 (.putfield 9) 3 rfl) (fun H locs hP hD hS => ?_)
  have hP : va_P D vwCl [(h0, .inr (3, [.int (Int32.ofInt 0), .ref q1])), (q1, .inl (kA 0, 160, .inl (fun _ => Int32.ofInt 0)))] H := hP
  have hD : va_D A [(h0, .inr (3, [.int (Int32.ofInt 0), .ref q1])), (q1, .inl (kA 0, 160, .inl (fun _ => Int32.ofInt 0)))] := hD
  exact W.vret hx hb hr (fun t ht hW => ⟨⟨fun i => ([h0, q1] : List Nat).getD i 0, rfl, rfl, by rw [ht]; exact hP, hD⟩, hS.F ht⟩) hS.2.2 (hd 13 .return_ 1 rfl)
noncomputable def pr_X1_init : List (Nat × Instr × Nat) := [(0, .aload_n 0, 1), (1, .invokespecial 3, 3), (4, .aload_n 0, 1), (5, .new 9, 3), (8, .dup, 1), (9, .invokespecial 11, 3), (12, .putfield 12, 3), (15, .return_, 1)]
set_option maxRecDepth 100000 in
theorem hp_X1_init : pr_X1_init.all (fun x => decide (decode cX1_init x.1 = .ok x.2)) = true := by decide +kernel
noncomputable def wI_X1 : zW := [(0, .inl (1, [zr 1, zi 0 0, zi 0 0, zi 0 0, zi 0 0, zi 0 0, zi 0 0, zi 0 0, zi 0 0, zi 0 0, zi 0 0, zi 0 0, zi 0 0])),
  (1, .inl (3, [zi 0 0, zr 2])),
  (2, .inr (.inl (0, 160, [(160, .inl (0, 0))], [])))]
set_option maxHeartbeats 2000000 in
set_option maxRecDepth 100000 in
theorem c_X1_init (l : Launch) (D : va_G) (kA : Nat → ClassId) (h0 sz : Nat) : Met l yX1_init wsX1_init { frames := 2, cells := 2, slots := 162, locals := 84 } (va_Pc [.ref h0] (zBf zX D vwCl kA [(h0, .inr (1, dX1))] sz)) (va_Qv (fun (f : Nat → Nat) => f 0 = h0) (fun f t => va_P D vwCl (zws kA zz0 f zp0 wI_X1) t.heap ∧ va_D (va_A [(h0, .inr (1, dX1))] sz) (zws kA zz0 f zp0 wI_X1)) (va_A [(h0, .inr (1, dX1))] sz)) 2 162 (va_A [(h0, .inr (1, dX1))] sz) := by
  refine Met.ofW (cc := cX1_init) (maxL := 1) (ret := none) (by decide +kernel) rfl ?_
  intro p e s m args below meth c s₁ B hml hv
  obtain ⟨rfl, hsz, hP, hK, hD0, hx0⟩ := hv
  have hx := B.exec
  have hb := B.bytes
  have hr := B.returns
  have hts := atoms_spec (ws := wsX1_init) B.pre
  have hown : s.vm.findClass RX1 = some m.cls := findClass_of_methodNamed B.named
  have hlocks := B.notSynchronized
  have hin : meth.name = "<init>" := (name_of_methodNamed B.named B.method).1
  have hd := zpr_all hp_X1_init
  subst hsz
  have hD := hD0.self (sz := s.heap.size)
  have hA : ∀ q : Nat, s.heap.size ≤ q → va_A [(h0, .inr (1, dX1))] s.heap.size q := fun q h => Or.inr h
  generalize hAe : va_A [(h0, .inr (1, dX1))] s.heap.size = A at hD hA hx0 ⊢
  have hS : va_S A s.heap s.heap [] := va_S.rf
  have hl := lv_entry ([.ref h0]) (n := 1) (Nat.le_of_ble_eq_true rfl)
  rw [lg_entry_eq]
  generalize (lg_sl ([.ref h0]) ++ List.replicate (1 - (lg_sl ([.ref h0])).length) Slot.unset).toArray = ls at hl ⊢
  have hl : lv_has ls 1 [(0, .ref h0)] := hl
  have hP : va_P D vwCl [(h0, .inr (1, [.null, .int (Int32.ofInt 0), .int (Int32.ofInt 0), .int (Int32.ofInt 0), .int (Int32.ofInt 0), .int (Int32.ofInt 0), .int (Int32.ofInt 0), .int (Int32.ofInt 0), .int (Int32.ofInt 0), .int (Int32.ofInt 0), .int (Int32.ofInt 0), .int (Int32.ofInt 0), .int (Int32.ofInt 0)]))] s.heap := hP
  have hD : va_D A [(h0, .inr (1, [.null, .int (Int32.ofInt 0), .int (Int32.ofInt 0), .int (Int32.ofInt 0), .int (Int32.ofInt 0), .int (Int32.ofInt 0), .int (Int32.ofInt 0), .int (Int32.ofInt 0), .int (Int32.ofInt 0), .int (Int32.ofInt 0), .int (Int32.ofInt 0), .int (Int32.ofInt 0), .int (Int32.ofInt 0)]))] := hD
  refine lv_aload_n hx hb (hd 0 (.aload_n 0) 1 rfl) rfl (lv_at hl 0 rfl) ?_
  refine W.objInit hx hb hown (hts (.methodLink RX1 3 objectInit) (List.mem_of_getElem? (i := 1) rfl)) (hts (.instanceMethod objectInit) (List.mem_of_getElem? (i := 2) rfl)) (hts _ (List.mem_of_getElem? (i := 3) rfl)) rfl (by rw [hml]; exact hl.1) rfl (hd 1 (.invokespecial 3) 3 rfl) (Nat.le_of_ble_eq_true rfl) (Nat.le_of_ble_eq_true rfl) ?_
  refine lv_aload_n hx hb (hd 4 (.aload_n 0) 1 rfl) rfl (lv_at hl 0 rfl) ?_
  refine va_new (ci := 3) (fs := dX3) (C := RX3) (T := TX3) (N := 2) hx hb hts (fun w h => List.mem_cons_of_mem _ (List.mem_append_left _ (List.mem_append_right _ h))) tyX3 tyX3_ok hown (hts (.classLink RX1 9 RX3) (List.mem_of_getElem? (i := 4) rfl)) (hts (.instantiable RX3 2) (List.mem_of_getElem? (i := 5) rfl)) (hts (.initialized RX3) (List.mem_of_getElem? (i := 6) rfl)) hK hP hD hS hA rfl (by decide) (Nat.le_of_ble_eq_true rfl) (Nat.le_of_ble_eq_true rfl) (hd 5 (.new 9) 3 rfl) (fun q1 H hP hD hS => ?_)
  refine W.widen (k := 1) (n := 2) (by omega) (by omega) ?_
  have hP : va_P D vwCl [(h0, .inr (1, [.null, .int (Int32.ofInt 0), .int (Int32.ofInt 0), .int (Int32.ofInt 0), .int (Int32.ofInt 0), .int (Int32.ofInt 0), .int (Int32.ofInt 0), .int (Int32.ofInt 0), .int (Int32.ofInt 0), .int (Int32.ofInt 0), .int (Int32.ofInt 0), .int (Int32.ofInt 0), .int (Int32.ofInt 0)])), (q1, .inr (3, [.int (Int32.ofInt 0), .null]))] H := hP
  have hD : va_D A [(h0, .inr (1, [.null, .int (Int32.ofInt 0), .int (Int32.ofInt 0), .int (Int32.ofInt 0), .int (Int32.ofInt 0), .int (Int32.ofInt 0), .int (Int32.ofInt 0), .int (Int32.ofInt 0), .int (Int32.ofInt 0), .int (Int32.ofInt 0), .int (Int32.ofInt 0), .int (Int32.ofInt 0), .int (Int32.ofInt 0)])), (q1, .inr (3, [.int (Int32.ofInt 0), .null]))] := hD
  refine lv_dup hx hb (hd 8 .dup 1 rfl) rfl ?_
  have hPc := hP.sub (ws' := [(q1, .inr (3, dX3))]) [1] rfl
  have hDc := hD.sub (ws' := [(q1, .inr (3, dX3))]) [1] (by decide) rfl
  have hFc := va_free (wc := [(q1, .inr (3, dX3))]) hD hS hA [1] rfl
  have hxA := zX_ok.2.2.2 A _ s H hFc (zX_ok.2.2.1 A s s.heap H (fun a h1 h2 => hS.2.1 a h1 h2) hx0)
  refine va_callv (va_runIN (As := []) (rest := [.ref q1, .ref h0]) ⟨hx, hb, hml, hown, hts⟩ (c_X3_init l D kA q1 H.size) ⟨va_cnB 0 hts ggX1_init_X3_init rfl rfl rfl (zX_i (ho := RX7) hx0 (by decide +kernel)) (hts (.initialized RX3) (List.mem_of_getElem? (i := 6) rfl)) (by decide +kernel) ⟨Nat.le_of_ble_eq_true rfl, Nat.le_of_ble_eq_true rfl⟩, rfl, (hts (.instanceMethod yX3_init) (List.mem_of_getElem? (i := 8) rfl))⟩ ⟨zBf_blind zX_ok, fun U hU hW => zBf_of (av := [.ref q1]) zX_ok hK hPc (hDc.weaken (fun _ _ _ _ => trivial)) hxA U hU hW⟩ rfl rfl hl.1 rfl (lv_room (Nat.le_of_ble_eq_true rfl)) (hd 9 (.invokespecial 11) 3 rfl) ⟨Nat.le_of_ble_eq_true rfl, Nat.le_of_ble_eq_true rfl⟩) hS (fun q _ h => hFc q h) hFc (fun f2 t H1 locs ht hvm hw hB hz1 hk1 hS => ?_)
  obtain ⟨hP1, hD1⟩ := hB
  rw [ht] at hP1
  subst hw
  obtain ⟨hP, hD⟩ := va_join (wr := [(h0, .inr (1, [.null, .int (Int32.ofInt 0), .int (Int32.ofInt 0), .int (Int32.ofInt 0), .int (Int32.ofInt 0), .int (Int32.ofInt 0), .int (Int32.ofInt 0), .int (Int32.ofInt 0), .int (Int32.ofInt 0), .int (Int32.ofInt 0), .int (Int32.ofInt 0), .int (Int32.ofInt 0), .int (Int32.ofInt 0)]))]) (w1 := (zws kA zz0 f2 zp0 wI_X3)) hP hD [1] [0] rfl rfl (by decide) (by decide) hk1 hFc hP1 hD1
  generalize H1 = H at hP hS ⊢
  refine W.widen (k := 2) (n := 162) (by omega) (by omega) ?_
  have hP : va_P D vwCl [(h0, .inr (1, [.null, .int (Int32.ofInt 0), .int (Int32.ofInt 0), .int (Int32.ofInt 0), .int (Int32.ofInt 0), .int (Int32.ofInt 0), .int (Int32.ofInt 0), .int (Int32.ofInt 0), .int (Int32.ofInt 0), .int (Int32.ofInt 0), .int (Int32.ofInt 0), .int (Int32.ofInt 0), .int (Int32.ofInt 0)])), ((f2 0), .inr (3, [.int (Int32.ofInt 0), .ref (f2 1)])), ((f2 1), .inl (kA 0, 160, .inl (fun _ => Int32.ofInt 0)))] H := hP
  have hD : va_D A [(h0, .inr (1, [.null, .int (Int32.ofInt 0), .int (Int32.ofInt 0), .int (Int32.ofInt 0), .int (Int32.ofInt 0), .int (Int32.ofInt 0), .int (Int32.ofInt 0), .int (Int32.ofInt 0), .int (Int32.ofInt 0), .int (Int32.ofInt 0), .int (Int32.ofInt 0), .int (Int32.ofInt 0), .int (Int32.ofInt 0)])), ((f2 0), .inr (3, [.int (Int32.ofInt 0), .ref (f2 1)])), ((f2 1), .inl (kA 0, 160, .inl (fun _ => Int32.ofInt 0)))] := hD
  refine va_putF (ci := 1) (v := .ref (f2 0)) (ty := .object "VowTerrace$Tape") (C := RX1) (T := TX1) (N := 13) hx hb hts (fun w h => List.mem_cons_of_mem _ (List.mem_append_right _ h)) tyX1 tyX1_ok nmX1 hown hK hP hD hS 0 rfl rfl 0 (by decide) (hts (.fieldLink RX1 12 "VowTerrace$Reader" "tape" "LVowTerrace$Tape;") (List.mem_of_getElem? (i := 7) rfl)) (fun _ h => h) rfl hin rfl (by decide +kernel) rfl rfl (Nat.le_of_ble_eq_true rfl) (hd 12 (.putfield 12) 3 rfl) (fun H locs hP hD hS => ?_)
  have hP : va_P D vwCl [(h0, .inr (1, [.ref (f2 0), .int (Int32.ofInt 0), .int (Int32.ofInt 0), .int (Int32.ofInt 0), .int (Int32.ofInt 0), .int (Int32.ofInt 0), .int (Int32.ofInt 0), .int (Int32.ofInt 0), .int (Int32.ofInt 0), .int (Int32.ofInt 0), .int (Int32.ofInt 0), .int (Int32.ofInt 0), .int (Int32.ofInt 0)])), ((f2 0), .inr (3, [.int (Int32.ofInt 0), .ref (f2 1)])), ((f2 1), .inl (kA 0, 160, .inl (fun _ => Int32.ofInt 0)))] H := hP
  have hD : va_D A [(h0, .inr (1, [.ref (f2 0), .int (Int32.ofInt 0), .int (Int32.ofInt 0), .int (Int32.ofInt 0), .int (Int32.ofInt 0), .int (Int32.ofInt 0), .int (Int32.ofInt 0), .int (Int32.ofInt 0), .int (Int32.ofInt 0), .int (Int32.ofInt 0), .int (Int32.ofInt 0), .int (Int32.ofInt 0), .int (Int32.ofInt 0)])), ((f2 0), .inr (3, [.int (Int32.ofInt 0), .ref (f2 1)])), ((f2 1), .inl (kA 0, 160, .inl (fun _ => Int32.ofInt 0)))] := hD
  exact W.vret hx hb hr (fun t ht hW => ⟨⟨fun i => ([h0, (f2 0), (f2 1)] : List Nat).getD i 0, rfl, rfl, by rw [ht]; exact hP, hD⟩, hS.F ht⟩) hS.2.2 (hd 15 .return_ 1 rfl)
noncomputable def pr_X0_init : List (Nat × Instr × Nat) := [(0, .aload_n 0, 1), (1, .invokespecial 3, 3), (4, .aload_n 0, 1), (5, .bipush 16, 2), (7, .newarray .boolean, 2), (9, .putfield 11, 3), (12, .aload_n 0, 1), (13, .bipush 16, 2), (15, .newarray .int, 2), (17, .putfield 15, 3), (20, .return_, 1)]
set_option maxRecDepth 100000 in
theorem hp_X0_init : pr_X0_init.all (fun x => decide (decode cX0_init x.1 = .ok x.2)) = true := by decide +kernel
noncomputable def wI_X0 : zW := [(0, .inl (0, [zr 1, zr 2])),
  (1, .inr (.inl (1, 16, [(16, .inl (0, 0))], []))),
  (2, .inr (.inl (0, 16, [(16, .inl (0, 0))], [])))]
set_option maxHeartbeats 2000000 in
set_option maxRecDepth 100000 in
theorem c_X0_init (l : Launch) (D : va_G) (kA : Nat → ClassId) (h0 sz : Nat) : Met l yX0_init wsX0_init { frames := 1, cells := 2, slots := 32, locals := 64 } (va_Pc [.ref h0] (zBf zX D vwCl kA [(h0, .inr (0, dX0))] sz)) (va_Qv (fun (f : Nat → Nat) => f 0 = h0) (fun f t => va_P D vwCl (zws kA zz0 f zp0 wI_X0) t.heap ∧ va_D (va_A [(h0, .inr (0, dX0))] sz) (zws kA zz0 f zp0 wI_X0)) (va_A [(h0, .inr (0, dX0))] sz)) 2 32 (va_A [(h0, .inr (0, dX0))] sz) := by
  refine Met.ofW (cc := cX0_init) (maxL := 1) (ret := none) (by decide +kernel) rfl ?_
  intro p e s m args below meth c s₁ B hml hv
  obtain ⟨rfl, hsz, hP, hK, hD0, hx0⟩ := hv
  have hx := B.exec
  have hb := B.bytes
  have hr := B.returns
  have hts := atoms_spec (ws := wsX0_init) B.pre
  have hown : s.vm.findClass RX0 = some m.cls := findClass_of_methodNamed B.named
  have hlocks := B.notSynchronized
  have hin : meth.name = "<init>" := (name_of_methodNamed B.named B.method).1
  have hd := zpr_all hp_X0_init
  subst hsz
  have hD := hD0.self (sz := s.heap.size)
  have hA : ∀ q : Nat, s.heap.size ≤ q → va_A [(h0, .inr (0, dX0))] s.heap.size q := fun q h => Or.inr h
  generalize hAe : va_A [(h0, .inr (0, dX0))] s.heap.size = A at hD hA hx0 ⊢
  have hS : va_S A s.heap s.heap [] := va_S.rf
  have hl := lv_entry ([.ref h0]) (n := 1) (Nat.le_of_ble_eq_true rfl)
  rw [lg_entry_eq]
  generalize (lg_sl ([.ref h0]) ++ List.replicate (1 - (lg_sl ([.ref h0])).length) Slot.unset).toArray = ls at hl ⊢
  have hl : lv_has ls 1 [(0, .ref h0)] := hl
  have hP : va_P D vwCl [(h0, .inr (0, [.null, .null]))] s.heap := hP
  have hD : va_D A [(h0, .inr (0, [.null, .null]))] := hD
  refine lv_aload_n hx hb (hd 0 (.aload_n 0) 1 rfl) rfl (lv_at hl 0 rfl) ?_
  refine W.objInit hx hb hown (hts (.methodLink RX0 3 objectInit) (List.mem_of_getElem? (i := 1) rfl)) (hts (.instanceMethod objectInit) (List.mem_of_getElem? (i := 2) rfl)) (hts _ (List.mem_of_getElem? (i := 3) rfl)) rfl (by rw [hml]; exact hl.1) rfl (hd 1 (.invokespecial 3) 3 rfl) (Nat.le_of_ble_eq_true rfl) (Nat.le_of_ble_eq_true rfl) ?_
  refine lv_aload_n hx hb (hd 4 (.aload_n 0) 1 rfl) rfl (lv_at hl 0 rfl) ?_
  refine lv_bipush (v := Int32.ofInt 16) hx hb (hd 5 (.bipush 16) 2 rfl) (by decide) ?_
  refine va_newa (atype := .boolean) (a0 := (16, .inl (fun _ => Int32.ofInt 0))) hx hb (hts (.arrayClass .boolean) (List.mem_of_getElem? (i := 4) rfl)) (ty := .boolean) rfl hK hP hD hS hA (fun cA => zha1 cA 16) (by decide) (by decide) (by decide) (Nat.le_of_ble_eq_true rfl) (Nat.le_of_ble_eq_true rfl) (hd 7 (.newarray .boolean) 2 rfl) (fun q1 cA H hK2 hP hD hS => ?_)
  obtain rfl := zcA1 hK hK2
  refine W.widen (k := 1) (n := 16) (by omega) (by omega) ?_
  have hP : va_P D vwCl [(h0, .inr (0, [.null, .null])), (q1, .inl (kA 1, 16, .inl (fun _ => Int32.ofInt 0)))] H := hP
  have hD : va_D A [(h0, .inr (0, [.null, .null])), (q1, .inl (kA 1, 16, .inl (fun _ => Int32.ofInt 0)))] := hD
  refine va_putF (ci := 0) (v := .ref q1) (ty := (.array .boolean)) (C := RX0) (T := TX0) (N := 2) hx hb hts (fun w h => List.mem_cons_of_mem _ (List.mem_append_right _ h)) tyX0 tyX0_ok nmX0 hown hK hP hD hS 0 rfl rfl 0 (by decide) (hts (.fieldLink RX0 11 "VowTerrace$Planner" "bringable" "[Z") (List.mem_of_getElem? (i := 5) rfl)) (fun _ h => h) rfl hin rfl (by decide +kernel) rfl rfl (Nat.le_of_ble_eq_true rfl) (hd 9 (.putfield 11) 3 rfl) (fun H locs hP hD hS => ?_)
  have hP : va_P D vwCl [(h0, .inr (0, [.ref q1, .null])), (q1, .inl (kA 1, 16, .inl (fun _ => Int32.ofInt 0)))] H := hP
  have hD : va_D A [(h0, .inr (0, [.ref q1, .null])), (q1, .inl (kA 1, 16, .inl (fun _ => Int32.ofInt 0)))] := hD
  refine lv_aload_n hx hb (hd 12 (.aload_n 0) 1 rfl) rfl (lv_at hl 0 rfl) ?_
  refine lv_bipush (v := Int32.ofInt 16) hx hb (hd 13 (.bipush 16) 2 rfl) (by decide) ?_
  refine va_newa (atype := .int) (a0 := (16, .inl (fun _ => Int32.ofInt 0))) hx hb (hts (.arrayClass .int) (List.mem_of_getElem? (i := 6) rfl)) (ty := .int) rfl hK hP hD hS hA (fun cA => zha0 cA 16) (by decide) (by decide) (by decide) (Nat.le_of_ble_eq_true rfl) (Nat.le_of_ble_eq_true rfl) (hd 15 (.newarray .int) 2 rfl) (fun q2 cA H hK2 hP hD hS => ?_)
  obtain rfl := zcA0 hK hK2
  refine W.widen (k := 2) (n := 32) (by omega) (by omega) ?_
  have hP : va_P D vwCl [(h0, .inr (0, [.ref q1, .null])), (q1, .inl (kA 1, 16, .inl (fun _ => Int32.ofInt 0))), (q2, .inl (kA 0, 16, .inl (fun _ => Int32.ofInt 0)))] H := hP
  have hD : va_D A [(h0, .inr (0, [.ref q1, .null])), (q1, .inl (kA 1, 16, .inl (fun _ => Int32.ofInt 0))), (q2, .inl (kA 0, 16, .inl (fun _ => Int32.ofInt 0)))] := hD
  refine va_putF (ci := 0) (v := .ref q2) (ty := (.array .int)) (C := RX0) (T := TX0) (N := 2) hx hb hts (fun w h => List.mem_cons_of_mem _ (List.mem_append_right _ h)) tyX0 tyX0_ok nmX0 hown hK hP hD hS 0 rfl rfl 1 (by decide) (hts (.fieldLink RX0 15 "VowTerrace$Planner" "fewestFor" "[I") (List.mem_of_getElem? (i := 7) rfl)) (fun _ h => h) rfl hin rfl (by decide +kernel) rfl rfl (Nat.le_of_ble_eq_true rfl) (hd 17 (.putfield 15) 3 rfl) (fun H locs hP hD hS => ?_)
  have hP : va_P D vwCl [(h0, .inr (0, [.ref q1, .ref q2])), (q1, .inl (kA 1, 16, .inl (fun _ => Int32.ofInt 0))), (q2, .inl (kA 0, 16, .inl (fun _ => Int32.ofInt 0)))] H := hP
  have hD : va_D A [(h0, .inr (0, [.ref q1, .ref q2])), (q1, .inl (kA 1, 16, .inl (fun _ => Int32.ofInt 0))), (q2, .inl (kA 0, 16, .inl (fun _ => Int32.ofInt 0)))] := hD
  exact W.vret hx hb hr (fun t ht hW => ⟨⟨fun i => ([h0, q1, q2] : List Nat).getD i 0, rfl, rfl, by rw [ht]; exact hP, hD⟩, hS.F ht⟩) hS.2.2 (hd 20 .return_ 1 rfl)
noncomputable def pr_X2_init : List (Nat × Instr × Nat) := [(0, .aload_n 0, 1), (1, .invokespecial 3, 3), (4, .aload_n 0, 1), (5, .iconst (-1), 1), (6, .putfield 11, 3), (9, .aload_n 0, 1), (10, .bipush 40, 2), (12, .newarray .int, 2), (14, .putfield 15, 3), (17, .return_, 1)]
set_option maxRecDepth 100000 in
theorem hp_X2_init : pr_X2_init.all (fun x => decide (decode cX2_init x.1 = .ok x.2)) = true := by decide +kernel
noncomputable def wI_X2 : zW := [(0, .inl (2, [zi 0 (-1), zi 0 0, zr 1])),
  (1, .inr (.inl (0, 40, [(40, .inl (0, 0))], [])))]
set_option maxHeartbeats 2000000 in
set_option maxRecDepth 100000 in
theorem c_X2_init (l : Launch) (D : va_G) (kA : Nat → ClassId) (h0 sz : Nat) : Met l yX2_init wsX2_init { frames := 1, cells := 1, slots := 40, locals := 64 } (va_Pc [.ref h0] (zBf zX D vwCl kA [(h0, .inr (2, dX2))] sz)) (va_Qv (fun (f : Nat → Nat) => f 0 = h0) (fun f t => va_P D vwCl (zws kA zz0 f zp0 wI_X2) t.heap ∧ va_D (va_A [(h0, .inr (2, dX2))] sz) (zws kA zz0 f zp0 wI_X2)) (va_A [(h0, .inr (2, dX2))] sz)) 1 40 (va_A [(h0, .inr (2, dX2))] sz) := by
  refine Met.ofW (cc := cX2_init) (maxL := 1) (ret := none) (by decide +kernel) rfl ?_
  intro p e s m args below meth c s₁ B hml hv
  obtain ⟨rfl, hsz, hP, hK, hD0, hx0⟩ := hv
  have hx := B.exec
  have hb := B.bytes
  have hr := B.returns
  have hts := atoms_spec (ws := wsX2_init) B.pre
  have hown : s.vm.findClass RX2 = some m.cls := findClass_of_methodNamed B.named
  have hlocks := B.notSynchronized
  have hin : meth.name = "<init>" := (name_of_methodNamed B.named B.method).1
  have hd := zpr_all hp_X2_init
  subst hsz
  have hD := hD0.self (sz := s.heap.size)
  have hA : ∀ q : Nat, s.heap.size ≤ q → va_A [(h0, .inr (2, dX2))] s.heap.size q := fun q h => Or.inr h
  generalize hAe : va_A [(h0, .inr (2, dX2))] s.heap.size = A at hD hA hx0 ⊢
  have hS : va_S A s.heap s.heap [] := va_S.rf
  have hl := lv_entry ([.ref h0]) (n := 1) (Nat.le_of_ble_eq_true rfl)
  rw [lg_entry_eq]
  generalize (lg_sl ([.ref h0]) ++ List.replicate (1 - (lg_sl ([.ref h0])).length) Slot.unset).toArray = ls at hl ⊢
  have hl : lv_has ls 1 [(0, .ref h0)] := hl
  have hP : va_P D vwCl [(h0, .inr (2, [.int (Int32.ofInt 0), .int (Int32.ofInt 0), .null]))] s.heap := hP
  have hD : va_D A [(h0, .inr (2, [.int (Int32.ofInt 0), .int (Int32.ofInt 0), .null]))] := hD
  refine lv_aload_n hx hb (hd 0 (.aload_n 0) 1 rfl) rfl (lv_at hl 0 rfl) ?_
  refine W.objInit hx hb hown (hts (.methodLink RX2 3 objectInit) (List.mem_of_getElem? (i := 1) rfl)) (hts (.instanceMethod objectInit) (List.mem_of_getElem? (i := 2) rfl)) (hts _ (List.mem_of_getElem? (i := 3) rfl)) rfl (by rw [hml]; exact hl.1) rfl (hd 1 (.invokespecial 3) 3 rfl) (Nat.le_of_ble_eq_true rfl) (Nat.le_of_ble_eq_true rfl) ?_
  refine lv_aload_n hx hb (hd 4 (.aload_n 0) 1 rfl) rfl (lv_at hl 0 rfl) ?_
  refine lv_iconst (v := Int32.ofInt (-1)) hx hb (hd 5 (.iconst (-1)) 1 rfl) (by decide) ?_
  refine va_put (ci := 2) (v := .int (Int32.ofInt (-1))) (ty := .int) (C := RX2) (T := TX2) (N := 3) hx hb hts (fun w h => List.mem_cons_of_mem _ (List.mem_append_right _ h)) tyX2 tyX2_ok nmX2 hown hK hP hD hS 0 rfl rfl 0 (by decide) (hts (.fieldLink RX2 11 "VowTerrace$Sheet" "lane" "I") (List.mem_of_getElem? (i := 4) rfl)) (fun _ h => h) rfl (by decide +kernel) rfl rfl (Nat.le_of_ble_eq_true rfl) (hd 6 (.putfield 11) 3 rfl) (fun H locs hP hD hS => ?_)
  have hP : va_P D vwCl [(h0, .inr (2, [.int (Int32.ofInt (-1)), .int (Int32.ofInt 0), .null]))] H := hP
  have hD : va_D A [(h0, .inr (2, [.int (Int32.ofInt (-1)), .int (Int32.ofInt 0), .null]))] := hD
  refine lv_aload_n hx hb (hd 9 (.aload_n 0) 1 rfl) rfl (lv_at hl 0 rfl) ?_
  refine lv_bipush (v := Int32.ofInt 40) hx hb (hd 10 (.bipush 40) 2 rfl) (by decide) ?_
  refine va_newa (atype := .int) (a0 := (40, .inl (fun _ => Int32.ofInt 0))) hx hb (hts (.arrayClass .int) (List.mem_of_getElem? (i := 5) rfl)) (ty := .int) rfl hK hP hD hS hA (fun cA => zha0 cA 40) (by decide) (by decide) (by decide) (Nat.le_of_ble_eq_true rfl) (Nat.le_of_ble_eq_true rfl) (hd 12 (.newarray .int) 2 rfl) (fun q1 cA H hK2 hP hD hS => ?_)
  obtain rfl := zcA0 hK hK2
  refine W.widen (k := 1) (n := 40) (by omega) (by omega) ?_
  have hP : va_P D vwCl [(h0, .inr (2, [.int (Int32.ofInt (-1)), .int (Int32.ofInt 0), .null])), (q1, .inl (kA 0, 40, .inl (fun _ => Int32.ofInt 0)))] H := hP
  have hD : va_D A [(h0, .inr (2, [.int (Int32.ofInt (-1)), .int (Int32.ofInt 0), .null])), (q1, .inl (kA 0, 40, .inl (fun _ => Int32.ofInt 0)))] := hD
  refine va_putF (ci := 2) (v := .ref q1) (ty := (.array .int)) (C := RX2) (T := TX2) (N := 3) hx hb hts (fun w h => List.mem_cons_of_mem _ (List.mem_append_right _ h)) tyX2 tyX2_ok nmX2 hown hK hP hD hS 0 rfl rfl 2 (by decide) (hts (.fieldLink RX2 15 "VowTerrace$Sheet" "cells" "[I") (List.mem_of_getElem? (i := 6) rfl)) (fun _ h => h) rfl hin rfl (by decide +kernel) rfl rfl (Nat.le_of_ble_eq_true rfl) (hd 14 (.putfield 15) 3 rfl) (fun H locs hP hD hS => ?_)
  have hP : va_P D vwCl [(h0, .inr (2, [.int (Int32.ofInt (-1)), .int (Int32.ofInt 0), .ref q1])), (q1, .inl (kA 0, 40, .inl (fun _ => Int32.ofInt 0)))] H := hP
  have hD : va_D A [(h0, .inr (2, [.int (Int32.ofInt (-1)), .int (Int32.ofInt 0), .ref q1])), (q1, .inl (kA 0, 40, .inl (fun _ => Int32.ofInt 0)))] := hD
  exact W.vret hx hb hr (fun t ht hW => ⟨⟨fun i => ([h0, q1] : List Nat).getD i 0, rfl, rfl, by rw [ht]; exact hP, hD⟩, hS.F ht⟩) hS.2.2 (hd 17 .return_ 1 rfl)
