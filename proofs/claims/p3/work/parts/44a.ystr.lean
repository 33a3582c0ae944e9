noncomputable def ych (x : Int32) : Int32 := ((x &&& 255).toUInt32 % 65536).toInt32
theorem ynI_nat {i : Nat} (h : i < 2147483648) : (nI i).toNatClampNeg = i := by
  show (Int32.ofInt (i : Int)).toInt.toNat = i
  rw [zq_of (by omega) (by omega)]
  omega
/-- a text constant in its place: its coder, its bytes; what the library's own methods read beside it -/
def yStr (w : Nat → Int32) (n a : Nat) (A : Nat → Prop) (U : State) (H : Heap) : Prop := n < 2147483648 ∧ va_O "java/lang/String" a A U H ∧ va_OF "java/lang/String" "coder" "B" (.int 0) a A U H ∧ va_Z "java/lang/String" "COMPACT_STRINGS" "Z" (.int 1) A U H ∧ va_Zq "jdk/internal/util/Preconditions" "SIOOBE_FORMATTER" "Ljava/util/function/BiFunction;" A U H ∧ ∃ (v : Nat), va_OF "java/lang/String" "value" "[B" (.ref v) a A U H ∧ va_T .byte v n (fun j => .int (w j)) A U H
theorem yStr.moved {w : Nat → Int32} {n a : Nat} {A : Nat → Prop} {u U : State} {H : Heap} (hvm : u.vm.Alike U.vm) (h : yStr w n a A u H) : yStr w n a A U H := by
  obtain ⟨h0, h1, h2, h3, h4, v, h5, h6⟩ := h
  exact ⟨h0, va_O.moved hvm h1, va_OF.moved hvm h2, va_Z.moved hvm h3, va_Zq.moved hvm h4, v, va_OF.moved hvm h5, va_T.moved hvm h6⟩
theorem yStr.kept {w : Nat → Int32} {n a : Nat} {A : Nat → Prop} {U : State} {H H1 : Heap} (h : yStr w n a A U H) (hq : ∀ a : Nat, a < H.size → ¬ A a → H1[a]? = H[a]?) : yStr w n a A U H1 := by
  obtain ⟨h0, h1, h2, h3, h4, v, h5, h6⟩ := h
  exact ⟨h0, h1.kept hq, h2.kept hq, h3.kept hq, h4.kept hq, v, h5.kept hq, h6.kept hq⟩
theorem yStr.narrow {w : Nat → Int32} {n a : Nat} {A B : Nat → Prop} {U : State} {H : Heap} (h : yStr w n a A U H) (hAB : ∀ q, B q → A q) : yStr w n a B U H := by
  obtain ⟨h0, h1, h2, h3, h4, v, h5, h6⟩ := h
  exact ⟨h0, h1.narrow hAB, h2.narrow hAB, h3.narrow hAB, h4.narrow hAB, v, h5.narrow hAB, h6.narrow hAB⟩
abbrev yAs (sz : Nat) : Nat → Prop := fun q => sz ≤ q
theorem yStr.there {w : Nat → Int32} {n a : Nat} {A : Nat → Prop} {s U : State} {H : Heap} {locs : List Loc} (h : yStr w n a A s s.heap) (hS : va_S A s.heap H locs) (hA : ∀ q, s.heap.size ≤ q → A q) (hU : U.heap = H) (hW : s.WarmedH U.vm) : yStr w n a (yAs H.size) U U.heap := by
  rw [hU]
  exact ((h.kept hS.2.1).narrow (fun q hq => hA q (Nat.le_trans hS.1 hq))).moved hW.alike
theorem yStr.recv {w : Nat → Int32} {n a : Nat} {A : Nat → Prop} {s : State} {H : Heap} {locs : List Loc} (h : yStr w n a A s s.heap) (hS : va_S A s.heap H locs) : ∃ cell : Cell, H[a]? = some cell ∧ cell.vm.isStatics = false ∧ s.vm.findClass "java/lang/String" = some cell.cls := by
  obtain ⟨cell, h1, h2, h3, -⟩ := h.2.1.kept hS.2.1
  exact ⟨cell, h1, h2, h3⟩
/-- a row of bytes -/
def yByt (w : Nat → Int32) (n v : Nat) (A : Nat → Prop) (U : State) (H : Heap) : Prop := n < 2147483648 ∧ va_Zq "jdk/internal/util/Preconditions" "SIOOBE_FORMATTER" "Ljava/util/function/BiFunction;" A U H ∧ va_T .byte v n (fun j => .int (w j)) A U H
theorem yByt.moved {w : Nat → Int32} {n a : Nat} {A : Nat → Prop} {u U : State} {H : Heap} (hvm : u.vm.Alike U.vm) (h : yByt w n a A u H) : yByt w n a A U H := by
  obtain ⟨h0, h4, h6⟩ := h
  exact ⟨h0, va_Zq.moved hvm h4, va_T.moved hvm h6⟩
theorem yByt.there {w : Nat → Int32} {n a : Nat} {A : Nat → Prop} {s U : State} {H : Heap} {locs : List Loc} (h : yByt w n a A s s.heap) (hS : va_S A s.heap H locs) (hA : ∀ q, s.heap.size ≤ q → A q) (hU : U.heap = H) (hW : s.WarmedH U.vm) : yByt w n a (yAs H.size) U U.heap := by
  rw [hU]
  obtain ⟨h0, h4, h6⟩ := h
  have hn : ∀ q, yAs H.size q → A q := fun q hq => hA q (Nat.le_trans hS.1 hq)
  exact yByt.moved hW.alike ⟨h0, (h4.kept hS.2.1).narrow hn, (h6.kept hS.2.1).narrow hn⟩
def yZq (A : Nat → Prop) (U : State) (H : Heap) : Prop := va_Zq "jdk/internal/util/Preconditions" "SIOOBE_FORMATTER" "Ljava/util/function/BiFunction;" A U H
theorem ychar_n (x : Int32) : narrow .char (.int (x.toUInt32 % 65536).toInt32) = .int (x.toUInt32 % 65536).toInt32 := by
  show Value.int ((x.toUInt32 % 65536).toInt32.toUInt32.toUInt16.toUInt32.toInt32) = _
  have e : (x.toUInt32 % 65536).toInt32.toUInt32.toUInt16.toUInt32 = x.toUInt32 % 65536 := by
    apply UInt32.toNat_inj.mp
    simp
  rw [e]
noncomputable def ypr_J0_coder_7d493 : List (Nat × Instr × Nat) := [(0, .getstatic 38, 3), (3, .ifCond .eq 10, 3), (6, .aload_n 0, 1), (7, .getfield 15, 3), (10, .goto 4, 3), (13, .iconst 1, 1), (14, .ireturn, 1)]
set_option maxRecDepth 100000 in
theorem yhp_J0_coder_7d493 : ypr_J0_coder_7d493.all (fun x => decide (decode cJ0_coder_7d493 x.1 = .ok x.2)) = true := by decide +kernel
set_option maxHeartbeats 4000000 in
set_option maxRecDepth 100000 in
theorem yc_J0_coder (l : Launch) (w : Nat → Int32) (n a sz : Nat) : Met l yJ0_coder_7d493 wsJ0_coder_7d493 { frames := 1, cells := 0, slots := 0, locals := 64 } (va_Pc [.ref a] (fun U => U.heap.size = sz ∧ yStr w n a (yAs sz) U U.heap)) (va_Qi (fun r (_ : Unit) => r = 0) (fun _ _ => True) (yAs sz)) 0 0 (yAs sz) := by
  refine Met.ofW (cc := cJ0_coder_7d493) (maxL := 1) (ret := some .byte) (by decide +kernel) rfl ?_
  intro p e s m args below meth c s₁ B hml hv
  obtain ⟨rfl, hsz, hS0⟩ := hv
  have hx := B.exec
  have hb := B.bytes
  have hr := B.returns
  have hts := atoms_spec (ws := wsJ0_coder_7d493) B.pre
  have hown : s.vm.findClass RJ0 = some m.cls := findClass_of_methodNamed B.named
  have hlocks := B.notSynchronized
  have hd := zpr_all yhp_J0_coder_7d493
  subst hsz
  have hS : va_S (yAs s.heap.size) s.heap s.heap [] := va_S.rf
  have hAA : ∀ q, s.heap.size ≤ q → yAs s.heap.size q := fun _ h => h
  have hl := lv_entry ([.ref a]) (n := 1) (Nat.le_of_ble_eq_true rfl)
  rw [lg_entry_eq]
  generalize (lg_sl ([.ref a]) ++ List.replicate (1 - (lg_sl ([.ref a])).length) Slot.unset).toArray = ls at hl ⊢
  have hl : lv_has ls 1 [(0, .ref a)] := hl
  obtain ⟨hn, hO, hC, hZ, hQ, v, hV, hT⟩ := hS0
  refine va_gets hx hb hZ hS hown (hts (.fieldLink RJ0 38 "java/lang/String" "COMPACT_STRINGS" "Z") (List.mem_of_getElem? (i := 1) rfl)) (fun _ h => h) (hd 0 (.getstatic 38) 3 rfl) ?_
  refine lv_if_eq (tgt := 13) hx hb (hd 3 (.ifCond .eq 10) 3 rfl) (by decide) (fun h => absurd h (by decide)) (fun _ => ?_)
  refine lv_aload_n hx hb (hd 6 (.aload_n 0) 1 rfl) rfl (lv_at hl 0 rfl) ?_
  refine vk_getf hx hb hC hS hown (hts (.fieldLink RJ0 15 "java/lang/String" "coder" "B") (List.mem_of_getElem? (i := 2) rfl)) (fun _ h => h) (hd 7 (.getfield 15) 3 rfl) ?_
  refine lv_goto (tgt := 14) hx hb (hd 10 (.goto 4) 3 rfl) (by decide) ?_
  exact W.zret hx hb hr rfl (fun t ht hW => ⟨⟨0, (), rfl, rfl, trivial⟩, hS.F ht⟩) hS.2.2 (hd 14 .ireturn 1 rfl)
noncomputable def ypr_J0_isLatin1_aae02 : List (Nat × Instr × Nat) := [(0, .getstatic 38, 3), (3, .ifCond .eq 14, 3), (6, .aload_n 0, 1), (7, .getfield 15, 3), (10, .ifCond .ne 7, 3), (13, .iconst 1, 1), (14, .goto 4, 3), (17, .iconst 0, 1), (18, .ireturn, 1)]
set_option maxRecDepth 100000 in
theorem yhp_J0_isLatin1_aae02 : ypr_J0_isLatin1_aae02.all (fun x => decide (decode cJ0_isLatin1_aae02 x.1 = .ok x.2)) = true := by decide +kernel
set_option maxHeartbeats 4000000 in
set_option maxRecDepth 100000 in
theorem yc_J0_isLatin1 (l : Launch) (w : Nat → Int32) (n a sz : Nat) : Met l yJ0_isLatin1_aae02 wsJ0_isLatin1_aae02 { frames := 1, cells := 0, slots := 0, locals := 64 } (va_Pc [.ref a] (fun U => U.heap.size = sz ∧ yStr w n a (yAs sz) U U.heap)) (va_Qi (fun r (_ : Unit) => r = 1) (fun _ _ => True) (yAs sz)) 0 0 (yAs sz) := by
  refine Met.ofW (cc := cJ0_isLatin1_aae02) (maxL := 1) (ret := some .boolean) (by decide +kernel) rfl ?_
  intro p e s m args below meth c s₁ B hml hv
  obtain ⟨rfl, hsz, hS0⟩ := hv
  have hx := B.exec
  have hb := B.bytes
  have hr := B.returns
  have hts := atoms_spec (ws := wsJ0_isLatin1_aae02) B.pre
  have hown : s.vm.findClass RJ0 = some m.cls := findClass_of_methodNamed B.named
  have hlocks := B.notSynchronized
  have hd := zpr_all yhp_J0_isLatin1_aae02
  subst hsz
  have hS : va_S (yAs s.heap.size) s.heap s.heap [] := va_S.rf
  have hAA : ∀ q, s.heap.size ≤ q → yAs s.heap.size q := fun _ h => h
  have hl := lv_entry ([.ref a]) (n := 1) (Nat.le_of_ble_eq_true rfl)
  rw [lg_entry_eq]
  generalize (lg_sl ([.ref a]) ++ List.replicate (1 - (lg_sl ([.ref a])).length) Slot.unset).toArray = ls at hl ⊢
  have hl : lv_has ls 1 [(0, .ref a)] := hl
  obtain ⟨hn, hO, hC, hZ, hQ, v, hV, hT⟩ := hS0
  refine va_gets hx hb hZ hS hown (hts (.fieldLink RJ0 38 "java/lang/String" "COMPACT_STRINGS" "Z") (List.mem_of_getElem? (i := 1) rfl)) (fun _ h => h) (hd 0 (.getstatic 38) 3 rfl) ?_
  refine lv_if_eq (tgt := 17) hx hb (hd 3 (.ifCond .eq 14) 3 rfl) (by decide) (fun h => absurd h (by decide)) (fun _ => ?_)
  refine lv_aload_n hx hb (hd 6 (.aload_n 0) 1 rfl) rfl (lv_at hl 0 rfl) ?_
  refine vk_getf hx hb hC hS hown (hts (.fieldLink RJ0 15 "java/lang/String" "coder" "B") (List.mem_of_getElem? (i := 2) rfl)) (fun _ h => h) (hd 7 (.getfield 15) 3 rfl) ?_
  refine lv_if_ne (tgt := 17) hx hb (hd 10 (.ifCond .ne 7) 3 rfl) (by decide) (fun h => absurd rfl h) (fun _ => ?_)
  refine lv_iconst (v := 1) hx hb (hd 13 (.iconst 1) 1 rfl) (by decide) ?_
  refine lv_goto (tgt := 18) hx hb (hd 14 (.goto 4) 3 rfl) (by decide) ?_
  exact W.zret hx hb hr rfl (fun t ht hW => ⟨⟨1, (), rfl, rfl, trivial⟩, hS.F ht⟩) hS.2.2 (hd 18 .ireturn 1 rfl)
noncomputable def ypr_J0_length_8abf5 : List (Nat × Instr × Nat) := [(0, .aload_n 0, 1), (1, .getfield 9, 3), (4, .arraylength, 1), (5, .aload_n 0, 1), (6, .invokevirtual 335, 3), (9, .ishr, 1), (10, .ireturn, 1)]
set_option maxRecDepth 100000 in
theorem yhp_J0_length_8abf5 : ypr_J0_length_8abf5.all (fun x => decide (decode cJ0_length_8abf5 x.1 = .ok x.2)) = true := by decide +kernel
set_option maxHeartbeats 4000000 in
set_option maxRecDepth 100000 in
theorem yc_J0_length (l : Launch) (w : Nat → Int32) (n a sz : Nat) : Met l yJ0_length_8abf5 wsJ0_length_8abf5 { frames := 2, cells := 0, slots := 0, locals := 84 } (va_Pc [.ref a] (fun U => U.heap.size = sz ∧ yStr w n a (yAs sz) U U.heap)) (va_Qi (fun r (_ : Unit) => r = Int32.ofNat n) (fun _ _ => True) (yAs sz)) 0 0 (yAs sz) := by
  refine Met.ofW (cc := cJ0_length_8abf5) (maxL := 1) (ret := some .int) (by decide +kernel) rfl ?_
  intro p e s m args below meth c s₁ B hml hv
  obtain ⟨rfl, hsz, hS0⟩ := hv
  have hx := B.exec
  have hb := B.bytes
  have hr := B.returns
  have hts := atoms_spec (ws := wsJ0_length_8abf5) B.pre
  have hown : s.vm.findClass RJ0 = some m.cls := findClass_of_methodNamed B.named
  have hlocks := B.notSynchronized
  have hd := zpr_all yhp_J0_length_8abf5
  subst hsz
  have hS : va_S (yAs s.heap.size) s.heap s.heap [] := va_S.rf
  have hAA : ∀ q, s.heap.size ≤ q → yAs s.heap.size q := fun _ h => h
  have hl := lv_entry ([.ref a]) (n := 1) (Nat.le_of_ble_eq_true rfl)
  rw [lg_entry_eq]
  generalize (lg_sl ([.ref a]) ++ List.replicate (1 - (lg_sl ([.ref a])).length) Slot.unset).toArray = ls at hl ⊢
  have hl : lv_has ls 1 [(0, .ref a)] := hl
  have hS1 := hS0
  obtain ⟨hn, hO, hC, hZ, hQ, v, hV, hT⟩ := hS0
  refine lv_aload_n hx hb (hd 0 (.aload_n 0) 1 rfl) rfl (lv_at hl 0 rfl) ?_
  refine vk_getf hx hb hV hS hown (hts (.fieldLink RJ0 9 "java/lang/String" "value" "[B") (List.mem_of_getElem? (i := 1) rfl)) (fun _ h => h) (hd 1 (.getfield 9) 3 rfl) ?_
  refine va_tlen hx hb hT hS rfl (hd 4 .arraylength 1 rfl) ?_
  refine lv_aload_n hx hb (hd 5 (.aload_n 0) 1 rfl) rfl (lv_at hl 0 rfl) ?_
  refine va_calli (va_runV (As := []) (rest := [.int (Int32.ofNat n)]) ⟨hx, hb, hml, hown, hts⟩ (yc_J0_coder l w n a s.heap.size) (cwV 0 hts gJ0_length_8abf5_J0_coder_7d493 rfl rfl rfl (by decide +kernel) ⟨Nat.le_of_ble_eq_true rfl, Nat.le_of_ble_eq_true rfl⟩) ⟨fun a U g mk q => by obtain ⟨q0, q1, q2⟩ := q; exact ⟨q0, q1, yStr.moved (u := U) (U := U.calling g mk a) (Vm.Alike.refl U.vm) q2⟩, hS1.recv hS, fun U hU hW => ⟨rfl, by rw [hU], hS1.there hS hAA hU hW⟩⟩ rfl rfl hl.1 rfl (lv_room (Nat.le_of_ble_eq_true rfl)) (hd 6 (.invokevirtual 335) 3 rfl) ⟨Nat.le_of_ble_eq_true rfl, Nat.le_of_ble_eq_true rfl⟩) hS (fun q _ h => Nat.le_trans hS.1 h) (fun q h => Nat.le_trans hS.1 h) (fun r u t H1 locs ht hvm hw _ hz1 hk1 hS => ?_)
  subst hw
  refine lv_ishr hx hb (hd 9 .ishr 1 rfl) ?_
  have e0 : (Int32.ofNat n) >>> ((0 : Int32) &&& 31) = Int32.ofNat n := by
    rw [show ((0 : Int32) &&& 31) = 0 from by decide +kernel]
    exact Int32.shiftRight_zero
  rw [e0]
  exact W.iret hx hb hr (fun t ht hW => ⟨⟨_, (), rfl, rfl, trivial⟩, hS.F ht⟩) hS.2.2 (hd 10 .ireturn 1 rfl)
noncomputable def ypr_J3_checkIndex_8e157 : List (Nat × Instr × Nat) := [(0, .iload_n 0, 1), (1, .ifCond .lt 8, 3), (4, .iload_n 0, 1), (5, .iload_n 1, 1), (6, .if_icmp .lt 10, 3), (9, .aload_n 2, 1), (10, .iload_n 0, 1), (11, .iload_n 1, 1), (12, .invokestatic 95, 3), (15, .athrow, 1), (16, .iload_n 0, 1), (17, .ireturn, 1)]
set_option maxRecDepth 100000 in
theorem yhp_J3_checkIndex_8e157 : ypr_J3_checkIndex_8e157.all (fun x => decide (decode cJ3_checkIndex_8e157 x.1 = .ok x.2)) = true := by decide +kernel
set_option maxHeartbeats 4000000 in
set_option maxRecDepth 100000 in
theorem yc_J3_checkIndex (l : Launch) (n i sz : Nat) (fm : Value) (hfm : fm.category = 1) (hi : i < n) (hn : n < 2147483648) : Met l yJ3_checkIndex_8e157 wsJ3_checkIndex_8e157 { frames := 1, cells := 0, slots := 0, locals := 64 } (va_Pc [.int (nI i), .int (nI n), fm] (fun U => U.heap.size = sz ∧ True)) (va_Qi (fun r (_ : Unit) => True) (fun _ _ => True) (yAs sz)) 0 0 (yAs sz) := by
  have hc : lg_sl [Value.int (nI i), .int (nI n), fm] = [.val (.int (nI i)), .val (.int (nI n)), .val fm] := by
    cases fm <;> first | rfl | (simp [Value.category] at hfm)
  refine Met.ofW (cc := cJ3_checkIndex_8e157) (maxL := 3) (ret := some .int) (by decide +kernel) rfl ?_
  intro p e s m args below meth c s₁ B hml hv
  obtain ⟨rfl, hsz, hS0⟩ := hv
  have hx := B.exec
  have hb := B.bytes
  have hr := B.returns
  have hts := atoms_spec (ws := wsJ3_checkIndex_8e157) B.pre
  have hown : s.vm.findClass RJ3 = some m.cls := findClass_of_methodNamed B.named
  have hlocks := B.notSynchronized
  have hd := zpr_all yhp_J3_checkIndex_8e157
  subst hsz
  have hS : va_S (yAs s.heap.size) s.heap s.heap [] := va_S.rf
  have hAA : ∀ q, s.heap.size ≤ q → yAs s.heap.size q := fun _ h => h
  have hl := lv_entry ([.int (nI i), .int (nI n), fm]) (n := 3) (by rw [hc]; exact Nat.le_of_ble_eq_true rfl)
  rw [lg_entry_eq]
  generalize (lg_sl ([.int (nI i), .int (nI n), fm]) ++ List.replicate (3 - (lg_sl ([.int (nI i), .int (nI n), fm])).length) Slot.unset).toArray = ls at hl ⊢
  have hl : lv_has ls 3 [(0, .int (nI i)), (1, .int (nI n))] := by
    refine zlv_sub hl (fun q hq => ?_)
    rcases List.mem_cons.mp hq with h | h
    · subst h; exact List.mem_cons_self
    · rcases List.mem_cons.mp h with h | h
      · subst h; exact List.mem_cons_of_mem _ List.mem_cons_self
      · cases h
  refine lv_iload_n hx hb (hd 0 (.iload_n 0) 1 rfl) rfl (lv_at hl 0 rfl) ?_
  refine lv_if_lt (tgt := 9) hx hb (hd 1 (.ifCond .lt 8) 3 rfl) (by decide) (fun h => absurd h (nI_pos (by omega))) (fun _ => ?_)
  refine lv_iload_n hx hb (hd 4 (.iload_n 0) 1 rfl) rfl (lv_at hl 0 rfl) ?_
  refine lv_iload_n hx hb (hd 5 (.iload_n 1) 1 rfl) rfl (lv_at hl 1 rfl) ?_
  refine lv_icmp_lt (tgt := 16) hx hb (hd 6 (.if_icmp .lt 10) 3 rfl) (by decide) (fun _ => ?_) (fun h => absurd (nI_lt hi (by omega)) h)
  refine lv_iload_n hx hb (hd 16 (.iload_n 0) 1 rfl) rfl (lv_at hl 0 rfl) ?_
  exact W.iret hx hb hr (fun t ht hW => ⟨⟨_, (), rfl, trivial, trivial⟩, hS.F ht⟩) hS.2.2 (hd 17 .ireturn 1 rfl)
noncomputable def ypr_J0_checkIndex_df160 : List (Nat × Instr × Nat) := [(0, .iload_n 0, 1), (1, .iload_n 1, 1), (2, .getstatic 1053, 3), (5, .invokestatic 1059, 3), (8, .pop, 1), (9, .return_, 1)]
set_option maxRecDepth 100000 in
theorem yhp_J0_checkIndex_df160 : ypr_J0_checkIndex_df160.all (fun x => decide (decode cJ0_checkIndex_df160 x.1 = .ok x.2)) = true := by decide +kernel
theorem yZq_moved {A : Nat → Prop} {u U : State} {H : Heap} (hvm : u.vm.Alike U.vm) (h : yZq A u H) : yZq A U H := va_Zq.moved hvm h
set_option maxHeartbeats 4000000 in
set_option maxRecDepth 100000 in
theorem yc_J0_checkIndex (l : Launch) (n i sz : Nat) (hi : i < n) (hn : n < 2147483648) : Met l yJ0_checkIndex_df160 wsJ0_checkIndex_df160 { frames := 2, cells := 0, slots := 0, locals := 90 } (va_Pc [.int (nI i), .int (nI n)] (fun U => U.heap.size = sz ∧ yZq (yAs sz) U U.heap)) (va_Qv (fun (_ : Unit) => True) (fun _ _ => True) (yAs sz)) 0 0 (yAs sz) := by
  refine Met.ofW (cc := cJ0_checkIndex_df160) (maxL := 2) (ret := none) (by decide +kernel) rfl ?_
  intro p e s m args below meth c s₁ B hml hv
  obtain ⟨rfl, hsz, hS0⟩ := hv
  have hx := B.exec
  have hb := B.bytes
  have hr := B.returns
  have hts := atoms_spec (ws := wsJ0_checkIndex_df160) B.pre
  have hown : s.vm.findClass RJ0 = some m.cls := findClass_of_methodNamed B.named
  have hlocks := B.notSynchronized
  have hd := zpr_all yhp_J0_checkIndex_df160
  subst hsz
  have hS : va_S (yAs s.heap.size) s.heap s.heap [] := va_S.rf
  have hAA : ∀ q, s.heap.size ≤ q → yAs s.heap.size q := fun _ h => h
  have hl := lv_entry ([.int (nI i), .int (nI n)]) (n := 2) (Nat.le_of_ble_eq_true rfl)
  rw [lg_entry_eq]
  generalize (lg_sl ([.int (nI i), .int (nI n)]) ++ List.replicate (2 - (lg_sl ([.int (nI i), .int (nI n)])).length) Slot.unset).toArray = ls at hl ⊢
  have hl : lv_has ls 2 [(0, .int (nI i)), (1, .int (nI n))] := hl
  obtain ⟨fm, hfm, hZ⟩ : ∃ fm : Value, fm.category = 1 ∧ va_Z "jdk/internal/util/Preconditions" "SIOOBE_FORMATTER" "Ljava/util/function/BiFunction;" fm (yAs s.heap.size) s s.heap := by
    rcases hS0 with h | ⟨t, h⟩
    · exact ⟨.null, rfl, h⟩
    · exact ⟨.ref t, rfl, h⟩
  refine lv_iload_n hx hb (hd 0 (.iload_n 0) 1 rfl) rfl (lv_at hl 0 rfl) ?_
  refine lv_iload_n hx hb (hd 1 (.iload_n 1) 1 rfl) rfl (lv_at hl 1 rfl) ?_
  refine va_gets hx hb hZ hS hown (hts (.fieldLink RJ0 1053 "jdk/internal/util/Preconditions" "SIOOBE_FORMATTER" "Ljava/util/function/BiFunction;") (List.mem_of_getElem? (i := 1) rfl)) (fun _ h => h) (hd 2 (.getstatic 1053) 3 rfl) ?_
  refine va_calli (va_runS (As := [.int (nI i), .int (nI n), fm]) (rest := []) ⟨hx, hb, hml, hown, hts⟩ (yc_J3_checkIndex l n i s.heap.size fm hfm hi hn) (va_cwS 3 hts gJ0_checkIndex_df160_J3_checkIndex_8e157 rfl rfl rfl (by decide +kernel) ⟨Nat.le_of_ble_eq_true rfl, Nat.le_of_ble_eq_true rfl⟩) ⟨fun a U g mk q => q, fun U hU hW => ⟨rfl, by rw [hU], trivial⟩⟩ rfl rfl hl.1 rfl (lv_room (Nat.le_of_ble_eq_true rfl)) (hd 5 (.invokestatic 1059) 3 rfl) ⟨Nat.le_of_ble_eq_true rfl, Nat.le_of_ble_eq_true rfl⟩) hS (fun q _ h => Nat.le_trans hS.1 h) (fun q h => Nat.le_trans hS.1 h) (fun r u t H1 locs ht hvm hw _ hz1 hk1 hS => ?_)
  refine lv_pop hx hb (hd 8 .pop 1 rfl) rfl ?_
  exact W.vret hx hb hr (fun t ht hW => ⟨⟨(), rfl, trivial, trivial⟩, hS.F ht⟩) hS.2.2 (hd 9 .return_ 1 rfl)
noncomputable def ypr_J1_charAt_3b067 : List (Nat × Instr × Nat) := [(0, .iload_n 1, 1), (1, .aload_n 0, 1), (2, .arraylength, 1), (3, .invokestatic 9, 3), (6, .aload_n 0, 1), (7, .iload_n 1, 1), (8, .baload, 1), (9, .sipush 255, 3), (12, .iand, 1), (13, .i2c, 1), (14, .ireturn, 1)]
set_option maxRecDepth 100000 in
theorem yhp_J1_charAt_3b067 : ypr_J1_charAt_3b067.all (fun x => decide (decode cJ1_charAt_3b067 x.1 = .ok x.2)) = true := by decide +kernel
set_option maxHeartbeats 4000000 in
set_option maxRecDepth 100000 in
theorem yc_J1_charAt (l : Launch) (w : Nat → Int32) (n v i sz : Nat) (hi : i < n) : Met l yJ1_charAt_3b067 wsJ1_charAt_3b067 { frames := 3, cells := 0, slots := 0, locals := 120 } (va_Pc [.ref v, .int (nI i)] (fun U => U.heap.size = sz ∧ yByt w n v (yAs sz) U U.heap)) (va_Qi (fun r (_ : Unit) => narrow .char (.int r) = .int r ∧ r = ych (w i)) (fun _ _ => True) (yAs sz)) 0 0 (yAs sz) := by
  refine Met.ofW (cc := cJ1_charAt_3b067) (maxL := 2) (ret := some .char) (by decide +kernel) rfl ?_
  intro p e s m args below meth c s₁ B hml hv
  obtain ⟨rfl, hsz, hS0⟩ := hv
  have hx := B.exec
  have hb := B.bytes
  have hr := B.returns
  have hts := atoms_spec (ws := wsJ1_charAt_3b067) B.pre
  have hown : s.vm.findClass RJ1 = some m.cls := findClass_of_methodNamed B.named
  have hlocks := B.notSynchronized
  have hd := zpr_all yhp_J1_charAt_3b067
  subst hsz
  have hS : va_S (yAs s.heap.size) s.heap s.heap [] := va_S.rf
  have hAA : ∀ q, s.heap.size ≤ q → yAs s.heap.size q := fun _ h => h
  have hl := lv_entry ([.ref v, .int (nI i)]) (n := 2) (Nat.le_of_ble_eq_true rfl)
  rw [lg_entry_eq]
  generalize (lg_sl ([.ref v, .int (nI i)]) ++ List.replicate (2 - (lg_sl ([.ref v, .int (nI i)])).length) Slot.unset).toArray = ls at hl ⊢
  have hl : lv_has ls 2 [(0, .ref v), (1, .int (nI i))] := hl
  have hS1 := hS0
  obtain ⟨hn, hQ, hT⟩ := hS0
  refine lv_iload_n hx hb (hd 0 (.iload_n 1) 1 rfl) rfl (lv_at hl 1 rfl) ?_
  refine lv_aload_n hx hb (hd 1 (.aload_n 0) 1 rfl) rfl (lv_at hl 0 rfl) ?_
  refine va_tlen (v := nI n) hx hb hT hS rfl (hd 2 .arraylength 1 rfl) ?_
  refine va_callv (va_runS (As := [.int (nI i), .int (nI n)]) (rest := []) ⟨hx, hb, hml, hown, hts⟩ (yc_J0_checkIndex l n i s.heap.size hi hn) (va_cwS 2 hts gJ1_charAt_3b067_J0_checkIndex_df160 rfl rfl rfl (by decide +kernel) ⟨Nat.le_of_ble_eq_true rfl, Nat.le_of_ble_eq_true rfl⟩) ⟨fun a U g mk q => by obtain ⟨q0, q1, q2⟩ := q; exact ⟨q0, q1, yZq_moved (u := U) (U := U.calling g mk a) (Vm.Alike.refl U.vm) q2⟩, fun U hU hW => ⟨rfl, by rw [hU], (hS1.there hS hAA hU hW).2.1⟩⟩ rfl rfl hl.1 rfl (lv_room (Nat.le_of_ble_eq_true rfl)) (hd 3 (.invokestatic 9) 3 rfl) ⟨Nat.le_of_ble_eq_true rfl, Nat.le_of_ble_eq_true rfl⟩) hS (fun q _ h => Nat.le_trans hS.1 h) (fun q h => Nat.le_trans hS.1 h) (fun u t H1 locs ht hvm hw _ hz1 hk1 hS => ?_)
  refine lv_aload_n hx hb (hd 6 (.aload_n 0) 1 rfl) rfl (lv_at hl 0 rfl) ?_
  refine lv_iload_n hx hb (hd 7 (.iload_n 1) 1 rfl) rfl (lv_at hl 1 rfl) ?_
  refine va_tb hx hb hT hS (vp_in_nI hi (by omega)) rfl (hd 8 .baload 1 rfl) ?_
  refine lv_sipush hx hb (hd 9 (.sipush 255) 3 rfl) rfl ?_
  refine lv_iand hx hb (hd 12 .iand 1 rfl) ?_
  refine lv_i2c hx hb (hd 13 .i2c 1 rfl) rfl ?_
  exact W.zret hx hb hr (ychar_n _) (fun t ht hW => ⟨⟨_, (), rfl, ⟨ychar_n _, by show _ = ych (w i); rw [ynI_nat (show i < 2147483648 by omega)]; rfl⟩, trivial⟩, hS.F ht⟩) hS.2.2 (hd 14 .ireturn 1 rfl)
noncomputable def ypr_J0_charAt_5068e : List (Nat × Instr × Nat) := [(0, .aload_n 0, 1), (1, .invokevirtual 492, 3), (4, .ifCond .eq 12, 3), (7, .aload_n 0, 1), (8, .getfield 9, 3), (11, .iload_n 1, 1), (12, .invokestatic 495, 3), (15, .ireturn, 1), (16, .aload_n 0, 1), (17, .getfield 9, 3), (20, .iload_n 1, 1), (21, .invokestatic 498, 3), (24, .ireturn, 1)]
set_option maxRecDepth 100000 in
theorem yhp_J0_charAt_5068e : ypr_J0_charAt_5068e.all (fun x => decide (decode cJ0_charAt_5068e x.1 = .ok x.2)) = true := by decide +kernel
set_option maxHeartbeats 4000000 in
set_option maxRecDepth 100000 in
theorem yc_J0_charAt (l : Launch) (w : Nat → Int32) (n a i sz : Nat) (hi : i < n) : Met l yJ0_charAt_5068e wsJ0_charAt_5068e { frames := 4, cells := 0, slots := 0, locals := 150 } (va_Pc [.ref a, .int (nI i)] (fun U => U.heap.size = sz ∧ yStr w n a (yAs sz) U U.heap)) (va_Qi (fun r (_ : Unit) => narrow .char (.int r) = .int r ∧ r = ych (w i)) (fun _ _ => True) (yAs sz)) 0 0 (yAs sz) := by
  refine Met.ofW (cc := cJ0_charAt_5068e) (maxL := 2) (ret := some .char) (by decide +kernel) rfl ?_
  intro p e s m args below meth c s₁ B hml hv
  obtain ⟨rfl, hsz, hS0⟩ := hv
  have hx := B.exec
  have hb := B.bytes
  have hr := B.returns
  have hts := atoms_spec (ws := wsJ0_charAt_5068e) B.pre
  have hown : s.vm.findClass RJ0 = some m.cls := findClass_of_methodNamed B.named
  have hlocks := B.notSynchronized
  have hd := zpr_all yhp_J0_charAt_5068e
  subst hsz
  have hS : va_S (yAs s.heap.size) s.heap s.heap [] := va_S.rf
  have hAA : ∀ q, s.heap.size ≤ q → yAs s.heap.size q := fun _ h => h
  have hl := lv_entry ([.ref a, .int (nI i)]) (n := 2) (Nat.le_of_ble_eq_true rfl)
  rw [lg_entry_eq]
  generalize (lg_sl ([.ref a, .int (nI i)]) ++ List.replicate (2 - (lg_sl ([.ref a, .int (nI i)])).length) Slot.unset).toArray = ls at hl ⊢
  have hl : lv_has ls 2 [(0, .ref a), (1, .int (nI i))] := hl
  have hS1 := hS0
  obtain ⟨hn, hO, hC, hZ, hQ, v, hV, hT⟩ := hS0
  have hB : yByt w n v (yAs s.heap.size) s s.heap := ⟨hn, hQ, hT⟩
  refine lv_aload_n hx hb (hd 0 (.aload_n 0) 1 rfl) rfl (lv_at hl 0 rfl) ?_
  refine va_calli (va_runV (As := []) (rest := []) ⟨hx, hb, hml, hown, hts⟩ (yc_J0_isLatin1 l w n a s.heap.size) (cwV 0 hts gJ0_charAt_5068e_J0_isLatin1_aae02 rfl rfl rfl (by decide +kernel) ⟨Nat.le_of_ble_eq_true rfl, Nat.le_of_ble_eq_true rfl⟩) ⟨fun a U g mk q => by obtain ⟨q0, q1, q2⟩ := q; exact ⟨q0, q1, yStr.moved (u := U) (U := U.calling g mk a) (Vm.Alike.refl U.vm) q2⟩, hS1.recv hS, fun U hU hW => ⟨rfl, by rw [hU], hS1.there hS hAA hU hW⟩⟩ rfl rfl hl.1 rfl (lv_room (Nat.le_of_ble_eq_true rfl)) (hd 1 (.invokevirtual 492) 3 rfl) ⟨Nat.le_of_ble_eq_true rfl, Nat.le_of_ble_eq_true rfl⟩) hS (fun q _ h => Nat.le_trans hS.1 h) (fun q h => Nat.le_trans hS.1 h) (fun r u t H1 locs ht hvm hw _ hz1 hk1 hS => ?_)
  subst hw
  refine lv_if_eq (tgt := 16) hx hb (hd 4 (.ifCond .eq 12) 3 rfl) (by decide) (fun h => absurd h (by decide)) (fun _ => ?_)
  refine lv_aload_n hx hb (hd 7 (.aload_n 0) 1 rfl) rfl (lv_at hl 0 rfl) ?_
  refine vk_getf hx hb hV hS hown (hts (.fieldLink RJ0 9 "java/lang/String" "value" "[B") (List.mem_of_getElem? (i := 1) rfl)) (fun _ h => h) (hd 8 (.getfield 9) 3 rfl) ?_
  refine lv_iload_n hx hb (hd 11 (.iload_n 1) 1 rfl) rfl (lv_at hl 1 rfl) ?_
  refine va_calli (va_runS (As := [.ref v, .int (nI i)]) (rest := []) ⟨hx, hb, hml, hown, hts⟩ (yc_J1_charAt l w n v i H1.size hi) (va_cwS 2 hts gJ0_charAt_5068e_J1_charAt_3b067 rfl rfl rfl (by decide +kernel) ⟨Nat.le_of_ble_eq_true rfl, Nat.le_of_ble_eq_true rfl⟩) ⟨fun a U g mk q => by obtain ⟨q0, q1, q2⟩ := q; exact ⟨q0, q1, yByt.moved (u := U) (U := U.calling g mk a) (Vm.Alike.refl U.vm) q2⟩, fun U hU hW => ⟨rfl, by rw [hU], hB.there hS hAA hU hW⟩⟩ rfl rfl hl.1 rfl (lv_room (Nat.le_of_ble_eq_true rfl)) (hd 12 (.invokestatic 495) 3 rfl) ⟨Nat.le_of_ble_eq_true rfl, Nat.le_of_ble_eq_true rfl⟩) hS (fun q _ h => Nat.le_trans hS.1 h) (fun q h => Nat.le_trans hS.1 h) (fun r u t H2 locs ht hvm hw _ hz1 hk1 hS => ?_)
  exact W.zret hx hb hr hw.1 (fun t ht hW => ⟨⟨_, (), rfl, hw, trivial⟩, hS.F ht⟩) hS.2.2 (hd 15 .ireturn 1 rfl)
