def pr_X8_findFewest : List (Nat × Instr × Nat) := [(0, .aload_n 0, 1), (1, .invokevirtual 286, 3), (4, .sipush 700, 3), (7, .istore_n 1, 1), (8, .iload_n 1, 1), (9, .ifCond .lt 132, 3), (12, .iconst 0, 1), (13, .istore_n 2, 1), (14, .iload_n 2, 1), (15, .bipush 16, 2), (17, .if_icmp .ge 118, 3), (20, .iload_n 2, 1), (21, .ifCond .ne 7, 3), (24, .iconst 0, 1), (25, .goto 6, 3), (28, .ldc_w 289, 3), (31, .istore_n 3, 1), (32, .iload_n 1, 1), (33, .sipush 700, 3), (36, .if_icmp .ge 68, 3), (39, .aload_n 0, 1), (40, .getfield 41, 3), (43, .bipush 16, 2), (45, .iload_n 1, 1), (46, .iconst 1, 1), (47, .iadd, 1), (48, .imul, 1), (49, .iload_n 2, 1), (50, .iadd, 1), (51, .iaload, 1), (52, .istore 4, 2), (54, .aload_n 0, 1), (55, .getfield 41, 3), (58, .bipush 16, 2), (60, .iload_n 1, 1), (61, .iconst 1, 1), (62, .iadd, 1), (63, .imul, 1), (64, .iload_n 2, 1), (65, .aload_n 0, 1), (66, .getfield 38, 3), (69, .iload_n 1, 1), (70, .iaload, 1), (71, .iconst (-1), 1), (72, .ixor, 1), (73, .iand, 1), (74, .iadd, 1), (75, .iaload, 1), (76, .iconst 1, 1), (77, .iadd, 1), (78, .istore 5, 2), (80, .aload_n 0, 1), (81, .getfield 38, 3), (84, .iload_n 1, 1), (85, .iaload, 1), (86, .ifCond .eq 15, 3), (89, .iload 5, 2), (91, .iload 4, 2), (93, .if_icmp .ge 8, 3), (96, .iload 5, 2), (98, .goto 5, 3), (101, .iload 4, 2), (103, .istore_n 3, 1), (104, .aload_n 0, 1), (105, .getfield 41, 3), (108, .bipush 16, 2), (110, .iload_n 1, 1), (111, .imul, 1), (112, .iload_n 2, 1), (113, .iadd, 1), (114, .iload_n 3, 1), (115, .ldc_w 289, 3), (118, .if_icmp .le 9, 3), (121, .ldc_w 289, 3), (124, .goto 4, 3), (127, .iload_n 3, 1), (128, .iastore, 1), (129, .iinc 2 1, 3), (132, .goto (-118), 3), (135, .iinc 1 (-1), 3), (138, .goto (-130), 3), (141, .return_, 1)]
set_option maxRecDepth 100000 in
theorem hp_X8_findFewest : pr_X8_findFewest.all (fun x => decide (decode cX8_findFewest x.1 = .ok x.2)) = true := by decide +kernel
set_option maxHeartbeats 4000000 in
set_option maxRecDepth 100000 in
theorem zff_tail {p : Program} {l : Launch} {e : Env} {R : Room} {s : State} {m : MethodId} {args : Array Value} {below : List Frame} {meth : Method} {c : Code} {Q : State → Prop} {D : va_G} {kA : Nat → ClassId} {A : Nat → Prop} {r : Nat → Int} {ad : Nat → Nat} (hx : p.tables.exec = Jvm.exec) (hb : c.code = cX8_findFewest) (hts : ∀ w ∈ wsX8_findFewest, w.before args s = true) (hown : s.vm.findClass RX8 = some m.cls) (hK : va_K D vwCl (ztys kA) s) {ph : Nat → Nat → Int} {H : Heap} {locs : List Loc} {ls : Array Slot} {x v L : Int} (v0 : 0 ≤ v) (v1 : v ≤ 700) (L0 : 0 ≤ L) (L1 : L < 16) (x0 : 0 ≤ x) (x1 : x ≤ 1000001) (h7 : v = 700 → x = 0 ∨ x = 1000000) (h6 : v < 700 → x < 1000000 → x = ph 11 (16 * (v + 1) + L).toNat ∨ (ph 10 v.toNat ≠ 0 ∧ x = ph 11 (16 * (v + 1) + zan L (znt (ph 10 v.toNat))).toNat + 1)) (hok : zokW r ph zw1) (hP : va_P D vwCl (zws kA r ad ph zw1) H) (hD : va_D A (zws kA r ad ph zw1)) (hS : va_S A s.heap H locs) (hl : lv_has ls 6 [(3, .int (Int32.ofInt x)), (2, .int (Int32.ofInt L)), (1, .int (Int32.ofInt v)), (0, .ref (ad 0))]) (kk : ∀ (ph' : Nat → Nat → Int) (H' : Heap) (locs' : List Loc) (ls' : Array Slot) (y : Int), (∀ j, j ≠ 11 → ph' j = ph j) → (ph' 11 = fun j => if j = (16 * v + L).toNat then y else ph 11 j) → 0 ≤ y → y ≤ 1000000 → (v = 700 → y = 0 ∨ y = 1000000) → (v < 700 → y < 1000000 → y = ph 11 (16 * (v + 1) + L).toNat ∨ (ph 10 v.toNat ≠ 0 ∧ y = ph 11 (16 * (v + 1) + zan L (znt (ph 10 v.toNat))).toNat + 1)) → zokW r ph' zw1 → va_P D vwCl (zws kA r ad ph' zw1) H' → va_D A (zws kA r ad ph' zw1) → va_S A s.heap H' locs' → lv_has ls' 6 [(2, .int (Int32.ofInt (L + 1))), (1, .int (Int32.ofInt v)), (0, .ref (ad 0))] → W p l e R s m args below meth c H' locs' 0 0 Q (F0 m 14 ls' [])) : W p l e R s m args below meth c H locs 0 0 Q (F0 m 104 ls []) := by
  have hw0 : zw1[0]? = some (0, .inl (8, [zr 1, zr 2, zr 3, zi 1 0, zi 2 0, zi 3 0, zr 4, zr 5, zi 4 0, zi 5 0, zi 6 0, zi 7 0, zr 6, zr 7, zi 8 0, zi 9 0, zr 8, zi 10 0, zi 11 0, zi 12 0, zi 13 0, zi 14 0, zi 15 0, zi 16 0, zr 9, zi 17 0, zi 18 0, zr 10, zr 11, zr 12, zr 13, zr 14, zi 19 0])) := rfl
  have hw10 : zw1[10]? = some (10, .inr (.inl (0, 700, [(700, .inl ((-2147483648), 2147483647))], []))) := rfl
  have hw11 : zw1[11]? = some (11, .inr (.inl (0, 11216, [(11216, .inl ((-2147483648), 2147483647))], []))) := rfl
  have hd := zpr_all hp_X8_findFewest
  refine lv_aload_n hx hb (hd 104 (.aload_n 0) 1 rfl) rfl (lv_at hl 3 rfl) ?_
  refine va_get (C := RX8) (T := TX8) (N := 33) (ci := 8) (v := .ref (ad 11)) hx hb hts (fun w h => List.mem_cons_of_mem _ (List.mem_append_right _ h)) hown hK hP 0 (zws_get kA r ad ph (i := 0) hw0) rfl 28 (by decide) (hts (.fieldLink RX8 41 "VowTerraceModel" "fewest" "[I") (List.mem_of_getElem? (i := 2) rfl)) (fun _ h => h) rfl (hd 105 (.getfield 41) 3 rfl) ?_
  refine lv_bipush (v := Int32.ofInt 16) hx hb (hd 108 (.bipush 16) 2 rfl) (by decide) ?_
  refine lv_iload_n hx hb (hd 110 (.iload_n 1) 1 rfl) rfl (lv_at hl 2 rfl) ?_
  refine zh_imul hx hb (hd 111 .imul 1 rfl) ?_
  refine lv_iload_n hx hb (hd 112 (.iload_n 2) 1 rfl) rfl (lv_at hl 1 rfl) ?_
  refine zh_iadd hx hb (hd 113 .iadd 1 rfl) ?_
  refine lv_iload_n hx hb (hd 114 (.iload_n 3) 1 rfl) rfl (lv_at hl 0 rfl) ?_
  refine lv_ldcw (own := RX8) (index := 289) (v := Int32.ofInt 1000000) hx hb hown (hts _ (List.mem_of_getElem? (i := 1) rfl)) (hd 115 (.ldc_w 289) 3 rfl) ?_
  refine zicmp_W (tgt := 127) hx hb (hd 118 (.if_icmp .le 9) 3 rfl) (by decide) (a := x) (b := 1000000) (by omega) (by omega) (by omega) (by omega) (fun hc => ?_) (fun hc => ?_)
  · have hc1 : x ≤ 1000000 := hc
    refine lv_iload_n hx hb (hd 127 (.iload_n 3) 1 rfl) rfl (lv_at hl 0 rfl) ?_
    refine zh_st hx hb hK hP hD hS hok hw11 (x := (16 * v) + L) (u := x) (by omega) (by omega) (Nat.le_of_ble_eq_true rfl) (by omega) (by omega) (hd 128 .iastore 1 rfl) (fun ph' H' locs' hph1 hph2 hok hP hD hS => ?_)
    refine lv_iinc (v := Int32.ofInt (L + 1)) (lv' := [(2, .int (Int32.ofInt (L + 1))), (3, .int (Int32.ofInt x)), (1, .int (Int32.ofInt v)), (0, .ref (ad 0))]) hx hb (hd 129 (.iinc 2 1) 3 rfl) hl (k := 1) rfl (zq_addW _ _) (by decide) rfl (fun ls hl => ?_)
    refine lv_goto (tgt := 14) hx hb (hd 132 (.goto (-118)) 3 rfl) (by decide) ?_
    exact kk ph' H' locs' ls _ hph1 hph2 (by omega) (by omega) (fun h => by omega) (fun h1 h2 => by first | exact h6 h1 (by omega) | omega) hok hP hD hS (lv_sub hl [0, 2, 3] rfl)
  · have hc1 : ¬ (x ≤ 1000000) := hc
    refine lv_ldcw (own := RX8) (index := 289) (v := Int32.ofInt 1000000) hx hb hown (hts _ (List.mem_of_getElem? (i := 1) rfl)) (hd 121 (.ldc_w 289) 3 rfl) ?_
    refine lv_goto (tgt := 128) hx hb (hd 124 (.goto 4) 3 rfl) (by decide) ?_
    refine zh_st hx hb hK hP hD hS hok hw11 (x := (16 * v) + L) (u := 1000000) (by omega) (by omega) (Nat.le_of_ble_eq_true rfl) (by omega) (by omega) (hd 128 .iastore 1 rfl) (fun ph' H' locs' hph1 hph2 hok hP hD hS => ?_)
    refine lv_iinc (v := Int32.ofInt (L + 1)) (lv' := [(2, .int (Int32.ofInt (L + 1))), (3, .int (Int32.ofInt x)), (1, .int (Int32.ofInt v)), (0, .ref (ad 0))]) hx hb (hd 129 (.iinc 2 1) 3 rfl) hl (k := 1) rfl (zq_addW _ _) (by decide) rfl (fun ls hl => ?_)
    refine lv_goto (tgt := 14) hx hb (hd 132 (.goto (-118)) 3 rfl) (by decide) ?_
    exact kk ph' H' locs' ls _ hph1 hph2 (by omega) (by omega) (fun h => by omega) (fun h1 h2 => by first | exact h6 h1 (by omega) | omega) hok hP hD hS (lv_sub hl [0, 2, 3] rfl)
set_option maxHeartbeats 4000000 in
set_option maxRecDepth 100000 in
theorem zff_body {p : Program} {l : Launch} {e : Env} {R : Room} {s : State} {m : MethodId} {args : Array Value} {below : List Frame} {meth : Method} {c : Code} {Q : State → Prop} {D : va_G} {kA : Nat → ClassId} {A : Nat → Prop} {r : Nat → Int} {ad : Nat → Nat} (hx : p.tables.exec = Jvm.exec) (hb : c.code = cX8_findFewest) (hts : ∀ w ∈ wsX8_findFewest, w.before args s = true) (hown : s.vm.findClass RX8 = some m.cls) (hK : va_K D vwCl (ztys kA) s) {ph : Nat → Nat → Int} {H : Heap} {locs : List Loc} {ls : Array Slot} {v L : Int} (v0 : 0 ≤ v) (v1 : v ≤ 700) (L0 : 0 ≤ L) (L1 : L < 16) (hI : zFI (ph 10) (ph 11) v L) (hok : zokW r ph zw1) (hP : va_P D vwCl (zws kA r ad ph zw1) H) (hD : va_D A (zws kA r ad ph zw1)) (hS : va_S A s.heap H locs) (hl : lv_has ls 6 [(2, .int (Int32.ofInt L)), (1, .int (Int32.ofInt v)), (0, .ref (ad 0))]) (kk : ∀ (ph' : Nat → Nat → Int) (H' : Heap) (locs' : List Loc) (ls' : Array Slot) (y : Int), (∀ j, j ≠ 11 → ph' j = ph j) → (ph' 11 = fun j => if j = (16 * v + L).toNat then y else ph 11 j) → 0 ≤ y → y ≤ 1000000 → (v = 700 → y = 0 ∨ y = 1000000) → (v < 700 → y < 1000000 → y = ph 11 (16 * (v + 1) + L).toNat ∨ (ph 10 v.toNat ≠ 0 ∧ y = ph 11 (16 * (v + 1) + zan L (znt (ph 10 v.toNat))).toNat + 1)) → zokW r ph' zw1 → va_P D vwCl (zws kA r ad ph' zw1) H' → va_D A (zws kA r ad ph' zw1) → va_S A s.heap H' locs' → lv_has ls' 6 [(2, .int (Int32.ofInt (L + 1))), (1, .int (Int32.ofInt v)), (0, .ref (ad 0))] → W p l e R s m args below meth c H' locs' 0 0 Q (F0 m 14 ls' [])) : W p l e R s m args below meth c H locs 0 0 Q (F0 m 14 ls []) := by
  have hw0 : zw1[0]? = some (0, .inl (8, [zr 1, zr 2, zr 3, zi 1 0, zi 2 0, zi 3 0, zr 4, zr 5, zi 4 0, zi 5 0, zi 6 0, zi 7 0, zr 6, zr 7, zi 8 0, zi 9 0, zr 8, zi 10 0, zi 11 0, zi 12 0, zi 13 0, zi 14 0, zi 15 0, zi 16 0, zr 9, zi 17 0, zi 18 0, zr 10, zr 11, zr 12, zr 13, zr 14, zi 19 0])) := rfl
  have hw10 : zw1[10]? = some (10, .inr (.inl (0, 700, [(700, .inl ((-2147483648), 2147483647))], []))) := rfl
  have hw11 : zw1[11]? = some (11, .inr (.inl (0, 11216, [(11216, .inl ((-2147483648), 2147483647))], []))) := rfl
  have hd := zpr_all hp_X8_findFewest
  have hC : v < 700 → -2147483648 ≤ ph 10 v.toNat ∧ ph 10 v.toNat ≤ 2147483647 := fun h => (hok _ (List.mem_of_getElem? hw10)).1.1 v.toNat (Nat.zero_le _) (by show v.toNat < 0 + 700; omega)
  have hz := zan_b (znt (ph 10 v.toNat)) L0 (by omega)
  have hF1 : v < 700 → 0 ≤ ph 11 (16 * (v + 1) + L).toNat ∧ ph 11 (16 * (v + 1) + L).toNat ≤ 1000000 := fun h => by
    have q := hI (v + 1) L (by omega) (by omega) L0 L1 (Or.inl (by omega))
    exact ⟨q.1, q.2.1⟩
  have hF2 : v < 700 → 0 ≤ ph 11 (16 * (v + 1) + zan L (znt (ph 10 v.toNat))).toNat ∧ ph 11 (16 * (v + 1) + zan L (znt (ph 10 v.toNat))).toNat ≤ 1000000 := fun h => by
    have q := hI (v + 1) (zan L (znt (ph 10 v.toNat))) (by omega) (by omega) hz.1 (by omega) (Or.inl (by omega))
    exact ⟨q.1, q.2.1⟩
  have mid : ∀ (x : Int) (ls : Array Slot), 0 ≤ x ∧ x ≤ 1000000 → (v = 700 → x = 0 ∨ x = 1000000) → lv_has ls 6 [(3, .int (Int32.ofInt x)), (2, .int (Int32.ofInt L)), (1, .int (Int32.ofInt v)), (0, .ref (ad 0))] → W p l e R s m args below meth c H locs 0 0 Q (F0 m 32 ls []) := by
    intro x ls hx0 hx7 hl
    refine lv_iload_n hx hb (hd 32 (.iload_n 1) 1 rfl) rfl (lv_at hl 2 rfl) ?_
    refine lv_sipush (v := Int32.ofInt 700) hx hb (hd 33 (.sipush 700) 3 rfl) (by decide) ?_
    refine zicmp_W (tgt := 104) hx hb (hd 36 (.if_icmp .ge 68) 3 rfl) (by decide) (a := v) (b := 700) (by omega) (by omega) (by omega) (by omega) (fun hc => ?_) (fun hc => ?_)
    · have hc1 : 700 ≤ v := hc
      exact zff_tail hx hb hts hown hK (x := x) v0 v1 L0 L1 (by omega) (by omega) (fun h => hx7 h) (fun h => by omega) hok hP hD hS (lv_sub hl [0, 1, 2, 3] rfl) kk
    · have hc1 : ¬ (700 ≤ v) := hc
      refine lv_aload_n hx hb (hd 39 (.aload_n 0) 1 rfl) rfl (lv_at hl 3 rfl) ?_
      refine va_get (C := RX8) (T := TX8) (N := 33) (ci := 8) (v := .ref (ad 11)) hx hb hts (fun w h => List.mem_cons_of_mem _ (List.mem_append_right _ h)) hown hK hP 0 (zws_get kA r ad ph (i := 0) hw0) rfl 28 (by decide) (hts (.fieldLink RX8 41 "VowTerraceModel" "fewest" "[I") (List.mem_of_getElem? (i := 2) rfl)) (fun _ h => h) rfl (hd 40 (.getfield 41) 3 rfl) ?_
      refine lv_bipush (v := Int32.ofInt 16) hx hb (hd 43 (.bipush 16) 2 rfl) (by decide) ?_
      refine lv_iload_n hx hb (hd 45 (.iload_n 1) 1 rfl) rfl (lv_at hl 2 rfl) ?_
      refine lv_iconst (v := Int32.ofInt 1) hx hb (hd 46 (.iconst 1) 1 rfl) (by decide) ?_
      refine zh_iadd hx hb (hd 47 .iadd 1 rfl) ?_
      refine zh_imul hx hb (hd 48 .imul 1 rfl) ?_
      refine lv_iload_n hx hb (hd 49 (.iload_n 2) 1 rfl) rfl (lv_at hl 1 rfl) ?_
      refine zh_iadd hx hb (hd 50 .iadd 1 rfl) ?_
      refine zh_ld hx hb hK hP hw11 (x := (16 * (v + 1)) + L) (by omega) (by omega) (Nat.le_of_ble_eq_true rfl) (hd 51 .iaload 1 rfl) ?_
      refine lv_istore (lv' := [(4, .int (Int32.ofInt (ph 11 ((16 * (v + 1)) + L).toNat))), (3, .int (Int32.ofInt x)), (2, .int (Int32.ofInt L)), (1, .int (Int32.ofInt v)), (0, .ref (ad 0))]) hx hb (hd 52 (.istore 4) 2 rfl) hl (by decide) rfl (fun ls hl => ?_)
      refine lv_aload_n hx hb (hd 54 (.aload_n 0) 1 rfl) rfl (lv_at hl 4 rfl) ?_
      refine va_get (C := RX8) (T := TX8) (N := 33) (ci := 8) (v := .ref (ad 11)) hx hb hts (fun w h => List.mem_cons_of_mem _ (List.mem_append_right _ h)) hown hK hP 0 (zws_get kA r ad ph (i := 0) hw0) rfl 28 (by decide) (hts (.fieldLink RX8 41 "VowTerraceModel" "fewest" "[I") (List.mem_of_getElem? (i := 2) rfl)) (fun _ h => h) rfl (hd 55 (.getfield 41) 3 rfl) ?_
      refine lv_bipush (v := Int32.ofInt 16) hx hb (hd 58 (.bipush 16) 2 rfl) (by decide) ?_
      refine lv_iload_n hx hb (hd 60 (.iload_n 1) 1 rfl) rfl (lv_at hl 3 rfl) ?_
      refine lv_iconst (v := Int32.ofInt 1) hx hb (hd 61 (.iconst 1) 1 rfl) (by decide) ?_
      refine zh_iadd hx hb (hd 62 .iadd 1 rfl) ?_
      refine zh_imul hx hb (hd 63 .imul 1 rfl) ?_
      refine lv_iload_n hx hb (hd 64 (.iload_n 2) 1 rfl) rfl (lv_at hl 2 rfl) ?_
      refine lv_aload_n hx hb (hd 65 (.aload_n 0) 1 rfl) rfl (lv_at hl 4 rfl) ?_
      refine va_get (C := RX8) (T := TX8) (N := 33) (ci := 8) (v := .ref (ad 10)) hx hb hts (fun w h => List.mem_cons_of_mem _ (List.mem_append_right _ h)) hown hK hP 0 (zws_get kA r ad ph (i := 0) hw0) rfl 27 (by decide) (hts (.fieldLink RX8 38 "VowTerraceModel" "covers" "[I") (List.mem_of_getElem? (i := 3) rfl)) (fun _ h => h) rfl (hd 66 (.getfield 38) 3 rfl) ?_
      refine lv_iload_n hx hb (hd 69 (.iload_n 1) 1 rfl) rfl (lv_at hl 3 rfl) ?_
      refine zh_ld hx hb hK hP hw10 (x := v) (by omega) (by omega) (Nat.le_of_ble_eq_true rfl) (hd 70 .iaload 1 rfl) ?_
      refine lv_iconst (v := Int32.ofInt (-1)) hx hb (hd 71 (.iconst (-1)) 1 rfl) (by decide) ?_
      refine zh_ixor hx hb (hd 72 .ixor 1 rfl) ?_
      refine zh_iand hx hb (hd 73 .iand 1 rfl) ?_
      refine zh_iadd hx hb (hd 74 .iadd 1 rfl) ?_
      refine zh_ld hx hb hK hP hw11 (x := (16 * (v + 1)) + (zan L (znt (ph 10 v.toNat)))) (by omega) (by omega) (Nat.le_of_ble_eq_true rfl) (hd 75 .iaload 1 rfl) ?_
      refine lv_iconst (v := Int32.ofInt 1) hx hb (hd 76 (.iconst 1) 1 rfl) (by decide) ?_
      refine zh_iadd hx hb (hd 77 .iadd 1 rfl) ?_
      refine lv_istore (lv' := [(5, .int (Int32.ofInt ((ph 11 ((16 * (v + 1)) + (zan L (znt (ph 10 v.toNat)))).toNat) + 1))), (4, .int (Int32.ofInt (ph 11 ((16 * (v + 1)) + L).toNat))), (3, .int (Int32.ofInt x)), (2, .int (Int32.ofInt L)), (1, .int (Int32.ofInt v)), (0, .ref (ad 0))]) hx hb (hd 78 (.istore 5) 2 rfl) hl (by decide) rfl (fun ls hl => ?_)
      refine lv_aload_n hx hb (hd 80 (.aload_n 0) 1 rfl) rfl (lv_at hl 5 rfl) ?_
      refine va_get (C := RX8) (T := TX8) (N := 33) (ci := 8) (v := .ref (ad 10)) hx hb hts (fun w h => List.mem_cons_of_mem _ (List.mem_append_right _ h)) hown hK hP 0 (zws_get kA r ad ph (i := 0) hw0) rfl 27 (by decide) (hts (.fieldLink RX8 38 "VowTerraceModel" "covers" "[I") (List.mem_of_getElem? (i := 3) rfl)) (fun _ h => h) rfl (hd 81 (.getfield 38) 3 rfl) ?_
      refine lv_iload_n hx hb (hd 84 (.iload_n 1) 1 rfl) rfl (lv_at hl 4 rfl) ?_
      refine zh_ld hx hb hK hP hw10 (x := v) (by omega) (by omega) (Nat.le_of_ble_eq_true rfl) (hd 85 .iaload 1 rfl) ?_
      refine zif_W (tgt := 101) hx hb (hd 86 (.ifCond .eq 15) 3 rfl) (by decide) (a := ph 10 v.toNat) (by omega) (by omega) (fun hc => ?_) (fun hc => ?_)
      · have hc2 : (ph 10 v.toNat) = 0 := hc
        refine lv_iload hx hb (hd 101 (.iload 4) 2 rfl) (lv_at hl 1 rfl) ?_
        refine lv_istore_n (lv' := [(3, .int (Int32.ofInt (ph 11 ((16 * (v + 1)) + L).toNat))), (5, .int (Int32.ofInt ((ph 11 ((16 * (v + 1)) + (zan L (znt (ph 10 v.toNat)))).toNat) + 1))), (4, .int (Int32.ofInt (ph 11 ((16 * (v + 1)) + L).toNat))), (2, .int (Int32.ofInt L)), (1, .int (Int32.ofInt v)), (0, .ref (ad 0))]) hx hb (hd 103 (.istore_n 3) 1 rfl) rfl hl (by decide) rfl (fun ls hl => ?_)
        exact zff_tail hx hb hts hown hK (x := ph 11 ((16 * (v + 1)) + L).toNat) v0 v1 L0 L1 (by omega) (by omega) (fun h => by omega) (fun _ _ => Or.inl rfl) hok hP hD hS (lv_sub hl [0, 3, 4, 5] rfl) kk
      · have hc2 : ¬ ((ph 10 v.toNat) = 0) := hc
        refine lv_iload hx hb (hd 89 (.iload 5) 2 rfl) (lv_at hl 0 rfl) ?_
        refine lv_iload hx hb (hd 91 (.iload 4) 2 rfl) (lv_at hl 1 rfl) ?_
        refine zicmp_W (tgt := 101) hx hb (hd 93 (.if_icmp .ge 8) 3 rfl) (by decide) (a := (ph 11 ((16 * (v + 1)) + (zan L (znt (ph 10 v.toNat)))).toNat) + 1) (b := ph 11 ((16 * (v + 1)) + L).toNat) (by omega) (by omega) (by omega) (by omega) (fun hc => ?_) (fun hc => ?_)
        · have hc3 : (ph 11 ((16 * (v + 1)) + L).toNat) ≤ ((ph 11 ((16 * (v + 1)) + (zan L (znt (ph 10 v.toNat)))).toNat) + 1) := hc
          refine lv_iload hx hb (hd 101 (.iload 4) 2 rfl) (lv_at hl 1 rfl) ?_
          refine lv_istore_n (lv' := [(3, .int (Int32.ofInt (ph 11 ((16 * (v + 1)) + L).toNat))), (5, .int (Int32.ofInt ((ph 11 ((16 * (v + 1)) + (zan L (znt (ph 10 v.toNat)))).toNat) + 1))), (4, .int (Int32.ofInt (ph 11 ((16 * (v + 1)) + L).toNat))), (2, .int (Int32.ofInt L)), (1, .int (Int32.ofInt v)), (0, .ref (ad 0))]) hx hb (hd 103 (.istore_n 3) 1 rfl) rfl hl (by decide) rfl (fun ls hl => ?_)
          exact zff_tail hx hb hts hown hK (x := ph 11 ((16 * (v + 1)) + L).toNat) v0 v1 L0 L1 (by omega) (by omega) (fun h => by omega) (fun _ _ => Or.inl rfl) hok hP hD hS (lv_sub hl [0, 3, 4, 5] rfl) kk
        · have hc3 : ¬ ((ph 11 ((16 * (v + 1)) + L).toNat) ≤ ((ph 11 ((16 * (v + 1)) + (zan L (znt (ph 10 v.toNat)))).toNat) + 1)) := hc
          refine lv_iload hx hb (hd 96 (.iload 5) 2 rfl) (lv_at hl 0 rfl) ?_
          refine lv_goto (tgt := 103) hx hb (hd 98 (.goto 5) 3 rfl) (by decide) ?_
          refine lv_istore_n (lv' := [(3, .int (Int32.ofInt ((ph 11 ((16 * (v + 1)) + (zan L (znt (ph 10 v.toNat)))).toNat) + 1))), (5, .int (Int32.ofInt ((ph 11 ((16 * (v + 1)) + (zan L (znt (ph 10 v.toNat)))).toNat) + 1))), (4, .int (Int32.ofInt (ph 11 ((16 * (v + 1)) + L).toNat))), (2, .int (Int32.ofInt L)), (1, .int (Int32.ofInt v)), (0, .ref (ad 0))]) hx hb (hd 103 (.istore_n 3) 1 rfl) rfl hl (by decide) rfl (fun ls hl => ?_)
          exact zff_tail hx hb hts hown hK (x := (ph 11 ((16 * (v + 1)) + (zan L (znt (ph 10 v.toNat)))).toNat) + 1) v0 v1 L0 L1 (by omega) (by omega) (fun h => by omega) (fun _ _ => Or.inr ⟨by omega, rfl⟩) hok hP hD hS (lv_sub hl [0, 3, 4, 5] rfl) kk
  refine lv_iload_n hx hb (hd 14 (.iload_n 2) 1 rfl) rfl (lv_at hl 0 rfl) ?_
  refine lv_bipush (v := Int32.ofInt 16) hx hb (hd 15 (.bipush 16) 2 rfl) (by decide) ?_
  refine zicmp_W (tgt := 135) hx hb (hd 17 (.if_icmp .ge 118) 3 rfl) (by decide) (a := L) (b := 16) (by omega) (by omega) (by omega) (by omega) (fun hc => ?_) (fun hc => ?_)
  · have hc1 : 16 ≤ L := hc
    exact absurd hc1 (by omega)
  · have hc1 : ¬ (16 ≤ L) := hc
    refine lv_iload_n hx hb (hd 20 (.iload_n 2) 1 rfl) rfl (lv_at hl 0 rfl) ?_
    refine zif_W (tgt := 28) hx hb (hd 21 (.ifCond .ne 7) 3 rfl) (by decide) (a := L) (by omega) (by omega) (fun hc => ?_) (fun hc => ?_)
    · have hc2 : ¬ L = 0 := hc
      refine lv_ldcw (own := RX8) (index := 289) (v := Int32.ofInt 1000000) hx hb hown (hts _ (List.mem_of_getElem? (i := 1) rfl)) (hd 28 (.ldc_w 289) 3 rfl) ?_
      refine lv_istore_n (lv' := [(3, .int (Int32.ofInt 1000000)), (2, .int (Int32.ofInt L)), (1, .int (Int32.ofInt v)), (0, .ref (ad 0))]) hx hb (hd 31 (.istore_n 3) 1 rfl) rfl hl (by decide) rfl (fun ls hl => ?_)
      exact mid 1000000 ls (by omega) (fun h => by omega) (lv_sub hl [0, 1, 2, 3] rfl)
    · have hc2 : ¬ (¬ L = 0) := hc
      refine lv_iconst (v := Int32.ofInt 0) hx hb (hd 24 (.iconst 0) 1 rfl) (by decide) ?_
      refine lv_goto (tgt := 31) hx hb (hd 25 (.goto 6) 3 rfl) (by decide) ?_
      refine lv_istore_n (lv' := [(3, .int (Int32.ofInt 0)), (2, .int (Int32.ofInt L)), (1, .int (Int32.ofInt v)), (0, .ref (ad 0))]) hx hb (hd 31 (.istore_n 3) 1 rfl) rfl hl (by decide) rfl (fun ls hl => ?_)
      exact mid 0 ls (by omega) (fun h => by omega) (lv_sub hl [0, 1, 2, 3] rfl)
theorem zff_inner {p : Program} {l : Launch} {e : Env} {R : Room} {s : State} {m : MethodId} {args : Array Value} {below : List Frame} {meth : Method} {c : Code} {Q : State → Prop} {D : va_G} {kA : Nat → ClassId} {A : Nat → Prop} {r : Nat → Int} {ad : Nat → Nat} (hx : p.tables.exec = Jvm.exec) (hb : c.code = cX8_findFewest) (hts : ∀ w ∈ wsX8_findFewest, w.before args s = true) (hown : s.vm.findClass RX8 = some m.cls) (hK : va_K D vwCl (ztys kA) s) {v : Int} (v0 : 0 ≤ v) (v1 : v ≤ 700) (C : Nat → Int)
    (kk : ∀ (ph : Nat → Nat → Int) (H : Heap) (locs : List Loc) (ls : Array Slot), ph 10 = C → zFI C (ph 11) v 16 → zokW r ph zw1 → va_P D vwCl (zws kA r ad ph zw1) H → va_D A (zws kA r ad ph zw1) → va_S A s.heap H locs → lv_has ls 6 [(2, .int (Int32.ofInt 16)), (1, .int (Int32.ofInt v)), (0, .ref (ad 0))] → W p l e R s m args below meth c H locs 0 0 Q (F0 m 14 ls [])) : ∀ (n : Nat), n ≤ 16 → ∀ (ph : Nat → Nat → Int) (H : Heap) (locs : List Loc) (ls : Array Slot), ph 10 = C → zFI C (ph 11) v (16 - n) → zokW r ph zw1 → va_P D vwCl (zws kA r ad ph zw1) H → va_D A (zws kA r ad ph zw1) → va_S A s.heap H locs → lv_has ls 6 [(2, .int (Int32.ofInt (16 - n))), (1, .int (Int32.ofInt v)), (0, .ref (ad 0))] → W p l e R s m args below meth c H locs 0 0 Q (F0 m 14 ls []) := by
  intro n
  induction n with
  | zero =>
    intro _ ph H locs ls hC hI hok hP hD hS hl
    exact kk ph H locs ls hC hI hok hP hD hS hl
  | succ n ih =>
    intro hn ph H locs ls hC hI hok hP hD hS hl
    subst hC
    have e1 : (16 : Int) - ((n + 1 : Nat) : Int) + 1 = 16 - (n : Int) := by omega
    refine zff_body hx hb hts hown hK (v := v) (L := 16 - ((n + 1 : Nat) : Int)) v0 v1 (by omega) (by omega) hI hok hP hD hS hl (fun ph' H' locs' ls' y q1 q2 y0 y1 y7 y6 hok hP hD hS hl => ?_)
    rw [e1] at hl
    refine ih (by omega) ph' H' locs' ls' (q1 10 (by decide)) ?_ hok hP hD hS hl
    rw [← e1]
    exact zFI_step hI v0 v1 (by omega) (by omega) q2 y0 y1 y7 y6
set_option maxHeartbeats 4000000 in
set_option maxRecDepth 100000 in
theorem zff_outer {p : Program} {l : Launch} {e : Env} {R : Room} {s : State} {m : MethodId} {args : Array Value} {below : List Frame} {meth : Method} {c : Code} {Q : State → Prop} {D : va_G} {kA : Nat → ClassId} {A : Nat → Prop} {r : Nat → Int} {ad : Nat → Nat} (hx : p.tables.exec = Jvm.exec) (hb : c.code = cX8_findFewest) (hts : ∀ w ∈ wsX8_findFewest, w.before args s = true) (hown : s.vm.findClass RX8 = some m.cls) (hK : va_K D vwCl (ztys kA) s) (C : Nat → Int)
    (kk : ∀ (ph : Nat → Nat → Int) (H : Heap) (locs : List Loc) (ls : Array Slot), ph 10 = C → zFI C (ph 11) (-1) 0 → zokW r ph zw1 → va_P D vwCl (zws kA r ad ph zw1) H → va_D A (zws kA r ad ph zw1) → va_S A s.heap H locs → W p l e R s m args below meth c H locs 0 0 Q (F0 m 141 ls [])) : ∀ (n : Nat), n ≤ 701 → ∀ (ph : Nat → Nat → Int) (H : Heap) (locs : List Loc) (ls : Array Slot), ph 10 = C → zFI C (ph 11) ((n : Int) - 1) 0 → zokW r ph zw1 → va_P D vwCl (zws kA r ad ph zw1) H → va_D A (zws kA r ad ph zw1) → va_S A s.heap H locs → lv_has ls 6 [(1, .int (Int32.ofInt ((n : Int) - 1))), (0, .ref (ad 0))] → W p l e R s m args below meth c H locs 0 0 Q (F0 m 8 ls []) := by
  intro n
  induction n with
  | zero =>
    intro _ ph H locs ls hC hI hok hP hD hS hl
    have hd := zpr_all hp_X8_findFewest
    have hl : lv_has ls 6 [(1, .int (Int32.ofInt (-1))), (0, .ref (ad 0))] := hl
    refine lv_iload_n hx hb (hd 8 (.iload_n 1) 1 rfl) rfl (lv_at hl 0 rfl) ?_
    refine zif_W (tgt := 141) hx hb (hd 9 (.ifCond .lt 132) 3 rfl) (by decide) (a := (-1)) (by omega) (by omega) (fun hc => ?_) (fun hc => ?_)
    · exact kk ph H locs ls hC hI hok hP hD hS
    · exact absurd (show (-1 : Int) < 0 by decide) hc
  | succ n ih =>
    intro hn ph H locs ls hC hI hok hP hD hS hl
    have hd := zpr_all hp_X8_findFewest
    have e0 : (((n + 1 : Nat) : Int) - 1) = (n : Int) := by omega
    rw [e0] at hI hl
    obtain ⟨v, hv⟩ : ∃ v : Int, v = n := ⟨_, rfl⟩
    have ev : v + (-1) = (n : Int) - 1 := by omega
    have ev2 : v - 1 = (n : Int) - 1 := by omega
    rw [← hv] at hI hl
    refine lv_iload_n hx hb (hd 8 (.iload_n 1) 1 rfl) rfl (lv_at hl 0 rfl) ?_
    refine zif_W (tgt := 141) hx hb (hd 9 (.ifCond .lt 132) 3 rfl) (by decide) (a := v) (by omega) (by omega) (fun hc => ?_) (fun hc => ?_)
    · have hc1 : v < 0 := hc
      exact absurd hc1 (by omega)
    · have hc1 : ¬ (v < 0) := hc
      refine lv_iconst (v := Int32.ofInt 0) hx hb (hd 12 (.iconst 0) 1 rfl) (by decide) ?_
      refine lv_istore_n (lv' := [(2, .int (Int32.ofInt 0)), (1, .int (Int32.ofInt v)), (0, .ref (ad 0))]) hx hb (hd 13 (.istore_n 2) 1 rfl) rfl hl (by decide) rfl (fun ls hl => ?_)
      refine zff_inner hx hb hts hown hK (v := v) (by omega) (by omega) C (fun ph H locs ls hC hI hok hP hD hS hl => ?_) 16 (Nat.le_refl _) ph H locs ls hC (fun a b a0 a1 b0 b1 h => hI a b a0 a1 b0 b1 (by omega)) hok hP hD hS hl
      have hd := zpr_all hp_X8_findFewest
      refine lv_iload_n hx hb (hd 14 (.iload_n 2) 1 rfl) rfl (lv_at hl 0 rfl) ?_
      refine lv_bipush (v := Int32.ofInt 16) hx hb (hd 15 (.bipush 16) 2 rfl) (by decide) ?_
      refine zicmp_W (tgt := 135) hx hb (hd 17 (.if_icmp .ge 118) 3 rfl) (by decide) (a := 16) (b := 16) (by omega) (by omega) (by omega) (by omega) (fun hc => ?_) (fun hc => ?_)
      · have hc1 : (16 : Int) ≤ (16 : Int) := hc
        refine lv_iinc (v := Int32.ofInt (v + (-1))) (lv' := [(1, .int (Int32.ofInt (v + (-1)))), (2, .int (Int32.ofInt 16)), (0, .ref (ad 0))]) hx hb (hd 135 (.iinc 1 (-1)) 3 rfl) hl (k := 1) rfl (zq_addW _ _) (by decide) rfl (fun ls hl => ?_)
        refine lv_goto (tgt := 8) hx hb (hd 138 (.goto (-130)) 3 rfl) (by decide) ?_
        refine ih (by omega) ph H locs ls hC ?_ hok hP hD hS (lv_sub hl [0, 2] (by rw [ev]; rfl))
        rw [← ev2]
        exact zFI_row hI
      · have hc1 : ¬ ((16 : Int) ≤ (16 : Int)) := hc
        exact absurd (by omega) hc1
def zPins : List Nat := [0, 1, 2, 3, 4, 5, 6, 7, 8, 9, 10, 11, 12, 13, 14]
/-- behind findFewest: the world keeps its bounds, and the table is right -/
def zQf (D : va_G) (kA : Nat → ClassId) (r : Nat → Int) (ad : Nat → Nat) (A : Nat → Prop) : Array Value → State → Outcome → State → Prop := fun _ st oc t =>
  (∃ (r' : Nat → Int) (ad' : Nat → Nat) (ph' : Nat → Nat → Int), zJ 30 zPins r ad r' ad' ∧ zokW r' ph' zw1 ∧ zFI (ph' 10) (ph' 11) (-1) 0 ∧ oc = .returned none ∧ va_P D vwCl (zws kA r' ad' ph' zw1) t.heap ∧ va_D A (zws kA r' ad' ph' zw1)) ∧ va_F A st t
set_option maxHeartbeats 4000000 in
set_option maxRecDepth 100000 in
theorem c_X8_findFewest {X : zXT} (hX : zXok X) (hN : zXn X) (l : Launch) (D : va_G) (kA : Nat → ClassId) (r : Nat → Int) (ad : Nat → Nat) (ph : Nat → Nat → Int) (sz : Nat) (hE : zokE r ze_X8_findCovers) (hok : zokW r ph zw1) : Met l yX8_findFewest wsX8_findFewest { frames := 7, cells := 0, slots := 0, locals := 214 } (va_Pc [.ref (ad 0)] (zBf X D vwCl kA (zws kA r ad ph zw1) sz)) (zQf D kA r ad (va_A (zws kA r ad ph zw1) sz)) 0 0 (va_A (zws kA r ad ph zw1) sz) := by
  refine Met.ofW (cc := cX8_findFewest) (maxL := 6) (ret := none) (by decide +kernel) rfl ?_
  intro p e s m args below meth c s₁ B hml hv
  obtain ⟨rfl, hsz, hP, hK, hD0, hx0⟩ := hv
  have hx := B.exec
  have hb := B.bytes
  have hr := B.returns
  have hts := atoms_spec (ws := wsX8_findFewest) B.pre
  have hown : s.vm.findClass RX8 = some m.cls := findClass_of_methodNamed B.named
  have hlocks := B.notSynchronized
  have hd := zpr_all hp_X8_findFewest
  subst hsz
  have hD := hD0.self (sz := s.heap.size)
  have hA : ∀ q : Nat, s.heap.size ≤ q → va_A (zws kA r ad ph zw1) s.heap.size q := fun q h => Or.inr h
  generalize hAe : va_A (zws kA r ad ph zw1) s.heap.size = A at hD hA hx0 ⊢
  have hS : va_S A s.heap s.heap [] := va_S.rf
  have hl := lv_entry ([.ref (ad 0)]) (n := 6) (Nat.le_of_ble_eq_true rfl)
  rw [lg_entry_eq]
  generalize (lg_sl ([.ref (ad 0)]) ++ List.replicate (6 - (lg_sl ([.ref (ad 0)])).length) Slot.unset).toArray = ls at hl ⊢
  have hl : lv_has ls 6 [(0, .ref (ad 0))] := hl
  refine lv_aload_n hx hb (hd 0 (.aload_n 0) 1 rfl) rfl (lv_at hl 0 rfl) ?_
  refine zcallG (v := []) (rest := []) (r := r) (ad := ad) (ph := ph) (as := []) (i0 := 0) hX ⟨hx, hb, hml, hown, hts⟩ (c_X8_findCovers hX hN l) (cwV 0 hts gX8_findFewest_X8_findCovers rfl rfl rfl (by decide +kernel) ⟨Nat.le_of_ble_eq_true rfl, Nat.le_of_ble_eq_true rfl⟩) rfl ⟨0, 8, _, _, _, rfl, rfl⟩ rfl hK hE (fun x hx => by cases hx) hok (by rw [List.append_nil]; exact hP) (by rw [List.append_nil]; exact hD) hS hA hx0 hl.1 (Nat.zero_le _) (hd 1 (.invokevirtual 286) 3 rfl) ⟨Nat.zero_le _, Nat.zero_le _⟩ (fun T hT r' ad' ph' H locs j1 j2 j3 hok hP hD hS => ?_)
  obtain rfl := List.mem_singleton.mp hT
  have hok : zokW r' ph' zw1 := hok
  have hP : va_P D vwCl (zws kA r' ad' ph' zw1) H := hP
  have hD : va_D A (zws kA r' ad' ph' zw1) := hD
  have j1 : zJ 30 zPins r ad r' ad' := j1
  have ha : ad' 0 = ad 0 := j1.2 0 (by decide)
  rw [← ha] at hl
  show W _ _ _ _ _ _ _ _ _ _ _ _ _ _ _ (F0 m 4 ls [])
  refine lv_sipush (v := Int32.ofInt 700) hx hb (hd 4 (.sipush 700) 3 rfl) (by decide) ?_
  refine lv_istore_n (lv' := [(1, .int (Int32.ofInt 700)), (0, .ref (ad' 0))]) hx hb (hd 7 (.istore_n 1) 1 rfl) rfl hl (by decide) rfl (fun ls hl => ?_)
  refine zff_outer hx hb hts hown hK (ph' 10) (fun ph2 H locs ls hC hI hok hP hD hS => ?_) 701 (Nat.le_refl _) ph' H locs ls rfl (fun a b a0 a1 b0 b1 h => absurd h (by omega)) hok hP hD hS hl
  refine W.vret hx hb hr (fun t ht hW => ⟨⟨r', ad', ph2, j1, hok, by rw [hC]; exact hI, rfl, by rw [ht]; exact hP, hD⟩, hS.F ht⟩) hS.2.2 (hd 141 .return_ 1 rfl) hlocks
