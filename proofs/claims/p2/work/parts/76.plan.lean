def pr_X8_plan : List (Nat × Instr × Nat) := [(0, .iload_n 1, 1), (1, .ifCond .eq 19, 3), (4, .iload_n 1, 1), (5, .i2l, 1), (6, .ldc2_w 220, 3), (9, .ldc2_w 290, 3), (12, .invokestatic 90, 3), (15, .ifCond .ne 5, 3), (18, .iconst (-1), 1), (19, .ireturn, 1), (20, .aload_n 0, 1), (21, .invokevirtual 292, 3), (24, .iconst 1, 1), (25, .aload_n 0, 1), (26, .getfield 7, 3), (29, .bipush 118, 2), (31, .iaload, 1), (32, .ishl, 1), (33, .iconst 1, 1), (34, .isub, 1), (35, .istore_n 2, 1), (36, .aload_n 0, 1), (37, .getfield 41, 3), (40, .iload_n 2, 1), (41, .iaload, 1), (42, .istore_n 3, 1), (43, .iload_n 3, 1), (44, .ldc_w 289, 3), (47, .if_icmp .ge 7, 3), (50, .iload_n 1, 1), (51, .ifCond .ne 17, 3), (54, .iload_n 3, 1), (55, .ldc_w 289, 3), (58, .if_icmp .lt 8, 3), (61, .bipush (-4), 2), (63, .goto 4, 3), (66, .iload_n 3, 1), (67, .ireturn, 1), (68, .iconst 0, 1), (69, .istore 4, 2), (71, .bipush (-4), 2), (73, .istore 5, 2), (75, .iconst 0, 1), (76, .istore 6, 2), (78, .iload 6, 2), (80, .iload_n 1, 1), (81, .bipush 10, 2), (83, .isub, 1), (84, .if_icmp .gt 83, 3), (87, .iload 6, 2), (89, .iload_n 3, 1), (90, .if_icmp .ge 77, 3), (93, .aload_n 0, 1), (94, .getfield 38, 3), (97, .iload 4, 2), (99, .iaload, 1), (100, .ifCond .eq 36, 3), (103, .aload_n 0, 1), (104, .getfield 41, 3), (107, .bipush 16, 2), (109, .iload 4, 2), (111, .iconst 1, 1), (112, .iadd, 1), (113, .imul, 1), (114, .iload_n 2, 1), (115, .aload_n 0, 1), (116, .getfield 38, 3), (119, .iload 4, 2), (121, .iaload, 1), (122, .iconst (-1), 1), (123, .ixor, 1), (124, .iand, 1), (125, .iadd, 1), (126, .iaload, 1), (127, .iconst 1, 1), (128, .iadd, 1), (129, .iload_n 3, 1), (130, .iload 6, 2), (132, .isub, 1), (133, .if_icmp .eq 9, 3), (136, .iinc 4 1, 3), (139, .goto (-46), 3), (142, .iload 4, 2), (144, .istore 5, 2), (146, .iload_n 2, 1), (147, .aload_n 0, 1), (148, .getfield 38, 3), (151, .iload 4, 2), (153, .iaload, 1), (154, .iconst (-1), 1), (155, .ixor, 1), (156, .iand, 1), (157, .istore_n 2, 1), (158, .iinc 4 1, 3), (161, .iinc 6 1, 3), (164, .goto (-86), 3), (167, .iload_n 1, 1), (168, .bipush 10, 2), (170, .isub, 1), (171, .iload_n 3, 1), (172, .if_icmp .ge 8, 3), (175, .iload 5, 2), (177, .goto 5, 3), (180, .bipush (-4), 2), (182, .ireturn, 1)]
set_option maxRecDepth 100000 in
theorem hp_X8_plan : pr_X8_plan.all (fun x => decide (decode cX8_plan x.1 = .ok x.2)) = true := by decide +kernel
def ze_X8_plan : zE := ze_X8_findCovers ++ [(30, ((-2147483648), 2147483647))]
def k_X8_plan : zK := (31, [0, 1, 2, 3, 4, 5, 6, 7, 8, 9, 10, 11, 12, 13, 14], (ze_X8_plan, [], [], [zr 0, zi 30 0], zw1, []), [([], [], [], [zi 0 (-1)], zw1, []), ([(31, ((-2147483648), 2147483647))], [], [], [zi 31 0], zw1, [])])
set_option maxRecDepth 100000 in
theorem zpl_want {r : Nat → Int} {ph : Nat → Nat → Int} (hE : zokE r ze_X8_findCovers) (hok : zokW r ph zw1) : 0 ≤ ph 1 118 ∧ ph 1 118 ≤ 4 := by
  obtain ⟨gs, hw1, hz⟩ : ∃ gs, zw1[1]? = some (1, .inr (.inl (0, 393, gs, []))) ∧ (zrd ze_X8_findCovers 118 118 0 gs = some (some (0, 4)) ∧ zlenG gs = 393) := ⟨_, rfl, by decide +kernel⟩
  have h := hok _ (List.mem_of_getElem? hw1)
  obtain ⟨i, e, q⟩ := zrd_ok hE (f := ph 1) (a := 118) (b := 118) gs 0 _ h.1 hz.1 118 (Nat.zero_le _) (by rw [hz.2]; decide) (by decide) (by decide)
  cases e
  exact q
theorem zsh_b {n : Int} (h0 : 0 ≤ n) (h1 : n ≤ 4) : 1 ≤ zsh 1 n ∧ zsh 1 n ≤ 16 := by
  have : n = 0 ∨ n = 1 ∨ n = 2 ∨ n = 3 ∨ n = 4 := by omega
  rcases this with h | h | h | h | h <;> subst h <;> decide +kernel
/-- row v of the table answers k: some vow behind v lessens it -/
theorem zpl_next {C F : Nat → Int} (h : zFI C F (-1) 0) {v L k : Int} (v0 : 0 ≤ v) (v1 : v ≤ 700) (L0 : 0 ≤ L) (L1 : L < 16) (k0 : 1 ≤ k) (k1 : k < 1000000) (e : F (16 * v + L).toNat = k) : v < 700 ∧ ((C v.toNat = 0 ∨ ¬ F (16 * (v + 1) + zan L (znt (C v.toNat))).toNat + 1 = k) → F (16 * (v + 1) + L).toNat = k) := by
  have q := h v L v0 v1 L0 L1 (Or.inl (by omega))
  unfold zFG at q
  rw [e] at q
  obtain ⟨q1, q2, q3, q4⟩ := q
  have hv : v < 700 := by
    rcases Int.lt_or_eq_of_le v1 with z | z
    · exact z
    · have := q3 z
      omega
  refine ⟨hv, fun hc => ?_⟩
  rcases q4 hv (by omega) with h1 | h1
  · exact h1.symm
  · rcases hc with z | z
    · exact absurd z h1.1
    · exact absurd h1.2.symm z
set_option maxHeartbeats 4000000 in
set_option maxRecDepth 100000 in
theorem zpl_find {p : Program} {l : Launch} {e : Env} {R : Room} {s : State} {m : MethodId} {args : Array Value} {below : List Frame} {meth : Method} {c : Code} {Q : State → Prop} {D : va_G} {kA : Nat → ClassId} {A : Nat → Prop} {r : Nat → Int} {ad : Nat → Nat} (hx : p.tables.exec = Jvm.exec) (hb : c.code = cX8_plan) (hts : ∀ w ∈ wsX8_plan, w.before args s = true) (hown : s.vm.findClass RX8 = some m.cls) (hK : va_K D vwCl (ztys kA) s) {ph : Nat → Nat → Int} {H : Heap} {locs : List Loc} {what many : Int} (w0 : 10 ≤ what) (w1 : what ≤ 13) (m0 : 0 ≤ many) (m1 : many < 1000000) (hT : zFI (ph 10) (ph 11) (-1) 0) (hok : zokW r ph zw1) (hP : va_P D vwCl (zws kA r ad ph zw1) H) {i f L : Int} (i0 : 0 ≤ i) (i1 : i ≤ 3) (im : i < many) (L0 : 0 ≤ L) (L1 : L < 16) (f0 : -4 ≤ f) (f1 : f ≤ 700)
    (kk : ∀ (f v L : Int) (ls : Array Slot), 0 ≤ v → v ≤ 700 → 0 ≤ L → L < 16 → -4 ≤ f ∧ f ≤ 700 → ph 11 (16 * v + L).toNat = many - (i + 1) → lv_has ls 7 [(6, .int (Int32.ofInt (i + 1))), (5, .int (Int32.ofInt f)), (4, .int (Int32.ofInt v)), (3, .int (Int32.ofInt many)), (2, .int (Int32.ofInt L)), (1, .int (Int32.ofInt what)), (0, .ref (ad 0))] → W p l e R s m args below meth c H locs 0 0 Q (F0 m 78 ls [])) : ∀ (n : Nat) (v : Int) (ls : Array Slot), 700 - v ≤ n → 0 ≤ v → v ≤ 700 → ph 11 (16 * v + L).toNat = many - i → lv_has ls 7 [(6, .int (Int32.ofInt i)), (5, .int (Int32.ofInt f)), (4, .int (Int32.ofInt v)), (3, .int (Int32.ofInt many)), (2, .int (Int32.ofInt L)), (1, .int (Int32.ofInt what)), (0, .ref (ad 0))] → W p l e R s m args below meth c H locs 0 0 Q (F0 m 93 ls []) := by
  have hw0 : zw1[0]? = some (0, .inl (8, [zr 1, zr 2, zr 3, zi 1 0, zi 2 0, zi 3 0, zr 4, zr 5, zi 4 0, zi 5 0, zi 6 0, zi 7 0, zr 6, zr 7, zi 8 0, zi 9 0, zr 8, zi 10 0, zi 11 0, zi 12 0, zi 13 0, zi 14 0, zi 15 0, zi 16 0, zr 9, zi 17 0, zi 18 0, zr 10, zr 11, zr 12, zr 13, zr 14, zi 19 0])) := rfl
  have hw10 : zw1[10]? = some (10, .inr (.inl (0, 700, [(700, .inl ((-2147483648), 2147483647))], []))) := rfl
  have hw11 : zw1[11]? = some (11, .inr (.inl (0, 11216, [(11216, .inl ((-2147483648), 2147483647))], []))) := rfl
  obtain ⟨gs1, hw1⟩ : ∃ gs, zw1[1]? = some (1, .inr (.inl (0, 393, gs, []))) := ⟨_, rfl⟩
  have hd := zpr_all hp_X8_plan
  intro n
  induction n with
  | zero =>
    intro v ls hn v0 v1 hF hl
    have := (zpl_next hT v0 v1 L0 L1 (k := many - i) (by omega) (by omega) hF).1
    omega
  | succ n ih =>
    intro v ls hn v0 v1 hF hl
    obtain ⟨hv, hn2⟩ := zpl_next hT v0 v1 L0 L1 (k := many - i) (by omega) (by omega) hF
    have hC : -2147483648 ≤ ph 10 v.toNat ∧ ph 10 v.toNat ≤ 2147483647 := (hok _ (List.mem_of_getElem? hw10)).1.1 v.toNat (Nat.zero_le _) (by show v.toNat < 0 + 700; omega)
    have hz := zan_b (znt (ph 10 v.toNat)) L0 (by omega)
    have hF2 : 0 ≤ ph 11 (16 * (v + 1) + zan L (znt (ph 10 v.toNat))).toNat ∧ ph 11 (16 * (v + 1) + zan L (znt (ph 10 v.toNat))).toNat ≤ 1000000 := by
      have q := hT (v + 1) (zan L (znt (ph 10 v.toNat))) (by omega) (by omega) hz.1 (by omega) (Or.inl (by omega))
      exact ⟨q.1, q.2.1⟩
    refine lv_aload_n hx hb (hd 93 (.aload_n 0) 1 rfl) rfl (lv_at hl 6 rfl) ?_
    refine va_get (C := RX8) (T := TX8) (N := 33) (ci := 8) (v := .ref (ad 10)) hx hb hts (fun w h => List.mem_cons_of_mem _ (List.mem_append_right _ h)) hown hK hP 0 (zws_get kA r ad ph (i := 0) hw0) rfl 27 (by decide) (hts (.fieldLink RX8 38 "VowTerraceModel" "covers" "[I") (List.mem_of_getElem? (i := 6) rfl)) (fun _ h => h) rfl (hd 94 (.getfield 38) 3 rfl) ?_
    refine lv_iload hx hb (hd 97 (.iload 4) 2 rfl) (lv_at hl 2 rfl) ?_
    refine zh_ld hx hb hK hP hw10 (x := v) (by omega) (by omega) (Nat.le_of_ble_eq_true rfl) (hd 99 .iaload 1 rfl) ?_
    refine zif_W (tgt := 136) hx hb (hd 100 (.ifCond .eq 36) 3 rfl) (by decide) (a := ph 10 v.toNat) (by omega) (by omega) (fun hc => ?_) (fun hc => ?_)
    · have hc1 : (ph 10 v.toNat) = 0 := hc
      refine lv_iinc (v := Int32.ofInt (v + 1)) (lv' := [(4, .int (Int32.ofInt (v + 1))), (6, .int (Int32.ofInt i)), (5, .int (Int32.ofInt f)), (3, .int (Int32.ofInt many)), (2, .int (Int32.ofInt L)), (1, .int (Int32.ofInt what)), (0, .ref (ad 0))]) hx hb (hd 136 (.iinc 4 1) 3 rfl) hl (k := 2) rfl (zq_addW _ _) (by decide) rfl (fun ls hl => ?_)
      refine lv_goto (tgt := 93) hx hb (hd 139 (.goto (-46)) 3 rfl) (by decide) ?_
      refine ih (v + 1) ls (by omega) (by omega) (by omega) ?_ (lv_sub hl [1, 2, 0, 3, 4, 5, 6] rfl)
      exact hn2 (by first | exact Or.inl hc1 | exact Or.inr hc2)
    · have hc1 : ¬ ((ph 10 v.toNat) = 0) := hc
      refine lv_aload_n hx hb (hd 103 (.aload_n 0) 1 rfl) rfl (lv_at hl 6 rfl) ?_
      refine va_get (C := RX8) (T := TX8) (N := 33) (ci := 8) (v := .ref (ad 11)) hx hb hts (fun w h => List.mem_cons_of_mem _ (List.mem_append_right _ h)) hown hK hP 0 (zws_get kA r ad ph (i := 0) hw0) rfl 28 (by decide) (hts (.fieldLink RX8 41 "VowTerraceModel" "fewest" "[I") (List.mem_of_getElem? (i := 4) rfl)) (fun _ h => h) rfl (hd 104 (.getfield 41) 3 rfl) ?_
      refine lv_bipush (v := Int32.ofInt 16) hx hb (hd 107 (.bipush 16) 2 rfl) (by decide) ?_
      refine lv_iload hx hb (hd 109 (.iload 4) 2 rfl) (lv_at hl 2 rfl) ?_
      refine lv_iconst (v := Int32.ofInt 1) hx hb (hd 111 (.iconst 1) 1 rfl) (by decide) ?_
      refine zh_iadd hx hb (hd 112 .iadd 1 rfl) ?_
      refine zh_imul hx hb (hd 113 .imul 1 rfl) ?_
      refine lv_iload_n hx hb (hd 114 (.iload_n 2) 1 rfl) rfl (lv_at hl 4 rfl) ?_
      refine lv_aload_n hx hb (hd 115 (.aload_n 0) 1 rfl) rfl (lv_at hl 6 rfl) ?_
      refine va_get (C := RX8) (T := TX8) (N := 33) (ci := 8) (v := .ref (ad 10)) hx hb hts (fun w h => List.mem_cons_of_mem _ (List.mem_append_right _ h)) hown hK hP 0 (zws_get kA r ad ph (i := 0) hw0) rfl 27 (by decide) (hts (.fieldLink RX8 38 "VowTerraceModel" "covers" "[I") (List.mem_of_getElem? (i := 6) rfl)) (fun _ h => h) rfl (hd 116 (.getfield 38) 3 rfl) ?_
      refine lv_iload hx hb (hd 119 (.iload 4) 2 rfl) (lv_at hl 2 rfl) ?_
      refine zh_ld hx hb hK hP hw10 (x := v) (by omega) (by omega) (Nat.le_of_ble_eq_true rfl) (hd 121 .iaload 1 rfl) ?_
      refine lv_iconst (v := Int32.ofInt (-1)) hx hb (hd 122 (.iconst (-1)) 1 rfl) (by decide) ?_
      refine zh_ixor hx hb (hd 123 .ixor 1 rfl) ?_
      refine zh_iand hx hb (hd 124 .iand 1 rfl) ?_
      refine zh_iadd hx hb (hd 125 .iadd 1 rfl) ?_
      refine zh_ld hx hb hK hP hw11 (x := (16 * (v + 1)) + (zan L (znt (ph 10 v.toNat)))) (by omega) (by omega) (Nat.le_of_ble_eq_true rfl) (hd 126 .iaload 1 rfl) ?_
      refine lv_iconst (v := Int32.ofInt 1) hx hb (hd 127 (.iconst 1) 1 rfl) (by decide) ?_
      refine zh_iadd hx hb (hd 128 .iadd 1 rfl) ?_
      refine lv_iload_n hx hb (hd 129 (.iload_n 3) 1 rfl) rfl (lv_at hl 3 rfl) ?_
      refine lv_iload hx hb (hd 130 (.iload 6) 2 rfl) (lv_at hl 0 rfl) ?_
      refine zh_isub hx hb (hd 132 .isub 1 rfl) ?_
      refine zicmp_W (tgt := 142) hx hb (hd 133 (.if_icmp .eq 9) 3 rfl) (by decide) (a := (ph 11 ((16 * (v + 1)) + (zan L (znt (ph 10 v.toNat)))).toNat) + 1) (b := many - i) (by omega) (by omega) (by omega) (by omega) (fun hc => ?_) (fun hc => ?_)
      · have hc2 : ((ph 11 ((16 * (v + 1)) + (zan L (znt (ph 10 v.toNat)))).toNat) + 1) = (many - i) := hc
        refine lv_iload hx hb (hd 142 (.iload 4) 2 rfl) (lv_at hl 2 rfl) ?_
        refine lv_istore (lv' := [(5, .int (Int32.ofInt v)), (6, .int (Int32.ofInt i)), (4, .int (Int32.ofInt v)), (3, .int (Int32.ofInt many)), (2, .int (Int32.ofInt L)), (1, .int (Int32.ofInt what)), (0, .ref (ad 0))]) hx hb (hd 144 (.istore 5) 2 rfl) hl (by decide) rfl (fun ls hl => ?_)
        refine lv_iload_n hx hb (hd 146 (.iload_n 2) 1 rfl) rfl (lv_at hl 4 rfl) ?_
        refine lv_aload_n hx hb (hd 147 (.aload_n 0) 1 rfl) rfl (lv_at hl 6 rfl) ?_
        refine va_get (C := RX8) (T := TX8) (N := 33) (ci := 8) (v := .ref (ad 10)) hx hb hts (fun w h => List.mem_cons_of_mem _ (List.mem_append_right _ h)) hown hK hP 0 (zws_get kA r ad ph (i := 0) hw0) rfl 27 (by decide) (hts (.fieldLink RX8 38 "VowTerraceModel" "covers" "[I") (List.mem_of_getElem? (i := 6) rfl)) (fun _ h => h) rfl (hd 148 (.getfield 38) 3 rfl) ?_
        refine lv_iload hx hb (hd 151 (.iload 4) 2 rfl) (lv_at hl 2 rfl) ?_
        refine zh_ld hx hb hK hP hw10 (x := v) (by omega) (by omega) (Nat.le_of_ble_eq_true rfl) (hd 153 .iaload 1 rfl) ?_
        refine lv_iconst (v := Int32.ofInt (-1)) hx hb (hd 154 (.iconst (-1)) 1 rfl) (by decide) ?_
        refine zh_ixor hx hb (hd 155 .ixor 1 rfl) ?_
        refine zh_iand hx hb (hd 156 .iand 1 rfl) ?_
        refine lv_istore_n (lv' := [(2, .int (Int32.ofInt (zan L (znt (ph 10 v.toNat))))), (5, .int (Int32.ofInt v)), (6, .int (Int32.ofInt i)), (4, .int (Int32.ofInt v)), (3, .int (Int32.ofInt many)), (1, .int (Int32.ofInt what)), (0, .ref (ad 0))]) hx hb (hd 157 (.istore_n 2) 1 rfl) rfl hl (by decide) rfl (fun ls hl => ?_)
        refine lv_iinc (v := Int32.ofInt (v + 1)) (lv' := [(4, .int (Int32.ofInt (v + 1))), (2, .int (Int32.ofInt (zan L (znt (ph 10 v.toNat))))), (5, .int (Int32.ofInt v)), (6, .int (Int32.ofInt i)), (3, .int (Int32.ofInt many)), (1, .int (Int32.ofInt what)), (0, .ref (ad 0))]) hx hb (hd 158 (.iinc 4 1) 3 rfl) hl (k := 3) rfl (zq_addW _ _) (by decide) rfl (fun ls hl => ?_)
        refine lv_iinc (v := Int32.ofInt (i + 1)) (lv' := [(6, .int (Int32.ofInt (i + 1))), (4, .int (Int32.ofInt (v + 1))), (2, .int (Int32.ofInt (zan L (znt (ph 10 v.toNat))))), (5, .int (Int32.ofInt v)), (3, .int (Int32.ofInt many)), (1, .int (Int32.ofInt what)), (0, .ref (ad 0))]) hx hb (hd 161 (.iinc 6 1) 3 rfl) hl (k := 3) rfl (zq_addW _ _) (by decide) rfl (fun ls hl => ?_)
        refine lv_goto (tgt := 78) hx hb (hd 164 (.goto (-86)) 3 rfl) (by decide) ?_
        refine kk (v) (v + 1) (zan L (znt (ph 10 v.toNat))) ls (by omega) (by omega) (by omega) (by omega) (by omega) ?_ (lv_sub hl [0, 3, 1, 4, 2, 5, 6] rfl)
        have hc2 : ph 11 (16 * (v + 1) + zan L (znt (ph 10 v.toNat))).toNat + 1 = many - i := hc2
        omega
      · have hc2 : ¬ (((ph 11 ((16 * (v + 1)) + (zan L (znt (ph 10 v.toNat)))).toNat) + 1) = (many - i)) := hc
        refine lv_iinc (v := Int32.ofInt (v + 1)) (lv' := [(4, .int (Int32.ofInt (v + 1))), (6, .int (Int32.ofInt i)), (5, .int (Int32.ofInt f)), (3, .int (Int32.ofInt many)), (2, .int (Int32.ofInt L)), (1, .int (Int32.ofInt what)), (0, .ref (ad 0))]) hx hb (hd 136 (.iinc 4 1) 3 rfl) hl (k := 2) rfl (zq_addW _ _) (by decide) rfl (fun ls hl => ?_)
        refine lv_goto (tgt := 93) hx hb (hd 139 (.goto (-46)) 3 rfl) (by decide) ?_
        refine ih (v + 1) ls (by omega) (by omega) (by omega) ?_ (lv_sub hl [1, 2, 0, 3, 4, 5, 6] rfl)
        exact hn2 (by first | exact Or.inl hc1 | exact Or.inr hc2)
set_option maxHeartbeats 4000000 in
set_option maxRecDepth 100000 in
theorem zpl_loop {p : Program} {l : Launch} {e : Env} {R : Room} {s : State} {m : MethodId} {args : Array Value} {below : List Frame} {meth : Method} {c : Code} {Q : State → Prop} {D : va_G} {kA : Nat → ClassId} {A : Nat → Prop} {r : Nat → Int} {ad : Nat → Nat} (hx : p.tables.exec = Jvm.exec) (hb : c.code = cX8_plan) (hts : ∀ w ∈ wsX8_plan, w.before args s = true) (hown : s.vm.findClass RX8 = some m.cls) (hK : va_K D vwCl (ztys kA) s) {ph : Nat → Nat → Int} {H : Heap} {locs : List Loc} {what many : Int} (w0 : 10 ≤ what) (w1 : what ≤ 13) (m0 : 0 ≤ many) (m1 : many < 1000000) (hT : zFI (ph 10) (ph 11) (-1) 0) (hok : zokW r ph zw1) (hP : va_P D vwCl (zws kA r ad ph zw1) H) (ret : ∀ (x : Int) (ls : Array Slot), -2147483648 ≤ x → x ≤ 2147483647 → W p l e R s m args below meth c H locs 0 0 Q (F0 m 182 ls [.int (Int32.ofInt x)])) : ∀ (n : Nat) (i f v L : Int) (ls : Array Slot), 4 - i ≤ n → 0 ≤ i → i ≤ 4 → 0 ≤ v → v ≤ 700 → 0 ≤ L → L < 16 → -4 ≤ f ∧ f ≤ 700 → ph 11 (16 * v + L).toNat = many - i → lv_has ls 7 [(6, .int (Int32.ofInt i)), (5, .int (Int32.ofInt f)), (4, .int (Int32.ofInt v)), (3, .int (Int32.ofInt many)), (2, .int (Int32.ofInt L)), (1, .int (Int32.ofInt what)), (0, .ref (ad 0))] → W p l e R s m args below meth c H locs 0 0 Q (F0 m 78 ls []) := by
  have hw0 : zw1[0]? = some (0, .inl (8, [zr 1, zr 2, zr 3, zi 1 0, zi 2 0, zi 3 0, zr 4, zr 5, zi 4 0, zi 5 0, zi 6 0, zi 7 0, zr 6, zr 7, zi 8 0, zi 9 0, zr 8, zi 10 0, zi 11 0, zi 12 0, zi 13 0, zi 14 0, zi 15 0, zi 16 0, zr 9, zi 17 0, zi 18 0, zr 10, zr 11, zr 12, zr 13, zr 14, zi 19 0])) := rfl
  have hw10 : zw1[10]? = some (10, .inr (.inl (0, 700, [(700, .inl ((-2147483648), 2147483647))], []))) := rfl
  have hw11 : zw1[11]? = some (11, .inr (.inl (0, 11216, [(11216, .inl ((-2147483648), 2147483647))], []))) := rfl
  obtain ⟨gs1, hw1⟩ : ∃ gs, zw1[1]? = some (1, .inr (.inl (0, 393, gs, []))) := ⟨_, rfl⟩
  have hd := zpr_all hp_X8_plan
  intro n
  induction n with
  | zero =>
    intro i f v L ls hn i0 i1 v0 v1 L0 L1 f0 hF hl
    refine lv_iload hx hb (hd 78 (.iload 6) 2 rfl) (lv_at hl 0 rfl) ?_
    refine lv_iload_n hx hb (hd 80 (.iload_n 1) 1 rfl) rfl (lv_at hl 5 rfl) ?_
    refine lv_bipush (v := Int32.ofInt 10) hx hb (hd 81 (.bipush 10) 2 rfl) (by decide) ?_
    refine zh_isub hx hb (hd 83 .isub 1 rfl) ?_
    refine zicmp_W (tgt := 167) hx hb (hd 84 (.if_icmp .gt 83) 3 rfl) (by decide) (a := i) (b := what - 10) (by omega) (by omega) (by omega) (by omega) (fun hc => ?_) (fun hc => ?_)
    · have hc1 : (what - 10) < i := hc
      refine lv_iload_n hx hb (hd 167 (.iload_n 1) 1 rfl) rfl (lv_at hl 5 rfl) ?_
      refine lv_bipush (v := Int32.ofInt 10) hx hb (hd 168 (.bipush 10) 2 rfl) (by decide) ?_
      refine zh_isub hx hb (hd 170 .isub 1 rfl) ?_
      refine lv_iload_n hx hb (hd 171 (.iload_n 3) 1 rfl) rfl (lv_at hl 3 rfl) ?_
      refine zicmp_W (tgt := 180) hx hb (hd 172 (.if_icmp .ge 8) 3 rfl) (by decide) (a := what - 10) (b := many) (by omega) (by omega) (by omega) (by omega) (fun hc => ?_) (fun hc => ?_)
      · have hc2 : many ≤ (what - 10) := hc
        refine lv_bipush (v := Int32.ofInt (-4)) hx hb (hd 180 (.bipush (-4)) 2 rfl) (by decide) ?_
        exact ret (-4) ls (by omega) (by omega)
      · have hc2 : ¬ (many ≤ (what - 10)) := hc
        refine lv_iload hx hb (hd 175 (.iload 5) 2 rfl) (lv_at hl 1 rfl) ?_
        refine lv_goto (tgt := 182) hx hb (hd 177 (.goto 5) 3 rfl) (by decide) ?_
        exact ret f ls (by omega) (by omega)
    · have hc1 : ¬ ((what - 10) < i) := hc
      omega
  | succ n ih =>
    intro i f v L ls hn i0 i1 v0 v1 L0 L1 f0 hF hl
    refine lv_iload hx hb (hd 78 (.iload 6) 2 rfl) (lv_at hl 0 rfl) ?_
    refine lv_iload_n hx hb (hd 80 (.iload_n 1) 1 rfl) rfl (lv_at hl 5 rfl) ?_
    refine lv_bipush (v := Int32.ofInt 10) hx hb (hd 81 (.bipush 10) 2 rfl) (by decide) ?_
    refine zh_isub hx hb (hd 83 .isub 1 rfl) ?_
    refine zicmp_W (tgt := 167) hx hb (hd 84 (.if_icmp .gt 83) 3 rfl) (by decide) (a := i) (b := what - 10) (by omega) (by omega) (by omega) (by omega) (fun hc => ?_) (fun hc => ?_)
    · have hc1 : (what - 10) < i := hc
      refine lv_iload_n hx hb (hd 167 (.iload_n 1) 1 rfl) rfl (lv_at hl 5 rfl) ?_
      refine lv_bipush (v := Int32.ofInt 10) hx hb (hd 168 (.bipush 10) 2 rfl) (by decide) ?_
      refine zh_isub hx hb (hd 170 .isub 1 rfl) ?_
      refine lv_iload_n hx hb (hd 171 (.iload_n 3) 1 rfl) rfl (lv_at hl 3 rfl) ?_
      refine zicmp_W (tgt := 180) hx hb (hd 172 (.if_icmp .ge 8) 3 rfl) (by decide) (a := what - 10) (b := many) (by omega) (by omega) (by omega) (by omega) (fun hc => ?_) (fun hc => ?_)
      · have hc2 : many ≤ (what - 10) := hc
        refine lv_bipush (v := Int32.ofInt (-4)) hx hb (hd 180 (.bipush (-4)) 2 rfl) (by decide) ?_
        exact ret (-4) ls (by omega) (by omega)
      · have hc2 : ¬ (many ≤ (what - 10)) := hc
        refine lv_iload hx hb (hd 175 (.iload 5) 2 rfl) (lv_at hl 1 rfl) ?_
        refine lv_goto (tgt := 182) hx hb (hd 177 (.goto 5) 3 rfl) (by decide) ?_
        exact ret f ls (by omega) (by omega)
    · have hc1 : ¬ ((what - 10) < i) := hc
      refine lv_iload hx hb (hd 87 (.iload 6) 2 rfl) (lv_at hl 0 rfl) ?_
      refine lv_iload_n hx hb (hd 89 (.iload_n 3) 1 rfl) rfl (lv_at hl 3 rfl) ?_
      refine zicmp_W (tgt := 167) hx hb (hd 90 (.if_icmp .ge 77) 3 rfl) (by decide) (a := i) (b := many) (by omega) (by omega) (by omega) (by omega) (fun hc => ?_) (fun hc => ?_)
      · have hc3 : many ≤ i := hc
        refine lv_iload_n hx hb (hd 167 (.iload_n 1) 1 rfl) rfl (lv_at hl 5 rfl) ?_
        refine lv_bipush (v := Int32.ofInt 10) hx hb (hd 168 (.bipush 10) 2 rfl) (by decide) ?_
        refine zh_isub hx hb (hd 170 .isub 1 rfl) ?_
        refine lv_iload_n hx hb (hd 171 (.iload_n 3) 1 rfl) rfl (lv_at hl 3 rfl) ?_
        refine zicmp_W (tgt := 180) hx hb (hd 172 (.if_icmp .ge 8) 3 rfl) (by decide) (a := what - 10) (b := many) (by omega) (by omega) (by omega) (by omega) (fun hc => ?_) (fun hc => ?_)
        · have hc4 : many ≤ (what - 10) := hc
          refine lv_bipush (v := Int32.ofInt (-4)) hx hb (hd 180 (.bipush (-4)) 2 rfl) (by decide) ?_
          exact ret (-4) ls (by omega) (by omega)
        · have hc4 : ¬ (many ≤ (what - 10)) := hc
          refine lv_iload hx hb (hd 175 (.iload 5) 2 rfl) (lv_at hl 1 rfl) ?_
          refine lv_goto (tgt := 182) hx hb (hd 177 (.goto 5) 3 rfl) (by decide) ?_
          exact ret f ls (by omega) (by omega)
      · have hc3 : ¬ (many ≤ i) := hc
        exact zpl_find (A := A) hx hb hts hown hK w0 w1 m0 m1 hT hok hP i0 (by omega) (by omega) L0 L1 f0.1 f0.2 (fun f v L ls v0 v1 L0 L1 f0 hF hl => ih (i + 1) f v L ls (by omega) (by omega) (by omega) v0 v1 L0 L1 f0 hF hl) 700 v ls (by omega) v0 v1 hF hl
set_option maxHeartbeats 4000000 in
set_option maxRecDepth 100000 in
theorem zpl_mid {p : Program} {l : Launch} {e : Env} {R : Room} {s : State} {m : MethodId} {args : Array Value} {below : List Frame} {meth : Method} {c : Code} {Q : State → Prop} {D : va_G} {kA : Nat → ClassId} {A : Nat → Prop} {r : Nat → Int} {ad : Nat → Nat} (hx : p.tables.exec = Jvm.exec) (hb : c.code = cX8_plan) (hts : ∀ w ∈ wsX8_plan, w.before args s = true) (hown : s.vm.findClass RX8 = some m.cls) (hK : va_K D vwCl (ztys kA) s) (hE : zokE r ze_X8_findCovers) {ph : Nat → Nat → Int} {H : Heap} {locs : List Loc} {what : Int} (hwh : what = 0 ∨ (10 ≤ what ∧ what ≤ 13)) (hT : zFI (ph 10) (ph 11) (-1) 0) (hok : zokW r ph zw1) (hP : va_P D vwCl (zws kA r ad ph zw1) H) (ret : ∀ (x : Int) (ls : Array Slot), -2147483648 ≤ x → x ≤ 2147483647 → W p l e R s m args below meth c H locs 0 0 Q (F0 m 182 ls [.int (Int32.ofInt x)])) (ret67 : ∀ (x : Int) (ls : Array Slot), -2147483648 ≤ x → x ≤ 2147483647 → W p l e R s m args below meth c H locs 0 0 Q (F0 m 67 ls [.int (Int32.ofInt x)])) {ls : Array Slot} (hl : lv_has ls 7 [(1, .int (Int32.ofInt what)), (0, .ref (ad 0))]) : W p l e R s m args below meth c H locs 0 0 Q (F0 m 24 ls []) := by
  have hw0 : zw1[0]? = some (0, .inl (8, [zr 1, zr 2, zr 3, zi 1 0, zi 2 0, zi 3 0, zr 4, zr 5, zi 4 0, zi 5 0, zi 6 0, zi 7 0, zr 6, zr 7, zi 8 0, zi 9 0, zr 8, zi 10 0, zi 11 0, zi 12 0, zi 13 0, zi 14 0, zi 15 0, zi 16 0, zr 9, zi 17 0, zi 18 0, zr 10, zr 11, zr 12, zr 13, zr 14, zi 19 0])) := rfl
  have hw10 : zw1[10]? = some (10, .inr (.inl (0, 700, [(700, .inl ((-2147483648), 2147483647))], []))) := rfl
  have hw11 : zw1[11]? = some (11, .inr (.inl (0, 11216, [(11216, .inl ((-2147483648), 2147483647))], []))) := rfl
  obtain ⟨gs1, hw1⟩ : ∃ gs, zw1[1]? = some (1, .inr (.inl (0, 393, gs, []))) := ⟨_, rfl⟩
  have hd := zpr_all hp_X8_plan
  have hwant : 0 ≤ ph 1 (118 : Int).toNat ∧ ph 1 (118 : Int).toNat ≤ 4 := zpl_want hE hok
  have hsh := zsh_b hwant.1 hwant.2
  have hm := hT 0 ((zsh 1 (ph 1 (118 : Int).toNat)) - 1) (by omega) (by omega) (by omega) (by omega) (Or.inl (by omega))
  have hm0 : 0 ≤ ph 11 ((zsh 1 (ph 1 (118 : Int).toNat)) - 1).toNat ∧ ph 11 ((zsh 1 (ph 1 (118 : Int).toNat)) - 1).toNat ≤ 1000000 := by
    have a := hm.1
    have b := hm.2.1
    rw [Int.mul_zero, Int.zero_add] at a b
    exact ⟨a, b⟩
  refine lv_iconst (v := Int32.ofInt 1) hx hb (hd 24 (.iconst 1) 1 rfl) (by decide) ?_
  refine lv_aload_n hx hb (hd 25 (.aload_n 0) 1 rfl) rfl (lv_at hl 1 rfl) ?_
  refine va_get (C := RX8) (T := TX8) (N := 33) (ci := 8) (v := .ref (ad 1)) hx hb hts (fun w h => List.mem_cons_of_mem _ (List.mem_append_right _ h)) hown hK hP 0 (zws_get kA r ad ph (i := 0) hw0) rfl 0 (by decide) (hts (.fieldLink RX8 7 "VowTerraceModel" "st" "[I") (List.mem_of_getElem? (i := 3) rfl)) (fun _ h => h) rfl (hd 26 (.getfield 7) 3 rfl) ?_
  refine lv_bipush (v := Int32.ofInt 118) hx hb (hd 29 (.bipush 118) 2 rfl) (by decide) ?_
  refine zh_ld hx hb hK hP hw1 (x := 118) (by omega) (by omega) (Nat.le_of_ble_eq_true rfl) (hd 31 .iaload 1 rfl) ?_
  refine zh_ishl hx hb (hd 32 .ishl 1 rfl) ?_
  refine lv_iconst (v := Int32.ofInt 1) hx hb (hd 33 (.iconst 1) 1 rfl) (by decide) ?_
  refine zh_isub hx hb (hd 34 .isub 1 rfl) ?_
  refine lv_istore_n (lv' := [(2, .int (Int32.ofInt ((zsh 1 (ph 1 (118 : Int).toNat)) - 1))), (1, .int (Int32.ofInt what)), (0, .ref (ad 0))]) hx hb (hd 35 (.istore_n 2) 1 rfl) rfl hl (by decide) rfl (fun ls hl => ?_)
  refine lv_aload_n hx hb (hd 36 (.aload_n 0) 1 rfl) rfl (lv_at hl 2 rfl) ?_
  refine va_get (C := RX8) (T := TX8) (N := 33) (ci := 8) (v := .ref (ad 11)) hx hb hts (fun w h => List.mem_cons_of_mem _ (List.mem_append_right _ h)) hown hK hP 0 (zws_get kA r ad ph (i := 0) hw0) rfl 28 (by decide) (hts (.fieldLink RX8 41 "VowTerraceModel" "fewest" "[I") (List.mem_of_getElem? (i := 4) rfl)) (fun _ h => h) rfl (hd 37 (.getfield 41) 3 rfl) ?_
  refine lv_iload_n hx hb (hd 40 (.iload_n 2) 1 rfl) rfl (lv_at hl 0 rfl) ?_
  refine zh_ld hx hb hK hP hw11 (x := (zsh 1 (ph 1 (118 : Int).toNat)) - 1) (by omega) (by omega) (Nat.le_of_ble_eq_true rfl) (hd 41 .iaload 1 rfl) ?_
  refine lv_istore_n (lv' := [(3, .int (Int32.ofInt (ph 11 ((zsh 1 (ph 1 (118 : Int).toNat)) - 1).toNat))), (2, .int (Int32.ofInt ((zsh 1 (ph 1 (118 : Int).toNat)) - 1))), (1, .int (Int32.ofInt what)), (0, .ref (ad 0))]) hx hb (hd 42 (.istore_n 3) 1 rfl) rfl hl (by decide) rfl (fun ls hl => ?_)
  refine lv_iload_n hx hb (hd 43 (.iload_n 3) 1 rfl) rfl (lv_at hl 0 rfl) ?_
  refine lv_ldcw (own := RX8) (index := 289) (v := Int32.ofInt 1000000) hx hb hown (hts _ (List.mem_of_getElem? (i := 5) rfl)) (hd 44 (.ldc_w 289) 3 rfl) ?_
  refine zicmp_W (tgt := 54) hx hb (hd 47 (.if_icmp .ge 7) 3 rfl) (by decide) (a := ph 11 ((zsh 1 (ph 1 (118 : Int).toNat)) - 1).toNat) (b := 1000000) (by omega) (by omega) (by omega) (by omega) (fun hc => ?_) (fun hc => ?_)
  · have hc1 : 1000000 ≤ (ph 11 ((zsh 1 (ph 1 (118 : Int).toNat)) - 1).toNat) := hc
    refine lv_iload_n hx hb (hd 54 (.iload_n 3) 1 rfl) rfl (lv_at hl 0 rfl) ?_
    refine lv_ldcw (own := RX8) (index := 289) (v := Int32.ofInt 1000000) hx hb hown (hts _ (List.mem_of_getElem? (i := 5) rfl)) (hd 55 (.ldc_w 289) 3 rfl) ?_
    refine zicmp_W (tgt := 66) hx hb (hd 58 (.if_icmp .lt 8) 3 rfl) (by decide) (a := ph 11 ((zsh 1 (ph 1 (118 : Int).toNat)) - 1).toNat) (b := 1000000) (by omega) (by omega) (by omega) (by omega) (fun hc => ?_) (fun hc => ?_)
    · have hc2 : (ph 11 ((zsh 1 (ph 1 (118 : Int).toNat)) - 1).toNat) < 1000000 := hc
      refine lv_iload_n hx hb (hd 66 (.iload_n 3) 1 rfl) rfl (lv_at hl 0 rfl) ?_
      exact ret67 (ph 11 ((zsh 1 (ph 1 (118 : Int).toNat)) - 1).toNat) ls (by omega) (by omega)
    · have hc2 : ¬ ((ph 11 ((zsh 1 (ph 1 (118 : Int).toNat)) - 1).toNat) < 1000000) := hc
      refine lv_bipush (v := Int32.ofInt (-4)) hx hb (hd 61 (.bipush (-4)) 2 rfl) (by decide) ?_
      refine lv_goto (tgt := 67) hx hb (hd 63 (.goto 4) 3 rfl) (by decide) ?_
      exact ret67 (-4) ls (by omega) (by omega)
  · have hc1 : ¬ (1000000 ≤ (ph 11 ((zsh 1 (ph 1 (118 : Int).toNat)) - 1).toNat)) := hc
    refine lv_iload_n hx hb (hd 50 (.iload_n 1) 1 rfl) rfl (lv_at hl 2 rfl) ?_
    refine zif_W (tgt := 68) hx hb (hd 51 (.ifCond .ne 17) 3 rfl) (by decide) (a := what) (by omega) (by omega) (fun hc => ?_) (fun hc => ?_)
    · have hc3 : ¬ what = 0 := hc
      refine lv_iconst (v := Int32.ofInt 0) hx hb (hd 68 (.iconst 0) 1 rfl) (by decide) ?_
      refine lv_istore (lv' := [(4, .int (Int32.ofInt 0)), (3, .int (Int32.ofInt (ph 11 ((zsh 1 (ph 1 (118 : Int).toNat)) - 1).toNat))), (2, .int (Int32.ofInt ((zsh 1 (ph 1 (118 : Int).toNat)) - 1))), (1, .int (Int32.ofInt what)), (0, .ref (ad 0))]) hx hb (hd 69 (.istore 4) 2 rfl) hl (by decide) rfl (fun ls hl => ?_)
      refine lv_bipush (v := Int32.ofInt (-4)) hx hb (hd 71 (.bipush (-4)) 2 rfl) (by decide) ?_
      refine lv_istore (lv' := [(5, .int (Int32.ofInt (-4))), (4, .int (Int32.ofInt 0)), (3, .int (Int32.ofInt (ph 11 ((zsh 1 (ph 1 (118 : Int).toNat)) - 1).toNat))), (2, .int (Int32.ofInt ((zsh 1 (ph 1 (118 : Int).toNat)) - 1))), (1, .int (Int32.ofInt what)), (0, .ref (ad 0))]) hx hb (hd 73 (.istore 5) 2 rfl) hl (by decide) rfl (fun ls hl => ?_)
      refine lv_iconst (v := Int32.ofInt 0) hx hb (hd 75 (.iconst 0) 1 rfl) (by decide) ?_
      refine lv_istore (lv' := [(6, .int (Int32.ofInt 0)), (5, .int (Int32.ofInt (-4))), (4, .int (Int32.ofInt 0)), (3, .int (Int32.ofInt (ph 11 ((zsh 1 (ph 1 (118 : Int).toNat)) - 1).toNat))), (2, .int (Int32.ofInt ((zsh 1 (ph 1 (118 : Int).toNat)) - 1))), (1, .int (Int32.ofInt what)), (0, .ref (ad 0))]) hx hb (hd 76 (.istore 6) 2 rfl) hl (by decide) rfl (fun ls hl => ?_)
      exact zpl_loop (A := A) hx hb hts hown hK (many := ph 11 ((zsh 1 (ph 1 (118 : Int).toNat)) - 1).toNat) (by omega) (by omega) (by omega) (by omega) hT hok hP ret 4 0 (-4) 0 ((zsh 1 (ph 1 (118 : Int).toNat)) - 1) ls (by omega) (by omega) (by omega) (by omega) (by omega) (by omega) (by omega) (by omega) (by rw [Int.mul_zero, Int.zero_add, Int.sub_zero]) (lv_sub hl [0, 1, 2, 3, 4, 5, 6] rfl)
    · have hc3 : ¬ (¬ what = 0) := hc
      refine lv_iload_n hx hb (hd 54 (.iload_n 3) 1 rfl) rfl (lv_at hl 0 rfl) ?_
      refine lv_ldcw (own := RX8) (index := 289) (v := Int32.ofInt 1000000) hx hb hown (hts _ (List.mem_of_getElem? (i := 5) rfl)) (hd 55 (.ldc_w 289) 3 rfl) ?_
      refine zicmp_W (tgt := 66) hx hb (hd 58 (.if_icmp .lt 8) 3 rfl) (by decide) (a := ph 11 ((zsh 1 (ph 1 (118 : Int).toNat)) - 1).toNat) (b := 1000000) (by omega) (by omega) (by omega) (by omega) (fun hc => ?_) (fun hc => ?_)
      · have hc4 : (ph 11 ((zsh 1 (ph 1 (118 : Int).toNat)) - 1).toNat) < 1000000 := hc
        refine lv_iload_n hx hb (hd 66 (.iload_n 3) 1 rfl) rfl (lv_at hl 0 rfl) ?_
        exact ret67 (ph 11 ((zsh 1 (ph 1 (118 : Int).toNat)) - 1).toNat) ls (by omega) (by omega)
      · have hc4 : ¬ ((ph 11 ((zsh 1 (ph 1 (118 : Int).toNat)) - 1).toNat) < 1000000) := hc
        refine lv_bipush (v := Int32.ofInt (-4)) hx hb (hd 61 (.bipush (-4)) 2 rfl) (by decide) ?_
        refine lv_goto (tgt := 67) hx hb (hd 63 (.goto 4) 3 rfl) (by decide) ?_
        exact ret67 (-4) ls (by omega) (by omega)
section ZCF
variable {X : zXT} {p : Program} {l : Launch} {e : Env} {R : Room} {s : State} {m : MethodId} {args : Array Value} {below : List Frame} {meth : Method} {c : Code} {Q : State → Prop} {D : va_G} {kA : Nat → ClassId} {pc cells slots : Nat}
theorem zcallF {H : Heap} {locs : List Loc} {H0 : Heap} {A0 A1 : Nat → Prop} {ls : Array Slot} {st0 rest : List Value} {a : Array Value} {r : Nat → Int} {ad : Nat → Nat} (hr : va_Run p l e R s m args below meth c H locs cells slots 0 0 (F0 m pc ls st0) rest (zQf D kA r ad A1 a) A1) (hS : va_S A0 H0 H locs) (hA : ∀ q, A1 q → A0 q)
    (kk : ∀ (r' : Nat → Int) (ad' : Nat → Nat) (ph' : Nat → Nat → Int) (H1 : Heap) (locs1 : List Loc), zJ 30 zPins r ad r' ad' → zokW r' ph' zw1 → zFI (ph' 10) (ph' 11) (-1) 0 → va_P D vwCl (zws kA r' ad' ph' zw1) H1 → va_D A1 (zws kA r' ad' ph' zw1) → va_S A0 H0 H1 locs1 → W p l e R s m args below meth c H1 locs1 cells slots Q (F0 m (pc + 3) ls rest)) : W p l e R s m args below meth c H locs cells slots Q (F0 m pc ls st0) := by
  intro T hT Xs
  obtain ⟨v, st₀, t, T', L, h0, X', hL, e1, e2, ⟨⟨r', ad', ph', j1, j2, j3, hv, j5, j6⟩, hz, hk⟩, st⟩ := hr T hT Xs
  cases hv
  rw [h0] at hz hk
  rw [← e1] at j5
  obtain ⟨t2, a1, b1⟩ := kk r' ad' ph' T'.heap (locs ++ L) j1 j2 j3 j5 j6
    ⟨Nat.le_trans hS.1 (by rw [e1]; exact hz), fun q h1 h2 => by rw [e1, hk q (Nat.lt_of_lt_of_le h1 hS.1) (fun z => h2 (hA q z))]; exact hS.2.1 q h1 h2, fun q hq => by
      rcases List.mem_append.mp hq with h | h
      · exact hS.2.2 q h
      · exact hA _ (hL q h)⟩ T' rfl X'
  exact ⟨t2, st t2 a1, b1⟩
end ZCF
set_option maxHeartbeats 4000000 in
set_option maxRecDepth 100000 in
theorem c_X8_plan {X : zXT} (hX : zXok X) (hN : zXn X) (l : Launch) : zMet X vwCl l yX8_plan wsX8_plan { frames := 8, cells := 0, slots := 0, locals := 239 } k_X8_plan := by
  intro D kA r ad ph sz hE hZ hok
  refine Met.ofW (cc := cX8_plan) (maxL := 7) (ret := some .int) (by decide +kernel) rfl ?_
  intro p e s m args below meth c s₁ B hml hv
  obtain ⟨rfl, hsz, hP, hK, hD0, hx0⟩ := hv
  have hx := B.exec
  have hb := B.bytes
  have hr := B.returns
  have hts := atoms_spec (ws := wsX8_plan) B.pre
  have hown : s.vm.findClass RX8 = some m.cls := findClass_of_methodNamed B.named
  have hlocks := B.notSynchronized
  have hd := zpr_all hp_X8_plan
  subst hsz
  have hE1 : zokE r ze_X8_findCovers := ⟨hE.1, fun x hx => hE.2 x (List.mem_append_left _ hx)⟩
  have hwb : -2147483648 ≤ r 30 ∧ r 30 ≤ 2147483647 := hE.2 (30, ((-2147483648), 2147483647)) (List.mem_append_right _ List.mem_cons_self)
  have hok : zokW r ph zw1 := hok
  have hP : va_P D vwCl (zws kA r ad ph zw1) s.heap := hP
  have hD0 : va_D (fun _ => True) (zws kA r ad ph zw1) := hD0
  have hD := hD0.self (sz := s.heap.size)
  have hA : ∀ q : Nat, s.heap.size ≤ q → va_A (zws kA r ad ph zw1) s.heap.size q := fun q h => Or.inr h
  show W _ _ _ _ _ _ _ _ _ _ _ _ _ _ (MQ below (zQc D vwCl kA k_X8_plan r ad (va_A (zws kA r ad ph zw1) s.heap.size)) _ s 0 0 (va_A (zws kA r ad ph zw1) s.heap.size)) _
  have hx0 : X (va_A (zws kA r ad ph zw1) s.heap.size) s s.heap := hx0
  generalize hAe : va_A (zws kA r ad ph zw1) s.heap.size = A at hD hA hx0 ⊢
  have hS : va_S A s.heap s.heap [] := va_S.rf
  obtain ⟨what, hwhat⟩ : ∃ w, w = zev r (30, 0) := ⟨_, rfl⟩
  have hwe : what = r 30 := by rw [hwhat]; unfold zev; dsimp only; omega
  have eav : k_X8_plan.2.2.1.2.2.2.1.map (zcv r ad) = [.ref (ad 0), .int (Int32.ofInt what)] := by rw [hwhat]; rfl
  rw [eav] at hts ⊢
  have hl := lv_entry ([.ref (ad 0), .int (Int32.ofInt what)]) (n := 7) (Nat.le_of_ble_eq_true rfl)
  rw [lg_entry_eq]
  generalize (lg_sl ([.ref (ad 0), .int (Int32.ofInt what)]) ++ List.replicate (7 - (lg_sl ([.ref (ad 0), .int (Int32.ofInt what)])).length) Slot.unset).toArray = ls at hl ⊢
  have hl : lv_has ls 7 [(0, .ref (ad 0)), (1, .int (Int32.ofInt what))] := hl
  have hbl : zw1.all (fun x => zbC 30 x.2) = true := by decide +kernel
  have post : ∀ (ad' : Nat → Nat) (ph' : Nat → Nat → Int) (H : Heap) (locs : List Loc), (∀ i ∈ zPins, ad' i = ad i) → zokW r ph' zw1 → va_P D vwCl (zws kA r ad' ph' zw1) H → va_D A (zws kA r ad' ph' zw1) → va_S A s.heap H locs → ∀ (x : Int), -2147483648 ≤ x → x ≤ 2147483647 → ∀ t : State, t.heap = H → s.WarmedH t.vm → zQc D vwCl kA k_X8_plan r ad A ([.ref (ad 0), .int (Int32.ofInt what)] : List Value).toArray s (.returned (some (.int (Int32.ofInt x)))) t := by
    intro ad' ph' H locs hpi hok hP hD hS x x0 x1 t ht hW
    have hag : ∀ i, i < 30 → (fun i => if i = 31 then x else r i) i = r i := fun i hi => if_neg (by omega)
    have eW := zbW_eq hag kA ad' ph' hbl
    refine ⟨⟨_, List.mem_cons_of_mem _ List.mem_cons_self, fun i => if i = 31 then x else r i, ad', ph', ⟨fun i hi => if_neg (by have : i < 31 := hi; omega), hpi⟩, ⟨?_, fun q hq => ?_⟩, (fun z hz => by cases hz), fun y hy => zbC_ok hag (ph' y.1) (List.all_eq_true.mp hbl y hy) (hok y hy), ?_, ?_, ?_⟩, hS.F ht⟩
    · show (if (0 : Nat) = 31 then x else r 0) = 0
      rw [if_neg (by omega)]
      exact hE.1
    · obtain rfl := List.mem_singleton.mp hq
      show -2147483648 ≤ (if (31 : Nat) = 31 then x else r 31) ∧ (if (31 : Nat) = 31 then x else r 31) ≤ 2147483647
      rw [if_pos rfl]
      exact ⟨x0, x1⟩
    · show Outcome.returned (some (.int (Int32.ofInt x))) = .returned (some (.int (Int32.ofInt (zev _ (31, 0)))))
      unfold zev
      dsimp only
      rw [if_pos rfl, Int.add_zero]
    · rw [ht]
      show va_P D vwCl (zws kA (fun i => if i = 31 then x else r i) ad' ph' zw1) H
      rw [eW]
      exact hP
    · show va_D A (zws kA (fun i => if i = 31 then x else r i) ad' ph' zw1)
      rw [eW]
      exact hD
  have main : ∀ (H : Heap) (locs : List Loc) (ls : Array Slot), (what = 0 ∨ (10 ≤ what ∧ what ≤ 13)) → va_P D vwCl (zws kA r ad ph zw1) H → va_D A (zws kA r ad ph zw1) → va_S A s.heap H locs → lv_has ls 7 [(1, .int (Int32.ofInt what)), (0, .ref (ad 0))] → W p l e (headSpec wsX8_plan { frames := 8, cells := 0, slots := 0, locals := 239 }).room s m ([.ref (ad 0), .int (Int32.ofInt what)] : List Value).toArray below meth c H locs 0 0 (MQ below (zQc D vwCl kA k_X8_plan r ad A) ([.ref (ad 0), .int (Int32.ofInt what)] : List Value).toArray s 0 0 A) (F0 m 20 ls []) := by
    intro H locs ls hwh hP hD hS hl
    refine lv_aload_n hx hb (hd 20 (.aload_n 0) 1 rfl) rfl (lv_at hl 1 rfl) ?_
    have hF : ∀ q, va_A (zws kA r ad ph zw1) H.size q → A q := fun q h => by
      rcases h with ⟨j, e, h⟩ | h
      · exact hD.2 j (q, e) h
      · exact hA q (Nat.le_trans hS.1 h)
    have hxA : X (va_A (zws kA r ad ph zw1) H.size) s H := hX.2.2.2 A _ s H hF (hX.2.2.1 A s s.heap H (fun a h1 h2 => hS.2.1 a h1 h2) hx0)
    have hw0 : zw1[0]? = some (0, .inl (8, [zr 1, zr 2, zr 3, zi 1 0, zi 2 0, zi 3 0, zr 4, zr 5, zi 4 0, zi 5 0, zi 6 0, zi 7 0, zr 6, zr 7, zi 8 0, zi 9 0, zr 8, zi 10 0, zi 11 0, zi 12 0, zi 13 0, zi 14 0, zi 15 0, zi 16 0, zr 9, zi 17 0, zi 18 0, zr 10, zr 11, zr 12, zr 13, zr 14, zi 19 0])) := rfl
    refine zcallF (va_runV (As := []) (b := ad 0) (rest := []) ⟨hx, hb, hml, hown, hts⟩ (c_X8_findFewest hX hN l D kA r ad ph H.size hE1 hok) (cwV 0 hts gX8_plan_X8_findFewest rfl rfl rfl (by decide +kernel) ⟨Nat.le_of_ble_eq_true rfl, Nat.le_of_ble_eq_true rfl⟩) ⟨zBf_blind hX, va_recv hK hP (ci := 8) (q0 := 0) rfl (zws_get kA r ad ph hw0), fun U hU hWm => zBf_of (av := [.ref (ad 0)]) hX hK hP (hD.weaken (fun _ _ _ _ => trivial)) hxA U hU hWm⟩ rfl rfl hl.1 rfl (lv_room (Nat.zero_le _)) (hd 21 (.invokevirtual 292) 3 rfl) ⟨Nat.zero_le _, Nat.zero_le _⟩) hS hF (fun r' ad' ph' H locs j1 hok hT hP hD hS => ?_)
    have hag : ∀ i, i < 30 → r i = r' i := fun i hi => (j1.1 i hi).symm
    have eW := zbW_eq hag kA ad' ph' hbl
    rw [← eW] at hP hD
    have hok : zokW r ph' zw1 := fun y hy => zbC_ok hag (ph' y.1) (List.all_eq_true.mp hbl y hy) (hok y hy)
    have hD := hD.weaken (fun i x _ h => hF x.1 h)
    have ha : ad' 0 = ad 0 := j1.2 0 (by decide)
    rw [← ha] at hl
    exact zpl_mid (A := A) hx hb hts hown hK hE1 hwh hT hok hP (fun x ls x0 x1 => W.iret hx hb hr (post ad' ph' H locs j1.2 hok hP hD hS x x0 x1) hS.2.2 (hd 182 .ireturn 1 rfl) hlocks) (fun x ls x0 x1 => W.iret hx hb hr (post ad' ph' H locs j1.2 hok hP hD hS x x0 x1) hS.2.2 (hd 67 .ireturn 1 rfl) hlocks) hl
  refine lv_iload_n hx hb (hd 0 (.iload_n 1) 1 rfl) rfl (lv_at hl 1 rfl) ?_
  refine zif_W (tgt := 20) hx hb (hd 1 (.ifCond .eq 19) 3 rfl) (by decide) (a := what) (by omega) (by omega) (fun hc => ?_) (fun hc => ?_)
  · exact main s.heap [] ls (Or.inl hc) hP hD hS (lv_sub hl [1, 0] rfl)
  · refine lv_iload_n hx hb (hd 4 (.iload_n 1) 1 rfl) rfl (lv_at hl 1 rfl) ?_
    refine lv_i2l (v := Int64.ofInt what) hx hb (hd 5 .i2l 1 rfl) (zq_i2l (by omega) (by omega)) ?_
    refine lv_ldc2 (own := RX8) (index := 220) (v := Int64.ofInt 10) hx hb hown (hts _ (List.mem_of_getElem? (i := 1) rfl)) (hd 6 (.ldc2_w 220) 3 rfl) ?_
    refine lv_ldc2 (own := RX8) (index := 290) (v := Int64.ofInt 13) hx hb hown (hts _ (List.mem_of_getElem? (i := 2) rfl)) (hd 9 (.ldc2_w 290) 3 rfl) ?_
    obtain ⟨rr, hrr⟩ : ∃ rr : Nat → Int, rr = fun i => if i = 0 then 0 else if i = 1 then what else if i = 2 then 10 else 13 := ⟨_, rfl⟩
    have q0 : rr 0 = 0 := by rw [hrr]; rfl
    have q1 : rr 1 = what := by rw [hrr]; rfl
    have q2 : rr 2 = 10 := by rw [hrr]; rfl
    have q3 : rr 3 = 13 := by rw [hrr]; rfl
    have hst : [.long (Int64.ofInt 13), .long (Int64.ofInt 10), .long (Int64.ofInt what)] = (k_X8_in.2.2.1.2.2.2.1.map (zcv rr ad)).reverse ++ ([] : List Value) := by
      show _ = [Value.long (Int64.ofInt (rr 3 + 0)), Value.long (Int64.ofInt (rr 2 + 0)), Value.long (Int64.ofInt (rr 1 + 0))]
      rw [q1, q2, q3, Int.add_zero, Int.add_zero, Int.add_zero]
    show W _ _ _ _ _ _ _ _ _ _ _ _ _ _ _ (F0 m 12 ls [.long (Int64.ofInt 13), .long (Int64.ofInt 10), .long (Int64.ofInt what)])
    rw [hst]
    have hF : ∀ q, va_A [] s.heap.size q → A q := fun q h => by
      rcases h with ⟨j, e, h⟩ | h
      · simp at h
      · exact hA q h
    have hcal := zcal_S (X := X) (R := (headSpec wsX8_plan { frames := 8, cells := 0, slots := 0, locals := 239 }).room) (p := p) (e := e) (below := below) (meth := meth) hX ⟨hx, hb, hml, hown, hts⟩ (c_X8_in hX hN l) (va_cwS 3 hts gX8_plan_X8_in rfl rfl rfl (by decide +kernel) ⟨Nat.le_of_ble_eq_true rfl, Nat.le_of_ble_eq_true rfl⟩) rfl
    have hrun := hcal D kA rr ad ph s.heap [] ls 12 [] hK ⟨q0, fun x hx => by
      have hx : x ∈ ze_X8_in := hx
      simp only [ze_X8_in, List.mem_cons, List.not_mem_nil, or_false] at hx
      rcases hx with rfl | rfl | rfl
      · show -9223372036854775808 ≤ rr 1 ∧ rr 1 ≤ 9223372036854775807
        rw [q1]
        omega
      · show -9223372036854775808 ≤ rr 2 ∧ rr 2 ≤ 9223372036854775807
        rw [q2]
        omega
      · show -9223372036854775808 ≤ rr 3 ∧ rr 3 ≤ 9223372036854775807
        rw [q3]
        omega⟩ (fun x hx => by cases hx) (fun x hx => by cases hx) (fun k q h => by simp [zws, k_X8_in] at h) ⟨fun i j p q h => by simp [zws, k_X8_in] at h, fun k q h => by simp [zws, k_X8_in] at h⟩ (hX.2.2.2 A _ s s.heap hF hx0) hl.1 (Nat.zero_le _) (hd 12 (.invokestatic 90) 3 rfl)
    refine zcallzG hrun hS hF (fun T hT r' ad' ph' H1 locs1 j1 j2 j3 j4 j5 j6 j7 j8 => ?_)
    have hP1 : va_P D vwCl (zws kA r ad ph zw1) H1 := hP.kept (fun i x hx => j7 x.1 (hP i x hx).lt (fun h => by
      rcases h with ⟨j, e, h⟩ | h
      · simp [zws, k_X8_in] at h
      · have := (hP i x hx).lt
        omega))
    have e0 : r' 0 = 0 := j2.1
    have e1 : r' 1 = what := (j1.1 1 (by decide)).trans q1
    have e2 : r' 2 = 10 := (j1.1 2 (by decide)).trans q2
    have e3 : r' 3 = 13 := (j1.1 3 (by decide)).trans q3
    have bad : W p l e (headSpec wsX8_plan { frames := 8, cells := 0, slots := 0, locals := 239 }).room s m ([.ref (ad 0), .int (Int32.ofInt what)] : List Value).toArray below meth c H1 locs1 0 0 (MQ below (zQc D vwCl kA k_X8_plan r ad A) ([.ref (ad 0), .int (Int32.ofInt what)] : List Value).toArray s 0 0 A) (F0 m 15 ls [.int (Int32.ofInt 0)]) := by
      refine zif_W (tgt := 20) hx hb (hd 15 (.ifCond .ne 5) 3 rfl) (by decide) (a := 0) (by omega) (by omega) (fun hc => absurd rfl hc) (fun hc => ?_)
      refine lv_iconst (v := Int32.ofInt (-1)) hx hb (hd 18 (.iconst (-1)) 1 rfl) (by decide) ?_
      exact W.iret hx hb hr (post ad ph H1 locs1 (fun _ _ => rfl) hok hP1 hD j8 (-1) (by omega) (by omega)) j8.2.2 (hd 19 .ireturn 1 rfl) hlocks
    have hz : ∀ k : Int, zev r' (0, k) = k := fun k => zconst e0 k
    simp only [k_X8_in, List.mem_cons, List.not_mem_nil, or_false] at hT
    rcases hT with rfl | rfl | rfl
    · have : [Value.int (Int32.ofInt (zev r' (0, 0)))] = [.int (Int32.ofInt 0)] := by rw [hz]
      show W _ _ _ _ _ _ _ _ _ _ _ _ _ _ _ (F0 m 15 ls [.int (Int32.ofInt (zev r' (0, 0)))])
      rw [this]
      exact bad
    · have : [Value.int (Int32.ofInt (zev r' (0, 0)))] = [.int (Int32.ofInt 0)] := by rw [hz]
      show W _ _ _ _ _ _ _ _ _ _ _ _ _ _ _ (F0 m 15 ls [.int (Int32.ofInt (zev r' (0, 0)))])
      rw [this]
      exact bad
    · have : [Value.int (Int32.ofInt (zev r' (0, 1)))] = [.int (Int32.ofInt 1)] := by rw [hz]
      show W _ _ _ _ _ _ _ _ _ _ _ _ _ _ _ (F0 m 15 ls [.int (Int32.ofInt (zev r' (0, 1)))])
      rw [this]
      refine zif_W (tgt := 20) hx hb (hd 15 (.ifCond .ne 5) 3 rfl) (by decide) (a := 1) (by omega) (by omega) (fun hc => ?_) (fun hc => absurd (by decide : ¬ (1 : Int) = 0) hc)
      have z1 : r' 1 - r' 3 ≤ 0 := j3 (1, 3, 0) List.mem_cons_self
      have z2 : r' 2 - r' 1 ≤ 0 := j3 (2, 1, 0) (List.mem_cons_of_mem _ List.mem_cons_self)
      exact main H1 locs1 ls (Or.inr (by omega)) hP1 hD j8 (lv_sub hl [1, 0] rfl)
