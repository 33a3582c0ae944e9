def pr_X1_isName : List (Nat × Instr × Nat) := [(0, .aload_n 0, 1), (1, .getfield 58, 3), (4, .iconst 1, 1), (5, .if_icmp .ne 19, 3), (8, .aload_n 0, 1), (9, .getfield 23, 3), (12, .aload_n 0, 1), (13, .getfield 123, 3), (16, .isub, 1), (17, .aload_n 1, 1), (18, .invokevirtual 224, 3), (21, .if_icmp .eq 5, 3), (24, .iconst 0, 1), (25, .ireturn, 1), (26, .iconst 0, 1), (27, .istore_n 2, 1), (28, .iload_n 2, 1), (29, .aload_n 1, 1), (30, .invokevirtual 224, 3), (33, .if_icmp .ge 33, 3), (36, .aload_n 0, 1), (37, .getfield 12, 3), (40, .getfield 207, 3), (43, .aload_n 0, 1), (44, .getfield 123, 3), (47, .iload_n 2, 1), (48, .iadd, 1), (49, .iaload, 1), (50, .aload_n 1, 1), (51, .iload_n 2, 1), (52, .invokevirtual 229, 3), (55, .if_icmp .eq 5, 3), (58, .iconst 0, 1), (59, .ireturn, 1), (60, .iinc 2 1, 3), (63, .goto (-35), 3), (66, .iconst 1, 1), (67, .ireturn, 1)]
set_option maxRecDepth 100000 in
theorem hp_X1_isName : pr_X1_isName.all (fun x => decide (decode cX1_isName x.1 = .ok x.2)) = true := by decide +kernel
def zw_N : zW := [(0, .inl (1, [zr 1, zi 1 0, zi 2 0, zi 3 0, zi 4 0, zi 5 0, zi 6 0, zi 7 0, zi 8 0, zi 9 0, zi 10 0, zi 11 0, zi 12 0])),
  (1, .inl (3, [zi 13 0, zr 2])),
  (2, .inr (.inl (0, 160, [(160, .inl ((-2147483648), 2147483647))], [])))]
def ze_N : zE := [(1, (0, 160)), (2, ((-2147483648), 2147483647)), (3, (0, 160)), (4, (0, 6)), (5, ((-2147483648), 2147483647)), (6, ((-2147483648), 2147483647)), (7, (0, 1)), (8, ((-2147483648), 2147483647)), (9, ((-2147483648), 2147483647)), (10, ((-2147483648), 2147483647)), (11, ((-2147483648), 2147483647)), (12, ((-2147483648), 2147483647)), (13, (0, 160))]
/-- isName, its text left out -/
def k_N : zK := (14, [0, 1, 2], (ze_N, [], [], [zr 0], zw_N, []), [([], [], [], [zi 0 0], zw_N, []), ([], [], [], [zi 0 1], zw_N, [])])
def fsN0 : List zA := [zr 1, zi 1 0, zi 2 0, zi 3 0, zi 4 0, zi 5 0, zi 6 0, zi 7 0, zi 8 0, zi 9 0, zi 10 0, zi 11 0, zi 12 0]
def fsN1 : List zA := [zi 13 0, zr 2]
set_option maxHeartbeats 4000000 in
set_option maxRecDepth 100000 in
theorem c_X1_isName {X : zXT} (l : Launch) (n : Nat) (D : va_G) (kA : Nat → ClassId) (r : Nat → Int) (ad : Nat → Nat) (ph : Nat → Nat → Int) (sz a : Nat) (hE : zokE r ze_N) (hW0 : zokW r ph zw_N) : Met l yX1_isName wsX1_isName { frames := 5, cells := 0, slots := 0, locals := 200 } (va_Pc [.ref (ad 0), .ref a] (fun U => zBf X D vwCl kA (zws kA r ad ph zw_N) sz U ∧ zStr n a (va_A (zws kA r ad ph zw_N) sz) U U.heap)) (zQc D vwCl kA k_N r ad (va_A (zws kA r ad ph zw_N) sz)) 0 0 (va_A (zws kA r ad ph zw_N) sz) := by
  refine Met.ofW (cc := cX1_isName) (maxL := 3) (ret := some .boolean) (by decide +kernel) rfl ?_
  intro p e s m args below meth c s₁ B hml hv
  obtain ⟨rfl, ⟨hsz, hP, hK, hD0, hx0⟩, hStr⟩ := hv
  have hx := B.exec
  have hb := B.bytes
  have hr := B.returns
  have hts := atoms_spec (ws := wsX1_isName) B.pre
  have hown : s.vm.findClass RX1 = some m.cls := findClass_of_methodNamed B.named
  have hlocks := B.notSynchronized
  have hd := zpr_all hp_X1_isName
  subst hsz
  have hD := hD0.self (sz := s.heap.size)
  have hA : ∀ q, s.heap.size ≤ q → va_A (zws kA r ad ph zw_N) s.heap.size q := fun q h => Or.inr h
  have hS : va_S (va_A (zws kA r ad ph zw_N) s.heap.size) s.heap s.heap [] := va_S.rf
  have z0 : Int32.ofInt (zev r (0, 0)) = 0 := by
    unfold zev
    rw [hE.1]
    rfl
  have z1 : Int32.ofInt (zev r (0, 1)) = 1 := by
    unfold zev
    rw [hE.1]
    rfl
  have e_at : 0 ≤ zev r (1, 0) ∧ zev r (1, 0) ≤ 160 := zrng_ok (E := ze_N) (i := (0, 160)) hE rfl
  have e_st : 0 ≤ zev r (3, 0) ∧ zev r (3, 0) ≤ 160 := zrng_ok (E := ze_N) (i := (0, 160)) hE rfl
  have hn := hStr.1
  have hl := lv_entry ([.ref (ad 0), .ref a]) (n := 3) (Nat.le_of_ble_eq_true rfl)
  rw [lg_entry_eq]
  generalize (lg_sl ([.ref (ad 0), .ref a]) ++ List.replicate (3 - (lg_sl ([.ref (ad 0), .ref a])).length) Slot.unset).toArray = ls at hl ⊢
  have hl : lv_has ls 3 [(0, .ref (ad 0)), (1, .ref a)] := hl
  generalize hAe : va_A (zws kA r ad ph zw_N) s.heap.size = A at hStr hD hA hS ⊢
  have kept : ∀ (H H1 : Heap), va_P D vwCl (zws kA r ad ph zw_N) H → (∀ q : Nat, q < H.size → ¬ H.size ≤ q → H1[q]? = H[q]?) → va_P D vwCl (zws kA r ad ph zw_N) H1 := fun H H1 h1 h2 => h1.kept (fun k x hx => h2 x.1 ((h1 k x hx).lt) (Nat.not_le.mpr ((h1 k x hx).lt)))
  have loop : zev r (3, 0) + n = zev r (1, 0) → ∀ (j i : Nat), i + j = n → ∀ (H : Heap) (locs : List Loc) (ls : Array Slot), va_P D vwCl (zws kA r ad ph zw_N) H → va_S A s.heap H locs → lv_has ls 3 [(2, .int (nI i)), (0, .ref (ad 0)), (1, .ref a)] → W p l e (headSpec wsX1_isName { frames := 5, cells := 0, slots := 0, locals := 200 }).room s m [Value.ref (ad 0), .ref a].toArray below meth c H locs 0 0 (MQ below (zQc D vwCl kA k_N r ad A) [Value.ref (ad 0), .ref a].toArray s 0 0 A) (F0 m 28 ls []) := by
    intro hnat j
    induction j with
    | zero =>
      intro i hi H locs ls hP hS hl
      have hi : i = n := by omega
      subst hi
      refine lv_iload_n hx hb (hd 28 (.iload_n 2) 1 rfl) rfl (lv_at hl 0 rfl) ?_
      refine lv_aload_n hx hb (hd 29 (.aload_n 1) 1 rfl) rfl (lv_at hl 2 rfl) ?_
      refine va_calli (va_runV (As := []) (rest := [.int (nI i)]) ⟨hx, hb, hml, hown, hts⟩ (c_J0_length l i a H.size) (cwV 0 hts gX1_isName_J0_length_8abf5 rfl rfl rfl (by decide +kernel) ⟨Nat.le_of_ble_eq_true rfl, Nat.le_of_ble_eq_true rfl⟩) ⟨fun a U g mk q => by obtain ⟨q0, q1, q2⟩ := q; exact ⟨q0, q1, zStr.moved (u := U) (U := U.calling g mk a) (Vm.Alike.refl U.vm) q2⟩, hStr.recv hS, fun U hU hW => ⟨rfl, by rw [hU], hStr.there hS hA hU hW⟩⟩ rfl rfl hl.1 rfl (lv_room (Nat.le_of_ble_eq_true rfl)) (hd 30 (.invokevirtual 224) 3 rfl) ⟨Nat.le_of_ble_eq_true rfl, Nat.le_of_ble_eq_true rfl⟩) hS (fun q _ h => hA q (Nat.le_trans hS.1 h)) (fun q h => hA q (Nat.le_trans hS.1 h)) (fun rv u t H1 locs ht hvm hw _ hz1 hk1 hS => ?_)
      subst hw
      have hP := kept _ _ hP hk1
      refine lv_icmp_ge (tgt := 66) hx hb (hd 33 (.if_icmp .ge 33) 3 rfl) (by decide) (fun _ => ?_) (fun h => absurd (nI_le (Nat.le_refl i) (by omega)) h)
      refine lv_iconst (v := 1) hx hb (hd 66 (.iconst 1) 1 rfl) (by decide) ?_
      exact W.zret hx hb hr narrow_b1 (fun t ht hW => ⟨⟨_, List.mem_cons_of_mem _ List.mem_cons_self, r, ad, ph, ⟨fun _ _ => rfl, fun _ _ => rfl⟩, ⟨hE.1, fun _ h => (by cases h)⟩, fun _ h => (by cases h), hW0, by rw [show (some (Value.int 1)) = ([zi 0 1].map (zcv r ad)).head? from by show _ = some (Value.int (Int32.ofInt (zev r (0, 1)))); rw [z1]], by rw [ht]; exact hP, hD⟩, hS.F ht⟩) hS.2.2 (hd 67 .ireturn 1 rfl)
    | succ j ih =>
      intro i hi H locs ls hP hS hl
      refine lv_iload_n hx hb (hd 28 (.iload_n 2) 1 rfl) rfl (lv_at hl 0 rfl) ?_
      refine lv_aload_n hx hb (hd 29 (.aload_n 1) 1 rfl) rfl (lv_at hl 2 rfl) ?_
      refine va_calli (va_runV (As := []) (rest := [.int (nI i)]) ⟨hx, hb, hml, hown, hts⟩ (c_J0_length l n a H.size) (cwV 0 hts gX1_isName_J0_length_8abf5 rfl rfl rfl (by decide +kernel) ⟨Nat.le_of_ble_eq_true rfl, Nat.le_of_ble_eq_true rfl⟩) ⟨fun a U g mk q => by obtain ⟨q0, q1, q2⟩ := q; exact ⟨q0, q1, zStr.moved (u := U) (U := U.calling g mk a) (Vm.Alike.refl U.vm) q2⟩, hStr.recv hS, fun U hU hW => ⟨rfl, by rw [hU], hStr.there hS hA hU hW⟩⟩ rfl rfl hl.1 rfl (lv_room (Nat.le_of_ble_eq_true rfl)) (hd 30 (.invokevirtual 224) 3 rfl) ⟨Nat.le_of_ble_eq_true rfl, Nat.le_of_ble_eq_true rfl⟩) hS (fun q _ h => hA q (Nat.le_trans hS.1 h)) (fun q h => hA q (Nat.le_trans hS.1 h)) (fun rv u t H1 locs ht hvm hw _ hz1 hk1 hS => ?_)
      subst hw
      have hP := kept _ _ hP hk1
      refine lv_icmp_ge (tgt := 66) hx hb (hd 33 (.if_icmp .ge 33) 3 rfl) (by decide) (fun h => absurd h (nI_ge (by omega) (by omega))) (fun _ => ?_)
      refine lv_aload_n hx hb (hd 36 (.aload_n 0) 1 rfl) rfl (lv_at hl 1 rfl) ?_
      refine va_get (C := RX1) (T := TX1) (N := 13) (ci := 1) (fs := fsN0.map (zcv r ad)) (v := .ref (ad 1)) hx hb hts (fun w h => List.mem_cons_of_mem _ (List.mem_append_left _ (List.mem_append_right _ h))) hown hK hP 0 rfl rfl 0 (by decide) (hts (.fieldLink RX1 12 "VowTerrace$Reader" "tape" "LVowTerrace$Tape;") (List.mem_of_getElem? (i := 4) rfl)) (fun _ h => h) rfl (hd 37 (.getfield 12) 3 rfl) ?_
      refine va_get (C := RX3) (T := TX3) (N := 2) (ci := 3) (fs := fsN1.map (zcv r ad)) (v := .ref (ad 2)) hx hb hts (fun w h => List.mem_cons_of_mem _ (List.mem_append_right _ h)) hown hK hP 1 rfl rfl 1 (by decide) (hts (.fieldLink RX1 207 "VowTerrace$Tape" "bytes" "[I") (List.mem_of_getElem? (i := 5) rfl)) (fun _ h => h) rfl (hd 40 (.getfield 207) 3 rfl) ?_
      refine lv_aload_n hx hb (hd 43 (.aload_n 0) 1 rfl) rfl (lv_at hl 1 rfl) ?_
      refine va_get (C := RX1) (T := TX1) (N := 13) (ci := 1) (fs := fsN0.map (zcv r ad)) (v := .int (Int32.ofInt (zev r (3, 0)))) hx hb hts (fun w h => List.mem_cons_of_mem _ (List.mem_append_left _ (List.mem_append_right _ h))) hown hK hP 0 rfl rfl 3 (by decide) (hts (.fieldLink RX1 123 "VowTerrace$Reader" "start" "I") (List.mem_of_getElem? (i := 3) rfl)) (fun _ h => h) rfl (hd 44 (.getfield 123) 3 rfl) ?_
      refine lv_iload_n hx hb (hd 47 (.iload_n 2) 1 rfl) rfl (lv_at hl 0 rfl) ?_
      refine lv_iadd hx hb (hd 48 .iadd 1 rfl) ?_
      have en : nI i = Int32.ofInt (i : Int) := rfl
      rw [en, zq_addW]
      have hidx := (zq_idx (k := zev r (3, 0) + (i : Int)) (m := 160) (by omega) (by omega) (by omega)).1
      refine va_iald (n := 160) (f := fun j => Int32.ofInt (ph 2 j)) hx hb hK hP 2 0 rfl rfl hidx (hd 49 .iaload 1 rfl) ?_
      refine lv_aload_n hx hb (hd 50 (.aload_n 1) 1 rfl) rfl (lv_at hl 2 rfl) ?_
      refine lv_iload_n hx hb (hd 51 (.iload_n 2) 1 rfl) rfl (lv_at hl 0 rfl) ?_
      refine va_calli (va_runV (As := [.int (nI i)]) (rest := [.int (Int32.ofInt (ph 2 (Int32.ofInt (zev r (3, 0) + (i : Int))).toNatClampNeg))]) ⟨hx, hb, hml, hown, hts⟩ (c_J0_charAt l n a i H1.size (by omega)) (cwV 1 hts gX1_isName_J0_charAt_5068e rfl rfl rfl (by decide +kernel) ⟨Nat.le_of_ble_eq_true rfl, Nat.le_of_ble_eq_true rfl⟩) ⟨fun a U g mk q => by obtain ⟨q0, q1, q2⟩ := q; exact ⟨q0, q1, zStr.moved (u := U) (U := U.calling g mk a) (Vm.Alike.refl U.vm) q2⟩, hStr.recv hS, fun U hU hW => ⟨rfl, by rw [hU], hStr.there hS hA hU hW⟩⟩ rfl rfl hl.1 rfl (lv_room (Nat.le_of_ble_eq_true rfl)) (hd 52 (.invokevirtual 229) 3 rfl) ⟨Nat.le_of_ble_eq_true rfl, Nat.le_of_ble_eq_true rfl⟩) hS (fun q _ h => hA q (Nat.le_trans hS.1 h)) (fun q h => hA q (Nat.le_trans hS.1 h)) (fun rv u t H2 locs ht hvm hw _ hz1 hk1 hS => ?_)
      have hP := kept _ _ hP hk1
      refine lv_icmp_eq (tgt := 60) hx hb (hd 55 (.if_icmp .eq 5) 3 rfl) (by decide) (fun _ => ?_) (fun _ => ?_)
      · refine lv_iinc (v := nI (i + 1)) (lv' := [(2, .int (nI (i + 1))), (0, .ref (ad 0)), (1, .ref a)]) hx hb (hd 60 (.iinc 2 1) 3 rfl) hl (k := 0) rfl (nI_1 i) (by decide) rfl (fun ls hl => ?_)
        refine lv_goto (tgt := 28) hx hb (hd 63 (.goto (-35)) 3 rfl) (by decide) ?_
        exact ih (i + 1) (by omega) _ _ ls hP hS hl
      · refine lv_iconst (v := 0) hx hb (hd 58 (.iconst 0) 1 rfl) (by decide) ?_
        exact W.zret hx hb hr narrow_b0 (fun t ht hW => ⟨⟨_, List.mem_cons_self, r, ad, ph, ⟨fun _ _ => rfl, fun _ _ => rfl⟩, ⟨hE.1, fun _ h => (by cases h)⟩, fun _ h => (by cases h), hW0, by rw [show (some (Value.int 0)) = ([zi 0 0].map (zcv r ad)).head? from by show _ = some (Value.int (Int32.ofInt (zev r (0, 0)))); rw [z0]], by rw [ht]; exact hP, hD⟩, hS.F ht⟩) hS.2.2 (hd 59 .ireturn 1 rfl)
  refine lv_aload_n hx hb (hd 0 (.aload_n 0) 1 rfl) rfl (lv_at hl 0 rfl) ?_
  refine va_get (C := RX1) (T := TX1) (N := 13) (ci := 1) (fs := fsN0.map (zcv r ad)) (v := .int (Int32.ofInt (zev r (2, 0)))) hx hb hts (fun w h => List.mem_cons_of_mem _ (List.mem_append_left _ (List.mem_append_right _ h))) hown hK hP 0 rfl rfl 2 (by decide) (hts (.fieldLink RX1 58 "VowTerrace$Reader" "token" "I") (List.mem_of_getElem? (i := 1) rfl)) (fun _ h => h) rfl (hd 1 (.getfield 58) 3 rfl) ?_
  refine lv_iconst (v := 1) hx hb (hd 4 (.iconst 1) 1 rfl) (by decide) ?_
  refine lv_icmp_ne (tgt := 24) hx hb (hd 5 (.if_icmp .ne 19) 3 rfl) (by decide) (fun _ => ?_) (fun _ => ?_)
  · refine lv_iconst (v := 0) hx hb (hd 24 (.iconst 0) 1 rfl) (by decide) ?_
    exact W.zret hx hb hr narrow_b0 (fun t ht hW => ⟨⟨_, List.mem_cons_self, r, ad, ph, ⟨fun _ _ => rfl, fun _ _ => rfl⟩, ⟨hE.1, fun _ h => (by cases h)⟩, fun _ h => (by cases h), hW0, by rw [show (some (Value.int 0)) = ([zi 0 0].map (zcv r ad)).head? from by show _ = some (Value.int (Int32.ofInt (zev r (0, 0)))); rw [z0]], by rw [ht]; exact hP, hD⟩, hS.F ht⟩) hS.2.2 (hd 25 .ireturn 1 rfl)
  refine lv_aload_n hx hb (hd 8 (.aload_n 0) 1 rfl) rfl (lv_at hl 0 rfl) ?_
  refine va_get (C := RX1) (T := TX1) (N := 13) (ci := 1) (fs := fsN0.map (zcv r ad)) (v := .int (Int32.ofInt (zev r (1, 0)))) hx hb hts (fun w h => List.mem_cons_of_mem _ (List.mem_append_left _ (List.mem_append_right _ h))) hown hK hP 0 rfl rfl 1 (by decide) (hts (.fieldLink RX1 23 "VowTerrace$Reader" "at" "I") (List.mem_of_getElem? (i := 2) rfl)) (fun _ h => h) rfl (hd 9 (.getfield 23) 3 rfl) ?_
  refine lv_aload_n hx hb (hd 12 (.aload_n 0) 1 rfl) rfl (lv_at hl 0 rfl) ?_
  refine va_get (C := RX1) (T := TX1) (N := 13) (ci := 1) (fs := fsN0.map (zcv r ad)) (v := .int (Int32.ofInt (zev r (3, 0)))) hx hb hts (fun w h => List.mem_cons_of_mem _ (List.mem_append_left _ (List.mem_append_right _ h))) hown hK hP 0 rfl rfl 3 (by decide) (hts (.fieldLink RX1 123 "VowTerrace$Reader" "start" "I") (List.mem_of_getElem? (i := 3) rfl)) (fun _ h => h) rfl (hd 13 (.getfield 123) 3 rfl) ?_
  refine lv_isub hx hb (hd 16 .isub 1 rfl) ?_
  rw [zq_subW]
  refine lv_aload_n hx hb (hd 17 (.aload_n 1) 1 rfl) rfl (lv_at hl 1 rfl) ?_
  refine va_calli (va_runV (As := []) (rest := [.int (Int32.ofInt (zev r (1, 0) - zev r (3, 0)))]) ⟨hx, hb, hml, hown, hts⟩ (c_J0_length l n a s.heap.size) (cwV 0 hts gX1_isName_J0_length_8abf5 rfl rfl rfl (by decide +kernel) ⟨Nat.le_of_ble_eq_true rfl, Nat.le_of_ble_eq_true rfl⟩) ⟨fun a U g mk q => by obtain ⟨q0, q1, q2⟩ := q; exact ⟨q0, q1, zStr.moved (u := U) (U := U.calling g mk a) (Vm.Alike.refl U.vm) q2⟩, hStr.recv hS, fun U hU hW => ⟨rfl, by rw [hU], hStr.there hS hA hU hW⟩⟩ rfl rfl hl.1 rfl (lv_room (Nat.le_of_ble_eq_true rfl)) (hd 18 (.invokevirtual 224) 3 rfl) ⟨Nat.le_of_ble_eq_true rfl, Nat.le_of_ble_eq_true rfl⟩) hS (fun q _ h => hA q (Nat.le_trans hS.1 h)) (fun q h => hA q (Nat.le_trans hS.1 h)) (fun rv u t H1 locs ht hvm hw _ hz1 hk1 hS => ?_)
  subst hw
  have hP := kept _ _ hP hk1
  refine lv_icmp_eq (tgt := 26) hx hb (hd 21 (.if_icmp .eq 5) 3 rfl) (by decide) (fun heq => ?_) (fun _ => ?_)
  · have en : Int32.ofNat n = Int32.ofInt (n : Int) := rfl
    rw [en] at heq
    have hnat := (zq_eq (by omega) (by omega) (by omega) (by omega)).mp heq
    refine lv_iconst (v := 0) hx hb (hd 26 (.iconst 0) 1 rfl) (by decide) ?_
    refine lv_istore_n (lv' := [(2, .int 0), (0, .ref (ad 0)), (1, .ref a)]) hx hb (hd 27 (.istore_n 2) 1 rfl) rfl hl (by decide) rfl (fun ls hl => ?_)
    exact loop (by omega) n 0 (by omega) _ _ ls hP hS hl
  · refine lv_iconst (v := 0) hx hb (hd 24 (.iconst 0) 1 rfl) (by decide) ?_
    exact W.zret hx hb hr narrow_b0 (fun t ht hW => ⟨⟨_, List.mem_cons_self, r, ad, ph, ⟨fun _ _ => rfl, fun _ _ => rfl⟩, ⟨hE.1, fun _ h => (by cases h)⟩, fun _ h => (by cases h), hW0, by rw [show (some (Value.int 0)) = ([zi 0 0].map (zcv r ad)).head? from by show _ = some (Value.int (Int32.ofInt (zev r (0, 0)))); rw [z0]], by rw [ht]; exact hP, hD⟩, hS.F ht⟩) hS.2.2 (hd 25 .ireturn 1 rfl)
