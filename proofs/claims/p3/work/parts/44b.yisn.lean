noncomputable def f_X1_isName_l (σ : yS) : List Int → Int → Option (Int × yS)
  | [], _ => some (1, σ)
  | c :: cs, j => bif yin j 160 then
      (bif ycP .eq (σ.1 4 j.toNat) c then f_X1_isName_l σ cs (j + 1) else some (0, σ))
    else none
noncomputable def f_X1_isName (w : List Int) (σ : yS) (i : Nat) : Option (Int × yS) :=
  bif Nat.beq i 2 then
    (bif ycP .ne (σ.1 2 2) 1 then some (0, σ) else
      bif ycP .ne (ysu (σ.1 2 1) (σ.1 2 3)) (w.length : Int) then some (0, σ) else f_X1_isName_l σ w (σ.1 2 3))
  else none
noncomputable def F_T (w : List Int) : yF := fun as σ => match as with
  | [.inr (.inl 1, i)] => (f_X1_isName w σ i).map (fun r => (some (.inl (.inl r.1)), r.2))
  | _ => none
theorem e_T {w : List Int} {σ : yS} {i : Nat} {r : Int × yS} (h : f_X1_isName w σ i = some r) : F_T w [.inr (.inl 1, i)] σ = some (some (.inl (.inl r.1)), r.2) := by
  show (f_X1_isName w σ i).map (fun r => ((some (.inl (.inl r.1)), r.2) : yR)) = _
  rw [h]
  rfl
noncomputable def ypr_X1_isName : List (Nat × Instr × Nat) := [(0, .aload_n 0, 1), (1, .getfield 58, 3), (4, .iconst 1, 1), (5, .if_icmp .ne 19, 3), (8, .aload_n 0, 1), (9, .getfield 23, 3), (12, .aload_n 0, 1), (13, .getfield 123, 3), (16, .isub, 1), (17, .aload_n 1, 1), (18, .invokevirtual 224, 3), (21, .if_icmp .eq 5, 3), (24, .iconst 0, 1), (25, .ireturn, 1), (26, .iconst 0, 1), (27, .istore_n 2, 1), (28, .iload_n 2, 1), (29, .aload_n 1, 1), (30, .invokevirtual 224, 3), (33, .if_icmp .ge 33, 3), (36, .aload_n 0, 1), (37, .getfield 12, 3), (40, .getfield 207, 3), (43, .aload_n 0, 1), (44, .getfield 123, 3), (47, .iload_n 2, 1), (48, .iadd, 1), (49, .iaload, 1), (50, .aload_n 1, 1), (51, .iload_n 2, 1), (52, .invokevirtual 229, 3), (55, .if_icmp .eq 5, 3), (58, .iconst 0, 1), (59, .ireturn, 1), (60, .iinc 2 1, 3), (63, .goto (-35), 3), (66, .iconst 1, 1), (67, .ireturn, 1)]
set_option maxRecDepth 100000 in
theorem yhp_X1_isName : ypr_X1_isName.all (fun x => decide (decode cX1_isName x.1 = .ok x.2)) = true := by decide +kernel
/-- the cells that isName reads -/
def yshR (sh : List yH) : Prop := sh[2]? = some (.inl 1) ∧ sh[3]? = some (.inl 3) ∧ sh[4]? = some (.inr (0, 160))
set_option maxHeartbeats 4000000 in
set_option maxRecDepth 100000 in
theorem yc_isName {X : zXT} (l : Launch) (w : Nat → Int32) (wl : List Int) (hwl : ∀ (j : Nat) (c : Int), wl[j]? = some c → ych (w j) = Int32.ofInt c ∧ yI c) {sh : List yH} (hsh : yshR sh) (D : va_G) (kA : Nat → ClassId) (ad : Nat → Nat) (sz a : Nat) (σ : yS) (res : Int × yS) (hS0 : yokS yct sh σ) (hF : f_X1_isName wl σ 2 = some res) : Met l yX1_isName wsX1_isName { frames := 5, cells := 0, slots := 0, locals := 200 } (va_Pc [.ref (ad 2), .ref a] (fun U => zBf X D vwCl kA (yws yct kA ad sh σ) sz U ∧ yStr w wl.length a (va_A (yws yct kA ad sh σ) sz) U U.heap)) (yQc D vwCl yct kA sh ad (va_A (yws yct kA ad sh σ) sz) (some (.inl (.inl res.1)), res.2)) 0 0 (va_A (yws yct kA ad sh σ) sz) := by
  refine Met.ofW (cc := cX1_isName) (maxL := 3) (ret := some .boolean) (by decide +kernel) rfl ?_
  intro p e s m args below meth c s₁ B hml hv
  obtain ⟨rfl, ⟨hsz, hP, hK, hD0, hx0⟩, hStr⟩ := hv
  have hx := B.exec
  have hb := B.bytes
  have hr := B.returns
  have hts := atoms_spec (ws := wsX1_isName) B.pre
  have hown : s.vm.findClass RX1 = some m.cls := findClass_of_methodNamed B.named
  have hlocks := B.notSynchronized
  have hd := zpr_all yhp_X1_isName
  subst hsz
  have hD := hD0.self (sz := s.heap.size)
  have hA : ∀ q, s.heap.size ≤ q → va_A (yws yct kA ad sh σ) s.heap.size q := fun q h => Or.inr h
  have hS : va_S (va_A (yws yct kA ad sh σ) s.heap.size) s.heap s.heap [] := va_S.rf
  obtain ⟨s2, s3, s4⟩ := hsh
  have g2 : (yws yct kA ad sh σ)[2]? = some (ad 2, .inr (1, (yct.1 1).mapIdx (fun k t => yfv ad σ 2 k t))) := yws_get s2
  have g3 : (yws yct kA ad sh σ)[3]? = some (ad 3, .inr (3, (yct.1 3).mapIdx (fun k t => yfv ad σ 3 k t))) := yws_get s3
  have g4 : (yws yct kA ad sh σ)[4]? = some (ad 4, .inl (kA 0, 160, .inl (fun j => Int32.ofInt (σ.1 4 j)))) := yws_get s4
  have r2 : σ.2 2 0 = 3 := hS0.2.2.2 2 1 0 3 s2 rfl
  have r3 : σ.2 3 1 = 4 := hS0.2.2.2 3 3 1 4 s3 rfl
  have v_tok : ((yct.1 1).mapIdx (fun k t => yfv ad σ 2 k t))[2]? = some (.int (Int32.ofInt (σ.1 2 2))) := rfl
  have v_at : ((yct.1 1).mapIdx (fun k t => yfv ad σ 2 k t))[1]? = some (.int (Int32.ofInt (σ.1 2 1))) := rfl
  have v_st : ((yct.1 1).mapIdx (fun k t => yfv ad σ 2 k t))[3]? = some (.int (Int32.ofInt (σ.1 2 3))) := rfl
  have v_tp : ((yct.1 1).mapIdx (fun k t => yfv ad σ 2 k t))[0]? = some (.ref (ad 3)) := by
    show some (Value.ref (ad (σ.2 2 0))) = _
    rw [r2]
  have v_by : ((yct.1 3).mapIdx (fun k t => yfv ad σ 3 k t))[1]? = some (.ref (ad 4)) := by
    show some (Value.ref (ad (σ.2 3 1))) = _
    rw [r3]
  have hn := hStr.1
  have hl := lv_entry ([.ref (ad 2), .ref a]) (n := 3) (Nat.le_of_ble_eq_true rfl)
  rw [lg_entry_eq]
  generalize (lg_sl ([.ref (ad 2), .ref a]) ++ List.replicate (3 - (lg_sl ([.ref (ad 2), .ref a])).length) Slot.unset).toArray = ls at hl ⊢
  have hl : lv_has ls 3 [(0, .ref (ad 2)), (1, .ref a)] := hl
  generalize hAe : va_A (yws yct kA ad sh σ) s.heap.size = A at hStr hD hA hS ⊢
  have kept : ∀ (H H1 : Heap), va_P D vwCl (yws yct kA ad sh σ) H → (∀ q : Nat, q < H.size → ¬ H.size ≤ q → H1[q]? = H[q]?) → va_P D vwCl (yws yct kA ad sh σ) H1 := fun H H1 h1 h2 => h1.kept (fun k x hx => h2 x.1 ((h1 k x hx).lt) (Nat.not_le.mpr ((h1 k x hx).lt)))
  have fin0 : ∀ (H : Heap) (locs : List Loc) (ls : Array Slot) (pc : Nat), res = (0, σ) → va_P D vwCl (yws yct kA ad sh σ) H → va_S A s.heap H locs → decode cX1_isName pc = .ok (.iconst 0, 1) → decode cX1_isName (pc + 1) = .ok (.ireturn, 1) → W p l e (headSpec wsX1_isName { frames := 5, cells := 0, slots := 0, locals := 200 }).room s m [Value.ref (ad 2), .ref a].toArray below meth c H locs 0 0 (MQ below (yQc D vwCl yct kA sh ad A (some (.inl (.inl res.1)), res.2)) [Value.ref (ad 2), .ref a].toArray s 0 0 A) (F0 m pc ls []) := by
    intro H locs ls pc er hP hS d0 d1
    refine lv_iconst (v := 0) hx hb d0 (by decide) ?_
    subst er
    exact W.zret hx hb hr narrow_b0 (fun t ht hW => ⟨⟨hS0, (fun q hq => by cases hq; exact (⟨by decide, by decide⟩ : yI 0)), rfl, by rw [ht]; exact hP, hD⟩, hS.F ht⟩) hS.2.2 d1
  unfold f_X1_isName at hF
  rw [show Nat.beq 2 2 = true from rfl] at hF
  dsimp only [cond] at hF
  have loop : ∀ (cs : List Int) (i : Nat), wl.drop i = cs → i ≤ wl.length → f_X1_isName_l σ cs (σ.1 2 3 + i) = some res → ∀ (H : Heap) (locs : List Loc) (ls : Array Slot), va_P D vwCl (yws yct kA ad sh σ) H → va_S A s.heap H locs → lv_has ls 3 [(2, .int (nI i)), (0, .ref (ad 2)), (1, .ref a)] → W p l e (headSpec wsX1_isName { frames := 5, cells := 0, slots := 0, locals := 200 }).room s m [Value.ref (ad 2), .ref a].toArray below meth c H locs 0 0 (MQ below (yQc D vwCl yct kA sh ad A (some (.inl (.inl res.1)), res.2)) [Value.ref (ad 2), .ref a].toArray s 0 0 A) (F0 m 28 ls []) := by
    intro cs
    induction cs with
    | nil =>
      intro i hi hle hF H locs ls hP hS hl
      have hi : i = wl.length := by
        have := congrArg List.length hi
        rw [List.length_drop] at this
        simp at this
        omega
      refine lv_iload_n hx hb (hd 28 (.iload_n 2) 1 rfl) rfl (lv_at hl 0 rfl) ?_
      refine lv_aload_n hx hb (hd 29 (.aload_n 1) 1 rfl) rfl (lv_at hl 2 rfl) ?_
      refine va_calli (va_runV (As := []) (rest := [.int (nI i)]) ⟨hx, hb, hml, hown, hts⟩ (yc_J0_length l w wl.length a H.size) (cwV 0 hts gX1_isName_J0_length_8abf5 rfl rfl rfl (by decide +kernel) ⟨Nat.le_of_ble_eq_true rfl, Nat.le_of_ble_eq_true rfl⟩) ⟨fun a U g mk q => by obtain ⟨q0, q1, q2⟩ := q; exact ⟨q0, q1, yStr.moved (u := U) (U := U.calling g mk a) (Vm.Alike.refl U.vm) q2⟩, hStr.recv hS, fun U hU hW => ⟨rfl, by rw [hU], hStr.there hS hA hU hW⟩⟩ rfl rfl hl.1 rfl (lv_room (Nat.le_of_ble_eq_true rfl)) (hd 30 (.invokevirtual 224) 3 rfl) ⟨Nat.le_of_ble_eq_true rfl, Nat.le_of_ble_eq_true rfl⟩) hS (fun q _ h => hA q (Nat.le_trans hS.1 h)) (fun q h => hA q (Nat.le_trans hS.1 h)) (fun rv u t H1 locs ht hvm hw _ hz1 hk1 hS => ?_)
      subst hw
      have hP := kept _ _ hP hk1
      refine lv_icmp_ge (tgt := 66) hx hb (hd 33 (.if_icmp .ge 33) 3 rfl) (by decide) (fun _ => ?_) (fun h => absurd (nI_le (show wl.length ≤ i by omega) (by omega)) h)
      refine lv_iconst (v := 1) hx hb (hd 66 (.iconst 1) 1 rfl) (by decide) ?_
      have er : (1, σ) = res := Option.some.inj hF
      subst er
      exact W.zret hx hb hr narrow_b1 (fun t ht hW => ⟨⟨hS0, (fun q hq => by cases hq; exact (⟨by decide, by decide⟩ : yI 1)), rfl, by rw [ht]; exact hP, hD⟩, hS.F ht⟩) hS.2.2 (hd 67 .ireturn 1 rfl)
    | cons ch cs ih =>
      intro i hi hle hF H locs ls hP hS hl
      have hget : wl[i]? = some ch := by
        have := congrArg (fun z : List Int => z[0]?) hi
        simpa [List.getElem?_drop] using this
      have hlt : i < wl.length := (List.getElem?_eq_some_iff.mp hget).1
      obtain ⟨hch, hcI⟩ := hwl i ch hget
      refine lv_iload_n hx hb (hd 28 (.iload_n 2) 1 rfl) rfl (lv_at hl 0 rfl) ?_
      refine lv_aload_n hx hb (hd 29 (.aload_n 1) 1 rfl) rfl (lv_at hl 2 rfl) ?_
      refine va_calli (va_runV (As := []) (rest := [.int (nI i)]) ⟨hx, hb, hml, hown, hts⟩ (yc_J0_length l w wl.length a H.size) (cwV 0 hts gX1_isName_J0_length_8abf5 rfl rfl rfl (by decide +kernel) ⟨Nat.le_of_ble_eq_true rfl, Nat.le_of_ble_eq_true rfl⟩) ⟨fun a U g mk q => by obtain ⟨q0, q1, q2⟩ := q; exact ⟨q0, q1, yStr.moved (u := U) (U := U.calling g mk a) (Vm.Alike.refl U.vm) q2⟩, hStr.recv hS, fun U hU hW => ⟨rfl, by rw [hU], hStr.there hS hA hU hW⟩⟩ rfl rfl hl.1 rfl (lv_room (Nat.le_of_ble_eq_true rfl)) (hd 30 (.invokevirtual 224) 3 rfl) ⟨Nat.le_of_ble_eq_true rfl, Nat.le_of_ble_eq_true rfl⟩) hS (fun q _ h => hA q (Nat.le_trans hS.1 h)) (fun q h => hA q (Nat.le_trans hS.1 h)) (fun rv u t H1 locs ht hvm hw _ hz1 hk1 hS => ?_)
      subst hw
      have hP := kept _ _ hP hk1
      refine lv_icmp_ge (tgt := 66) hx hb (hd 33 (.if_icmp .ge 33) 3 rfl) (by decide) (fun h => absurd h (nI_ge hlt (by omega))) (fun _ => ?_)
      refine lv_aload_n hx hb (hd 36 (.aload_n 0) 1 rfl) rfl (lv_at hl 1 rfl) ?_
      refine va_get (C := RX1) (T := TX1) (N := 13) hx hb hts (fun w h => List.mem_cons_of_mem _ (List.mem_append_left _ (List.mem_append_right _ h))) hown hK hP 2 g2 rfl 0 (by decide) (hts (.fieldLink RX1 12 "VowTerrace$Reader" "tape" "LVowTerrace$Tape;") (List.mem_of_getElem? (i := 4) rfl)) (fun _ h => h) v_tp (hd 37 (.getfield 12) 3 rfl) ?_
      refine va_get (C := RX3) (T := TX3) (N := 2) hx hb hts (fun w h => List.mem_cons_of_mem _ (List.mem_append_right _ h)) hown hK hP 3 g3 rfl 1 (by decide) (hts (.fieldLink RX1 207 "VowTerrace$Tape" "bytes" "[I") (List.mem_of_getElem? (i := 5) rfl)) (fun _ h => h) v_by (hd 40 (.getfield 207) 3 rfl) ?_
      refine lv_aload_n hx hb (hd 43 (.aload_n 0) 1 rfl) rfl (lv_at hl 1 rfl) ?_
      refine va_get (C := RX1) (T := TX1) (N := 13) hx hb hts (fun w h => List.mem_cons_of_mem _ (List.mem_append_left _ (List.mem_append_right _ h))) hown hK hP 2 g2 rfl 3 (by decide) (hts (.fieldLink RX1 123 "VowTerrace$Reader" "start" "I") (List.mem_of_getElem? (i := 3) rfl)) (fun _ h => h) v_st (hd 44 (.getfield 123) 3 rfl) ?_
      refine lv_iload_n hx hb (hd 47 (.iload_n 2) 1 rfl) rfl (lv_at hl 0 rfl) ?_
      refine lv_iadd hx hb (hd 48 .iadd 1 rfl) ?_
      have en : nI i = Int32.ofInt (i : Int) := rfl
      rw [en, zq_addW]
      unfold f_X1_isName_l at hF
      cases hin : yin (σ.1 2 3 + (i : Int)) 160 with
      | false => rw [hin] at hF; dsimp only [cond] at hF; cases hF
      | true =>
        rw [hin] at hF
        dsimp only [cond] at hF
        obtain ⟨i1, i2⟩ := yin_ok hin
        obtain ⟨hidx, hcl⟩ := zq_idx (k := σ.1 2 3 + (i : Int)) (m := 160) i1 i2 (by omega)
        refine va_iald (n := 160) (f := fun j => Int32.ofInt (σ.1 4 j)) hx hb hK hP 4 0 g4 rfl hidx (hd 49 .iaload 1 rfl) ?_
        rw [hcl]
        refine lv_aload_n hx hb (hd 50 (.aload_n 1) 1 rfl) rfl (lv_at hl 2 rfl) ?_
        refine lv_iload_n hx hb (hd 51 (.iload_n 2) 1 rfl) rfl (lv_at hl 0 rfl) ?_
        refine va_calli (va_runV (As := [.int (nI i)]) (rest := [.int (Int32.ofInt (σ.1 4 (σ.1 2 3 + (i : Int)).toNat))]) ⟨hx, hb, hml, hown, hts⟩ (yc_J0_charAt l w wl.length a i H1.size hlt) (cwV 1 hts gX1_isName_J0_charAt_5068e rfl rfl rfl (by decide +kernel) ⟨Nat.le_of_ble_eq_true rfl, Nat.le_of_ble_eq_true rfl⟩) ⟨fun a U g mk q => by obtain ⟨q0, q1, q2⟩ := q; exact ⟨q0, q1, yStr.moved (u := U) (U := U.calling g mk a) (Vm.Alike.refl U.vm) q2⟩, hStr.recv hS, fun U hU hW => ⟨rfl, by rw [hU], hStr.there hS hA hU hW⟩⟩ rfl rfl hl.1 rfl (lv_room (Nat.le_of_ble_eq_true rfl)) (hd 52 (.invokevirtual 229) 3 rfl) ⟨Nat.le_of_ble_eq_true rfl, Nat.le_of_ble_eq_true rfl⟩) hS (fun q _ h => hA q (Nat.le_trans hS.1 h)) (fun q h => hA q (Nat.le_trans hS.1 h)) (fun rv u t H2 locs ht hvm hw _ hz1 hk1 hS => ?_)
        have hP := kept _ _ hP hk1
        have hrv : rv = Int32.ofInt ch := hw.2.trans hch
        subst hrv
        have hbI := hS0.1 4 (σ.1 2 3 + (i : Int)).toNat
        refine lv_icmp_eq (tgt := 60) hx hb (hd 55 (.if_icmp .eq 5) 3 rfl) (by decide) (fun heq => ?_) (fun hne => ?_)
        · have e1 : ycP .eq (σ.1 4 (σ.1 2 3 + (i : Int)).toNat) ch = true := ycP_t (cd := .eq) ((zq_eq hbI.1 hbI.2 hcI.1 hcI.2).mp heq)
          rw [e1] at hF
          dsimp only [cond] at hF
          refine lv_iinc (v := nI (i + 1)) (lv' := [(2, .int (nI (i + 1))), (0, .ref (ad 2)), (1, .ref a)]) hx hb (hd 60 (.iinc 2 1) 3 rfl) hl (k := 0) rfl (nI_1 i) (by decide) rfl (fun ls hl => ?_)
          refine lv_goto (tgt := 28) hx hb (hd 63 (.goto (-35)) 3 rfl) (by decide) ?_
          refine ih (i + 1) ?_ (by omega) ?_ _ _ ls hP hS hl
          · have := congrArg List.tail hi
            rw [List.tail_drop] at this
            exact this
          · rw [show (σ.1 2 3 + ((i + 1 : Nat) : Int)) = σ.1 2 3 + (i : Int) + 1 by omega]
            exact hF
        · have e1 : ycP .eq (σ.1 4 (σ.1 2 3 + (i : Int)).toNat) ch = false := ycP_f (cd := .eq) (fun z => hne ((zq_eq hbI.1 hbI.2 hcI.1 hcI.2).mpr z))
          rw [e1] at hF
          dsimp only [cond] at hF
          exact fin0 _ _ ls 58 (Option.some.inj hF).symm hP hS (hd 58 (.iconst 0) 1 rfl) (hd 59 .ireturn 1 rfl)
  refine lv_aload_n hx hb (hd 0 (.aload_n 0) 1 rfl) rfl (lv_at hl 0 rfl) ?_
  refine va_get (C := RX1) (T := TX1) (N := 13) hx hb hts (fun w h => List.mem_cons_of_mem _ (List.mem_append_left _ (List.mem_append_right _ h))) hown hK hP 2 g2 rfl 2 (by decide) (hts (.fieldLink RX1 58 "VowTerrace$Reader" "token" "I") (List.mem_of_getElem? (i := 1) rfl)) (fun _ h => h) v_tok (hd 1 (.getfield 58) 3 rfl) ?_
  refine lv_iconst (v := Int32.ofInt 1) hx hb (hd 4 (.iconst 1) 1 rfl) (by decide) ?_
  have tI := hS0.1 2 2
  refine lv_icmp_ne (tgt := 24) hx hb (hd 5 (.if_icmp .ne 19) 3 rfl) (by decide) (fun hne => ?_) (fun heq => ?_)
  · have e1 : ycP .ne (σ.1 2 2) 1 = true := ycP_t (cd := .ne) (fun z => hne ((zq_eq tI.1 tI.2 (by omega) (by omega)).mpr z))
    rw [e1] at hF
    dsimp only [cond] at hF
    exact fin0 _ _ ls 24 (Option.some.inj hF).symm hP hS (hd 24 (.iconst 0) 1 rfl) (hd 25 .ireturn 1 rfl)
  have e1 : ycP .ne (σ.1 2 2) 1 = false := ycP_f (cd := .ne) (fun z => z ((zq_eq tI.1 tI.2 (by omega) (by omega)).mp heq))
  rw [e1] at hF
  dsimp only [cond] at hF
  refine lv_aload_n hx hb (hd 8 (.aload_n 0) 1 rfl) rfl (lv_at hl 0 rfl) ?_
  refine va_get (C := RX1) (T := TX1) (N := 13) hx hb hts (fun w h => List.mem_cons_of_mem _ (List.mem_append_left _ (List.mem_append_right _ h))) hown hK hP 2 g2 rfl 1 (by decide) (hts (.fieldLink RX1 23 "VowTerrace$Reader" "at" "I") (List.mem_of_getElem? (i := 2) rfl)) (fun _ h => h) v_at (hd 9 (.getfield 23) 3 rfl) ?_
  refine lv_aload_n hx hb (hd 12 (.aload_n 0) 1 rfl) rfl (lv_at hl 0 rfl) ?_
  refine va_get (C := RX1) (T := TX1) (N := 13) hx hb hts (fun w h => List.mem_cons_of_mem _ (List.mem_append_left _ (List.mem_append_right _ h))) hown hK hP 2 g2 rfl 3 (by decide) (hts (.fieldLink RX1 123 "VowTerrace$Reader" "start" "I") (List.mem_of_getElem? (i := 3) rfl)) (fun _ h => h) v_st (hd 13 (.getfield 123) 3 rfl) ?_
  refine lv_isub hx hb (hd 16 .isub 1 rfl) ?_
  have esu : Int32.ofInt (σ.1 2 1) - Int32.ofInt (σ.1 2 3) = Int32.ofInt (ysu (σ.1 2 1) (σ.1 2 3)) := by
    unfold ysu
    rw [Int32.ofInt_toInt]
  rw [esu]
  refine lv_aload_n hx hb (hd 17 (.aload_n 1) 1 rfl) rfl (lv_at hl 1 rfl) ?_
  refine va_calli (va_runV (As := []) (rest := [.int (Int32.ofInt (ysu (σ.1 2 1) (σ.1 2 3)))]) ⟨hx, hb, hml, hown, hts⟩ (yc_J0_length l w wl.length a s.heap.size) (cwV 0 hts gX1_isName_J0_length_8abf5 rfl rfl rfl (by decide +kernel) ⟨Nat.le_of_ble_eq_true rfl, Nat.le_of_ble_eq_true rfl⟩) ⟨fun a U g mk q => by obtain ⟨q0, q1, q2⟩ := q; exact ⟨q0, q1, yStr.moved (u := U) (U := U.calling g mk a) (Vm.Alike.refl U.vm) q2⟩, hStr.recv hS, fun U hU hW => ⟨rfl, by rw [hU], hStr.there hS hA hU hW⟩⟩ rfl rfl hl.1 rfl (lv_room (Nat.le_of_ble_eq_true rfl)) (hd 18 (.invokevirtual 224) 3 rfl) ⟨Nat.le_of_ble_eq_true rfl, Nat.le_of_ble_eq_true rfl⟩) hS (fun q _ h => hA q (Nat.le_trans hS.1 h)) (fun q h => hA q (Nat.le_trans hS.1 h)) (fun rv u t H1 locs ht hvm hw _ hz1 hk1 hS => ?_)
  subst hw
  have hP := kept _ _ hP hk1
  have en : Int32.ofNat wl.length = Int32.ofInt (wl.length : Int) := rfl
  have suI : yI (ysu (σ.1 2 1) (σ.1 2 3)) := y32_I _
  refine lv_icmp_eq (tgt := 26) hx hb (hd 21 (.if_icmp .eq 5) 3 rfl) (by decide) (fun heq => ?_) (fun hne => ?_)
  · rw [en] at heq
    have e2 : ycP .ne (ysu (σ.1 2 1) (σ.1 2 3)) (wl.length : Int) = false := ycP_f (cd := .ne) (fun z => z ((zq_eq suI.1 suI.2 (by omega) (by omega)).mp heq))
    rw [e2] at hF
    dsimp only [cond] at hF
    refine lv_iconst (v := 0) hx hb (hd 26 (.iconst 0) 1 rfl) (by decide) ?_
    refine lv_istore_n (lv' := [(2, .int 0), (0, .ref (ad 2)), (1, .ref a)]) hx hb (hd 27 (.istore_n 2) 1 rfl) rfl hl (by decide) rfl (fun ls hl => ?_)
    exact loop wl 0 rfl (by omega) (by rw [show (σ.1 2 3 + ((0 : Nat) : Int)) = σ.1 2 3 by omega]; exact hF) _ _ ls hP hS hl
  · rw [en] at hne
    have e2 : ycP .ne (ysu (σ.1 2 1) (σ.1 2 3)) (wl.length : Int) = true := ycP_t (cd := .ne) (fun z => hne ((zq_eq suI.1 suI.2 (by omega) (by omega)).mpr z))
    rw [e2] at hF
    dsimp only [cond] at hF
    exact fin0 _ _ ls 24 (Option.some.inj hF).symm hP hS (hd 24 (.iconst 0) 1 rfl) (hd 25 .ireturn 1 rfl)
