/-- a world that keeps its bounds -/
def zIn (I : zS) (kA : Nat → ClassId) (x : Nat) (u : va_W) : Prop := ∃ (r : Nat → Int) (ad : Nat → Nat) (ph : Nat → Nat → Int), zokE r I.1 ∧ zokW r ph I.2.2.2.2.1 ∧ ad 0 = x ∧ u = zws kA r ad ph I.2.2.2.2.1
section ZLW
theorem zget_l {u v : va_W} {k : Nat} {q : Nat × va_E} (hk : u[k]? = some q) : (u ++ v)[k]? = some q := by
  rw [List.getElem?_append_left (List.getElem?_eq_some_iff.mp hk).1]
  exact hk
theorem zget_r {u v : va_W} {k : Nat} {q : Nat × va_E} (hk : v[k]? = some q) : (u ++ v)[u.length + k]? = some q := by
  rw [List.getElem?_append_right (Nat.le_add_right _ _), Nat.add_sub_cancel_left]
  exact hk
theorem zP_l {D : va_G} {cl : List vw_C} {H : Heap} {u v : va_W} (h : va_P D cl (u ++ v) H) : va_P D cl u H := fun k q hk => h k q (zget_l hk)
theorem zP_r {D : va_G} {cl : List vw_C} {H : Heap} {u v : va_W} (h : va_P D cl (u ++ v) H) : va_P D cl v H := fun k q hk => h (u.length + k) q (zget_r hk)
theorem zD_l {A : Nat → Prop} {u v : va_W} (h : va_D A (u ++ v)) : va_D A u := ⟨fun i j p q hi hj e => h.1 i j p q (zget_l hi) (zget_l hj) e, fun k q hk => h.2 k q (zget_l hk)⟩
theorem zD_r {A : Nat → Prop} {u v : va_W} (h : va_D A (u ++ v)) : va_D A v := ⟨fun i j p q hi hj e => by
  have := h.1 (u.length + i) (u.length + j) p q (zget_r hi) (zget_r hj) e
  omega, fun k q hk => h.2 (u.length + k) q (zget_r hk)⟩
theorem zD_x {A : Nat → Prop} {u v : va_W} (h : va_D A (u ++ v)) : ∀ (i j : Nat) (p q : Nat × va_E), u[i]? = some p → v[j]? = some q → p.1 ≠ q.1 := fun i j p q hi hj e => by
  have a := h.1 i (u.length + j) p q (zget_l hi) (zget_r hj) e
  have b := (List.getElem?_eq_some_iff.mp hi).1
  omega
variable {X : zXT} {p : Program} {l : Launch} {e : Env} {R : Room} {s : State} {m : MethodId} {args : Array Value} {below : List Frame} {meth : Method} {c : Code} {Q : State → Prop} {cc : ByteArray} {D : va_G} {cl : List vw_C} {kA : Nat → ClassId} {A : Nat → Prop} {nL pc cells slots : Nat}
theorem zcallzG {H : Heap} {locs : List Loc} {H0 : Heap} {A0 A1 : Nat → Prop} {ls : Array Slot} {st0 rest : List Value} {a : Array Value} {k : zK} {r1 : Nat → Int} {ad1 : Nat → Nat} (hr : va_Run p l e R s m args below meth c H locs cells slots 0 0 (F0 m pc ls st0) rest (zQc D cl kA k r1 ad1 A1 a) A1) (hS : va_S A0 H0 H locs) (hA : ∀ q, A1 q → A0 q)
    (kk : ∀ T ∈ k.2.2.2, ∀ (r' : Nat → Int) (ad' : Nat → Nat) (ph' : Nat → Nat → Int) (H1 : Heap) (locs1 : List Loc), zJ k.1 k.2.1 r1 ad1 r' ad' → zokE r' T.1 → zokZ r' T.2.1 → zokW r' ph' T.2.2.2.2.1 → va_P D cl (zws kA r' ad' ph' T.2.2.2.2.1) H1 → va_D A1 (zws kA r' ad' ph' T.2.2.2.2.1) → (∀ q : Nat, q < H.size → ¬ A1 q → H1[q]? = H[q]?) → va_S A0 H0 H1 locs1 → W p l e R s m args below meth c H1 locs1 cells slots Q (F0 m (pc + 3) ls ((T.2.2.2.1.map (zcv r' ad')).head?.toList ++ rest))) : W p l e R s m args below meth c H locs cells slots Q (F0 m pc ls st0) := by
  intro T hT Xs
  obtain ⟨v, st₀, t, T', L, h0, X', hL, e1, e2, ⟨⟨Tx, hTx, r', ad', ph', j1, j2, j3, j4, hv, j5, j6⟩, hz, hk⟩, st⟩ := hr T hT Xs
  cases hv
  rw [h0] at hz hk
  rw [← e1] at j5
  obtain ⟨t2, a1, b1⟩ := kk Tx hTx r' ad' ph' T'.heap (locs ++ L) j1 j2 j3 j4 j5 j6 (fun q h1 h2 => by rw [e1]; exact hk q h1 h2)
    ⟨Nat.le_trans hS.1 (by rw [e1]; exact hz), fun q h1 h2 => by rw [e1, hk q (Nat.lt_of_lt_of_le h1 hS.1) (fun z => h2 (hA q z))]; exact hS.2.1 q h1 h2, fun q hq => by
      rcases List.mem_append.mp hq with h | h
      · exact hS.2.2 q h
      · exact hA _ (hL q h)⟩ T' rfl X'
  exact ⟨t2, st t2 a1, b1⟩
/-- a call of a method that is proved, beside a world that it does not know -/
theorem zcallG (hX : zXok X) {Ts ws : List Cond} {own C : String} {y : MethodName} {bytes : ByteArray} {maxL n index : Nat} {ret : Option FieldType} {rm : Room} {k : zK} {as : List zA} {i0 : Nat} (S : CallFix p m c cc nL s args Ts own) (hM : zMet X cl l y ws rm k) (cw : CallW R s args own C index y bytes maxL ret ws rm 0 0 n) (ha : k.2.2.1.2.2.2.1 = .inr (some i0) :: as) (hr : ∃ (q ci : Nat) (fs : List zA) (T : u_T) (nF : Nat), k.2.2.1.2.2.2.2.1[q]? = some (i0, .inl (ci, fs)) ∧ cl[ci]? = some (C, T, nF)) (hn : as.length = n)
    (hK : va_K D cl (ztys kA) s) {r : Nat → Int} {ad : Nat → Nat} {ph : Nat → Nat → Int} (hE : zokE r k.2.2.1.1) (hZ : zokZ r k.2.2.1.2.1) (hW : zokW r ph k.2.2.1.2.2.2.2.1) {v : va_W} {H : Heap} {locs : List Loc} {ls : Array Slot} {rest : List Value} (hP : va_P D cl (zws kA r ad ph k.2.2.1.2.2.2.2.1 ++ v) H) (hD : va_D A (zws kA r ad ph k.2.2.1.2.2.2.2.1 ++ v)) (hS : va_S A s.heap H locs) (hA : ∀ q, s.heap.size ≤ q → A q) (hx0 : X A s s.heap) (hls : ls.size = nL) (hcat : (rest.map fun v => v.category).sum ≤ 8) (hdg : decode cc pc = .ok (.invokevirtual index, 3)) (hroom : cells ≤ R.cells ∧ slots ≤ R.slots)
    (kk : ∀ T ∈ k.2.2.2, ∀ (r' : Nat → Int) (ad' : Nat → Nat) (ph' : Nat → Nat → Int) (H1 : Heap) (locs1 : List Loc), zJ k.1 k.2.1 r ad r' ad' → zokE r' T.1 → zokZ r' T.2.1 → zokW r' ph' T.2.2.2.2.1 → va_P D cl (v ++ zws kA r' ad' ph' T.2.2.2.2.1) H1 → va_D A (v ++ zws kA r' ad' ph' T.2.2.2.2.1) → va_S A s.heap H1 locs1 → W p l e R s m args below meth c H1 locs1 cells slots Q (F0 m (pc + 3) ls ((T.2.2.2.1.map (zcv r' ad')).head?.toList ++ rest))) :
    W p l e R s m args below meth c H locs cells slots Q (F0 m pc ls ((as.map (zcv r ad)).reverse ++ .ref (ad i0) :: rest)) := by
  have hm := hM D kA r ad ph H.size hE hZ hW
  obtain ⟨q, ci, fs, T, nF, g1, g2⟩ := hr
  have hPc := zP_l hP
  have hDc := zD_l hD
  have hF : ∀ q, va_A (zws kA r ad ph k.2.2.1.2.2.2.2.1) H.size q → A q := fun q h => by
    rcases h with ⟨j, e, h⟩ | h
    · exact hDc.2 j (q, e) h
    · exact hA q (Nat.le_trans hS.1 h)
  have hxA : X (va_A (zws kA r ad ph k.2.2.1.2.2.2.2.1) H.size) s H := hX.2.2.2 A _ s H hF (hX.2.2.1 A s s.heap H (fun a h1 h2 => hS.2.1 a h1 h2) hx0)
  rw [ha] at hm
  have hrun := va_runV (e := e) (As := as.map (zcv r ad)) (b := ad i0) (rest := rest) (locs := locs) (cells := cells) (slots := slots) (g := F0 m pc ls ((as.map (zcv r ad)).reverse ++ .ref (ad i0) :: rest)) (below := below) (meth := meth) S hm cw ⟨zBf_blind hX, va_recv hK hPc (ci := ci) (q0 := q) g2 (zws_get kA r ad ph g1), fun U hU hWm => zBf_of hX hK hPc (hDc.weaken (fun _ _ _ _ => trivial)) hxA U hU hWm⟩ rfl (by rw [List.length_map]; exact hn) hls rfl (lv_room hcat) hdg ⟨hroom.1, hroom.2⟩
  refine zcallzG hrun hS hF (fun T hT r' ad' ph' H1 locs1 j1 j2 j3 j4 j5 j6 j7 j8 => kk T hT r' ad' ph' H1 locs1 j1 j2 j3 j4 ?_ ?_ j8)
  · refine va_P.app ((zP_r hP).kept (fun i x hx => ?_)) j5
    refine j7 x.1 (zP_r hP i x hx).lt (fun h => ?_)
    rcases h with ⟨j, e, h⟩ | h
    · exact zD_x hD j i (x.1, e) x h hx rfl
    · have := (zP_r hP i x hx).lt
      omega
  · refine va_D.app (zD_r hD) (j6.weaken (fun i x _ h => hF x.1 h)) (fun i j x y hx hy e => ?_)
    rcases j6.2 j y hy with ⟨j', e', h⟩ | h
    · exact zD_x hD j' i (y.1, e') x h hx e.symm
    · have := (zP_r hP i x hx).lt
      rw [e] at this
      omega
/-- what a program decides of a call in the law: the bounds of its start and of all its ends -/
def zlck (k : zK) (I : zS) (K0 : Nat) (bs : List zI) : Bool :=
  Nat.blt 0 K0 && zbS K0 I && Nat.ble (K0 + bs.length) k.1 && zmem 0 k.2.1
  && k.2.2.1.1.all (fun x => (Nat.blt x.1 K0 && decide (zfind I.1 x.1 = some x.2)) || (Nat.ble K0 x.1 && match bs[x.1 - K0]? with
    | some b => zle x.2.1 b.1 && zle b.2 x.2.2
    | none => false))
  && k.2.2.2.all (fun T =>
    let S : zS := (T.1 ++ k.2.2.1.1, T.2.1, [], [], T.2.2.2.2.1, [])
    let q := zmS [0] S I
    zent 1 [0] S I q.1 q.2 (zmp S.2.2.2.2.1 q.2 I.2.2.2.2.1))
set_option maxHeartbeats 4000000 in
theorem zlawG (hX : zXok X) {Ts ws : List Cond} {own C : String} {y : MethodName} {bytes : ByteArray} {maxL n index : Nat} {ret : Option FieldType} {rm : Room} {k : zK} (S : CallFix p m c cc nL s args Ts own) (hM : zMet X cl l y ws rm k) (cw : CallW R s args own C index y bytes maxL ret ws rm 0 0 n)
    {I : zS} {K0 : Nat} {bs : List zI} {vs : List Int32} (hk1 : k.2.2.1.2.1 = []) (hk2 : k.2.2.1.2.2.2.2.1 = I.2.2.2.2.1) (hk3 : k.2.2.1.2.2.2.1 = .inr (some 0) :: (List.range n).map (fun j => .inl (.inl (K0 + j, 0)))) (hi1 : I.2.1 = []) (hi2 : I.2.2.1 = []) (hi3 : I.2.2.2.1 = []) (hi4 : ∃ (ci : Nat) (fs : List zA) (T : u_T) (nF : Nat), I.2.2.2.2.1[0]? = some (0, .inl (ci, fs)) ∧ cl[ci]? = some (C, T, nF)) (hck : zlck k I K0 bs = true) (hbn : bs.length = n) (hvs : vs.length = n) (hbs : ∀ (j : Nat) (b : zI), bs[j]? = some b → b.1 ≤ (vs.getD j 0).toInt ∧ (vs.getD j 0).toInt ≤ b.2)
    (hK : va_K D cl (ztys kA) s) {x : Nat} {u v : va_W} {H : Heap} {locs : List Loc} {ls : Array Slot} {rest : List Value} (hu : zIn I kA x u) (hP : va_P D cl (u ++ v) H) (hD : va_D A (u ++ v)) (hS : va_S A s.heap H locs) (hA : ∀ q, s.heap.size ≤ q → A q) (hx0 : X A s s.heap) (hl : lv_has ls nL []) (hcat : (rest.map fun v => v.category).sum ≤ 8) (hdg : decode cc pc = .ok (.invokevirtual index, 3)) (hroom : cells ≤ R.cells ∧ slots ≤ R.slots)
    (kk : ∀ T ∈ k.2.2.2, ∀ (r' : Nat → Int) (ad' : Nat → Nat) (u' : va_W) (H1 : Heap) (locs1 : List Loc), zokE r' T.1 → (∀ j, j < n → r' (K0 + j) = (vs.getD j 0).toInt) → zIn I kA x u' → va_P D cl (v ++ u') H1 → va_D A (v ++ u') → va_S A s.heap H1 locs1 → W p l e R s m args below meth c H1 locs1 cells slots Q (F0 m (pc + 3) ls ((T.2.2.2.1.map (zcv r' ad')).head?.toList ++ rest))) :
    W p l e R s m args below meth c H locs cells slots Q (F0 m pc ls ((vs.map Value.int).reverse ++ .ref x :: rest)) := by
  obtain ⟨r, ad, ph, e1, e3, e4, e5⟩ := hu
  simp only [zlck, Bool.and_eq_true] at hck
  obtain ⟨⟨⟨⟨⟨c1, c2⟩, c3⟩, c4⟩, c5⟩, c6⟩ := hck
  have k0 := zblt c1
  have k1 := Nat.le_of_ble_eq_true c3
  subst hbn
  obtain ⟨r1, hr1⟩ : ∃ r1 : Nat → Int, r1 = fun i => if i < K0 then r i else (vs.getD (i - K0) 0).toInt := ⟨_, rfl⟩
  have hag : ∀ i, i < K0 → r1 i = r i := fun i hi => by rw [hr1]; exact if_pos hi
  have hnew : ∀ j, r1 (K0 + j) = (vs.getD j 0).toInt := fun j => by
    rw [hr1]
    dsimp only
    rw [if_neg (by omega), Nat.add_sub_cancel_left]
  have hb := c2
  simp only [zbS, Bool.and_eq_true] at hb
  have eW := zbW_eq hag kA ad ph hb.1.2
  have hE : zokE r1 k.2.2.1.1 := by
    refine ⟨by rw [hag 0 k0]; exact e1.1, fun x hx => ?_⟩
    have q := List.all_eq_true.mp c5 x hx
    rw [Bool.or_eq_true] at q
    rcases q with q | q
    · simp only [Bool.and_eq_true] at q
      rw [hag _ (zblt q.1)]
      exact zfind_ok e1.2 (of_decide_eq_true q.2)
    · simp only [Bool.and_eq_true] at q
      have hle := Nat.le_of_ble_eq_true q.1
      have h2 := q.2
      split at h2
      · rename_i b hb
        simp only [Bool.and_eq_true] at h2
        have w := hbs _ b hb
        have w1 := zle_ok h2.1
        have w2 := zle_ok h2.2
        have w3 := hnew (x.1 - K0)
        rw [show K0 + (x.1 - K0) = x.1 by omega] at w3
        omega
      · cases h2
  have hW1 : zokW r1 ph k.2.2.1.2.2.2.2.1 := by
    rw [hk2]
    exact fun x hx => zbC_ok hag (ph x.1) (List.all_eq_true.mp hb.1.2 x hx) (e3 x hx)
  have hstk : (vs.map Value.int).reverse ++ .ref x :: rest = (((List.range bs.length).map (fun j => (.inl (.inl (K0 + j, 0)) : zA))).map (zcv r1 ad)).reverse ++ .ref (ad 0) :: rest := by
    rw [e4]
    congr 2
    apply List.ext_getElem?
    intro j
    rw [List.getElem?_map, List.getElem?_map, List.getElem?_map]
    by_cases hj : j < vs.length
    · rw [List.getElem?_eq_getElem hj, List.getElem?_range (by omega)]
      show some (Value.int vs[j]) = some (Value.int (Int32.ofInt (zev r1 (K0 + j, 0))))
      have : zev r1 (K0 + j, 0) = vs[j].toInt := by
        show r1 (K0 + j) + 0 = _
        rw [hnew j, Int.add_zero, List.getD_eq_getElem?_getD, List.getElem?_eq_getElem hj]
        rfl
      rw [this, Int32.ofInt_toInt]
    · rw [List.getElem?_eq_none (Nat.le_of_not_lt hj), List.getElem?_eq_none (by rw [List.length_range]; omega)]
      rfl
  rw [hstk]
  have hP' : va_P D cl (zws kA r1 ad ph k.2.2.1.2.2.2.2.1 ++ v) H := by
    rw [hk2, eW, ← e5]
    exact hP
  have hD' : va_D A (zws kA r1 ad ph k.2.2.1.2.2.2.2.1 ++ v) := by
    rw [hk2, eW, ← e5]
    exact hD
  refine zcallG hX S hM cw hk3 ?_ (by rw [List.length_map, List.length_range]) hK hE (by rw [hk1]; intro z hz; cases hz) hW1 hP' hD' hS hA hx0 hl.1 hcat hdg hroom (fun T hT r' ad' ph' H1 locs1 j1 j2 j3 j4 j5 j6 j8 => ?_)
  · obtain ⟨ci, fs, T, nF, g1, g2⟩ := hi4
    exact ⟨0, ci, fs, T, nF, by rw [hk2]; exact g1, g2⟩
  have q := List.all_eq_true.mp c6 T hT
  have hE' : zokE r' (T.1 ++ k.2.2.1.1) := ⟨j2.1, fun x hx => by
    rcases List.mem_append.mp hx with h | h
    · exact j2.2 x h
    · have hlt : x.1 < k.1 := by
        have q := List.all_eq_true.mp c5 x h
        rw [Bool.or_eq_true] at q
        rcases q with q | q
        · simp only [Bool.and_eq_true] at q
          have := zblt q.1
          omega
        · simp only [Bool.and_eq_true] at q
          have hle := Nat.le_of_ble_eq_true q.1
          have h2 := q.2
          split at h2
          · rename_i b hb
            have := (List.getElem?_eq_some_iff.mp hb).1
            omega
          · cases h2
      rw [j1.1 _ hlt]
      exact hE.2 x h⟩
  obtain ⟨w1, ⟨t1, t2, t3, t4, t5, t6, t7⟩, -⟩ := zent_ok q (r0 := r') (ad0 := ad') (D := D) (cl := cl) (kA := kA) (A := A) (H0 := s.heap) (nL := nL) (ph := ph') (H := H1) (locs := locs1) (ls := ls) ⟨fun _ _ => rfl, fun _ _ => rfl⟩ ⟨hE', j3, j4, zP_r j5, zD_r j6, j8, hl⟩
  have hz := q
  simp only [zent, Bool.and_eq_true] at hz
  obtain ⟨-, -, -, -, -, h5, -, -⟩ := hz
  obtain ⟨w2, -⟩ := zWle_ok hE' _ _ kA ad' ph' j4 _ _ h5
  refine kk T hT r' ad' _ H1 locs1 j2 (fun j hj => by rw [j1.1 _ (by omega)]; exact hnew j) ⟨_, _, _, t1, t3, ?_, rfl⟩ (va_P.app (zP_l j5) t4) (va_D.app (zD_l j6) t5 (fun i j x y hx hy e6 => ?_)) j8
  · have e0 := w1.2 0 List.mem_cons_self
    exact e0.trans ((j1.2 0 (zmem_ok.mp c4)).trans e4)
  · have e : (List.map (fun i : Nat => (zws kA r' ad' ph' T.2.2.2.2.1)[i]?) (zmp T.2.2.2.2.1 (zmS [0] (T.1 ++ k.2.2.1.1, T.2.1, [], [], T.2.2.2.2.1, []) I).2 I.2.2.2.2.1))[j]? = some (some y) := by
      rw [w2, List.getElem?_map, hy]
      rfl
    rw [List.getElem?_map] at e
    cases hi : (zmp T.2.2.2.2.1 (zmS [0] (T.1 ++ k.2.2.1.1, T.2.1, [], [], T.2.2.2.2.1, []) I).2 I.2.2.2.2.1)[j]? with
    | none => rw [hi] at e; cases e
    | some i' =>
      rw [hi] at e
      exact zD_x j6 i i' x y hx (Option.some.inj e) e6
end ZLW
