abbrev zXT : Type := (Nat → Prop) → State → Heap → Prop
/-- what a thing known of the start must bear: other states with the same tables, other heaps, smaller footprints -/
def zXok (X : zXT) : Prop := (∀ (A : Nat → Prop) (s U : State) (H : Heap), s.WarmedH U.vm → X A s H → X A U H) ∧ (∀ (A : Nat → Prop) (u U : State) (H : Heap), u.vm = U.vm → X A u H → X A U H) ∧ (∀ (A : Nat → Prop) (U : State) (H H1 : Heap), (∀ a : Nat, a < H.size → ¬ A a → H1[a]? = H[a]?) → X A U H → X A U H1) ∧ ∀ (A B : Nat → Prop) (U : State) (H : Heap), (∀ q, B q → A q) → X A U H → X B U H
def zBf (X : zXT) (D : va_G) (cl : List vw_C) (kA : Nat → ClassId) (ws : va_W) (sz : Nat) (U : State) : Prop := U.heap.size = sz ∧ va_P D cl ws U.heap ∧ va_K D cl (ztys kA) U ∧ va_D (fun _ => True) ws ∧ X (va_A ws sz) U U.heap
def zQc (D : va_G) (cl : List vw_C) (kA : Nat → ClassId) (k : zK) (r : Nat → Int) (ad : Nat → Nat) (A : Nat → Prop) : Array Value → State → Outcome → State → Prop := fun _ st oc t =>
  (∃ T ∈ k.2.2.2, ∃ (r' : Nat → Int) (ad' : Nat → Nat) (ph' : Nat → Nat → Int), zJ k.1 k.2.1 r ad r' ad' ∧ zokE r' T.1 ∧ zokZ r' T.2.1 ∧ zokW r' ph' T.2.2.2.2.1 ∧ oc = .returned ((T.2.2.2.1.map (zcv r' ad')).head?) ∧ va_P D cl (zws kA r' ad' ph' T.2.2.2.2.1) t.heap ∧ va_D A (zws kA r' ad' ph' T.2.2.2.2.1)) ∧ va_F A st t
def zMet (X : zXT) (cl : List vw_C) (l : Launch) (y : MethodName) (ws : List Cond) (rm : Room) (k : zK) : Prop :=
  ∀ (D : va_G) (kA : Nat → ClassId) (r : Nat → Int) (ad : Nat → Nat) (ph : Nat → Nat → Int) (sz : Nat), zokE r k.2.2.1.1 → zokZ r k.2.2.1.2.1 → zokW r ph k.2.2.1.2.2.2.2.1 →
    Met l y ws rm (va_Pc (k.2.2.1.2.2.2.1.map (zcv r ad)) (zBf X D cl kA (zws kA r ad ph k.2.2.1.2.2.2.2.1) sz)) (zQc D cl kA k r ad (va_A (zws kA r ad ph k.2.2.1.2.2.2.2.1) sz)) 0 0 (va_A (zws kA r ad ph k.2.2.1.2.2.2.2.1) sz)
def zCal (X : zXT) (cl : List vw_C) (p : Program) (l : Launch) (e : Env) (R : Room) (s : State) (m : MethodId) (args : Array Value) (below : List Frame) (meth : Method) (c : Code) (cc : ByteArray) (nL : Nat) (ins : Instr) (k : zK) : Prop :=
  ∀ (D : va_G) (kA : Nat → ClassId) (r : Nat → Int) (ad : Nat → Nat) (ph : Nat → Nat → Int) (H : Heap) (locs : List Loc) (ls : Array Slot) (pc : Nat) (rest : List Value), va_K D cl (ztys kA) s → zokE r k.2.2.1.1 → zokZ r k.2.2.1.2.1 → zokW r ph k.2.2.1.2.2.2.2.1 → va_P D cl (zws kA r ad ph k.2.2.1.2.2.2.2.1) H → va_D (fun _ => True) (zws kA r ad ph k.2.2.1.2.2.2.2.1) → X (va_A (zws kA r ad ph k.2.2.1.2.2.2.2.1) H.size) s H → ls.size = nL → (rest.map fun v => v.category).sum ≤ 8 → decode cc pc = .ok (ins, 3) →
    va_Run p l e R s m args below meth c H locs 0 0 0 0 (F0 m pc ls ((k.2.2.1.2.2.2.1.map (zcv r ad)).reverse ++ rest)) rest (zQc D cl kA k r ad (va_A (zws kA r ad ph k.2.2.1.2.2.2.2.1) H.size) (k.2.2.1.2.2.2.1.map (zcv r ad)).toArray) (va_A (zws kA r ad ph k.2.2.1.2.2.2.2.1) H.size)
section ZCL
variable {X : zXT} {cl : List vw_C} {p : Program} {l : Launch} {e : Env} {R : Room} {s : State} {m : MethodId} {args : Array Value} {below : List Frame} {meth : Method} {c : Code} {cc : ByteArray} {nL : Nat} {k : zK} {y : MethodName} {bytes : ByteArray} {maxL n index : Nat} {ret : Option FieldType} {ws : List Cond} {rm : Room} {Ts : List Cond} {own C host : String} {i0 : Nat} {as : List zA}
theorem zBf_blind (hX : zXok X) {D : va_G} {kA : Nat → ClassId} {w : va_W} {sz : Nat} {av : List Value} : FrameBlind (va_Pc av (zBf X D cl kA w sz)) := by
  intro a U g mk q
  obtain ⟨q0, q1, q2, q3, q4, q5⟩ := q
  exact ⟨q0, q1, q2, va_K.moved (u := U) (U := U.calling g mk a) (Vm.Alike.refl U.vm) q3, q4, hX.2.1 _ U (U.calling g mk a) _ rfl q5⟩
theorem zBf_of (hX : zXok X) {D : va_G} {kA : Nat → ClassId} {w : va_W} {H : Heap} {av : List Value} (hK : va_K D cl (ztys kA) s) (hP : va_P D cl w H) (hD : va_D (fun _ => True) w) (hx : X (va_A w H.size) s H) : ∀ U : State, U.heap = H → s.WarmedH U.vm → va_Pc av (zBf X D cl kA w H.size) av.toArray U := by
  intro U hU hW
  exact ⟨rfl, by rw [hU], by rw [hU]; exact hP, va_K.moved hW.alike hK, hD, by rw [hU]; exact hX.1 _ s U _ hW hx⟩
theorem zcal_V (hX : zXok X) (S : CallFix p m c cc nL s args Ts own) (hM : zMet X cl l y ws rm k) (cw : CallW R s args own C index y bytes maxL ret ws rm 0 0 n) (ha : k.2.2.1.2.2.2.1 = .inr (some i0) :: as) (hr : ∃ (q ci : Nat) (fs : List zA) (T : u_T) (nF : Nat), k.2.2.1.2.2.2.2.1[q]? = some (i0, .inl (ci, fs)) ∧ cl[ci]? = some (C, T, nF)) (hn : as.length = n) : zCal X cl p l e R s m args below meth c cc nL (.invokevirtual index) k := by
  intro D kA r ad ph H locs ls pc rest hK hE hZ hW hP hD hx hls hcat hdg
  have hm := hM D kA r ad ph H.size hE hZ hW
  obtain ⟨q, ci, fs, T, nF, g1, g2⟩ := hr
  rw [ha] at hm ⊢
  have hst : ((.inr (some i0) :: as : List zA).map (zcv r ad)).reverse ++ rest = (as.map (zcv r ad)).reverse ++ .ref (ad i0) :: rest := by
    rw [List.map_cons, List.reverse_cons, List.append_assoc]
    rfl
  rw [hst]
  exact va_runV (As := as.map (zcv r ad)) (b := ad i0) S hm cw ⟨zBf_blind hX, va_recv hK hP (ci := ci) (q0 := q) g2 (zws_get kA r ad ph g1), fun U hU hW => zBf_of hX hK hP hD hx U hU hW⟩ rfl (by rw [List.length_map]; exact hn) hls rfl (lv_room hcat) hdg ⟨Nat.zero_le _, Nat.zero_le _⟩
theorem zcal_VN (hX : zXok X) (S : CallFix p m c cc nL s args Ts own) (hM : zMet X cl l y ws rm k) (cw : va_CN R s args own index y host bytes maxL ret ws rm 0 0 n ∧ (Cond.instanceMethod y).before args s = true ∧ (Cond.selects C y y).before args s = true) (ha : k.2.2.1.2.2.2.1 = .inr (some i0) :: as) (hr : ∃ (q ci : Nat) (fs : List zA) (T : u_T) (nF : Nat), k.2.2.1.2.2.2.2.1[q]? = some (i0, .inl (ci, fs)) ∧ cl[ci]? = some (C, T, nF)) (hn : as.length = n) : zCal X cl p l e R s m args below meth c cc nL (.invokevirtual index) k := by
  intro D kA r ad ph H locs ls pc rest hK hE hZ hW hP hD hx hls hcat hdg
  have hm := hM D kA r ad ph H.size hE hZ hW
  obtain ⟨q, ci, fs, T, nF, g1, g2⟩ := hr
  rw [ha] at hm ⊢
  have hst : ((.inr (some i0) :: as : List zA).map (zcv r ad)).reverse ++ rest = (as.map (zcv r ad)).reverse ++ .ref (ad i0) :: rest := by
    rw [List.map_cons, List.reverse_cons, List.append_assoc]
    rfl
  rw [hst]
  exact va_runVN (As := as.map (zcv r ad)) (b := ad i0) S hm cw ⟨zBf_blind hX, va_recv hK hP (ci := ci) (q0 := q) g2 (zws_get kA r ad ph g1), fun U hU hW => zBf_of hX hK hP hD hx U hU hW⟩ rfl (by rw [List.length_map]; exact hn) hls rfl (lv_room hcat) hdg ⟨Nat.zero_le _, Nat.zero_le _⟩
theorem zcal_S (hX : zXok X) (S : CallFix p m c cc nL s args Ts own) (hM : zMet X cl l y ws rm k) (cw : CallB R s args own index y bytes maxL ret ws rm 0 0 n ∧ (Cond.static y).before args s = true) (hn : k.2.2.1.2.2.2.1.length = n) : zCal X cl p l e R s m args below meth c cc nL (.invokestatic index) k := by
  intro D kA r ad ph H locs ls pc rest hK hE hZ hW hP hD hx hls hcat hdg
  have hm := hM D kA r ad ph H.size hE hZ hW
  exact va_runS (As := k.2.2.1.2.2.2.1.map (zcv r ad)) S hm cw ⟨zBf_blind hX, fun U hU hW => zBf_of hX hK hP hD hx U hU hW⟩ rfl (by rw [List.length_map]; exact hn) hls rfl (lv_room hcat) hdg ⟨Nat.zero_le _, Nat.zero_le _⟩
theorem zcal_SN (hX : zXok X) (S : CallFix p m c cc nL s args Ts own) (hM : zMet X cl l y ws rm k) (cw : va_CN R s args own index y host bytes maxL ret ws rm 0 0 n ∧ (Cond.static y).before args s = true ∧ True) (hn : k.2.2.1.2.2.2.1.length = n) : zCal X cl p l e R s m args below meth c cc nL (.invokestatic index) k := by
  intro D kA r ad ph H locs ls pc rest hK hE hZ hW hP hD hx hls hcat hdg
  have hm := hM D kA r ad ph H.size hE hZ hW
  exact va_runSN (As := k.2.2.1.2.2.2.1.map (zcv r ad)) S hm cw ⟨zBf_blind hX, fun U hU hW => zBf_of hX hK hP hD hx U hU hW⟩ rfl (by rw [List.length_map]; exact hn) hls rfl (lv_room hcat) hdg ⟨Nat.zero_le _, Nat.zero_le _⟩
end ZCL
