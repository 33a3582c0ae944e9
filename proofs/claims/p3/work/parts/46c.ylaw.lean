section YLW
variable {X : zXT} {p : Program} {l : Launch} {e : Env} {R : Room} {s : State} {m : MethodId} {args : Array Value} {below : List Frame} {meth : Method} {c : Code} {Q : State → Prop} {cc : ByteArray} {D : va_G} {cl : List vw_C} {ct : yCt} {kA : Nat → ClassId} {A : Nat → Prop} {nL pc cells slots : Nat} {sh : List yH} {ad : Nat → Nat}
theorem yget_l {u v : va_W} {k : Nat} {q : Nat × va_E} (hk : u[k]? = some q) : (u ++ v)[k]? = some q := by
  rw [List.getElem?_append_left (List.getElem?_eq_some_iff.mp hk).1]
  exact hk
theorem yget_r {u v : va_W} {k : Nat} {q : Nat × va_E} (hk : v[k]? = some q) : (u ++ v)[u.length + k]? = some q := by
  rw [List.getElem?_append_right (Nat.le_add_right _ _), Nat.add_sub_cancel_left]
  exact hk
theorem yP_l {D : va_G} {cl : List vw_C} {H : Heap} {u v : va_W} (h : va_P D cl (u ++ v) H) : va_P D cl u H := fun k q hk => h k q (yget_l hk)
theorem yP_r {D : va_G} {cl : List vw_C} {H : Heap} {u v : va_W} (h : va_P D cl (u ++ v) H) : va_P D cl v H := fun k q hk => h (u.length + k) q (yget_r hk)
theorem yD_l {A : Nat → Prop} {u v : va_W} (h : va_D A (u ++ v)) : va_D A u := ⟨fun i j p q hi hj e => h.1 i j p q (yget_l hi) (yget_l hj) e, fun k q hk => h.2 k q (yget_l hk)⟩
theorem yD_r {A : Nat → Prop} {u v : va_W} (h : va_D A (u ++ v)) : va_D A v := ⟨fun i j p q hi hj e => by
  have := h.1 (u.length + i) (u.length + j) p q (yget_r hi) (yget_r hj) e
  omega, fun k q hk => h.2 (u.length + k) q (yget_r hk)⟩
theorem yD_x {A : Nat → Prop} {u v : va_W} (h : va_D A (u ++ v)) : ∀ (i j : Nat) (p q : Nat × va_E), u[i]? = some p → v[j]? = some q → p.1 ≠ q.1 := fun i j p q hi hj e => by
  have a := h.1 i (u.length + j) p q (yget_l hi) (yget_r hj) e
  have b := (List.getElem?_eq_some_iff.mp hi).1
  omega
theorem ycallzG {H : Heap} {locs : List Loc} {H0 : Heap} {A0 A1 : Nat → Prop} {ls : Array Slot} {st0 rest : List Value} {a : Array Value} {res : yR} (hr : va_Run p l e R s m args below meth c H locs cells slots 0 0 (F0 m pc ls st0) rest (yQc D cl ct kA sh ad A1 res a) A1) (hS : va_S A0 H0 H locs) (hA : ∀ q, A1 q → A0 q)
    (kk : ∀ (H1 : Heap) (locs1 : List Loc), yokS ct sh res.2 → (∀ a, res.1 = some a → yokV sh a) → va_P D cl (yws ct kA ad sh res.2) H1 → va_D A1 (yws ct kA ad sh res.2) → (∀ q : Nat, q < H.size → ¬ A1 q → H1[q]? = H[q]?) → va_S A0 H0 H1 locs1 → W p l e R s m args below meth c H1 locs1 cells slots Q (F0 m (pc + 3) ls ((res.1.map (ycv ad)).toList ++ rest))) : W p l e R s m args below meth c H locs cells slots Q (F0 m pc ls st0) := by
  intro T hT Xs
  obtain ⟨v, st₀, t, T', L, h0, X', hL, e1, e2, ⟨⟨j1, j2, hv, j5, j6⟩, hz, hk⟩, st⟩ := hr T hT Xs
  cases hv
  rw [h0] at hz hk
  rw [← e1] at j5
  obtain ⟨t2, a1, b1⟩ := kk T'.heap (locs ++ L) j1 j2 j5 j6 (fun q h1 h2 => by rw [e1]; exact hk q h1 h2)
    ⟨Nat.le_trans hS.1 (by rw [e1]; exact hz), fun q h1 h2 => by rw [e1, hk q (Nat.lt_of_lt_of_le h1 hS.1) (fun z => h2 (hA q z))]; exact hS.2.1 q h1 h2, fun q hq => by
      rcases List.mem_append.mp hq with h | h
      · exact hS.2.2 q h
      · exact hA _ (hL q h)⟩ T' rfl X'
  exact ⟨t2, st t2 a1, b1⟩
set_option maxHeartbeats 4000000 in
/-- a call of a method that is proved, beside a world that it does not know -/
theorem ycallG (hX : zXok X) {Ts ws : List Cond} {own C : String} {y : MethodName} {bytes : ByteArray} {maxL n index ci nF : Nat} {T : u_T} {ret : Option FieldType} {rm : Room} {F : yF} {as : List yV} (S : CallFix p m c cc nL s args Ts own) (hM : yMet X cl ct sh l y ws rm F) (hci : cl[ci]? = some (C, T, nF)) (cw : CallW R s args own C index y bytes maxL ret ws rm 0 0 n) (hn : as.length = n)
    (hK : va_K D cl (ztys kA) s) {σ : yS} {res : yR} (hS0 : yokS ct sh σ) (h0 : sh[0]? = some (.inl ci)) (has : ∀ a ∈ as, yokV sh a) (hF : F (.inr (.inl ci, 0) :: as) σ = some res) {v : va_W} {H : Heap} {locs : List Loc} {ls : Array Slot} {rest : List Value} (hP : va_P D cl (yws ct kA ad sh σ ++ v) H) (hD : va_D A (yws ct kA ad sh σ ++ v)) (hS : va_S A s.heap H locs) (hA : ∀ q, s.heap.size ≤ q → A q) (hx0 : X A s s.heap) (hls : ls.size = nL) (hcat : (rest.map fun v => v.category).sum ≤ 8) (hdg : decode cc pc = .ok (.invokevirtual index, 3)) (hroom : cells ≤ R.cells ∧ slots ≤ R.slots)
    (kk : ∀ (H1 : Heap) (locs1 : List Loc), yokS ct sh res.2 → (∀ a, res.1 = some a → yokV sh a) → va_P D cl (v ++ yws ct kA ad sh res.2) H1 → va_D A (v ++ yws ct kA ad sh res.2) → va_S A s.heap H1 locs1 → W p l e R s m args below meth c H1 locs1 cells slots Q (F0 m (pc + 3) ls ((res.1.map (ycv ad)).toList ++ rest))) :
    W p l e R s m args below meth c H locs cells slots Q (F0 m pc ls ((as.map (ycv ad)).reverse ++ .ref (ad 0) :: rest)) := by
  have hall : ∀ a ∈ (.inr (.inl ci, 0) :: as : List yV), yokV sh a := List.forall_mem_cons.mpr ⟨(show yokV sh (.inr (.inl ci, 0)) from h0), has⟩
  have hm := hM D kA ad H.size (.inr (.inl ci, 0) :: as) σ res hS0 hall hF
  have hPc := yP_l hP
  have hDc := yD_l hD
  have hFr : ∀ q, va_A (yws ct kA ad sh σ) H.size q → A q := fun q h => by
    rcases h with ⟨j, e, h⟩ | h
    · exact hDc.2 j (q, e) h
    · exact hA q (Nat.le_trans hS.1 h)
  have hxA : X (va_A (yws ct kA ad sh σ) H.size) s H := hX.2.2.2 A _ s H hFr (hX.2.2.1 A s s.heap H (fun a h1 h2 => hS.2.1 a h1 h2) hx0)
  have hrun := va_runV (e := e) (As := as.map (ycv ad)) (b := ad 0) (rest := rest) (locs := locs) (cells := cells) (slots := slots) (g := F0 m pc ls ((as.map (ycv ad)).reverse ++ .ref (ad 0) :: rest)) (below := below) (meth := meth) S hm cw ⟨zBf_blind hX, va_recv hK hPc (ci := ci) (q0 := 0) hci (yws_get h0), fun U hU hWm => zBf_of hX hK hPc (hDc.weaken (fun _ _ _ _ => trivial)) hxA U hU hWm⟩ rfl (by rw [List.length_map]; exact hn) hls rfl (lv_room hcat) hdg ⟨hroom.1, hroom.2⟩
  refine ycallzG hrun hS hFr (fun H1 locs1 j1 j2 j5 j6 j7 j8 => kk H1 locs1 j1 j2 ?_ ?_ j8)
  · refine va_P.app ((yP_r hP).kept (fun i x hx => ?_)) j5
    refine j7 x.1 (yP_r hP i x hx).lt (fun h => ?_)
    rcases h with ⟨j, e, h⟩ | h
    · exact yD_x hD j i (x.1, e) x h hx rfl
    · have := (yP_r hP i x hx).lt
      omega
  · refine va_D.app (yD_r hD) (j6.weaken (fun i x _ h => hFr x.1 h)) (fun i j x y hx hy e => ?_)
    rcases j6.2 j y hy with ⟨j', e', h⟩ | h
    · exact yD_x hD j' i (y.1, e') x h hx e.symm
    · have := (yP_r hP i x hx).lt
      rw [e] at this
      omega
end YLW
