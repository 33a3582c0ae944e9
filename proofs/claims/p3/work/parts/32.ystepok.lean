theorem yone_inv {X : yC} {r : yT} {C' : yC} (h : yone X = some r) (hc : ynext r = some C') : C' = X := by
  have h : (true, some X, none) = r := Option.some.inj h
  subst h
  exact (Option.some.inj hc).symm
theorem yg_inv {g : Bool} {X : yC} {r : yT} {C' : yC} (h : some (g, some X, none) = some r) (hc : ynext r = some C') : g = true ∧ C' = X := by
  have h : (g, some X, none) = r := Option.some.inj h
  subst h
  cases g with
  | true => exact ⟨rfl, (Option.some.inj hc).symm⟩
  | false =>
    have hc : (none : Option yC) = some C' := hc
    cases hc
theorem yb_inv {g : Bool} {X Y : yC} {r : yT} {C' : yC} (h : some (g, some X, some Y) = some r) (hc : ynext r = some C') : (g = true → C' = X) ∧ (g = false → C' = Y) := by
  have h : (g, some X, some Y) = r := Option.some.inj h
  subst h
  cases g with
  | true => exact ⟨fun _ => (Option.some.inj hc).symm, (fun q => by cases q)⟩
  | false => exact ⟨(fun q => by cases q), fun _ => (Option.some.inj hc).symm⟩
section YSA
variable {p : Program} {l : Launch} {e : Env} {R : Room} {s : State} {m : MethodId} {args : Array Value} {below : List Frame} {meth : Method} {c : Code} {cells slots : Nat} {Q : State → Prop} {cc : ByteArray} {D : va_G} {cl : List vw_C} {ct : yCt} {kA : Nat → ClassId} {A : Nat → Prop} {H0 : Heap} {nL : Nat} {sh : List yH} {ad : Nat → Nat} {C C' : yC} {ins : Instr} {r : yT}
theorem yRel.st {pc' : Nat} {st' : List yV} {H : Heap} {locs : List Loc} {ls : Array Slot} (hR : yRel D cl ct kA A H0 nL sh ad C H locs ls) (h : ∀ a ∈ st', yokV sh a) : yRel D cl ct kA A H0 nL sh ad (pc', C.2.1, st', C.2.2.2) H locs ls := ⟨hR.1, hR.2.1, h, hR.2.2.2⟩
theorem yRel.push {pc' : Nat} {a : yV} {H : Heap} {locs : List Loc} {ls : Array Slot} (hR : yRel D cl ct kA A H0 nL sh ad C H locs ls) (h : yokV sh a) : yRel D cl ct kA A H0 nL sh ad (pc', C.2.1, a :: C.2.2.1, C.2.2.2) H locs ls := hR.st (List.forall_mem_cons.mpr ⟨h, hR.2.2.1⟩)
theorem ylocal {i : Nat} {a : yV} (hl : zlk C.2.1 i = some a) {H : Heap} {locs : List Loc} {ls : Array Slot} (hR : yRel D cl ct kA A H0 nL sh ad C H locs ls) : ls[i]? = some (.val (ycv ad a)) :=
  hR.2.2.2.2.2.2.2.2 (i, ycv ad a) (List.mem_map.mpr ⟨_, zlk_mem hl, rfl⟩)
theorem yld_go {pc' i t : Nat} (h : yld C pc' i t = some r) (hc : ynext r = some C') (hgo : yGo (zGW p l e R s m args below meth c cells slots Q) D cl ct kA A H0 nL sh ad C') {H : Heap} {locs : List Loc} {ls : Array Slot} (hR : yRel D cl ct kA A H0 nL sh ad C H locs ls) :
    ∃ v : Value, ls[i]? = some (.val v) ∧ W p l e R s m args below meth c H locs cells slots Q (F0 m pc' ls (v :: C.2.2.1.map (ycv ad))) ∧ (t = 0 → ∃ x, v = .int x) ∧ (t = 1 → ∃ x, v = .long x) ∧ (t = 2 → ∃ x, v = .ref x) := by
  unfold yld at h
  split at h
  · rename_i v hl
    obtain rfl := yone_inv h hc
    exact ⟨_, ylocal hl hR, hgo H locs ls (hR.push (hR.2.1 _ (zlk_mem hl))), fun _ => ⟨_, rfl⟩, (fun q => by cases q), (fun q => by cases q)⟩
  · rename_i v hl
    obtain rfl := yone_inv h hc
    exact ⟨_, ylocal hl hR, hgo H locs ls (hR.push (hR.2.1 _ (zlk_mem hl))), (fun q => by cases q), fun _ => ⟨_, rfl⟩, (fun q => by cases q)⟩
  · rename_i v hl
    obtain rfl := yone_inv h hc
    exact ⟨_, ylocal hl hR, hgo H locs ls (hR.push (hR.2.1 _ (zlk_mem hl))), (fun q => by cases q), (fun q => by cases q), fun _ => ⟨_, rfl⟩⟩
  · cases h
theorem yso_go {pc' i t : Nat} (h : yso nL C pc' i t = some r) (hc : ynext r = some C') (hgo : yGo (zGW p l e R s m args below meth c cells slots Q) D cl ct kA A H0 nL sh ad C') {H : Heap} {locs : List Loc} {ls : Array Slot} (hR : yRel D cl ct kA A H0 nL sh ad C H locs ls) :
    ∃ (v : Value) (st : List yV), C.2.2.1.map (ycv ad) = v :: st.map (ycv ad) ∧
      (t = 0 → (∃ x, v = .int x) ∧ i < nL ∧ ∀ ls' : Array Slot, lv_has ls' nL ((i, v) :: (C.2.1.map (fun x => (x.1, ycv ad x.2))).filter (fun q => !(q.1 == i) && !(q.1 + 1 == i && q.2.category == 2))) → W p l e R s m args below meth c H locs cells slots Q (F0 m pc' ls' (st.map (ycv ad)))) ∧
      (t = 1 → (∃ x, v = .long x) ∧ i + 1 < nL ∧ ∀ ls' : Array Slot, lv_has ls' nL ((i, v) :: (C.2.1.map (fun x => (x.1, ycv ad x.2))).filter (fun q => !(q.1 == i) && (!(q.1 == i + 1) && !(q.1 + 1 == i && q.2.category == 2)))) → W p l e R s m args below meth c H locs cells slots Q (F0 m pc' ls' (st.map (ycv ad)))) ∧
      (t = 2 → (∃ x, v = .ref x) ∧ i < nL ∧ ∀ ls' : Array Slot, lv_has ls' nL ((i, v) :: (C.2.1.map (fun x => (x.1, ycv ad x.2))).filter (fun q => !(q.1 == i) && !(q.1 + 1 == i && q.2.category == 2))) → W p l e R s m args below meth c H locs cells slots Q (F0 m pc' ls' (st.map (ycv ad)))) := by
  obtain ⟨hS0, hlo, hstk, hP, hD, hS, hl⟩ := hR
  unfold yso at h
  split at h
  · rename_i v st hst
    cases hz : Nat.blt i nL with
    | false => rw [hz] at h; cases h
    | true =>
      rw [hz] at h
      obtain rfl := yone_inv h hc
      rw [hst] at hstk
      refine ⟨ycv ad (.inl (.inl v)), st, by rw [hst]; rfl, fun _ => ⟨⟨_, rfl⟩, zblt hz, fun ls' hl' => ?_⟩, (fun q => by cases q), (fun q => by cases q)⟩
      exact hgo H locs ls' ⟨hS0, yset1_in hlo (hstk _ List.mem_cons_self), fun a ha => hstk a (List.mem_cons_of_mem _ ha), hP, hD, hS, Eq.mp (congrArg (lv_has ls' nL) (yset1_ok ad C.2.1 i _)) hl'⟩
  · rename_i v st hst
    cases hz : Nat.blt (i + 1) nL with
    | false => rw [hz] at h; cases h
    | true =>
      rw [hz] at h
      obtain rfl := yone_inv h hc
      rw [hst] at hstk
      refine ⟨ycv ad (.inl (.inr v)), st, by rw [hst]; rfl, (fun q => by cases q), fun _ => ⟨⟨_, rfl⟩, zblt hz, fun ls' hl' => ?_⟩, (fun q => by cases q)⟩
      exact hgo H locs ls' ⟨hS0, yset2_in hlo (hstk _ List.mem_cons_self), fun a ha => hstk a (List.mem_cons_of_mem _ ha), hP, hD, hS, Eq.mp (congrArg (lv_has ls' nL) (yset2_ok ad C.2.1 i _)) hl'⟩
  · rename_i v st hst
    cases hz : Nat.blt i nL with
    | false => rw [hz] at h; cases h
    | true =>
      rw [hz] at h
      obtain rfl := yone_inv h hc
      rw [hst] at hstk
      refine ⟨ycv ad (.inr v), st, by rw [hst]; rfl, (fun q => by cases q), (fun q => by cases q), fun _ => ⟨⟨_, rfl⟩, zblt hz, fun ls' hl' => ?_⟩⟩
      exact hgo H locs ls' ⟨hS0, yset1_in hlo (hstk _ List.mem_cons_self), fun a ha => hstk a (List.mem_cons_of_mem _ ha), hP, hD, hS, Eq.mp (congrArg (lv_has ls' nL) (yset1_ok ad C.2.1 i _)) hl'⟩
  · cases h
theorem yint1 {k : Int} (h : zint (k, k) = true) : yI k := zint_ok h (Int.le_refl k) (Int.le_refl k)
theorem ylng1 {k : Int} (h : zlng (k, k) = true) : yL k := zlng_ok h (Int.le_refl k) (Int.le_refl k)
set_option maxHeartbeats 4000000 in
theorem ystepA_ok (hx : p.tables.exec = Jvm.exec) (hb : c.code = cc) {own : String} {Ts : List Cond} (hown : s.vm.findClass own = some m.cls) (hts : ∀ w ∈ Ts, w.before args s = true) {cons lcons : List (Nat × Int)} (hcons : ∀ k z, zlk cons k = some z → Cond.constant own k (Int32.ofInt z) ∈ Ts) (hlc : ∀ k z, zlk lcons k = some z → Cond.constantLong own k (Int64.ofInt z) ∈ Ts)
    (hdg : decode cc C.1 = .ok (ins, zlen ins)) (h : ystepA cons lcons nL C ins = some r) (hc : ynext r = some C') (hgo : yGo (zGW p l e R s m args below meth c cells slots Q) D cl ct kA A H0 nL sh ad C') : yGo (zGW p l e R s m args below meth c cells slots Q) D cl ct kA A H0 nL sh ad C := by
  intro H locs ls hR
  unfold ystepA at h
  split at h
  · rename_i k
    cases hz : zint (k, k) with
    | false => rw [hz] at h; cases h
    | true =>
      rw [hz] at h
      obtain rfl := yone_inv h hc
      exact lv_iconst hx hb hdg rfl (hgo H locs ls (hR.push (yint1 hz)))
  · rename_i k
    cases hz : zle (-128) k && zle k 127 with
    | false => rw [hz] at h; cases h
    | true =>
      rw [hz] at h
      obtain rfl := yone_inv h hc
      simp only [Bool.and_eq_true] at hz
      have q1 := zle_ok hz.1
      have q2 := zle_ok hz.2
      exact lv_bipush hx hb hdg (zq_i8 q1 q2) (hgo H locs ls (hR.push (show yI k from ⟨by omega, by omega⟩)))
  · rename_i k
    cases hz : zle (-32768) k && zle k 32767 with
    | false => rw [hz] at h; cases h
    | true =>
      rw [hz] at h
      obtain rfl := yone_inv h hc
      simp only [Bool.and_eq_true] at hz
      have q1 := zle_ok hz.1
      have q2 := zle_ok hz.2
      exact lv_sipush hx hb hdg (zq_i16 q1 q2) (hgo H locs ls (hR.push (show yI k from ⟨by omega, by omega⟩)))
  · rename_i k
    cases hz : zlng ((k.val : Int), (k.val : Int)) with
    | false => rw [hz] at h; cases h
    | true =>
      rw [hz] at h
      obtain rfl := yone_inv h hc
      exact lv_lconst hx hb hdg rfl (hgo H locs ls (hR.push (show yL (k.val : Int) from ylng1 hz)))
  · rename_i k
    split at h
    · rename_i z hk
      cases hz : zint (z, z) with
      | false => rw [hz] at h; cases h
      | true =>
        rw [hz] at h
        obtain rfl := yone_inv h hc
        exact lv_ldc hx hb hown (hts _ (hcons k z hk)) hdg (hgo H locs ls (hR.push (yint1 hz)))
    · cases h
  · rename_i k
    split at h
    · rename_i z hk
      cases hz : zint (z, z) with
      | false => rw [hz] at h; cases h
      | true =>
        rw [hz] at h
        obtain rfl := yone_inv h hc
        exact lv_ldcw hx hb hown (hts _ (hcons k z hk)) hdg (hgo H locs ls (hR.push (yint1 hz)))
    · cases h
  · rename_i k
    split at h
    · rename_i z hk
      cases hz : zlng (z, z) with
      | false => rw [hz] at h; cases h
      | true =>
        rw [hz] at h
        obtain rfl := yone_inv h hc
        exact lv_ldc2 hx hb hown (hts _ (hlc k z hk)) hdg (hgo H locs ls (hR.push (show yL z from ylng1 hz)))
    · cases h
  · obtain ⟨v, g1, g2, g3, -, -⟩ := yld_go h hc hgo hR
    obtain ⟨x, rfl⟩ := g3 rfl
    exact lv_iload hx hb hdg g1 g2
  · obtain ⟨v, g1, g2, g3, -, -⟩ := yld_go h hc hgo hR
    obtain ⟨x, rfl⟩ := g3 rfl
    exact lv_iload_n hx hb hdg rfl g1 g2
  · obtain ⟨v, g1, g2, -, g3, -⟩ := yld_go h hc hgo hR
    obtain ⟨x, rfl⟩ := g3 rfl
    exact lv_lload hx hb hdg g1 g2
  · obtain ⟨v, g1, g2, -, g3, -⟩ := yld_go h hc hgo hR
    obtain ⟨x, rfl⟩ := g3 rfl
    exact lv_lload_n hx hb hdg rfl g1 g2
  · obtain ⟨v, g1, g2, -, -, g3⟩ := yld_go h hc hgo hR
    obtain ⟨x, rfl⟩ := g3 rfl
    exact lv_aload hx hb hdg g1 g2
  · obtain ⟨v, g1, g2, -, -, g3⟩ := yld_go h hc hgo hR
    obtain ⟨x, rfl⟩ := g3 rfl
    exact lv_aload_n hx hb hdg rfl g1 g2
  · obtain ⟨v, st, g1, g2, -, -⟩ := yso_go h hc hgo hR
    obtain ⟨⟨x, rfl⟩, hi, g3⟩ := g2 rfl
    show W _ _ _ _ _ _ _ _ _ _ _ _ _ _ _ (F0 m C.1 ls (C.2.2.1.map (ycv ad)))
    rw [g1]
    exact lv_istore hx hb hdg hR.2.2.2.2.2.2 hi rfl g3
  · obtain ⟨v, st, g1, g2, -, -⟩ := yso_go h hc hgo hR
    obtain ⟨⟨x, rfl⟩, hi, g3⟩ := g2 rfl
    show W _ _ _ _ _ _ _ _ _ _ _ _ _ _ _ (F0 m C.1 ls (C.2.2.1.map (ycv ad)))
    rw [g1]
    exact lv_istore_n hx hb hdg rfl hR.2.2.2.2.2.2 hi rfl g3
  · obtain ⟨v, st, g1, -, g2, -⟩ := yso_go h hc hgo hR
    obtain ⟨⟨x, rfl⟩, hi, g3⟩ := g2 rfl
    show W _ _ _ _ _ _ _ _ _ _ _ _ _ _ _ (F0 m C.1 ls (C.2.2.1.map (ycv ad)))
    rw [g1]
    exact lv_lstore hx hb hdg hR.2.2.2.2.2.2 hi rfl g3
  · obtain ⟨v, st, g1, -, g2, -⟩ := yso_go h hc hgo hR
    obtain ⟨⟨x, rfl⟩, hi, g3⟩ := g2 rfl
    show W _ _ _ _ _ _ _ _ _ _ _ _ _ _ _ (F0 m C.1 ls (C.2.2.1.map (ycv ad)))
    rw [g1]
    exact lv_lstore_n hx hb hdg rfl hR.2.2.2.2.2.2 hi rfl g3
  · obtain ⟨v, st, g1, -, -, g2⟩ := yso_go h hc hgo hR
    obtain ⟨⟨x, rfl⟩, hi, g3⟩ := g2 rfl
    show W _ _ _ _ _ _ _ _ _ _ _ _ _ _ _ (F0 m C.1 ls (C.2.2.1.map (ycv ad)))
    rw [g1]
    exact lv_astore hx hb hdg hR.2.2.2.2.2.2 hi rfl g3
  · obtain ⟨v, st, g1, -, -, g2⟩ := yso_go h hc hgo hR
    obtain ⟨⟨x, rfl⟩, hi, g3⟩ := g2 rfl
    show W _ _ _ _ _ _ _ _ _ _ _ _ _ _ _ (F0 m C.1 ls (C.2.2.1.map (ycv ad)))
    rw [g1]
    exact lv_astore_n hx hb hdg rfl hR.2.2.2.2.2.2 hi rfl g3
  · rename_i o
    cases hz : zle 0 ((C.1 : Int) + o) with
    | false => rw [hz] at h; cases h
    | true =>
      rw [hz] at h
      obtain rfl := yone_inv h hc
      have q := zle_ok hz
      exact lv_goto (tgt := ((C.1 : Int) + o).toNat) hx hb hdg (by omega) (hgo H locs ls (hR.st hR.2.2.1))
  · split at h
    · rename_i a st hst
      cases hz : Nat.beq (ycat a) 1 with
      | false => rw [hz] at h; cases h
      | true =>
        rw [hz] at h
        obtain rfl := yone_inv h hc
        have hk := hR.2.2.1
        rw [hst] at hk
        have g := hgo H locs ls (hR.st (List.forall_mem_cons.mpr ⟨hk a List.mem_cons_self, hk⟩))
        show W _ _ _ _ _ _ _ _ _ _ _ _ _ _ _ (F0 m C.1 ls (C.2.2.1.map (ycv ad)))
        rw [hst]
        exact lv_dup hx hb hdg (by rw [ycat_ok]; exact Nat.eq_of_beq_eq_true hz) g
    · cases h
  · split at h
    · rename_i a b st hst
      cases hz : Nat.beq (ycat a) 1 && Nat.beq (ycat b) 1 with
      | false => rw [hz] at h; cases h
      | true =>
        rw [hz] at h
        obtain rfl := yone_inv h hc
        simp only [Bool.and_eq_true] at hz
        have hk := hR.2.2.1
        rw [hst] at hk
        have g := hgo H locs ls (hR.st (List.forall_mem_cons.mpr ⟨hk a List.mem_cons_self, List.forall_mem_cons.mpr ⟨hk b (List.mem_cons_of_mem _ List.mem_cons_self), hk⟩⟩))
        show W _ _ _ _ _ _ _ _ _ _ _ _ _ _ _ (F0 m C.1 ls (C.2.2.1.map (ycv ad)))
        rw [hst]
        exact lv_dup2_11 hx hb hdg (by rw [ycat_ok]; exact Nat.eq_of_beq_eq_true hz.1) (by rw [ycat_ok]; exact Nat.eq_of_beq_eq_true hz.2) g
    · cases h
  · split at h
    · rename_i a st hst
      cases hz : Nat.beq (ycat a) 1 with
      | false => rw [hz] at h; cases h
      | true =>
        rw [hz] at h
        obtain rfl := yone_inv h hc
        have hk := hR.2.2.1
        rw [hst] at hk
        have g := hgo H locs ls (hR.st (fun x hx => hk x (List.mem_cons_of_mem _ hx)))
        show W _ _ _ _ _ _ _ _ _ _ _ _ _ _ _ (F0 m C.1 ls (C.2.2.1.map (ycv ad)))
        rw [hst]
        exact lv_pop hx hb hdg (by rw [ycat_ok]; exact Nat.eq_of_beq_eq_true hz) g
    · cases h
  · split at h
    · rename_i v st hst
      obtain rfl := yone_inv h hc
      have hk := hR.2.2.1
      rw [hst] at hk
      have hv : yI v := hk _ List.mem_cons_self
      have g := hgo H locs ls (hR.st (List.forall_mem_cons.mpr ⟨(show yL v from ⟨by have := hv.1; omega, by have := hv.2; omega⟩), fun x hx => hk x (List.mem_cons_of_mem _ hx)⟩))
      show W _ _ _ _ _ _ _ _ _ _ _ _ _ _ _ (F0 m C.1 ls (C.2.2.1.map (ycv ad)))
      rw [hst]
      exact lv_i2l hx hb hdg (zq_i2l hv.1 hv.2) g
    · cases h
  · rename_i i k
    split at h
    · rename_i v hl
      cases hz : Nat.blt i nL with
      | false => rw [hz] at h; cases h
      | true =>
        rw [hz] at h
        obtain rfl := yone_inv h hc
        obtain ⟨kk, hkk⟩ := List.getElem?_of_mem (List.mem_map.mpr ⟨_, zlk_mem hl, rfl⟩ : (i, ycv ad (.inl (.inl v))) ∈ C.2.1.map (fun x => (x.1, ycv ad x.2)))
        refine lv_iinc (k := kk) hx hb hdg hR.2.2.2.2.2.2 hkk rfl (zblt hz) rfl (fun ls' hl' => ?_)
        refine hgo H locs ls' ⟨hR.1, yset1_in hR.2.1 (show yI (yad v k) from y32_I _), hR.2.2.1, hR.2.2.2.1, hR.2.2.2.2.1, hR.2.2.2.2.2.1, ?_⟩
        rw [← yset1_ok]
        have e2 : ycv ad (.inl (.inl (yad v k))) = .int (Int32.ofInt v + Int32.ofInt k) := by
          show Value.int (Int32.ofInt (Int32.ofInt v + Int32.ofInt k).toInt) = _
          rw [Int32.ofInt_toInt]
        rw [e2]
        exact hl'
    · cases h
  · cases h
end YSA
