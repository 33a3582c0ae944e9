/-- a loop with fuel -/
def yfix {α : Type} (z : α) (s : α → α) : Nat → α
  | 0 => z
  | n + 1 => s (yfix z s n)
/-- a method's tables: fields, int constants, long constants, virtual calls, static calls, library members, calls with a text -/
abbrev yTb : Type := List (Nat × Nat × Nat × Nat) × List (Nat × Int) × List (Nat × Int) × List (Nat × Nat × Nat × yF) × List (Nat × Nat × yF) × List (Nat × Nat) × List (Nat × Nat × yF)
abbrev yO : Type := yT ⊕ ((yF × List yV × yC) ⊕ (Bool × Option yV))
def yplain (ct : yCt) (tb : yTb) (nL : Nat) (C : yC) (ins : Instr) (len : Nat) (nxt : Option Instr) : Option yT := match ins with
  | .tableswitch d lo hi offs => ystepS C (.tableswitch d lo hi offs)
  | .lookupswitch d ps => ystepS C (.lookupswitch d ps)
  | .invokestatic x => bif Nat.beq len 3 then ystepM tb.2.2.2.2.2.1 C x else none
  | i => bif Nat.beq len (zlen i) then (match ystepA tb.2.1 tb.2.2.1 nL C i with
    | some r => some r
    | none => match ystepD ct tb.1 C i with
      | some r => some r
      | none => match ystepC C i nxt with
        | some r => some r
        | none => bif Nat.beq (zlen i) 1 then (match ystepB C i with
          | some r => some r
          | none => ystepU C i) else none) else none
/-- a call: what is called, with which arguments, where it goes on -/
def ycall (tb : yTb) (C : yC) (ins : Instr) (len : Nat) (nx2 : Option (Instr × Nat)) : Option (yF × List yV × yC) := match ins with
  | .invokevirtual x => match zlk tb.2.2.2.1 x with
    | some (n, ci, F) => match (C.2.2.1.take n).reverse with
      | .inr y :: as => match y.1 with
        | .inl ci' => bif Nat.beq len 3 && Nat.beq ci' ci && Nat.beq (C.2.2.1.take n).length n && Nat.ble (((C.2.2.1.drop n).map ycat).sum) 8 then some (F, .inr (.inl ci, y.2) :: as, (C.1 + 3, C.2.1, C.2.2.1.drop n, C.2.2.2)) else none
        | _ => none
      | _ => none
    | none => none
  | .invokestatic x => match zlk tb.2.2.2.2.1 x with
    | some (n, F) => bif Nat.beq len 3 && Nat.beq (C.2.2.1.take n).length n && Nat.ble (((C.2.2.1.drop n).map ycat).sum) 8 then some (F, (C.2.2.1.take n).reverse, (C.1 + 3, C.2.1, C.2.2.1.drop n, C.2.2.2)) else none
    | none => none
  | .ldc x => match zlk tb.2.2.2.2.2.2 x, nx2 with
    | some (y, F), some (.invokevirtual y', ln) => match C.2.2.1 with
      | a :: st => bif Nat.beq len 2 && Nat.beq ln 3 && Nat.beq y' y && Nat.ble ((st.map ycat).sum) 8 then some (F, [a], (C.1 + 5, C.2.1, st, C.2.2.2)) else none
      | _ => none
    | _, _ => none
  | _ => none
def yret (rt : Nat) (ins : Instr) (st : List yV) : Option (Bool × Option yV) := match rt, ins, st with
  | 0, .return_, [] => some (true, none)
  | 1, .ireturn, [.inl (.inl v)] => some (true, some (.inl (.inl v)))
  | 2, .ireturn, [.inl (.inl v)] => some (yb1 v, some (.inl (.inl v)))
  | 3, .lreturn, [.inl (.inr v)] => some (true, some (.inl (.inr v)))
  | _, _, _ => none
def ystep (ct : yCt) (tb : yTb) (pr : List (Nat × Instr × Nat)) (nL rt : Nat) (C : yC) : Option yO := match zlk pr C.1 with
  | none => none
  | some (ins, len) => bif zisret ins then (bif Nat.beq len 1 then (yret rt ins C.2.2.1).map (fun x => .inr (.inr x)) else none) else match ycall tb C ins len (zlk pr (C.1 + 2)) with
    | some q => some (.inr (.inl q))
    | none => (yplain ct tb nL C ins len (znx pr (C.1 + 1))).map .inl
def yQc (D : va_G) (cl : List vw_C) (ct : yCt) (kA : Nat → ClassId) (sh : List yH) (ad : Nat → Nat) (A : Nat → Prop) (res : yR) : Array Value → State → Outcome → State → Prop := fun _ st oc t =>
  (yokS ct sh res.2 ∧ (∀ a, res.1 = some a → yokV sh a) ∧ oc = .returned (res.1.map (ycv ad)) ∧ va_P D cl (yws ct kA ad sh res.2) t.heap ∧ va_D A (yws ct kA ad sh res.2)) ∧ va_F A st t
def yMet (X : zXT) (cl : List vw_C) (ct : yCt) (sh : List yH) (l : Launch) (y : MethodName) (ws : List Cond) (rm : Room) (F : yF) : Prop :=
  ∀ (D : va_G) (kA : Nat → ClassId) (ad : Nat → Nat) (sz : Nat) (as : List yV) (σ : yS) (res : yR), yokS ct sh σ → (∀ a ∈ as, yokV sh a) → F as σ = some res →
    Met l y ws rm (va_Pc (as.map (ycv ad)) (zBf X D cl kA (yws ct kA ad sh σ) sz)) (yQc D cl ct kA sh ad (va_A (yws ct kA ad sh σ) sz) res) 0 0 (va_A (yws ct kA ad sh σ) sz)
def yCal (X : zXT) (cl : List vw_C) (ct : yCt) (sh : List yH) (p : Program) (l : Launch) (e : Env) (R : Room) (s : State) (m : MethodId) (args : Array Value) (below : List Frame) (meth : Method) (c : Code) (cc : ByteArray) (nL : Nat) (ins : Instr) (n : Nat) (oc : Option Nat) (F : yF) : Prop :=
  ∀ (D : va_G) (kA : Nat → ClassId) (ad : Nat → Nat) (as : List yV) (σ : yS) (res : yR) (H : Heap) (locs : List Loc) (ls : Array Slot) (pc : Nat) (rest : List Value), va_K D cl (ztys kA) s → yokS ct sh σ → (∀ a ∈ as, yokV sh a) → as.length = n → (∀ ci, oc = some ci → ∃ (i : Nat) (as' : List yV), as = .inr (.inl ci, i) :: as') → F as σ = some res → va_P D cl (yws ct kA ad sh σ) H → va_D (fun _ => True) (yws ct kA ad sh σ) → X (va_A (yws ct kA ad sh σ) H.size) s H → ls.size = nL → (rest.map fun v => v.category).sum ≤ 8 → decode cc pc = .ok (ins, 3) →
    va_Run p l e R s m args below meth c H locs 0 0 0 0 (F0 m pc ls ((as.map (ycv ad)).reverse ++ rest)) rest (yQc D cl ct kA sh ad (va_A (yws ct kA ad sh σ) H.size) res (as.map (ycv ad)).toArray) (va_A (yws ct kA ad sh σ) H.size)
/-- a text is pushed and a method called with it -/
def yCalT (X : zXT) (cl : List vw_C) (ct : yCt) (sh : List yH) (p : Program) (l : Launch) (e : Env) (R : Room) (s : State) (m : MethodId) (args : Array Value) (below : List Frame) (meth : Method) (c : Code) (cc : ByteArray) (nL : Nat) (x y : Nat) (F : yF) : Prop :=
  ∀ (D : va_G) (kA : Nat → ClassId) (A : Nat → Prop) (ad : Nat → Nat) (Q : State → Prop) (a : yV) (σ : yS) (res : yR) (H : Heap) (locs : List Loc) (ls : Array Slot) (pc : Nat) (rest : List Value), va_K D cl (ztys kA) s → yokS ct sh σ → yokV sh a → F [a] σ = some res → va_P D cl (yws ct kA ad sh σ) H → va_D (fun _ => True) (yws ct kA ad sh σ) → X (va_A (yws ct kA ad sh σ) H.size) s H → ls.size = nL → (rest.map fun v => v.category).sum ≤ 8 → decode cc pc = .ok (.ldc x, 2) → decode cc (pc + 2) = .ok (.invokevirtual y, 3) → va_S A s.heap H locs → (∀ q, va_A (yws ct kA ad sh σ) H.size q → A q) →
    (∀ (H1 : Heap) (locs1 : List Loc), yokS ct sh res.2 → (∀ a, res.1 = some a → yokV sh a) → va_P D cl (yws ct kA ad sh res.2) H1 → va_D A (yws ct kA ad sh res.2) → va_S A s.heap H1 locs1 → W p l e R s m args below meth c H1 locs1 0 0 Q (F0 m (pc + 5) ls ((res.1.map (ycv ad)).toList ++ rest))) →
    W p l e R s m args below meth c H locs 0 0 Q (F0 m pc ls (ycv ad a :: rest))
section YRN
variable {X : zXT} {p : Program} {l : Launch} {e : Env} {R : Room} {s : State} {m : MethodId} {args : Array Value} {below : List Frame} {meth : Method} {c : Code} {cc : ByteArray} {D : va_G} {cl : List vw_C} {ct : yCt} {kA : Nat → ClassId} {A : Nat → Prop} {nL : Nat} {sh : List yH} {ad : Nat → Nat} {Ts : List Cond} {own : String} {tb : yTb} {pr : List (Nat × Instr × Nat)} {rt : Nat} {C C' : yC} {ins : Instr} {len : Nat}
theorem ycallz {Q : State → Prop} {pc : Nat} {H : Heap} {locs : List Loc} {H0 : Heap} {A0 A1 : Nat → Prop} {ls : Array Slot} {st0 rest : List Value} {a : Array Value} {res : yR} (hr : va_Run p l e R s m args below meth c H locs 0 0 0 0 (F0 m pc ls st0) rest (yQc D cl ct kA sh ad A1 res a) A1) (hS : va_S A0 H0 H locs) (hA : ∀ q, A1 q → A0 q)
    (kk : ∀ (H1 : Heap) (locs1 : List Loc), yokS ct sh res.2 → (∀ a, res.1 = some a → yokV sh a) → va_P D cl (yws ct kA ad sh res.2) H1 → va_D A0 (yws ct kA ad sh res.2) → va_S A0 H0 H1 locs1 → W p l e R s m args below meth c H1 locs1 0 0 Q (F0 m (pc + 3) ls ((res.1.map (ycv ad)).toList ++ rest))) : W p l e R s m args below meth c H locs 0 0 Q (F0 m pc ls st0) := by
  intro T hT Xs
  obtain ⟨v, st₀, t, T', L, h0, X', hL, e1, e2, ⟨⟨j1, j2, hv, j5, j6⟩, hz, hk⟩, st⟩ := hr T hT Xs
  cases hv
  rw [h0] at hz hk
  rw [← e1] at j5
  obtain ⟨t2, a1, b1⟩ := kk T'.heap (locs ++ L) j1 j2 j5 (j6.weaken (fun i x _ h => hA x.1 h))
    ⟨Nat.le_trans hS.1 (by rw [e1]; exact hz), fun q h1 h2 => by rw [e1, hk q (Nat.lt_of_lt_of_le h1 hS.1) (fun z => h2 (hA q z))]; exact hS.2.1 q h1 h2, fun q hq => by
      rcases List.mem_append.mp hq with h | h
      · exact hS.2.2 q h
      · exact hA _ (hL q h)⟩ T' rfl X'
  exact ⟨t2, st t2 a1, b1⟩
/-- what is fixed while a method runs -/
def yCx (X : zXT) (p : Program) (l : Launch) (e : Env) (R : Room) (s : State) (m : MethodId) (args : Array Value) (below : List Frame) (meth : Method) (c : Code) (cc : ByteArray) (D : va_G) (cl : List vw_C) (ct : yCt) (kA : Nat → ClassId) (A : Nat → Prop) (nL : Nat) (sh : List yH) (Ts : List Cond) (own : String) (tb : yTb) (pr : List (Nat × Instr × Nat)) (rt : Nat) : Prop :=
  zXok X ∧ X A s s.heap ∧ (∀ q, s.heap.size ≤ q → A q) ∧ va_K D cl (ztys kA) s ∧ p.tables.exec = Jvm.exec ∧ c.code = cc ∧ c.maxLocals = nL ∧ s.vm.findClass own = some m.cls ∧ (∀ w ∈ Ts, w.before args s = true) ∧ meth.locks = false ∧ meth.sig.returnType = zrty rt ∧ (1 ≤ R.frames ∧ 64 ≤ R.locals)
  ∧ (∀ x ci k tag, zlk tb.1 x = some (ci, k, tag) → zFld Ts own cl x ci k tag) ∧ (∀ k z, zlk tb.2.1 k = some z → Cond.constant own k (Int32.ofInt z) ∈ Ts) ∧ (∀ k z, zlk tb.2.2.1 k = some z → Cond.constantLong own k (Int64.ofInt z) ∈ Ts)
  ∧ (∀ x n ci F, zlk tb.2.2.2.1 x = some (n, ci, F) → yCal X cl ct sh p l e R s m args below meth c cc nL (.invokevirtual x) n (some ci) F) ∧ (∀ x n F, zlk tb.2.2.2.2.1 x = some (n, F) → yCal X cl ct sh p l e R s m args below meth c cc nL (.invokestatic x) n none F) ∧ (∀ x t, zlk tb.2.2.2.2.2.1 x = some t → zMM Ts own x t) ∧ (∀ x y F, zlk tb.2.2.2.2.2.2 x = some (y, F) → yCalT X cl ct sh p l e R s m args below meth c cc nL x y F)
  ∧ (∀ pc ins len, zlk pr pc = some (ins, len) → decode cc pc = .ok (ins, len))
theorem yplain_ok {Q : State → Prop} {nxt : Option Instr} {r : yT} (hcx : yCx X p l e R s m args below meth c cc D cl ct kA A nL sh Ts own tb pr rt) (hdg : decode cc C.1 = .ok (ins, len)) (hnx : ∀ i, nxt = some i → decode cc (C.1 + 1) = .ok (i, zlen i)) (h : yplain ct tb nL C ins len nxt = some r) (hc : ynext r = some C') (hgo : yGo (zGW p l e R s m args below meth c 0 0 Q) D cl ct kA A s.heap nL sh ad C') : yGo (zGW p l e R s m args below meth c 0 0 Q) D cl ct kA A s.heap nL sh ad C := by
  obtain ⟨hX, hx0, hA, hK, hx, hb, hml, hown, hts, hlk, hrt, hroom, hfl, hco, hlc, hvc, hsc, hmm, htx, hpr⟩ := hcx
  unfold yplain at h
  split at h
  · exact ystepS_ok hx hb hdg h hc hgo
  · exact ystepS_ok hx hb hdg h hc hgo
  · cases hl : Nat.beq len 3 with
    | false => rw [hl] at h; cases h
    | true =>
      rw [hl] at h
      have el := Nat.eq_of_beq_eq_true hl
      subst el
      exact ystepM_ok hx hb hml hK hown hts hroom hmm hdg h hc hgo
  · cases hl : Nat.beq len (zlen ins) with
    | false => rw [hl] at h; cases h
    | true =>
      rw [hl] at h
      have el := Nat.eq_of_beq_eq_true hl
      subst el
      dsimp only [cond] at h
      split at h
      · rename_i r' hM
        cases h
        exact ystepA_ok hx hb hown hts hco hlc hdg hM hc hgo
      · split at h
        · rename_i r' hM
          cases h
          exact ystepD_ok hx hb hK hown hts hfl hdg hM hc hgo
        · split at h
          · rename_i r' hM
            cases h
            exact ystepC_ok hx hb hdg hnx hM hc hgo
          · cases h1 : Nat.beq (zlen ins) 1 with
            | false => rw [h1] at h; cases h
            | true =>
              rw [h1] at h
              rw [Nat.eq_of_beq_eq_true h1] at hdg
              dsimp only at h
              split at h
              · rename_i r' hM
                cases h
                exact ystepB_ok hx hb hdg hM hc hgo
              · exact ystepU_ok hx hb hdg h hc hgo
theorem yfree (hA : ∀ q, s.heap.size ≤ q → A q) {H : Heap} {locs : List Loc} {w : va_W} (hD : va_D A w) (hS : va_S A s.heap H locs) : ∀ q, va_A w H.size q → A q := fun q h => by
  rcases h with ⟨j, e, h⟩ | h
  · exact hD.2 j (q, e) h
  · exact hA q (Nat.le_trans hS.1 h)
theorem ystk {st : List yV} {n : Nat} (ad : Nat → Nat) : st.map (ycv ad) = ((st.take n).reverse.map (ycv ad)).reverse ++ (st.drop n).map (ycv ad) := by
  rw [List.map_reverse, List.reverse_reverse, ← List.map_append, List.take_append_drop]
theorem ycall_ok {Q : State → Prop} {q : yF × List yV × yC} {res : yR} (hcx : yCx X p l e R s m args below meth c cc D cl ct kA A nL sh Ts own tb pr rt) (hdg : decode cc C.1 = .ok (ins, len)) (h : ycall tb C ins len (zlk pr (C.1 + 2)) = some q) (hF : q.1 q.2.1 C.2.2.2 = some res) (hgo : yGo (zGW p l e R s m args below meth c 0 0 Q) D cl ct kA A s.heap nL sh ad (q.2.2.1, q.2.2.2.1, res.1.toList ++ q.2.2.2.2.1, res.2)) : yGo (zGW p l e R s m args below meth c 0 0 Q) D cl ct kA A s.heap nL sh ad C := by
  obtain ⟨hX, hx0, hA, hK, hx, hb, hml, hown, hts, hlk, hrt, hroom, hfl, hco, hlc, hvc, hsc, hmm, htx, hpr⟩ := hcx
  intro H locs ls hR
  have hk := hR.2.2.1
  have hFA := yfree hA hR.2.2.2.2.1 hR.2.2.2.2.2.1
  have hDw : va_D (fun _ => True) (yws ct kA ad sh C.2.2.2) := hR.2.2.2.2.1.weaken (fun _ _ _ _ => trivial)
  have hxA : X (va_A (yws ct kA ad sh C.2.2.2) H.size) s H := hX.2.2.2 A _ s H hFA (hX.2.2.1 A s s.heap H (fun a h1 h2 => hR.2.2.2.2.2.1.2.1 a h1 h2) hx0)
  have hmap : ∀ o : Option yV, (o.map (ycv ad)).toList = o.toList.map (ycv ad) := fun o => by cases o <;> rfl
  have hres : ∀ {o : Option yV} {st : List yV}, (∀ a, o = some a → yokV sh a) → (∀ a ∈ st, yokV sh a) → ∀ a ∈ o.toList ++ st, yokV sh a := fun h1 h2 a ha => by
    rcases List.mem_append.mp ha with z | z
    · exact h1 a (Option.mem_toList.mp z)
    · exact h2 a z
  unfold ycall at h
  split at h
  · rename_i x
    split at h
    · rename_i n ci F hlkx
      split at h
      · rename_i y as hrev
        split at h
        · rename_i ci' hy
          cases hz : Nat.beq len 3 && Nat.beq ci' ci && Nat.beq (C.2.2.1.take n).length n && Nat.ble (((C.2.2.1.drop n).map ycat).sum) 8 with
          | false => rw [hz] at h; cases h
          | true =>
            rw [hz] at h
            simp only [Bool.and_eq_true] at hz
            obtain ⟨⟨⟨z1, z2⟩, z3⟩, z4⟩ := hz
            cases h
            have el := Nat.eq_of_beq_eq_true z1
            subst el
            have ey : (.inr y : yV) = .inr (.inl ci, y.2) := by
              rw [← Nat.eq_of_beq_eq_true z2, ← hy]
            have has : (C.2.2.1.take n).reverse = .inr (.inl ci, y.2) :: as := by rw [hrev, ey]
            have hokas : ∀ a ∈ (C.2.2.1.take n).reverse, yokV sh a := fun a ha => hk a (List.mem_of_mem_take (List.mem_reverse.mp ha))
            rw [has] at hokas
            have hrun := hvc x n ci F hlkx D kA ad (.inr (.inl ci, y.2) :: as) C.2.2.2 res H locs ls C.1 ((C.2.2.1.drop n).map (ycv ad)) hK hR.1 hokas (by rw [← has, List.length_reverse]; exact Nat.eq_of_beq_eq_true z3) (fun ci2 e2 => by cases e2; exact ⟨_, _, rfl⟩) hF hR.2.2.2.1 hDw hxA hR.2.2.2.2.2.2.1 (ycats z4 ad) hdg
            show W _ _ _ _ _ _ _ _ _ _ _ _ _ _ _ (F0 m C.1 ls (C.2.2.1.map (ycv ad)))
            rw [ystk (n := n) ad, has]
            refine ycallz hrun hR.2.2.2.2.2.1 hFA (fun H1 locs1 j1 j2 j3 j4 j5 => ?_)
            have g := hgo H1 locs1 ls ⟨j1, hR.2.1, hres j2 (fun a ha => hk a (List.mem_of_mem_drop ha)), j3, j4, j5, hR.2.2.2.2.2.2⟩
            rw [hmap, ← List.map_append]
            exact g
        · cases h
      · cases h
    · cases h
  · rename_i x
    split at h
    · rename_i n F hlkx
      cases hz : Nat.beq len 3 && Nat.beq (C.2.2.1.take n).length n && Nat.ble (((C.2.2.1.drop n).map ycat).sum) 8 with
      | false => rw [hz] at h; cases h
      | true =>
        rw [hz] at h
        simp only [Bool.and_eq_true] at hz
        obtain ⟨⟨z1, z3⟩, z4⟩ := hz
        cases h
        have el := Nat.eq_of_beq_eq_true z1
        subst el
        have hokas : ∀ a ∈ (C.2.2.1.take n).reverse, yokV sh a := fun a ha => hk a (List.mem_of_mem_take (List.mem_reverse.mp ha))
        have hrun := hsc x n F hlkx D kA ad (C.2.2.1.take n).reverse C.2.2.2 res H locs ls C.1 ((C.2.2.1.drop n).map (ycv ad)) hK hR.1 hokas (by rw [List.length_reverse]; exact Nat.eq_of_beq_eq_true z3) (fun ci2 e2 => by cases e2) hF hR.2.2.2.1 hDw hxA hR.2.2.2.2.2.2.1 (ycats z4 ad) hdg
        show W _ _ _ _ _ _ _ _ _ _ _ _ _ _ _ (F0 m C.1 ls (C.2.2.1.map (ycv ad)))
        rw [ystk (n := n) ad]
        refine ycallz hrun hR.2.2.2.2.2.1 hFA (fun H1 locs1 j1 j2 j3 j4 j5 => ?_)
        have g := hgo H1 locs1 ls ⟨j1, hR.2.1, hres j2 (fun a ha => hk a (List.mem_of_mem_drop ha)), j3, j4, j5, hR.2.2.2.2.2.2⟩
        rw [hmap, ← List.map_append]
        exact g
    · cases h
  · rename_i x
    split at h
    · rename_i y F y' ln hlkx hnx2
      split at h
      · rename_i a st hst
        rw [hst] at hk
        cases hz : Nat.beq len 2 && Nat.beq ln 3 && Nat.beq y' y && Nat.ble ((st.map ycat).sum) 8 with
        | false => rw [hz] at h; cases h
        | true =>
          rw [hz] at h
          simp only [Bool.and_eq_true] at hz
          obtain ⟨⟨⟨z1, z2⟩, z3⟩, z4⟩ := hz
          cases h
          have e1 := Nat.eq_of_beq_eq_true z1
          have e2 := Nat.eq_of_beq_eq_true z2
          have e3 := Nat.eq_of_beq_eq_true z3
          subst e1
          subst e2
          subst e3
          show W _ _ _ _ _ _ _ _ _ _ _ _ _ _ _ (F0 m C.1 ls (C.2.2.1.map (ycv ad)))
          rw [hst]
          refine htx x _ F hlkx D kA A ad Q a C.2.2.2 res H locs ls C.1 (st.map (ycv ad)) hK hR.1 (hk a List.mem_cons_self) hF hR.2.2.2.1 hDw hxA hR.2.2.2.2.2.2.1 (ycats z4 ad) hdg (hpr _ _ _ hnx2) hR.2.2.2.2.2.1 hFA (fun H1 locs1 j1 j2 j3 j4 j5 => ?_)
          have g := hgo H1 locs1 ls ⟨j1, hR.2.1, hres j2 (fun a ha => hk a (List.mem_cons_of_mem _ ha)), j3, j4, j5, hR.2.2.2.2.2.2⟩
          rw [hmap, ← List.map_append]
          exact g
      · cases h
    · cases h
  · cases h
theorem yret_ok {x : Bool × Option yV} (hcx : yCx X p l e R s m args below meth c cc D cl ct kA A nL sh Ts own tb pr rt) (hdg : decode cc C.1 = .ok (ins, 1)) (h : yret rt ins C.2.2.1 = some x) (hx1 : x.1 = true) : yGo (zGW p l e R s m args below meth c 0 0 (MQ below (yQc D cl ct kA sh ad A (x.2, C.2.2.2)) args s 0 0 A)) D cl ct kA A s.heap nL sh ad C := by
  obtain ⟨hX, hx0, hA, hK, hx, hb, hml, hown, hts, hlk, hrt, hroom, hfl, hco, hlc, hvc, hsc, hmm, htx, hpr⟩ := hcx
  intro H locs ls hR
  have hk := hR.2.2.1
  have post : (∀ a, x.2 = some a → yokV sh a) → ∀ t : State, t.heap = H → s.WarmedH t.vm → yQc D cl ct kA sh ad A (x.2, C.2.2.2) args s (.returned (x.2.map (ycv ad))) t := by
    intro ho t ht hW
    exact ⟨⟨hR.1, ho, rfl, by rw [ht]; exact hR.2.2.2.1, hR.2.2.2.2.1⟩, hR.2.2.2.2.2.1.F ht⟩
  show W _ _ _ _ _ _ _ _ _ _ _ _ _ _ _ (F0 m C.1 ls (C.2.2.1.map (ycv ad)))
  unfold yret at h
  split at h
  · rename_i hst
    rw [hst]
    cases h
    exact W.vret hx hb hrt (post (fun a ha => by cases ha)) hR.2.2.2.2.2.1.2.2 hdg hlk
  · rename_i v hst
    rw [hst] at hk ⊢
    cases h
    exact W.iret hx hb hrt (post (fun a ha => by cases ha; exact hk _ List.mem_cons_self)) hR.2.2.2.2.2.1.2.2 hdg hlk
  · rename_i v hst
    rw [hst] at hk ⊢
    cases h
    have hu := yb1_ok hx1
    exact W.zret hx hb hrt (znar_bool (k := v) hu.1 hu.2).1 (post (fun a ha => by cases ha; exact hk _ List.mem_cons_self)) hR.2.2.2.2.2.1.2.2 hdg hlk
  · rename_i v hst
    rw [hst] at hk ⊢
    cases h
    exact W.lret hx hb hrt (post (fun a ha => by cases ha; exact hk _ List.mem_cons_self)) hR.2.2.2.2.2.1.2.2 hdg hlk
  · cases h
theorem ystep_inv {o : yO} (hpr : ∀ pc ins len, zlk pr pc = some (ins, len) → decode cc pc = .ok (ins, len)) (h : ystep ct tb pr nL rt C = some o) : ∃ (ins : Instr) (len : Nat), decode cc C.1 = .ok (ins, len) ∧ ((∃ x, decode cc C.1 = .ok (ins, 1) ∧ yret rt ins C.2.2.1 = some x ∧ o = .inr (.inr x)) ∨ (∃ q, ycall tb C ins len (zlk pr (C.1 + 2)) = some q ∧ o = .inr (.inl q)) ∨ ∃ r, yplain ct tb nL C ins len (znx pr (C.1 + 1)) = some r ∧ o = .inl r) := by
  unfold ystep at h
  split at h
  · cases h
  · rename_i ins len hl
    have hdg := hpr C.1 ins len hl
    refine ⟨ins, len, hdg, ?_⟩
    cases hz : zisret ins with
    | true =>
      rw [hz] at h
      dsimp only [cond] at h
      cases hln : Nat.beq len 1 with
      | false => rw [hln] at h; cases h
      | true =>
        rw [hln] at h
        rw [Nat.eq_of_beq_eq_true hln] at hdg
        dsimp only at h
        cases hr : yret rt ins C.2.2.1 with
        | none => rw [hr] at h; cases h
        | some x =>
          rw [hr] at h
          have h : (.inr (.inr x) : yO) = o := Option.some.inj h
          exact Or.inl ⟨x, hdg, rfl, h.symm⟩
    | false =>
      rw [hz] at h
      dsimp only [cond] at h
      split at h
      · rename_i q hq
        have h : (.inr (.inl q) : yO) = o := Option.some.inj h
        exact Or.inr (Or.inl ⟨q, hq, h.symm⟩)
      · cases hp : yplain ct tb nL C ins len (znx pr (C.1 + 1)) with
        | none => rw [hp] at h; cases h
        | some r =>
          rw [hp] at h
          have h : (.inl r : yO) = o := Option.some.inj h
          exact Or.inr (Or.inr ⟨r, rfl, h.symm⟩)
theorem yznx (hpr : ∀ pc ins len, zlk pr pc = some (ins, len) → decode cc pc = .ok (ins, len)) {pc : Nat} : ∀ i, znx pr pc = some i → decode cc pc = .ok (i, zlen i) := by
  intro i hi
  unfold znx at hi
  split at hi
  · rename_i i' ln hl'
    cases hq : Nat.beq ln (zlen i') with
    | false => rw [hq] at hi; cases hi
    | true =>
      rw [hq] at hi
      cases hi
      rw [← Nat.eq_of_beq_eq_true hq]
      exact hpr _ _ _ hl'
  · cases hi
theorem ystep_plain {Q : State → Prop} {r : yT} (hcx : yCx X p l e R s m args below meth c cc D cl ct kA A nL sh Ts own tb pr rt) (h : ystep ct tb pr nL rt C = some (.inl r)) (hn : ynext r = some C') (hgo : yGo (zGW p l e R s m args below meth c 0 0 Q) D cl ct kA A s.heap nL sh ad C') : yGo (zGW p l e R s m args below meth c 0 0 Q) D cl ct kA A s.heap nL sh ad C := by
  have hpr := hcx.2.2.2.2.2.2.2.2.2.2.2.2.2.2.2.2.2.2.2
  obtain ⟨ins, len, hdg, ⟨x, -, -, e⟩ | ⟨q, -, e⟩ | ⟨r', hp, e⟩⟩ := ystep_inv hpr h
  · cases e
  · cases e
  · cases e
    exact yplain_ok hcx hdg (yznx hpr) hp hn hgo
theorem ystep_call {Q : State → Prop} {q : yF × List yV × yC} {res : yR} (hcx : yCx X p l e R s m args below meth c cc D cl ct kA A nL sh Ts own tb pr rt) (h : ystep ct tb pr nL rt C = some (.inr (.inl q))) (hF : q.1 q.2.1 C.2.2.2 = some res) (hgo : yGo (zGW p l e R s m args below meth c 0 0 Q) D cl ct kA A s.heap nL sh ad (q.2.2.1, q.2.2.2.1, res.1.toList ++ q.2.2.2.2.1, res.2)) : yGo (zGW p l e R s m args below meth c 0 0 Q) D cl ct kA A s.heap nL sh ad C := by
  have hpr := hcx.2.2.2.2.2.2.2.2.2.2.2.2.2.2.2.2.2.2.2
  obtain ⟨ins, len, hdg, ⟨x, -, -, e⟩ | ⟨q', hq, e⟩ | ⟨r', hp, e⟩⟩ := ystep_inv hpr h
  · cases e
  · cases e
    exact ycall_ok hcx hdg hq hF hgo
  · cases e
theorem ystep_ret {x : Bool × Option yV} (hcx : yCx X p l e R s m args below meth c cc D cl ct kA A nL sh Ts own tb pr rt) (h : ystep ct tb pr nL rt C = some (.inr (.inr x))) (hx1 : x.1 = true) : yGo (zGW p l e R s m args below meth c 0 0 (MQ below (yQc D cl ct kA sh ad A (x.2, C.2.2.2)) args s 0 0 A)) D cl ct kA A s.heap nL sh ad C := by
  have hpr := hcx.2.2.2.2.2.2.2.2.2.2.2.2.2.2.2.2.2.2.2
  obtain ⟨ins, len, hdg, ⟨x', hd1, hr, e⟩ | ⟨q', hq, e⟩ | ⟨r', hp, e⟩⟩ := ystep_inv hpr h
  · cases e
    exact yret_ok hcx hd1 hr hx1
  · cases e
  · cases e
end YRN
def yargs : Nat → List yV → List (Nat × yV)
  | _, [] => []
  | i, a :: as => (i, a) :: yargs (bif Nat.beq (ycat a) 2 then i + 2 else i + 1) as
theorem yargs_ok (ad : Nat → Nat) : ∀ (as : List yV) (i : Nat), lv_args i (as.map (ycv ad)) = (yargs i as).map (fun x => (x.1, ycv ad x.2))
  | [], _ => rfl
  | a :: as, i => by
    show (i, ycv ad a) :: lv_args (if (ycv ad a).category = 2 then i + 2 else i + 1) (as.map (ycv ad)) = (i, ycv ad a) :: (yargs (bif Nat.beq (ycat a) 2 then i + 2 else i + 1) as).map (fun x => (x.1, ycv ad x.2))
    rw [ycat_ok]
    cases hb : Nat.beq (ycat a) 2 with
    | true =>
      rw [if_pos (Nat.eq_of_beq_eq_true hb), yargs_ok ad as]
      rfl
    | false =>
      rw [if_neg (fun q => by rw [q] at hb; cases hb), yargs_ok ad as]
      rfl
theorem yargs_in {sh : List yH} : ∀ (as : List yV) (i : Nat), (∀ a ∈ as, yokV sh a) → ∀ x ∈ yargs i as, yokV sh x.2
  | [], _, _, x, hx => by cases hx
  | a :: as, i, h, x, hx => by
    rcases List.mem_cons.mp hx with e | e
    · subst e; exact h a List.mem_cons_self
    · exact yargs_in as _ (fun b hb => h b (List.mem_cons_of_mem _ hb)) x e
theorem ysl_len (ad : Nat → Nat) : ∀ (as : List yV), (lg_sl (as.map (ycv ad))).length = (as.map ycat).sum
  | [] => rfl
  | a :: as => by
    have ih := ysl_len ad as
    unfold lg_sl at ih ⊢
    rw [List.map_cons, List.flatMap_cons, List.length_append, ih, List.map_cons, List.sum_cons, ycat_ok]
    congr 1
    rcases a with (v | v) | v <;> rfl
/-- what is known of the calls of a method, whoever runs it -/
def yCk (X : zXT) (cl : List vw_C) (ct : yCt) (sh : List yH) (l : Launch) (rm : Room) (cc : ByteArray) (nL : Nat) (ws : List Cond) (own : String) (ins : Instr) (n : Nat) (oc : Option Nat) (F : yF) : Prop :=
  ∀ (p : Program) (e : Env) (s : State) (m : MethodId) (args : Array Value) (below : List Frame) (meth : Method) (c : Code) (A : Nat → Prop), CallFix p m c cc nL s args ws own → X A s s.heap → yCal X cl ct sh p l e rm s m args below meth c cc nL ins n oc F
def yCkT (X : zXT) (cl : List vw_C) (ct : yCt) (sh : List yH) (l : Launch) (rm : Room) (cc : ByteArray) (nL : Nat) (ws : List Cond) (own : String) (x y : Nat) (F : yF) : Prop :=
  ∀ (p : Program) (e : Env) (s : State) (m : MethodId) (args : Array Value) (below : List Frame) (meth : Method) (c : Code) (A : Nat → Prop), CallFix p m c cc nL s args ws own → X A s s.heap → yCalT X cl ct sh p l e rm s m args below meth c cc nL x y F
/-- from here the method comes to its end with res, whoever runs it -/
def yGoes (X : zXT) (cl : List vw_C) (ct : yCt) (sh : List yH) (l : Launch) (rm : Room) (cc : ByteArray) (nL : Nat) (ws : List Cond) (own : String) (tb : yTb) (pr : List (Nat × Instr × Nat)) (rt : Nat) (C : yC) (res : yR) : Prop :=
  ∀ (p : Program) (e : Env) (s : State) (m : MethodId) (args : Array Value) (below : List Frame) (meth : Method) (c : Code) (D : va_G) (kA : Nat → ClassId) (A : Nat → Prop) (ad : Nat → Nat), yCx X p l e rm s m args below meth c cc D cl ct kA A nL sh ws own tb pr rt → yGo (zGW p l e rm s m args below meth c 0 0 (MQ below (yQc D cl ct kA sh ad A res) args s 0 0 A)) D cl ct kA A s.heap nL sh ad C
/-- plain steps: none is a call, none asks -/
def ysteps (ct : yCt) (tb : yTb) (pr : List (Nat × Instr × Nat)) (nL rt : Nat) : Nat → yC → Option yC
  | 0, C => some C
  | n + 1, C => match ystep ct tb pr nL rt C with
    | some (.inl (true, some C', _)) => ysteps ct tb pr nL rt n C'
    | _ => none
theorem yno {α : Type} {x : α} (h : (none : Option α) = some x) : False := by cases h
section YGS
variable {X : zXT} {cl : List vw_C} {ct : yCt} {sh : List yH} {l : Launch} {rm : Room} {cc : ByteArray} {nL : Nat} {ws : List Cond} {own : String} {tb : yTb} {pr : List (Nat × Instr × Nat)} {rt : Nat} {C C' : yC} {res : yR}
theorem yG_t {g : Bool} {b : Option yC} (h : ystep ct tb pr nL rt C = some (.inl (g, some C', b))) (hg : g = true) (k : yGoes X cl ct sh l rm cc nL ws own tb pr rt C' res) : yGoes X cl ct sh l rm cc nL ws own tb pr rt C res := by
  intro p e s m args below meth c D kA A ad hcx
  subst hg
  exact ystep_plain hcx h rfl (k p e s m args below meth c D kA A ad hcx)
theorem yG_f {g : Bool} {a : Option yC} (h : ystep ct tb pr nL rt C = some (.inl (g, a, some C'))) (hg : g = false) (k : yGoes X cl ct sh l rm cc nL ws own tb pr rt C' res) : yGoes X cl ct sh l rm cc nL ws own tb pr rt C res := by
  intro p e s m args below meth c D kA A ad hcx
  subst hg
  exact ystep_plain hcx h rfl (k p e s m args below meth c D kA A ad hcx)
theorem yG_c {q : yF × List yV × yC} {r : yR} {C1 : yC} (h : ystep ct tb pr nL rt C = some (.inr (.inl q))) (hF : q.1 q.2.1 C.2.2.2 = some r) (hC : (q.2.2.1, q.2.2.2.1, r.1.toList ++ q.2.2.2.2.1, r.2) = C1) (k : yGoes X cl ct sh l rm cc nL ws own tb pr rt C1 res) : yGoes X cl ct sh l rm cc nL ws own tb pr rt C res := by
  intro p e s m args below meth c D kA A ad hcx
  subst hC
  exact ystep_call hcx h hF (k p e s m args below meth c D kA A ad hcx)
theorem yG_r {g : Bool} {v : Option yV} (h : ystep ct tb pr nL rt C = some (.inr (.inr (g, v)))) (hg : g = true) : yGoes X cl ct sh l rm cc nL ws own tb pr rt C (v, C.2.2.2) := by
  intro p e s m args below meth c D kA A ad hcx
  exact ystep_ret hcx h hg
theorem yG_n : ∀ {n : Nat} {C : yC}, ysteps ct tb pr nL rt n C = some C' → yGoes X cl ct sh l rm cc nL ws own tb pr rt C' res → yGoes X cl ct sh l rm cc nL ws own tb pr rt C res
  | 0, C, h, k => by
    have h : C = C' := Option.some.inj h
    rw [h]
    exact k
  | n + 1, C, h, k => by
    unfold ysteps at h
    split at h
    · rename_i C1 b hs
      exact yG_t hs rfl (yG_n h k)
    · cases h
/-- fewer variables -/
theorem yG_w {pc : Nat} {lo lo' : List (Nat × yV)} {st : List yV} {σ : yS} (ix : List Nat) (h : ix.map (fun i => lo'[i]?) = lo.map some) (k : yGoes X cl ct sh l rm cc nL ws own tb pr rt (pc, lo, st, σ) res) : yGoes X cl ct sh l rm cc nL ws own tb pr rt (pc, lo', st, σ) res := by
  intro p e s m args below meth c D kA A ad hcx H locs ls hR
  have hsub : ∀ x ∈ lo, x ∈ lo' := fun x hx => by
    have : some x ∈ ix.map (fun i => lo'[i]?) := by rw [h]; exact List.mem_map.mpr ⟨x, hx, rfl⟩
    obtain ⟨i, -, hi⟩ := List.mem_map.mp this
    exact List.mem_of_getElem? hi
  refine k p e s m args below meth c D kA A ad hcx H locs ls ⟨hR.1, fun x hx => hR.2.1 x (hsub x hx), hR.2.2.1, hR.2.2.2.1, hR.2.2.2.2.1, hR.2.2.2.2.2.1, zlv_sub hR.2.2.2.2.2.2 (fun q hq => ?_)⟩
  obtain ⟨x, hx, rfl⟩ := List.mem_map.mp hq
  exact List.mem_map.mpr ⟨x, hsub x hx, rfl⟩
end YGS
set_option maxHeartbeats 4000000 in
theorem ymeth {X : zXT} (hX : zXok X) {cl : List vw_C} {ct : yCt} {sh : List yH} {l : Launch} {y : MethodName} {ws ws' : List Cond} {rm : Room} {F : yF} {cc : ByteArray} {nL rt : Nat} {own : String} {tb : yTb} {pr : List (Nat × Instr × Nat)} (hy : plainName y.cls = true) (hw : ws = Cond.code y cc nL (zrty rt) :: ws') (how : y.cls = own) (hroom : 1 ≤ rm.frames ∧ 64 ≤ rm.locals)
    (hfl : ∀ x ci k tag, zlk tb.1 x = some (ci, k, tag) → zFld ws own cl x ci k tag) (hco : ∀ k z, zlk tb.2.1 k = some z → Cond.constant own k (Int32.ofInt z) ∈ ws) (hlc : ∀ k z, zlk tb.2.2.1 k = some z → Cond.constantLong own k (Int64.ofInt z) ∈ ws)
    (hvc : ∀ q ∈ tb.2.2.2.1, yCk X cl ct sh l rm cc nL ws own (.invokevirtual q.1) q.2.1 (some q.2.2.1) q.2.2.2) (hsc : ∀ q ∈ tb.2.2.2.2.1, yCk X cl ct sh l rm cc nL ws own (.invokestatic q.1) q.2.1 none q.2.2) (hmm : ∀ x t, zlk tb.2.2.2.2.2.1 x = some t → zMM ws own x t) (htx : ∀ q ∈ tb.2.2.2.2.2.2, yCkT X cl ct sh l rm cc nL ws own q.1 q.2.1 q.2.2) (hpr : ∀ pc ins len, zlk pr pc = some (ins, len) → decode cc pc = .ok (ins, len))
    (hF : ∀ (as : List yV) (σ : yS) (res : yR), F as σ = some res → (as.map ycat).sum ≤ nL ∧ yGoes X cl ct sh l rm cc nL ws own tb pr rt (0, yargs 0 as, [], σ) res) : yMet X cl ct sh l y ws rm F := by
  intro D kA ad sz as σ res hS0 has hFr
  obtain ⟨c1, hrun⟩ := hF as σ res hFr
  refine Met.ofW (cc := cc) (maxL := nL) (ret := zrty rt) hy hw ?_
  intro p e s m args below meth c s₁ B hml hv
  obtain ⟨rfl, hsz, hP, hK, hD0, hx0⟩ := hv
  have hts := atoms_spec (ws := ws) B.pre
  have hown : s.vm.findClass own = some m.cls := by
    rw [← how]
    exact findClass_of_methodNamed B.named
  subst hsz
  have hD := hD0.self (sz := s.heap.size)
  have hfix : CallFix p m c cc nL s (as.map (ycv ad)).toArray ws own := ⟨B.exec, B.bytes, hml, hown, hts⟩
  have hcx : yCx X p l e rm s m (as.map (ycv ad)).toArray below meth c cc D cl ct kA (va_A (yws ct kA ad sh σ) s.heap.size) nL sh ws own tb pr rt := ⟨hX, hx0, fun q h => Or.inr h, hK, B.exec, B.bytes, hml, hown, hts, B.notSynchronized, B.returns, hroom, hfl, hco, hlc, fun x n ci F h => hvc _ (zlk_mem h) p e s m _ below meth c _ hfix hx0, fun x n F h => hsc _ (zlk_mem h) p e s m _ below meth c _ hfix hx0, hmm, fun x y F h => htx _ (zlk_mem h) p e s m _ below meth c _ hfix hx0, hpr⟩
  have hl := lv_entry (as.map (ycv ad)) (n := nL) (by rw [ysl_len]; exact c1)
  rw [yargs_ok] at hl
  rw [lg_entry_eq]
  exact hrun p e s m _ below meth c D kA _ ad hcx s.heap [] _ ⟨hS0, yargs_in as 0 has, (fun a ha => by cases ha), hP, hD, va_S.rf, hl⟩
section YCL
variable {X : zXT} {cl : List vw_C} {ct : yCt} {sh : List yH} {l : Launch} {cc : ByteArray} {nL : Nat} {y : MethodName} {bytes : ByteArray} {maxL n index : Nat} {ret : Option FieldType} {ws : List Cond} {rm R : Room} {Ts : List Cond} {own Cn host : String} {F : yF} {ci : Nat} {T : u_T} {nF : Nat}
theorem ycal_V (hX : zXok X) (hM : yMet X cl ct sh l y ws rm F) (hci : cl[ci]? = some (Cn, T, nF)) (cw : ∀ (s : State) (args : Array Value), (∀ w ∈ Ts, w.before args s = true) → CallW R s args own Cn index y bytes maxL ret ws rm 0 0 n) : yCk X cl ct sh l R cc nL Ts own (.invokevirtual index) (n + 1) (some ci) F := by
  intro p e s m args below meth c A S hx0 D kA ad as σ res H locs ls pc rest hK hS0 has hlen hoc hF hP hD hx hls hcat hdg
  obtain ⟨i0, as', rfl⟩ := hoc ci rfl
  have hm := hM D kA ad H.size _ σ res hS0 has hF
  have hsh : sh[i0]? = some (.inl ci) := has _ List.mem_cons_self
  have hst : ((.inr (.inl ci, i0) :: as' : List yV).map (ycv ad)).reverse ++ rest = (as'.map (ycv ad)).reverse ++ .ref (ad i0) :: rest := by
    rw [List.map_cons, List.reverse_cons, List.append_assoc]
    rfl
  rw [hst]
  exact va_runV (As := as'.map (ycv ad)) (b := ad i0) S hm (cw s args S.2.2.2.2) ⟨zBf_blind hX, va_recv hK hP (ci := ci) (q0 := i0) hci (yws_get hsh), fun U hU hW => zBf_of hX hK hP hD hx U hU hW⟩ rfl (by rw [List.length_map]; rw [List.length_cons] at hlen; omega) hls rfl (lv_room hcat) hdg ⟨Nat.zero_le _, Nat.zero_le _⟩
theorem ycal_S (hX : zXok X) (hM : yMet X cl ct sh l y ws rm F) (cw : ∀ (s : State) (args : Array Value), (∀ w ∈ Ts, w.before args s = true) → CallB R s args own index y bytes maxL ret ws rm 0 0 n ∧ (Cond.static y).before args s = true) : yCk X cl ct sh l R cc nL Ts own (.invokestatic index) n none F := by
  intro p e s m args below meth c A S hx0 D kA ad as σ res H locs ls pc rest hK hS0 has hlen hoc hF hP hD hx hls hcat hdg
  have hm := hM D kA ad H.size _ σ res hS0 has hF
  exact va_runS (As := as.map (ycv ad)) S hm (cw s args S.2.2.2.2) ⟨zBf_blind hX, fun U hU hW => zBf_of hX hK hP hD hx U hU hW⟩ rfl (by rw [List.length_map]; exact hlen) hls rfl (lv_room hcat) hdg ⟨Nat.zero_le _, Nat.zero_le _⟩
theorem ycal_SN (hX : zXok X) (hM : yMet X cl ct sh l y ws rm F) (cw : ∀ (A : Nat → Prop) (s : State) (args : Array Value), (∀ w ∈ Ts, w.before args s = true) → X A s s.heap → va_CN R s args own index y host bytes maxL ret ws rm 0 0 n ∧ (Cond.static y).before args s = true ∧ True) : yCk X cl ct sh l R cc nL Ts own (.invokestatic index) n none F := by
  intro p e s m args below meth c A S hx0 D kA ad as σ res H locs ls pc rest hK hS0 has hlen hoc hF hP hD hx hls hcat hdg
  have hm := hM D kA ad H.size _ σ res hS0 has hF
  exact va_runSN (As := as.map (ycv ad)) S hm (cw A s args S.2.2.2.2 hx0) ⟨zBf_blind hX, fun U hU hW => zBf_of hX hK hP hD hx U hU hW⟩ rfl (by rw [List.length_map]; exact hlen) hls rfl (lv_room hcat) hdg ⟨Nat.zero_le _, Nat.zero_le _⟩
end YCL
