/-- a method's tables: fields, int constants, long constants, virtual calls, static calls, library members -/
abbrev zTb : Type := List (Nat × Nat × Nat × Nat) × List (Nat × Int) × List (Nat × Int) × List (Nat × zK) × List (Nat × zK) × List (Nat × Nat)
def zstep (tb : zTb) (nL K : Nat) (pins : List Nat) (n : Nat) (S : zS) (pc : Nat) (ins : Instr) (len : Nat) (nxt : Option Instr) : Option (List (Nat × zS)) := match ins with
  | .tableswitch d lo hi offs => ztsw S pc d lo hi offs.toList
  | .lookupswitch d ps => zlsw S pc d ps.toList
  | .invokevirtual x => bif Nat.beq len 3 then zstepE K pins n S pc x tb.2.2.2.1 else none
  | .invokestatic x => bif Nat.beq len 3 then (match zstepM tb.2.2.2.2.2 K n S pc x with
    | some L => some L
    | none => zstepE K pins n S pc x tb.2.2.2.2.1) else none
  | i => bif Nat.beq len (zlen i) then (match zstepA tb.2.1 tb.2.2.1 nL K n S pc i with
    | some L => some L
    | none => match zstepD tb.1 K n S pc i with
      | some L => some L
      | none => match zstepC K n S pc i nxt with
        | some L => some L
        | none => bif Nat.beq (zlen i) 1 then (match zstepB K n S pc i with
          | some L => some L
          | none => zstepU K n S pc i) else none) else none
def zrtok (E : zE) (rt : Nat) (ins : Instr) (st : List zA) : Bool := match rt, ins, st with
  | 0, .return_, [] => true
  | 1, .ireturn, [.inl (.inl _)] => true
  | 2, .ireturn, [.inl (.inl v)] => match zrng E v with
    | some i => zle 0 i.1 && zle i.2 1
    | none => false
  | 3, .lreturn, [.inl (.inr _)] => true
  | _, _, _ => false
def zisret : Instr → Bool
  | .return_ => true
  | .ireturn => true
  | .lreturn => true
  | _ => false
def zrty : Nat → Option FieldType
  | 0 => none
  | 1 => some .int
  | 2 => some .boolean
  | _ => some .long
def zexit (K : Nat) (pins : List Nat) (exits : List zS) (S : zS) : Bool := exits.any (fun T =>
  let q := zmS pins (zsl S [] S.2.2.2.1) T
  zent K pins (zsl S [] S.2.2.2.1) T q.1 q.2 (zmp S.2.2.2.2.1 q.2 T.2.2.2.2.1))
/-- constants among the variables must be the same: a cheap look ahead of the whole comparison -/
def zpre (S T : zS) : Bool := T.2.2.1.all (fun x => match x.2 with
  | .inl (.inl v) => bif Nat.beq v.1 0 then (match zlk S.2.2.1 x.1 with
    | some (.inl (.inl u)) => Nat.beq u.1 0 && zle u.2 v.2 && zle v.2 u.2
    | _ => false) else true
  | _ => true)
def zedge (K : Nat) (pins : List Nat) (bl : List (Nat × zS)) (dec : Bool) (pc : Nat) (S : zS) : Bool := bl.any (fun b => Nat.beq b.1 pc && (zpre S b.2 &&
  (let q := zmS pins S b.2
  zent K pins S b.2 q.1 q.2 (zmp S.2.2.2.2.1 q.2 b.2.2.2.2.2.1) && (!dec || zlex S.1 S.2.1 S.2.2.2.2.2 (b.2.2.2.2.2.2.map (ztR (zth K q.1)))))))
def znx (pr : List (Nat × Instr × Nat)) (pc : Nat) : Option Instr := match zlk pr pc with
  | some (i, ln) => bif Nat.beq ln (zlen i) then some i else none
  | none => none
/-- a state taken apart by the bounds of a number: place 0 is the top, place i + 1 the variable i -/
abbrev zSp : Type := List (Nat × Nat × List zI)
def zspr (S : zS) (v : zV) : List zI → List zS
  | [] => []
  | i :: is => (match zref S.1 v i.1 i.2 with
    | none => []
    | some E => [zse S (E, S.2.1) S.2.2.2.1]) ++ zspr S v is
def zcov (b : zI) : List zI → Bool
  | [] => zle (b.2 + 1) b.1
  | i :: is => zle i.1 b.1 && (zle b.2 i.2 || zcov (i.2 + 1, b.2) is)
theorem zcov_ok {x : Int} : ∀ (is : List zI) (b : zI), zcov b is = true → b.1 ≤ x → x ≤ b.2 → ∃ i ∈ is, i.1 ≤ x ∧ x ≤ i.2
  | [], b, h, h1, h2 => by
    have := zle_ok h
    omega
  | i :: is, b, h, h1, h2 => by
    simp only [zcov, Bool.and_eq_true, Bool.or_eq_true] at h
    have a := zle_ok h.1
    by_cases hx : x ≤ i.2
    · exact ⟨i, List.mem_cons_self, by omega, hx⟩
    · rcases h.2 with q | q
      · have := zle_ok q
        omega
      · obtain ⟨j, m, r⟩ := zcov_ok is (i.2 + 1, b.2) q (by dsimp only; omega) h2
        exact ⟨j, List.mem_cons_of_mem _ m, r⟩
def zspl (sp : zSp) (S : zS) (pc : Nat) : Option (List zS) := match zlk sp pc with
  | none => some [S]
  | some (pl, is) => match (match pl with
    | 0 => S.2.2.2.1.head?
    | i + 1 => zlk S.2.2.1 i) with
    | some (.inl (.inl v)) => match zrng S.1 v with
      | some b => bif zcov b is then some (zspr S v is) else none
      | none => none
    | _ => none
def zrun (tb : zTb) (sp : zSp) (pr : List (Nat × Instr × Nat)) (nL rt K : Nat) (pins : List Nat) (exits : List zS) (bl : List (Nat × zS)) (dec : Bool) : Nat → Nat → zS → Nat → Bool
  | 0, _, _, _ => false
  | f + 1, n, S0, pc => match zlk pr pc with
    | none => false
    | some (ins, len) => match zspl sp S0 pc with
      | none => false
      | some Ss => Ss.all (fun S => bif zisret ins then Nat.beq len 1 && zrtok S.1 rt ins S.2.2.2.1 && zexit K pins exits S else match zstep tb nL K pins n S pc ins len (znx pr (pc + 1)) with
        | none => false
        | some L => L.all (fun x => bif bl.any (fun b => Nat.beq b.1 x.1) then zedge K pins bl dec x.1 x.2 else zrun tb sp pr nL rt K pins exits bl dec f (n + 1000) x.2 x.1))
section ZRN
variable {X : zXT} {p : Program} {l : Launch} {e : Env} {R : Room} {s : State} {m : MethodId} {args : Array Value} {below : List Frame} {meth : Method} {c : Code} {cc : ByteArray} {D : va_G} {cl : List vw_C} {kA : Nat → ClassId} {A : Nat → Prop} {nL : Nat} {k : zK} {r0 : Nat → Int} {ad0 : Nat → Nat} {N : Nat} {Ts : List Cond} {own : String} {tb : zTb} {pr : List (Nat × Instr × Nat)} {rt : Nat} {bl : List (Nat × zS)} {dec : Bool} {sp : zSp}
/-- what is fixed while a method runs -/
def zCx (X : zXT) (p : Program) (l : Launch) (e : Env) (R : Room) (s : State) (m : MethodId) (args : Array Value) (below : List Frame) (meth : Method) (c : Code) (cc : ByteArray) (D : va_G) (cl : List vw_C) (kA : Nat → ClassId) (A : Nat → Prop) (nL : Nat) (Ts : List Cond) (own : String) (tb : zTb) (pr : List (Nat × Instr × Nat)) (rt : Nat) : Prop :=
  zXok X ∧ X A s s.heap ∧ (∀ q, s.heap.size ≤ q → A q) ∧ va_K D cl (ztys kA) s ∧ p.tables.exec = Jvm.exec ∧ c.code = cc ∧ c.maxLocals = nL ∧ s.vm.findClass own = some m.cls ∧ (∀ w ∈ Ts, w.before args s = true) ∧ meth.locks = false ∧ meth.sig.returnType = zrty rt ∧ (1 ≤ R.frames ∧ 64 ≤ R.locals)
  ∧ (∀ x ci k tag, zlk tb.1 x = some (ci, k, tag) → zFld Ts own cl x ci k tag) ∧ (∀ k z, zlk tb.2.1 k = some z → Cond.constant own k (Int32.ofInt z) ∈ Ts) ∧ (∀ k z, zlk tb.2.2.1 k = some z → Cond.constantLong own k (Int64.ofInt z) ∈ Ts) ∧ (∀ q ∈ tb.2.2.2.1, zCal X cl p l e R s m args below meth c cc nL (.invokevirtual q.1) q.2) ∧ (∀ q ∈ tb.2.2.2.2.1, zCal X cl p l e R s m args below meth c cc nL (.invokestatic q.1) q.2) ∧ (∀ x t, zlk tb.2.2.2.2.2 x = some t → zMM Ts own x t)
  ∧ (∀ pc ins len, zlk pr pc = some (ins, len) → decode cc pc = .ok (ins, len))
theorem zstep_ok {K : Nat} {pins : List Nat} {Q : State → Prop} {n pc len : Nat} {S : zS} {ins : Instr} {nxt : Option Instr} {L : List (Nat × zS)} (hcx : zCx X p l e R s m args below meth c cc D cl kA A nL Ts own tb pr rt) (hdg : decode cc pc = .ok (ins, len)) (hnx : ∀ i, nxt = some i → decode cc (pc + 1) = .ok (i, zlen i)) (h : zstep tb nL K pins n S pc ins len nxt = some L) (hgo : ∀ x ∈ L, zGo (zGW p l e R s m args below meth c 0 0 Q) D cl kA A s.heap nL K pins r0 ad0 N x.1 x.2) : zGo (zGW p l e R s m args below meth c 0 0 Q) D cl kA A s.heap nL K pins r0 ad0 N pc S := by
  obtain ⟨hX, hx0, hA, hK, hx, hb, hml, hown, hts, hlk, hrt, hroom, hfl, hco, hlc, hvc, hsc, hmm, hpr⟩ := hcx
  unfold zstep at h
  split at h
  · exact ztsw_ok hx hb hdg h hgo
  · exact zlsw_ok hx hb hdg h hgo
  · rename_i x
    cases hl : Nat.beq len 3 with
    | false => rw [hl] at h; cases h
    | true =>
      rw [hl] at h
      have el := Nat.eq_of_beq_eq_true hl
      subst el
      exact zstepE_ok hX hx0 hA hK hdg hgo tb.2.2.2.1 (fun q hq e => by rw [← e]; exact hvc q hq) h
  · rename_i x
    cases hl : Nat.beq len 3 with
    | false => rw [hl] at h; cases h
    | true =>
      rw [hl] at h
      have el := Nat.eq_of_beq_eq_true hl
      subst el
      dsimp only [cond] at h
      split at h
      · rename_i L' hM
        cases h
        exact zstepM_ok hx hb hml hK hown hts hroom hmm hdg hM hgo
      · exact zstepE_ok hX hx0 hA hK hdg hgo tb.2.2.2.2.1 (fun q hq e => by rw [← e]; exact hsc q hq) h
  · cases hl : Nat.beq len (zlen ins) with
    | false => rw [hl] at h; cases h
    | true =>
      rw [hl] at h
      have el := Nat.eq_of_beq_eq_true hl
      subst el
      dsimp only [cond] at h
      split at h
      · rename_i L' hM
        cases h
        exact zstepA_ok hx hb hown hts hco hlc hdg hM hgo
      · split at h
        · rename_i L' hM
          cases h
          exact zstepD_ok hx hb hK hown hts hfl hdg hM hgo
        · split at h
          · rename_i L' hM
            cases h
            exact zstepC_ok hx hb hdg hnx hM hgo
          · cases h1 : Nat.beq (zlen ins) 1 with
            | false => rw [h1] at h; cases h
            | true =>
              rw [h1] at h
              rw [Nat.eq_of_beq_eq_true h1] at hdg
              dsimp only at h
              split at h
              · rename_i L' hM
                cases h
                exact zstepB_ok hx hb hdg hM hgo
              · exact zstepU_ok hx hb hdg h hgo
theorem zret_ok {pc : Nat} {S : zS} {ins : Instr} (hcx : zCx X p l e R s m args below meth c cc D cl kA A nL Ts own tb pr rt) (hdg : decode cc pc = .ok (ins, 1)) (h1 : zrtok S.1 rt ins S.2.2.2.1 = true) (h2 : zexit k.1 k.2.1 k.2.2.2 S = true) : zGo (zGW p l e R s m args below meth c 0 0 (MQ below (zQc D cl kA k r0 ad0 A) args s 0 0 A)) D cl kA A s.heap nL k.1 k.2.1 r0 ad0 N pc S := by
  obtain ⟨hX, hx0, hA, hK, hx, hb, hml, hown, hts, hlk, hrt, hroom, hfl, hco, hlc, hvc, hsc, hmm, hpr⟩ := hcx
  intro r ad ph H locs ls hJ hR hN
  obtain ⟨T, hT, hq⟩ := List.any_eq_true.mp h2
  have hR' : zRel D cl kA A s.heap nL (zsl S [] S.2.2.2.1) r ad ph H locs ls := ⟨hR.1, hR.2.1, hR.2.2.1, hR.2.2.2.1, hR.2.2.2.2.1, hR.2.2.2.2.2.1, zlv_sub hR.2.2.2.2.2.2 (fun q hq => by cases hq)⟩
  obtain ⟨j1, ⟨t1, t2, t3, t4, t5, t6, t7⟩, t8⟩ := zent_ok hq hJ hR'
  have t8 : S.2.2.2.1.map (zcv r ad) = _ := t8
  have post : ∀ (o : Option Value), o = (S.2.2.2.1.map (zcv r ad)).head? → ∀ t : State, t.heap = H → s.WarmedH t.vm → zQc D cl kA k r0 ad0 A args s (.returned o) t := by
    intro o ho t ht hW
    exact ⟨⟨T, hT, _, _, _, j1, t1, t2, t3, by rw [ho, t8], by rw [ht]; exact t4, t5⟩, hR.2.2.2.2.2.1.F ht⟩
  show W _ _ _ _ _ _ _ _ _ _ _ _ _ _ _ (F0 m pc ls (S.2.2.2.1.map (zcv r ad)))
  unfold zrtok at h1
  split at h1
  · rename_i hst
    rw [hst] at post ⊢
    exact W.vret hx hb hrt (post none rfl) hR.2.2.2.2.2.1.2.2 hdg hlk
  · rename_i v hst
    rw [hst] at post ⊢
    exact W.iret hx hb hrt (post (some _) rfl) hR.2.2.2.2.2.1.2.2 hdg hlk
  · rename_i v hst
    rw [hst] at post ⊢
    split at h1
    · rename_i i hr
      simp only [Bool.and_eq_true] at h1
      have b := zrng_ok hR.1 hr
      exact W.zret hx hb hrt (znar_bool (k := zev r v) (by have := zle_ok h1.1; omega) (by have := zle_ok h1.2; omega)).1 (post (some _) rfl) hR.2.2.2.2.2.1.2.2 hdg hlk
    · cases h1
  · rename_i v hst
    rw [hst] at post ⊢
    exact W.lret hx hb hrt (post (some _) rfl) hR.2.2.2.2.2.1.2.2 hdg hlk
  · cases h1
theorem zspr_mem {v : zV} {S : zS} {r : Nat → Int} (hE : zokE r S.1) {j : zI} (h1 : j.1 ≤ zev r v) (h2 : zev r v ≤ j.2) : ∀ (is : List zI), j ∈ is → ∃ E, zse S (E, S.2.1) S.2.2.2.1 ∈ zspr S v is ∧ zokE r E
  | [], h => by cases h
  | i :: is, h => by
    rcases List.mem_cons.mp h with e | e
    · subst e
      obtain ⟨E, e1, o1⟩ := zref_ok (v := v) hE h1 h2
      refine ⟨E, ?_, o1⟩
      unfold zspr
      rw [e1]
      exact List.mem_append_left _ List.mem_cons_self
    · obtain ⟨E, m1, o1⟩ := zspr_mem (v := v) hE h1 h2 is e
      refine ⟨E, ?_, o1⟩
      unfold zspr
      exact List.mem_append_right _ m1
theorem zspl_ok {G : zGT} {K : Nat} {pins : List Nat} {H0 : Heap} {S : zS} {pc : Nat} {Ss : List zS} (h : zspl sp S pc = some Ss) (hgo : ∀ S' ∈ Ss, zGo G D cl kA A H0 nL K pins r0 ad0 N pc S') : zGo G D cl kA A H0 nL K pins r0 ad0 N pc S := by
  unfold zspl at h
  split at h
  · cases h
    exact hgo S List.mem_cons_self
  · rename_i pl is hlk
    split at h
    · rename_i v hv
      split at h
      · rename_i b hr
        cases hz : zcov b is with
        | false => rw [hz] at h; cases h
        | true =>
          rw [hz] at h
          cases h
          intro r ad ph H locs ls hJ hR hN
          have b1 := zrng_ok hR.1 hr
          obtain ⟨i, m, i1, i2⟩ := zcov_ok is b hz b1.1 b1.2
          obtain ⟨E, m1, o1⟩ := zspr_mem (v := v) hR.1 i1 i2 is m
          exact hgo _ m1 r ad ph H locs ls hJ ⟨o1, hR.2⟩ hN
      · cases h
    · cases h
theorem zrun_ok (hcx : zCx X p l e R s m args below meth c cc D cl kA A nL Ts own tb pr rt) (hbl : ∀ b ∈ bl, ∀ N', (dec = true → N' < N) → zGo (zGW p l e R s m args below meth c 0 0 (MQ below (zQc D cl kA k r0 ad0 A) args s 0 0 A)) D cl kA A s.heap nL k.1 k.2.1 r0 ad0 N' b.1 b.2) : ∀ (f n : Nat) (S : zS) (pc : Nat), zrun tb sp pr nL rt k.1 k.2.1 k.2.2.2 bl dec f n S pc = true → zGo (zGW p l e R s m args below meth c 0 0 (MQ below (zQc D cl kA k r0 ad0 A) args s 0 0 A)) D cl kA A s.heap nL k.1 k.2.1 r0 ad0 N pc S := by
  intro f
  induction f with
  | zero => intro n S pc h; cases h
  | succ f ih =>
    intro n S pc h
    have hpr := hcx.2.2.2.2.2.2.2.2.2.2.2.2.2.2.2.2.2.2
    unfold zrun at h
    split at h
    · cases h
    · rename_i ins len hl
      have hdg := hpr pc ins len hl
      split at h
      · cases h
      rename_i Ss hSs
      refine zspl_ok hSs (fun S' hS' => ?_)
      have h := List.all_eq_true.mp h S' hS'
      cases hz : zisret ins with
      | true =>
        rw [hz] at h
        simp only [cond, Bool.and_eq_true] at h
        rw [Nat.eq_of_beq_eq_true h.1.1] at hdg
        exact zret_ok hcx hdg h.1.2 h.2
      | false =>
        rw [hz] at h
        dsimp only [cond] at h
        split at h
        · cases h
        · rename_i L hL
          refine zstep_ok hcx hdg (fun i hi => ?_) hL (fun x hx => ?_)
          · unfold znx at hi
            split at hi
            · rename_i i' ln hl'
              cases hq : Nat.beq ln (zlen i') with
              | false => rw [hq] at hi; cases hi
              | true =>
                rw [hq] at hi
                cases hi
                rw [← Nat.eq_of_beq_eq_true hq]
                exact hpr _ _ _ hl'
            · cases hi
          · have q := List.all_eq_true.mp h x hx
            cases hc : bl.any (fun b => Nat.beq b.1 x.1) with
            | false =>
              rw [hc] at q
              exact ih (n + 1000) x.2 x.1 q
            | true =>
              rw [hc] at q
              obtain ⟨b, hb, hq⟩ := List.any_eq_true.mp q
              simp only [Bool.and_eq_true] at hq
              obtain ⟨q1, -, q2, q3⟩ := hq
              intro r ad ph H locs ls hJ hR hN
              obtain ⟨j1, j2, j3⟩ := zent_ok q2 hJ hR
              have hlt : dec = true → zenc (fun s => zev r (zth k.1 (zmS k.2.1 x.2 b.2).1 s)) b.2.2.2.2.2.2 < N := fun hd => by
                rw [hd] at q3
                have q3 : zlex x.2.1 x.2.2.1 x.2.2.2.2.2.2 (b.2.2.2.2.2.2.map (ztR (zth k.1 (zmS k.2.1 x.2 b.2).1))) = true := q3
                have w := zlex_ok hR.1 hR.2.1 _ _ q3
                rw [zenc_t, hN] at w
                exact w
              have g := hbl b hb _ hlt _ _ _ H locs ls j1 j2 rfl
              rw [Nat.eq_of_beq_eq_true q1] at g
              show zGW p l e R s m args below meth c 0 0 _ x.1 H locs ls (x.2.2.2.2.1.map (zcv r ad))
              rw [j3]
              exact g
theorem zblocks_ok (hcx : zCx X p l e R s m args below meth c cc D cl kA A nL Ts own tb pr rt) {f n : Nat} (hb : bl.all (fun b => zrun tb sp pr nL rt k.1 k.2.1 k.2.2.2 bl true f n b.2 b.1) = true) : ∀ (N : Nat), ∀ b ∈ bl, zGo (zGW p l e R s m args below meth c 0 0 (MQ below (zQc D cl kA k r0 ad0 A) args s 0 0 A)) D cl kA A s.heap nL k.1 k.2.1 r0 ad0 N b.1 b.2 := by
  intro N
  induction N using Nat.strongRecOn with
  | ind N ih =>
    intro b hbm
    exact zrun_ok (dec := true) hcx (fun b' hb' N' hN' => ih N' (hN' rfl) b' hb') f n b.2 b.1 (List.all_eq_true.mp hb b hbm)
end ZRN
def zargs : Nat → List zA → List (Nat × zA)
  | _, [] => []
  | i, a :: as => (i, a) :: zargs (bif Nat.beq (zcat a) 2 then i + 2 else i + 1) as
theorem zargs_ok (r : Nat → Int) (ad : Nat → Nat) : ∀ (as : List zA) (i : Nat), lv_args i (as.map (zcv r ad)) = (zargs i as).map (fun x => (x.1, zcv r ad x.2))
  | [], _ => rfl
  | a :: as, i => by
    show (i, zcv r ad a) :: lv_args (if (zcv r ad a).category = 2 then i + 2 else i + 1) (as.map (zcv r ad)) = (i, zcv r ad a) :: (zargs (bif Nat.beq (zcat a) 2 then i + 2 else i + 1) as).map (fun x => (x.1, zcv r ad x.2))
    rw [zcat_ok]
    cases hb : Nat.beq (zcat a) 2 with
    | true =>
      rw [if_pos (Nat.eq_of_beq_eq_true hb), zargs_ok r ad as]
      rfl
    | false =>
      rw [if_neg (fun q => by rw [q] at hb; cases hb), zargs_ok r ad as]
      rfl
def zst0 (k : zK) : zS := (k.2.2.1.1, k.2.2.1.2.1, zargs 0 k.2.2.1.2.2.2.1, [], k.2.2.1.2.2.2.2.1, [])
/-- the whole check of a method -/
def zcheck (tb : zTb) (sp : zSp) (pr : List (Nat × Instr × Nat)) (nL rt : Nat) (k : zK) (bl : List (Nat × zS)) (f n : Nat) : Bool :=
  Nat.ble ((k.2.2.1.2.2.2.1.map zcat).sum) nL && zrun tb sp pr nL rt k.1 k.2.1 k.2.2.2 bl false f n (zst0 k) 0 && bl.all (fun b => zrun tb sp pr nL rt k.1 k.2.1 k.2.2.2 bl true f n b.2 b.1)
theorem zsl_len (r : Nat → Int) (ad : Nat → Nat) : ∀ (as : List zA), (lg_sl (as.map (zcv r ad))).length = (as.map zcat).sum
  | [] => rfl
  | a :: as => by
    have ih := zsl_len r ad as
    unfold lg_sl at ih ⊢
    rw [List.map_cons, List.flatMap_cons, List.length_append, ih, List.map_cons, List.sum_cons, zcat_ok]
    congr 1
    rcases a with (v | v) | (_ | v) <;> rfl
