/-- a step that is told by what comes behind it -/
def zCalW (X : zXT) (cl : List vw_C) (p : Program) (l : Launch) (e : Env) (R : Room) (s : State) (m : MethodId) (args : Array Value) (below : List Frame) (meth : Method) (c : Code) (D : va_G) (kA : Nat → ClassId) (A : Nat → Prop) (nL pc pc2 : Nat) (k : zK) : Prop :=
  ∀ (Q : State → Prop) (r1 : Nat → Int) (ad1 : Nat → Nat) (ph1 : Nat → Nat → Int) (H : Heap) (locs : List Loc) (ls : Array Slot) (rest : List Value), zokE r1 k.2.2.1.1 → zokZ r1 k.2.2.1.2.1 → zokW r1 ph1 k.2.2.1.2.2.2.2.1 → va_P D cl (zws kA r1 ad1 ph1 k.2.2.1.2.2.2.2.1) H → va_D (fun _ => True) (zws kA r1 ad1 ph1 k.2.2.1.2.2.2.2.1) → X (va_A (zws kA r1 ad1 ph1 k.2.2.1.2.2.2.2.1) H.size) s H → ls.size = nL → (rest.map fun v => v.category).sum ≤ 8 → va_S A s.heap H locs → (∀ q, va_A (zws kA r1 ad1 ph1 k.2.2.1.2.2.2.2.1) H.size q → A q) →
    (∀ T ∈ k.2.2.2, ∀ (r' : Nat → Int) (ad' : Nat → Nat) (ph' : Nat → Nat → Int) (H1 : Heap) (locs1 : List Loc), zJ k.1 k.2.1 r1 ad1 r' ad' → zokE r' T.1 → zokZ r' T.2.1 → zokW r' ph' T.2.2.2.2.1 → va_P D cl (zws kA r' ad' ph' T.2.2.2.2.1) H1 → va_D (va_A (zws kA r1 ad1 ph1 k.2.2.1.2.2.2.2.1) H.size) (zws kA r' ad' ph' T.2.2.2.2.1) → (∀ q : Nat, q < H.size → ¬ va_A (zws kA r1 ad1 ph1 k.2.2.1.2.2.2.2.1) H.size q → H1[q]? = H[q]?) → va_S A s.heap H1 locs1 → W p l e R s m args below meth c H1 locs1 0 0 Q (F0 m pc2 ls ((T.2.2.2.1.map (zcv r' ad')).head?.toList ++ rest))) →
    W p l e R s m args below meth c H locs 0 0 Q (F0 m pc ls ((k.2.2.1.2.2.2.1.map (zcv r1 ad1)).reverse ++ rest))
section ZTW
variable {X : zXT} {p : Program} {l : Launch} {e : Env} {R : Room} {s : State} {m : MethodId} {args : Array Value} {below : List Frame} {meth : Method} {c : Code} {Q : State → Prop} {cc : ByteArray} {D : va_G} {cl : List vw_C} {kA : Nat → ClassId} {A : Nat → Prop} {nL K : Nat} {pins : List Nat} {r0 : Nat → Int} {ad0 : Nat → Nat} {N pc n : Nat} {S : zS} {ins : Instr} {L : List (Nat × zS)}
theorem ztryW_ok {pc0 : Nat} (hX : zXok X) (hx0 : X A s s.heap) (hA : ∀ q, s.heap.size ≤ q → A q) (hK : va_K D cl (ztys kA) s) {k : zK} (hcal : zCalW X cl p l e R s m args below meth c D kA A nL pc0 (pc + 3) k) (h : ztry K pins n S pc k = some L) (hgo : ∀ x ∈ L, zGo (zGW p l e R s m args below meth c 0 0 Q) D cl kA A s.heap nL K pins r0 ad0 N x.1 x.2) : zGo (zGW p l e R s m args below meth c 0 0 Q) D cl kA A s.heap nL K pins r0 ad0 N pc0 S := by
  intro r ad ph H locs ls hJ hR hN
  unfold ztry at h
  · obtain ⟨as, has⟩ : ∃ as, as = (S.2.2.2.1.take k.2.2.1.2.2.2.1.length).reverse := ⟨_, rfl⟩
    obtain ⟨st, hst⟩ : ∃ st, st = S.2.2.2.1.drop k.2.2.1.2.2.2.1.length := ⟨_, rfl⟩
    dsimp only at h
    rw [← has, ← hst] at h
    generalize (zmS [] (zsl S [] as) k.2.2.1).1 = La at h
    generalize (zmS [] (zsl S [] as) k.2.2.1).2 = Ma at h
    generalize zmp S.2.2.2.2.1 Ma k.2.2.1.2.2.2.2.1 = is at h
    cases hz : zent 1 [] (zsl S [] as) k.2.2.1 La Ma is && Nat.ble ((st.map zcat).sum) 8 && k.2.2.2.all (fun T => zchk K pins n S st k T La Ma is) with
    | false => rw [hz] at h; cases h
    | true =>
      rw [hz] at h
      have h : k.2.2.2.filterMap (fun T => (zaft n S st k T La Ma is).map (fun S' => (pc + 3, S'))) = L := Option.some.inj h
      simp only [Bool.and_eq_true] at hz
      obtain ⟨⟨z1, z2⟩, z3⟩ := hz
      have hR' : zRel D cl kA A s.heap nL (zsl S [] as) r ad ph H locs ls := ⟨hR.1, hR.2.1, hR.2.2.1, hR.2.2.2.1, hR.2.2.2.2.1, hR.2.2.2.2.2.1, zlv_sub hR.2.2.2.2.2.2 (fun q hq => by cases hq)⟩
      obtain ⟨-, ⟨t1, t2, t3, t4, t5, t6, t7⟩, t8⟩ := zent_ok z1 (r0 := r) (ad0 := ad) ⟨fun _ _ => rfl, fun _ _ => rfl⟩ hR'
      have z1' := z1
      simp only [zent, Bool.and_eq_true] at z1'
      obtain ⟨-, -, -, -, -, h5, -, -⟩ := z1'
      obtain ⟨w1, -⟩ := zWle_ok (w := S.2.2.2.2.1) hR.1 (zth 1 La) (zka Ma) kA ad ph hR.2.2.1 is _ h5
      have hF := va_free hR.2.2.2.2.1 hR.2.2.2.2.2.1 hA is w1
      have t8 : as.map (zcv r ad) = _ := t8
      have hstk : S.2.2.2.1.map (zcv r ad) = (k.2.2.1.2.2.2.1.map (zcv (fun s => zev r (zth 1 La s)) (fun i => ad (zka Ma i)))).reverse ++ st.map (zcv r ad) := by
        rw [← t8, has, hst, List.map_reverse, List.reverse_reverse, ← List.map_append, List.take_append_drop]
      have hcat : ((st.map (zcv r ad)).map fun v => v.category).sum ≤ 8 := by
        rw [List.map_map, show ((fun v : Value => v.category) ∘ zcv r ad) = zcat from funext (zcat_ok r ad)]
        exact Nat.le_of_ble_eq_true z2
      show W _ _ _ _ _ _ _ _ _ _ _ _ _ _ _ (F0 m pc0 ls (S.2.2.2.1.map (zcv r ad)))
      rw [hstk]
      refine hcal Q _ _ (fun i => ph (zka Ma i)) H locs ls (st.map (zcv r ad)) t1 t2 t3 t4 (t5.weaken (fun _ _ _ _ => trivial)) (hX.2.2.2 A _ s H hF (hX.2.2.1 A s s.heap H (fun a h1 h2 => hR.2.2.2.2.2.1.2.1 a h1 h2) hx0)) hR.2.2.2.2.2.2.1 hcat hR.2.2.2.2.2.1 hF (fun T hT r' ad' ph' H1 locs1 j1 j2 j3 j4 j5 j6 j7 j8 => ?_)
      have hck := List.all_eq_true.mp z3 T hT
      obtain ⟨S', r2, ad2, ph2, y1, y2, y3, y4, y5⟩ := zaft_ok hck z1 hJ hR hN j1 j2 j3 j4 j5 j6 j7 hF j8
      have hmem : (pc + 3, S') ∈ L := by
        rw [← h]
        exact List.mem_filterMap.mpr ⟨T, hT, by rw [y1]; rfl⟩
      have g := hgo _ hmem r2 ad2 ph2 H1 locs1 ls y2 y3 y4
      have g : W p l e R s m args below meth c H1 locs1 0 0 Q (F0 m (pc + 3) ls (S'.2.2.2.1.map (zcv r2 ad2))) := g
      rw [y5] at g
      have hlen : T.2.2.2.1.length ≤ 1 := by
        simp only [zchk, Bool.and_eq_true] at hck
        exact Nat.le_of_ble_eq_true hck.1.2
      rw [zhead (by rw [List.length_map]; exact hlen)]
      exact g
end ZTW
/-- the places where a text is pushed and a method called with it: the constant, the method, what is known of both together -/
abbrev zSx : Type := List (Nat × Nat × zK)
def zstepT (sx : zSx) (pr : List (Nat × Instr × Nat)) (K : Nat) (pins : List Nat) (n : Nat) (S : zS) (pc : Nat) (ins : Instr) (len : Nat) : Option (List (Nat × zS)) := match ins with
  | .ldc x => match zlk sx x, zlk pr (pc + 2) with
    | some (y, k), some (.invokevirtual y', ln) => bif Nat.beq len 2 && Nat.beq ln 3 && Nat.beq y' y then ztry K pins n S (pc + 2) k else none
    | _, _ => none
  | _ => none
def zrunT (sx : zSx) (tb : zTb) (sp : zSp) (pr : List (Nat × Instr × Nat)) (nL rt K : Nat) (pins : List Nat) (exits : List zS) (bl : List (Nat × zS)) (dec : Bool) : Nat → Nat → zS → Nat → Bool
  | 0, _, _, _ => false
  | f + 1, n, S0, pc => match zlk pr pc with
    | none => false
    | some (ins, len) => match zspl sp S0 pc with
      | none => false
      | some Ss => Ss.all (fun S => bif zisret ins then Nat.beq len 1 && zrtok S.1 rt ins S.2.2.2.1 && zexit K pins exits S else match (match zstepT sx pr K pins n S pc ins len with
        | some L => some L
        | none => zstep tb nL K pins n S pc ins len (znx pr (pc + 1))) with
        | none => false
        | some L => L.all (fun x => bif bl.any (fun b => Nat.beq b.1 x.1) then zedge K pins bl dec x.1 x.2 else zrunT sx tb sp pr nL rt K pins exits bl dec f (n + 1000) x.2 x.1))
section ZRT
variable {X : zXT} {p : Program} {l : Launch} {e : Env} {R : Room} {s : State} {m : MethodId} {args : Array Value} {below : List Frame} {meth : Method} {c : Code} {cc : ByteArray} {D : va_G} {cl : List vw_C} {kA : Nat → ClassId} {A : Nat → Prop} {nL : Nat} {k : zK} {r0 : Nat → Int} {ad0 : Nat → Nat} {N : Nat} {Ts : List Cond} {own : String} {tb : zTb} {pr : List (Nat × Instr × Nat)} {rt : Nat} {bl : List (Nat × zS)} {dec : Bool} {sp : zSp} {sx : zSx}
def zHx (X : zXT) (p : Program) (l : Launch) (e : Env) (R : Room) (s : State) (m : MethodId) (args : Array Value) (below : List Frame) (meth : Method) (c : Code) (cc : ByteArray) (D : va_G) (cl : List vw_C) (kA : Nat → ClassId) (A : Nat → Prop) (nL : Nat) (sx : zSx) : Prop :=
  ∀ x y k, zlk sx x = some (y, k) → ∀ pc, decode cc pc = .ok (.ldc x, 2) → decode cc (pc + 2) = .ok (.invokevirtual y, 3) → zCalW X cl p l e R s m args below meth c D kA A nL pc (pc + 2 + 3) k
theorem zstepT_ok {K : Nat} {pins : List Nat} {Q : State → Prop} {n pc len : Nat} {S : zS} {ins : Instr} {L : List (Nat × zS)} (hcx : zCx X p l e R s m args below meth c cc D cl kA A nL Ts own tb pr rt) (hsx : zHx X p l e R s m args below meth c cc D cl kA A nL sx) (hdg : decode cc pc = .ok (ins, len)) (h : zstepT sx pr K pins n S pc ins len = some L) (hgo : ∀ x ∈ L, zGo (zGW p l e R s m args below meth c 0 0 Q) D cl kA A s.heap nL K pins r0 ad0 N x.1 x.2) : zGo (zGW p l e R s m args below meth c 0 0 Q) D cl kA A s.heap nL K pins r0 ad0 N pc S := by
  have hpr := hcx.2.2.2.2.2.2.2.2.2.2.2.2.2.2.2.2.2.2
  unfold zstepT at h
  split at h
  · rename_i x
    split at h
    · rename_i y k y' ln h1 h2
      cases hz : Nat.beq len 2 && Nat.beq ln 3 && Nat.beq y' y with
      | false => rw [hz] at h; cases h
      | true =>
        rw [hz] at h
        simp only [Bool.and_eq_true] at hz
        have e1 := Nat.eq_of_beq_eq_true hz.1.1
        have e2 := Nat.eq_of_beq_eq_true hz.1.2
        have e3 := Nat.eq_of_beq_eq_true hz.2
        subst e1
        subst e2
        subst e3
        exact ztryW_ok hcx.1 hcx.2.1 hcx.2.2.1 hcx.2.2.2.1 (hsx x _ k h1 pc hdg (hpr _ _ _ h2)) h hgo
    · cases h
  · cases h
theorem zrunT_ok (hcx : zCx X p l e R s m args below meth c cc D cl kA A nL Ts own tb pr rt) (hsx : zHx X p l e R s m args below meth c cc D cl kA A nL sx) (hbl : ∀ b ∈ bl, ∀ N', (dec = true → N' < N) → zGo (zGW p l e R s m args below meth c 0 0 (MQ below (zQc D cl kA k r0 ad0 A) args s 0 0 A)) D cl kA A s.heap nL k.1 k.2.1 r0 ad0 N' b.1 b.2) : ∀ (f n : Nat) (S : zS) (pc : Nat), zrunT sx tb sp pr nL rt k.1 k.2.1 k.2.2.2 bl dec f n S pc = true → zGo (zGW p l e R s m args below meth c 0 0 (MQ below (zQc D cl kA k r0 ad0 A) args s 0 0 A)) D cl kA A s.heap nL k.1 k.2.1 r0 ad0 N pc S := by
  intro f
  induction f with
  | zero => intro n S pc h; cases h
  | succ f ih =>
    intro n S pc h
    have hpr := hcx.2.2.2.2.2.2.2.2.2.2.2.2.2.2.2.2.2.2
    unfold zrunT at h
    split at h
    · cases h
    · rename_i ins len hl
      have hdg := hpr pc ins len hl
      split at h
      · cases h
      rename_i Ss hSs
      refine zspl_ok hSs (fun S' hS' => ?_)
      have h := List.all_eq_true.mp h S' hS'
      cases hz : zisret ins with
      | true =>
        rw [hz] at h
        simp only [cond, Bool.and_eq_true] at h
        rw [Nat.eq_of_beq_eq_true h.1.1] at hdg
        exact zret_ok hcx hdg h.1.2 h.2
      | false =>
        rw [hz] at h
        dsimp only [cond] at h
        split at h
        · cases h
        · rename_i L hL
          have both : (∀ x ∈ L, zGo (zGW p l e R s m args below meth c 0 0 (MQ below (zQc D cl kA k r0 ad0 A) args s 0 0 A)) D cl kA A s.heap nL k.1 k.2.1 r0 ad0 N x.1 x.2) → zGo (zGW p l e R s m args below meth c 0 0 (MQ below (zQc D cl kA k r0 ad0 A) args s 0 0 A)) D cl kA A s.heap nL k.1 k.2.1 r0 ad0 N pc S' := by
            intro hall
            split at hL
            · rename_i L' hT
              cases hL
              exact zstepT_ok hcx hsx hdg hT hall
            refine zstep_ok hcx hdg (fun i hi => ?_) hL hall
            unfold znx at hi
            split at hi
            · rename_i i' ln hl'
              cases hq : Nat.beq ln (zlen i') with
              | false => rw [hq] at hi; cases hi
              | true =>
                rw [hq] at hi
                cases hi
                rw [← Nat.eq_of_beq_eq_true hq]
                exact hpr _ _ _ hl'
            · cases hi
          refine both (fun x hx => ?_)
          · have q := List.all_eq_true.mp h x hx
            cases hc : bl.any (fun b => Nat.beq b.1 x.1) with
            | false =>
              rw [hc] at q
              exact ih (n + 1000) x.2 x.1 q
            | true =>
              rw [hc] at q
              obtain ⟨b, hb, hq⟩ := List.any_eq_true.mp q
              simp only [Bool.and_eq_true] at hq
              obtain ⟨q1, -, q2, q3⟩ := hq
              intro r ad ph H locs ls hJ hR hN
              obtain ⟨j1, j2, j3⟩ := zent_ok q2 hJ hR
              have hlt : dec = true → zenc (fun s => zev r (zth k.1 (zmS k.2.1 x.2 b.2).1 s)) b.2.2.2.2.2.2 < N := fun hd => by
                rw [hd] at q3
                have q3 : zlex x.2.1 x.2.2.1 x.2.2.2.2.2.2 (b.2.2.2.2.2.2.map (ztR (zth k.1 (zmS k.2.1 x.2 b.2).1))) = true := q3
                have w := zlex_ok hR.1 hR.2.1 _ _ q3
                rw [zenc_t, hN] at w
                exact w
              have g := hbl b hb _ hlt _ _ _ H locs ls j1 j2 rfl
              rw [Nat.eq_of_beq_eq_true q1] at g
              show zGW p l e R s m args below meth c 0 0 _ x.1 H locs ls (x.2.2.2.2.1.map (zcv r ad))
              rw [j3]
              exact g
theorem zblocksT_ok (hcx : zCx X p l e R s m args below meth c cc D cl kA A nL Ts own tb pr rt) (hsx : zHx X p l e R s m args below meth c cc D cl kA A nL sx) {f n : Nat} (hb : bl.all (fun b => zrunT sx tb sp pr nL rt k.1 k.2.1 k.2.2.2 bl true f n b.2 b.1) = true) : ∀ (N : Nat), ∀ b ∈ bl, zGo (zGW p l e R s m args below meth c 0 0 (MQ below (zQc D cl kA k r0 ad0 A) args s 0 0 A)) D cl kA A s.heap nL k.1 k.2.1 r0 ad0 N b.1 b.2 := by
  intro N
  induction N using Nat.strongRecOn with
  | ind N ih =>
    intro b hbm
    exact zrunT_ok (dec := true) hcx hsx (fun b' hb' N' hN' => ih N' (hN' rfl) b' hb') f n b.2 b.1 (List.all_eq_true.mp hb b hbm)
end ZRT
/-- the whole check of a method -/
def zcheckT (sx : zSx) (tb : zTb) (sp : zSp) (pr : List (Nat × Instr × Nat)) (nL rt : Nat) (k : zK) (bl : List (Nat × zS)) (f n : Nat) : Bool :=
  Nat.ble ((k.2.2.1.2.2.2.1.map zcat).sum) nL && zrunT sx tb sp pr nL rt k.1 k.2.1 k.2.2.2 bl false f n (zst0 k) 0 && bl.all (fun b => zrunT sx tb sp pr nL rt k.1 k.2.1 k.2.2.2 bl true f n b.2 b.1)
set_option maxHeartbeats 4000000 in
theorem zmethT {sx : zSx} {X : zXT} (hX : zXok X) {cl : List vw_C} {l : Launch} {y : MethodName} {ws ws' : List Cond} {rm : Room} {k : zK} {cc : ByteArray} {nL rt f n : Nat} {own : String} {tb : zTb} {pr : List (Nat × Instr × Nat)} {bl : List (Nat × zS)} {sp : zSp} (hy : plainName y.cls = true) (hw : ws = Cond.code y cc nL (zrty rt) :: ws') (how : y.cls = own) (hroom : 1 ≤ rm.frames ∧ 64 ≤ rm.locals)
    (hfl : ∀ x ci k tag, zlk tb.1 x = some (ci, k, tag) → zFld ws own cl x ci k tag) (hco : ∀ k z, zlk tb.2.1 k = some z → Cond.constant own k (Int32.ofInt z) ∈ ws) (hlc : ∀ k z, zlk tb.2.2.1 k = some z → Cond.constantLong own k (Int64.ofInt z) ∈ ws)
    (hvc : zCk X cl l rm cc nL ws own Instr.invokevirtual tb.2.2.2.1) (hsc : zCk X cl l rm cc nL ws own Instr.invokestatic tb.2.2.2.2.1) (hmm : ∀ x t, zlk tb.2.2.2.2.2 x = some t → zMM ws own x t) (hpr : ∀ pc ins len, zlk pr pc = some (ins, len) → decode cc pc = .ok (ins, len))
    (hsx : ∀ (p : Program) (e : Env) (s : State) (m : MethodId) (args : Array Value) (below : List Frame) (meth : Method) (c : Code) (D : va_G) (kA : Nat → ClassId) (A : Nat → Prop), CallFix p m c cc nL s args ws own → va_K D cl (ztys kA) s → zHx X p l e rm s m args below meth c cc D cl kA A nL sx)
    (hck : zcheckT sx tb sp pr nL rt k bl f n = true) : zMet X cl l y ws rm k := by
  intro D kA r ad ph sz hE hZ hW
  refine Met.ofW (cc := cc) (maxL := nL) (ret := zrty rt) hy hw ?_
  intro p e s m args below meth c s₁ B hml hv
  obtain ⟨rfl, hsz, hP, hK, hD0, hx0⟩ := hv
  have hts := atoms_spec (ws := ws) B.pre
  have hown : s.vm.findClass own = some m.cls := by
    rw [← how]
    exact findClass_of_methodNamed B.named
  subst hsz
  have hD := hD0.self (sz := s.heap.size)
  simp only [zcheckT, Bool.and_eq_true] at hck
  obtain ⟨⟨c1, c2⟩, c3⟩ := hck
  have hfix : CallFix p m c cc nL s (k.2.2.1.2.2.2.1.map (zcv r ad)).toArray ws own := ⟨B.exec, B.bytes, hml, hown, hts⟩
  have hcx : zCx X p l e rm s m (k.2.2.1.2.2.2.1.map (zcv r ad)).toArray below meth c cc D cl kA (va_A (zws kA r ad ph k.2.2.1.2.2.2.2.1) s.heap.size) nL ws own tb pr rt := ⟨hX, hx0, fun q h => Or.inr h, hK, B.exec, B.bytes, hml, hown, hts, B.notSynchronized, B.returns, hroom, hfl, hco, hlc, fun q hq => hvc q hq p e s m _ below meth c _ hfix hx0, fun q hq => hsc q hq p e s m _ below meth c _ hfix hx0, hmm, hpr⟩
  have hl := lv_entry (k.2.2.1.2.2.2.1.map (zcv r ad)) (n := nL) (by rw [zsl_len]; exact Nat.le_of_ble_eq_true c1)
  rw [zargs_ok] at hl
  rw [lg_entry_eq]
  have hsx := hsx p e s m (k.2.2.1.2.2.2.1.map (zcv r ad)).toArray below meth c D kA (va_A (zws kA r ad ph k.2.2.1.2.2.2.2.1) s.heap.size) hfix hK
  exact zrunT_ok (k := k) (r0 := r) (ad0 := ad) (N := 0) (dec := false) hcx hsx (fun b hb N' _ => zblocksT_ok hcx hsx c3 N' b hb) f n (zst0 k) 0 c2 r ad ph s.heap [] _ ⟨fun _ _ => rfl, fun _ _ => rfl⟩ ⟨hE, hZ, hW, hP, hD, va_S.rf, hl⟩ rfl
theorem zcheckT_of {sx : zSx} {tb : zTb} {sp : zSp} {pr : List (Nat × Instr × Nat)} {nL rt : Nat} {k : zK} {bl : List (Nat × zS)} {f n : Nat} (h1 : Nat.ble ((k.2.2.1.2.2.2.1.map zcat).sum) nL = true) (h2 : zrunT sx tb sp pr nL rt k.1 k.2.1 k.2.2.2 bl false f n (zst0 k) 0 = true) (h3 : ∀ b ∈ bl, zrunT sx tb sp pr nL rt k.1 k.2.1 k.2.2.2 bl true f n b.2 b.1 = true) : zcheckT sx tb sp pr nL rt k bl f n = true := by
  unfold zcheckT
  rw [h1, h2, List.all_eq_true.mpr h3]
  rfl
def zstrs : List (String × Nat × String × Nat) := [(RX1, 81, "row", 3), (RX1, 91, "ring", 4), (RX1, 93, "deed", 4), (RX1, 98, "house", 5), (RX1, 103, "lawyer", 6), (RX1, 108, "habit", 5), (RX1, 113, "vow", 3), (RX1, 118, "want", 4), (RX1, 214, "plain", 5), (RX1, 216, "left", 4), (RX1, 218, "drunk", 5), (RX1, 220, "joint", 5), (RX1, 222, "threat", 6)]
def zXs (X : zXT) : Prop := ∀ (A : Nat → Prop) (U : State) (H : Heap), X A U H → ∀ (o : String) (x : Nat) (tx : String) (n : Nat), (o, x, tx, n) ∈ zstrs → ∃ a : Nat, vk_R o x tx a U ∧ zStr n a A U H
set_option maxHeartbeats 4000000 in
theorem zcalN {X : zXT} (hX : zXok X) (hs : zXs X) {l : Launch} {p : Program} {e : Env} {R : Room} {s : State} {m : MethodId} {args : Array Value} {below : List Frame} {meth : Method} {c : Code} {cc : ByteArray} {D : va_G} {kA : Nat → ClassId} {A : Nat → Prop} {nL : Nat} {Ts : List Cond} {x n pc : Nat} {tx : String} (S : CallFix p m c cc nL s args Ts RX1) (hK : va_K D vwCl (ztys kA) s) (hm : (RX1, x, tx, n) ∈ zstrs) (cw : CallW R s args RX1 RX1 83 yX1_isName cX1_isName 3 (some .boolean) wsX1_isName { frames := 5, cells := 0, slots := 0, locals := 200 } 0 0 1) (hd1 : decode cc pc = .ok (.ldc x, 2)) (hd2 : decode cc (pc + 2) = .ok (.invokevirtual 83, 3)) : zCalW X vwCl p l e R s m args below meth c D kA A nL pc (pc + 2 + 3) k_N := by
  intro Q r1 ad1 ph1 H locs ls rest hE hZ hW hP hD hxA hls hcat hS hF kk
  obtain ⟨a, hR, hSt⟩ := hs _ _ _ hxA _ _ _ _ hm
  refine va_ldcS S.1 S.2.1 S.2.2.2.1 hR hd1 ?_
  refine zcallz (A1 := va_A (zws kA r1 ad1 ph1 zw_N) H.size) (va_runV (As := [.ref a]) (b := ad1 0) (rest := rest) S (c_X1_isName (X := X) l n D kA r1 ad1 ph1 H.size a hE hW) cw ⟨fun b U g mk q => ?_, va_recv hK hP (ci := 1) (q0 := 0) rfl rfl, fun U hU hWm => ⟨rfl, (zBf_of (av := []) hX hK hP hD hxA U hU hWm).2, ?_⟩⟩ rfl rfl hls rfl (lv_room hcat) hd2 ⟨Nat.zero_le _, Nat.zero_le _⟩) hS hF kk
  · obtain ⟨q0, q1, q6⟩ := q
    have w := zBf_blind (av := [.ref (ad1 0), .ref a]) hX b U g mk ⟨q0, q1⟩
    exact ⟨q0, w.2, zStr.moved (u := U) (U := U.calling g mk b) (Vm.Alike.refl U.vm) q6⟩
  · rw [hU]
    exact hSt.moved hWm.alike
set_option maxHeartbeats 4000000 in
theorem zHxN {X : zXT} (hX : zXok X) (hs : zXs X) {l : Launch} {p : Program} {e : Env} {R : Room} {s : State} {m : MethodId} {args : Array Value} {below : List Frame} {meth : Method} {c : Code} {cc : ByteArray} {D : va_G} {kA : Nat → ClassId} {A : Nat → Prop} {nL : Nat} {Ts : List Cond} {xs : List Nat} (hxs : xs.all (fun x => zstrs.any (fun q => decide (q.1 = RX1) && Nat.beq q.2.1 x)) = true) (S : CallFix p m c cc nL s args Ts RX1) (hK : va_K D vwCl (ztys kA) s) (cw : CallW R s args RX1 RX1 83 yX1_isName cX1_isName 3 (some .boolean) wsX1_isName { frames := 5, cells := 0, slots := 0, locals := 200 } 0 0 1) : zHx X p l e R s m args below meth c cc D vwCl kA A nL (xs.map (fun x => (x, 83, k_N))) := by
  intro x y k h pc h1 h2
  obtain ⟨x', hx', e⟩ := List.mem_map.mp (zlk_mem h)
  cases e
  obtain ⟨q, hq, hb⟩ := List.any_eq_true.mp (List.all_eq_true.mp hxs x hx')
  simp only [Bool.and_eq_true] at hb
  obtain ⟨o, x2, tx, n⟩ := q
  have e1 : o = RX1 := of_decide_eq_true hb.1
  have e2 : x2 = x := Nat.eq_of_beq_eq_true hb.2
  subst e1
  subst e2
  exact zcalN hX hs S hK hq cw h1 h2
