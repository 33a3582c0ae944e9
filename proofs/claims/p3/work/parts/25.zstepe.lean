def zmv (L : List (Nat × zV)) (t v : zV) : List (Nat × zV) := bif Nat.beq t.1 0 then L else match zlk L t.1 with
  | some _ => L
  | none => (t.1, (v.1, v.2 - t.2)) :: L
def zm1 (q : List (Nat × zV) × List (Nat × Nat)) (t a : zA) : List (Nat × zV) × List (Nat × Nat) := match t, a with
  | .inl (.inl t), .inl (.inl v) => (zmv q.1 t v, q.2)
  | .inl (.inr t), .inl (.inr v) => (zmv q.1 t v, q.2)
  | .inr (some j), .inr (some i) => match zlk q.2 j with
    | some _ => q
    | none => (q.1, (j, i) :: q.2)
  | _, _ => q
def zml (q : List (Nat × zV) × List (Nat × Nat)) : List zA → List zA → List (Nat × zV) × List (Nat × Nat)
  | t :: ts, a :: as => zml (zm1 q t a) ts as
  | _, _ => q
def zmg (L : List (Nat × zV)) : List zG → List zG → List (Nat × zV)
  | (_, .inr t) :: ts, (_, .inr v) :: vs => zmg (zmv L t v) ts vs
  | _ :: ts, _ :: vs => zmg L ts vs
  | _, _ => L
def zmn (L : List (Nat × zV)) : zM → zM → List (Nat × zV)
  | t :: ts, v :: vs => zmn (zmv (zmv L t.1 v.1) t.2 v.2) ts vs
  | _, _ => L
def zmc (q : List (Nat × zV) × List (Nat × Nat)) (t a : zC) : List (Nat × zV) × List (Nat × Nat) := match t, a with
  | .inl (_, ts), .inl (_, as) => zml q ts as
  | .inr (.inl (_, _, ts, tm)), .inr (.inl (_, _, as, am)) => (zmn (zmg q.1 ts as) tm am, q.2)
  | .inr (.inr (_, ts)), .inr (.inr (_, as)) => zml q (ts.map (fun i => .inr (some i))) (as.map (fun i => .inr (some i)))
  | _, _ => q
def zmw (w : zW) (q : List (Nat × zV) × List (Nat × Nat)) : zW → List (Nat × zV) × List (Nat × Nat)
  | [] => q
  | x :: tw => match zlk q.2 x.1 with
    | some i => match zcell w i with
      | some (_, y) => zmw w (zmc q x.2 y) tw
      | none => zmw w q tw
    | none => zmw w q tw
def zmo (lo : List (Nat × zA)) (q : List (Nat × zV) × List (Nat × Nat)) : List (Nat × zA) → List (Nat × zV) × List (Nat × Nat)
  | [] => q
  | x :: tl => match zlk lo x.1 with
    | some a => zmo lo (zm1 q x.2 a) tl
    | none => zmo lo q tl
/-- a guess: which symbols, which cells are meant -/
def zmS (pins : List Nat) (S T : zS) : List (Nat × zV) × List (Nat × Nat) := zmw S.2.2.2.2.1 (zml (zmo S.2.2.1 ([], pins.map (fun i => (i, i))) T.2.2.1) T.2.2.2.1 S.2.2.2.1) T.2.2.2.2.1
def zmp (w : zW) (M : List (Nat × Nat)) (tw : zW) : List Nat := tw.map (fun x => (zpos w (zka M x.1)).getD 0)
def ztry (K : Nat) (pins : List Nat) (n : Nat) (S : zS) (pc : Nat) (k : zK) : Option (List (Nat × zS)) :=
  let as := (S.2.2.2.1.take k.2.2.1.2.2.2.1.length).reverse
  let st := S.2.2.2.1.drop k.2.2.1.2.2.2.1.length
  let q := zmS [] (zsl S [] as) k.2.2.1
  let is := zmp S.2.2.2.2.1 q.2 k.2.2.1.2.2.2.2.1
  bif zent 1 [] (zsl S [] as) k.2.2.1 q.1 q.2 is && Nat.ble ((st.map zcat).sum) 8 && k.2.2.2.all (fun T => zchk K pins n S st k T q.1 q.2 is) then some (k.2.2.2.filterMap (fun T => (zaft n S st k T q.1 q.2 is).map (fun S' => (pc + 3, S')))) else none
def zstepE (K : Nat) (pins : List Nat) (n : Nat) (S : zS) (pc x : Nat) : List (Nat × zK) → Option (List (Nat × zS))
  | [] => none
  | q :: qs => bif Nat.beq q.1 x then (match ztry K pins n S pc q.2 with
    | some L => some L
    | none => zstepE K pins n S pc x qs) else zstepE K pins n S pc x qs
section ZSE
variable {X : zXT} {p : Program} {l : Launch} {e : Env} {R : Room} {s : State} {m : MethodId} {args : Array Value} {below : List Frame} {meth : Method} {c : Code} {Q : State → Prop} {cc : ByteArray} {D : va_G} {cl : List vw_C} {kA : Nat → ClassId} {A : Nat → Prop} {nL K : Nat} {pins : List Nat} {r0 : Nat → Int} {ad0 : Nat → Nat} {N pc n : Nat} {S : zS} {ins : Instr} {L : List (Nat × zS)}
theorem zcallz {H : Heap} {locs : List Loc} {H0 : Heap} {A0 A1 : Nat → Prop} {ls : Array Slot} {st0 rest : List Value} {a : Array Value} {k : zK} {r1 : Nat → Int} {ad1 : Nat → Nat} (hr : va_Run p l e R s m args below meth c H locs 0 0 0 0 (F0 m pc ls st0) rest (zQc D cl kA k r1 ad1 A1 a) A1) (hS : va_S A0 H0 H locs) (hA : ∀ q, A1 q → A0 q)
    (kk : ∀ T ∈ k.2.2.2, ∀ (r' : Nat → Int) (ad' : Nat → Nat) (ph' : Nat → Nat → Int) (H1 : Heap) (locs1 : List Loc), zJ k.1 k.2.1 r1 ad1 r' ad' → zokE r' T.1 → zokZ r' T.2.1 → zokW r' ph' T.2.2.2.2.1 → va_P D cl (zws kA r' ad' ph' T.2.2.2.2.1) H1 → va_D A1 (zws kA r' ad' ph' T.2.2.2.2.1) → (∀ q : Nat, q < H.size → ¬ A1 q → H1[q]? = H[q]?) → va_S A0 H0 H1 locs1 → W p l e R s m args below meth c H1 locs1 0 0 Q (F0 m (pc + 3) ls ((T.2.2.2.1.map (zcv r' ad')).head?.toList ++ rest))) : W p l e R s m args below meth c H locs 0 0 Q (F0 m pc ls st0) := by
  intro T hT Xs
  obtain ⟨v, st₀, t, T', L, h0, X', hL, e1, e2, ⟨⟨Tx, hTx, r', ad', ph', j1, j2, j3, j4, hv, j5, j6⟩, hz, hk⟩, st⟩ := hr T hT Xs
  cases hv
  rw [h0] at hz hk
  rw [← e1] at j5
  obtain ⟨t2, a1, b1⟩ := kk Tx hTx r' ad' ph' T'.heap (locs ++ L) j1 j2 j3 j4 j5 j6 (fun q h1 h2 => by rw [e1]; exact hk q h1 h2)
    ⟨Nat.le_trans hS.1 (by rw [e1]; exact hz), fun q h1 h2 => by rw [e1, hk q (Nat.lt_of_lt_of_le h1 hS.1) (fun z => h2 (hA q z))]; exact hS.2.1 q h1 h2, fun q hq => by
      rcases List.mem_append.mp hq with h | h
      · exact hS.2.2 q h
      · exact hA _ (hL q h)⟩ T' rfl X'
  exact ⟨t2, st t2 a1, b1⟩
theorem zhead {α : Type} {l : List α} (h : l.length ≤ 1) : l.head?.toList = l := by
  rcases l with _ | ⟨a, _ | ⟨b, t⟩⟩
  · rfl
  · rfl
  · simp only [List.length_cons] at h
    omega
theorem ztry_ok (hX : zXok X) (hx0 : X A s s.heap) (hA : ∀ q, s.heap.size ≤ q → A q) (hK : va_K D cl (ztys kA) s) {k : zK} (hcal : zCal X cl p l e R s m args below meth c cc nL ins k) (hdg : decode cc pc = .ok (ins, 3)) (h : ztry K pins n S pc k = some L) (hgo : ∀ x ∈ L, zGo (zGW p l e R s m args below meth c 0 0 Q) D cl kA A s.heap nL K pins r0 ad0 N x.1 x.2) : zGo (zGW p l e R s m args below meth c 0 0 Q) D cl kA A s.heap nL K pins r0 ad0 N pc S := by
  intro r ad ph H locs ls hJ hR hN
  unfold ztry at h
  · obtain ⟨as, has⟩ : ∃ as, as = (S.2.2.2.1.take k.2.2.1.2.2.2.1.length).reverse := ⟨_, rfl⟩
    obtain ⟨st, hst⟩ : ∃ st, st = S.2.2.2.1.drop k.2.2.1.2.2.2.1.length := ⟨_, rfl⟩
    dsimp only at h
    rw [← has, ← hst] at h
    generalize (zmS [] (zsl S [] as) k.2.2.1).1 = La at h
    generalize (zmS [] (zsl S [] as) k.2.2.1).2 = Ma at h
    generalize zmp S.2.2.2.2.1 Ma k.2.2.1.2.2.2.2.1 = is at h
    cases hz : zent 1 [] (zsl S [] as) k.2.2.1 La Ma is && Nat.ble ((st.map zcat).sum) 8 && k.2.2.2.all (fun T => zchk K pins n S st k T La Ma is) with
    | false => rw [hz] at h; cases h
    | true =>
      rw [hz] at h
      have h : k.2.2.2.filterMap (fun T => (zaft n S st k T La Ma is).map (fun S' => (pc + 3, S'))) = L := Option.some.inj h
      simp only [Bool.and_eq_true] at hz
      obtain ⟨⟨z1, z2⟩, z3⟩ := hz
      have hR' : zRel D cl kA A s.heap nL (zsl S [] as) r ad ph H locs ls := ⟨hR.1, hR.2.1, hR.2.2.1, hR.2.2.2.1, hR.2.2.2.2.1, hR.2.2.2.2.2.1, zlv_sub hR.2.2.2.2.2.2 (fun q hq => by cases hq)⟩
      obtain ⟨-, ⟨t1, t2, t3, t4, t5, t6, t7⟩, t8⟩ := zent_ok z1 (r0 := r) (ad0 := ad) ⟨fun _ _ => rfl, fun _ _ => rfl⟩ hR'
      have z1' := z1
      simp only [zent, Bool.and_eq_true] at z1'
      obtain ⟨-, -, -, -, -, h5, -, -⟩ := z1'
      obtain ⟨w1, -⟩ := zWle_ok (w := S.2.2.2.2.1) hR.1 (zth 1 La) (zka Ma) kA ad ph hR.2.2.1 is _ h5
      have hF := va_free hR.2.2.2.2.1 hR.2.2.2.2.2.1 hA is w1
      have t8 : as.map (zcv r ad) = _ := t8
      have hstk : S.2.2.2.1.map (zcv r ad) = (k.2.2.1.2.2.2.1.map (zcv (fun s => zev r (zth 1 La s)) (fun i => ad (zka Ma i)))).reverse ++ st.map (zcv r ad) := by
        rw [← t8, has, hst, List.map_reverse, List.reverse_reverse, ← List.map_append, List.take_append_drop]
      have hcat : ((st.map (zcv r ad)).map fun v => v.category).sum ≤ 8 := by
        rw [List.map_map, show ((fun v : Value => v.category) ∘ zcv r ad) = zcat from funext (zcat_ok r ad)]
        exact Nat.le_of_ble_eq_true z2
      have hrun := hcal D kA _ _ (fun i => ph (zka Ma i)) H locs ls pc (st.map (zcv r ad)) hK t1 t2 t3 t4 (t5.weaken (fun _ _ _ _ => trivial)) (hX.2.2.2 A _ s H hF (hX.2.2.1 A s s.heap H (fun a h1 h2 => hR.2.2.2.2.2.1.2.1 a h1 h2) hx0)) hR.2.2.2.2.2.2.1 hcat hdg
      show W _ _ _ _ _ _ _ _ _ _ _ _ _ _ _ (F0 m pc ls (S.2.2.2.1.map (zcv r ad)))
      rw [hstk]
      refine zcallz hrun hR.2.2.2.2.2.1 hF (fun T hT r' ad' ph' H1 locs1 j1 j2 j3 j4 j5 j6 j7 j8 => ?_)
      have hck := List.all_eq_true.mp z3 T hT
      obtain ⟨S', r2, ad2, ph2, y1, y2, y3, y4, y5⟩ := zaft_ok hck z1 hJ hR hN j1 j2 j3 j4 j5 j6 j7 hF j8
      have hmem : (pc + 3, S') ∈ L := by
        rw [← h]
        exact List.mem_filterMap.mpr ⟨T, hT, by rw [y1]; rfl⟩
      have g := hgo _ hmem r2 ad2 ph2 H1 locs1 ls y2 y3 y4
      have g : W p l e R s m args below meth c H1 locs1 0 0 Q (F0 m (pc + 3) ls (S'.2.2.2.1.map (zcv r2 ad2))) := g
      rw [y5] at g
      have hlen : T.2.2.2.1.length ≤ 1 := by
        simp only [zchk, Bool.and_eq_true] at hck
        exact Nat.le_of_ble_eq_true hck.1.2
      rw [zhead (by rw [List.length_map]; exact hlen)]
      exact g
theorem zstepE_ok (hX : zXok X) (hx0 : X A s s.heap) (hA : ∀ q, s.heap.size ≤ q → A q) (hK : va_K D cl (ztys kA) s) {x : Nat} (hdg : decode cc pc = .ok (ins, 3)) (hgo : ∀ x ∈ L, zGo (zGW p l e R s m args below meth c 0 0 Q) D cl kA A s.heap nL K pins r0 ad0 N x.1 x.2) : ∀ (calls : List (Nat × zK)), (∀ q ∈ calls, q.1 = x → zCal X cl p l e R s m args below meth c cc nL ins q.2) → zstepE K pins n S pc x calls = some L → zGo (zGW p l e R s m args below meth c 0 0 Q) D cl kA A s.heap nL K pins r0 ad0 N pc S
  | [], _, h => by cases h
  | q :: qs, hc, h => by
    unfold zstepE at h
    cases hb : Nat.beq q.1 x with
    | false =>
      rw [hb] at h
      exact zstepE_ok hX hx0 hA hK hdg hgo qs (fun y hy => hc y (List.mem_cons_of_mem _ hy)) h
    | true =>
      rw [hb] at h
      dsimp only [cond] at h
      split at h
      · rename_i L' hL
        cases h
        exact ztry_ok hX hx0 hA hK (hc q List.mem_cons_self (Nat.eq_of_beq_eq_true hb)) hdg hL hgo
      · exact zstepE_ok hX hx0 hA hK hdg hgo qs (fun y hy => hc y (List.mem_cons_of_mem _ hy)) h
end ZSE
/-- the members of the library: max, min, arraycopy -/
def zMM (Ts : List Cond) (own : String) (x t : Nat) : Prop := match t with
  | 0 => Cond.methodLink own x Lib.Math.max.name ∈ Ts ∧ Cond.static Lib.Math.max.name ∈ Ts ∧ Cond.initialized "java/lang/Math" ∈ Ts ∧ Cond.code Lib.Math.max.name Lib.Math.max.code 2 (some .int) ∈ Ts
  | 1 => Cond.methodLink own x Lib.Math.min.name ∈ Ts ∧ Cond.static Lib.Math.min.name ∈ Ts ∧ Cond.initialized "java/lang/Math" ∈ Ts ∧ Cond.code Lib.Math.min.name Lib.Math.min.code 2 (some .int) ∈ Ts
  | 2 => Cond.methodLink own x arraycopyName ∈ Ts ∧ Cond.native arraycopyName ∈ Ts ∧ Cond.static arraycopyName ∈ Ts ∧ Cond.initialized "java/lang/System" ∈ Ts
  | _ => False
def zwm (E : zE) (a b : Int) (i : zI) : Nat → List zG → Option (List zG)
  | _, [] => some []
  | o, g :: gs => match zwm E a b i (o + g.1) gs with
    | none => none
    | some gs' => bif zle ((o : Int) + (g.1 : Int)) a || zle (b + 1) (o : Int) then some (g :: gs') else match zrx E g.2 with
      | some j => some ((g.1, .inl (zmin i.1 j.1, zmax i.2 j.2)) :: gs')
      | none => none
theorem zwm_ok {r : Nat → Int} {E : zE} (hE : zokE r E) {f f' : Nat → Int} {a b : Int} {i : zI} (h1 : ∀ j : Nat, a ≤ j → j ≤ b → f' j = f j ∨ (i.1 ≤ f' j ∧ f' j ≤ i.2)) (h2 : ∀ j : Nat, ¬ (a ≤ j ∧ j ≤ b) → f' j = f j) : ∀ (gs : List zG) (o : Nat) (gs' : List zG), zokG r f o gs → zwm E a b i o gs = some gs' → zokG r f' o gs'
  | [], _, _, _, h => by cases h; exact trivial
  | g :: gs, o, gs', hk, h => by
    unfold zwm at h
    split at h
    · cases h
    · rename_i gt ht
      have ih := zwm_ok hE h1 h2 gs (o + g.1) gt hk.2 ht
      cases hz : zle ((o : Int) + (g.1 : Int)) a || zle (b + 1) (o : Int) with
      | true =>
        rw [hz] at h
        cases h
        simp only [Bool.or_eq_true] at hz
        refine ⟨fun j q1 q2 => ?_, ih⟩
        rw [h2 j (fun z => by
          rcases hz with q | q
          · have := zle_ok q; omega
          · have := zle_ok q; omega)]
        exact hk.1 j q1 q2
      | false =>
        rw [hz] at h
        dsimp only [cond] at h
        split at h
        · rename_i k hr
          cases h
          refine ⟨fun j q1 q2 => ?_, ih⟩
          have q := zrx_ok hE hr (hk.1 j q1 q2)
          by_cases hj : a ≤ j ∧ j ≤ b
          · rcases h1 j hj.1 hj.2 with e | e
            · dsimp only
              rw [e]
              exact ⟨zmin_r q.1, le_zmax_r q.2⟩
            · exact ⟨zmin_l e.1, le_zmax_l e.2⟩
          · dsimp only
            rw [h2 j hj]
            exact ⟨zmin_r q.1, le_zmax_r q.2⟩
        · cases h
def zstepM (mm : List (Nat × Nat)) (K n : Nat) (S : zS) (pc x : Nat) : Option (List (Nat × zS)) := match zlk mm x, S.2.2.2.1 with
  | some 0, .inl (.inl v2) :: .inl (.inl v1) :: st => match zrng S.1 v1, zrng S.1 v2 with
    | some i, some j => bif zint i && zint j && Nat.ble ((st.map zcat).sum) 8 && zfr n K (zst S st) then some [(pc + 3, zputI n S st (.inr (zmax i.1 j.1, zmax i.2 j.2)))] else none
    | _, _ => none
  | some 1, .inl (.inl v2) :: .inl (.inl v1) :: st => match zrng S.1 v1, zrng S.1 v2 with
    | some i, some j => bif zint i && zint j && Nat.ble ((st.map zcat).sum) 8 && zfr n K (zst S st) then some [(pc + 3, zputI n S st (.inr (zmin i.1 j.1, zmin i.2 j.2)))] else none
    | _, _ => none
  | some 2, .inl (.inl vn) :: .inl (.inl vd) :: .inr (some i1) :: .inl (.inl vs) :: .inr (some i0) :: st => match zrng S.1 vn, zrng S.1 vd, zrng S.1 vs, zcell S.2.2.2.2.1 i0, zcell S.2.2.2.2.1 i1 with
    | some bn, some bd, some bs, some (_, .inr (.inl (0, n0, gs0, _))), some (q1, .inr (.inl (0, n1, gs1, _))) => bif zle 0 bn.1 && zle 0 bd.1 && zle 0 bs.1 && zle (bs.2 + bn.2) (n0 : Int) && zle (bd.2 + bn.2) (n1 : Int) && Nat.ble n0 2000000 && Nat.ble n1 2000000 && Nat.beq n0 (zlenG gs0) && Nat.ble ((st.map zcat).sum) 8 then (match zrd S.1 bs.1 (bs.2 + bn.2 - 1) 0 gs0 with
      | some (some i) => (match zwm S.1 bd.1 (bd.2 + bn.2 - 1) i 0 gs1 with
        | some gs' => some [(pc + 3, zsw S (S.2.2.2.2.1.set q1 (i1, .inr (.inl (0, n1, gs', [])))) st)]
        | none => none)
      | _ => none) else none
    | _, _, _, _, _ => none
  | _, _ => none
