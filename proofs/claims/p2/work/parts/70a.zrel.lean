/-- a world that keeps its bounds, its numbers told -/
def zInR (I : zS) (kA : Nat → ClassId) (x : Nat) (r : Nat → Int) (u : va_W) : Prop := ∃ (ad : Nat → Nat) (ph : Nat → Nat → Int), zokE r I.1 ∧ zokW r ph I.2.2.2.2.1 ∧ ad 0 = x ∧ u = zws kA r ad ph I.2.2.2.2.1
/-- what the numbers of I are behind an end -/
def zth2 (k : zK) (I T : zS) (i : Nat) : zV := zth 1 (zmS [0] (T.1 ++ k.2.2.1.1, T.2.1, [], [], T.2.2.2.2.1, []) I).1 i
def zr2 (k : zK) (I T : zS) (r : Nat → Int) : Nat → Int := fun i => zev r (zth2 k I T i)
section ZLR
variable {X : zXT} {p : Program} {l : Launch} {e : Env} {R : Room} {s : State} {m : MethodId} {args : Array Value} {below : List Frame} {meth : Method} {c : Code} {Q : State → Prop} {cc : ByteArray} {D : va_G} {cl : List vw_C} {kA : Nat → ClassId} {A : Nat → Prop} {nL pc cells slots : Nat}
set_option maxHeartbeats 4000000 in
theorem zlawR (hX : zXok X) {Ts ws : List Cond} {own C : String} {y : MethodName} {bytes : ByteArray} {maxL n index : Nat} {ret : Option FieldType} {rm : Room} {k : zK} (S : CallFix p m c cc nL s args Ts own) (hM : zMet X cl l y ws rm k) (cw : CallW R s args own C index y bytes maxL ret ws rm 0 0 n)
    {I : zS} {K0 : Nat} {bs : List zI} {vs : List Int32} (hk1 : k.2.2.1.2.1 = []) (hk2 : k.2.2.1.2.2.2.2.1 = I.2.2.2.2.1) (hk3 : k.2.2.1.2.2.2.1 = .inr (some 0) :: (List.range n).map (fun j => .inl (.inl (K0 + j, 0)))) (hi1 : I.2.1 = []) (hi2 : I.2.2.1 = []) (hi3 : I.2.2.2.1 = []) (hi4 : ∃ (ci : Nat) (fs : List zA) (T : u_T) (nF : Nat), I.2.2.2.2.1[0]? = some (0, .inl (ci, fs)) ∧ cl[ci]? = some (C, T, nF)) (hck : zlck k I K0 bs = true) (hbn : bs.length = n) (hvs : vs.length = n) (hbs : ∀ (j : Nat) (b : zI), bs[j]? = some b → b.1 ≤ (vs.getD j 0).toInt ∧ (vs.getD j 0).toInt ≤ b.2)
    (hK : va_K D cl (ztys kA) s) {x : Nat} {u v : va_W} {H : Heap} {locs : List Loc} {ls : Array Slot} {rest : List Value} {r : Nat → Int} (hu : zInR I kA x r u) (hP : va_P D cl (u ++ v) H) (hD : va_D A (u ++ v)) (hS : va_S A s.heap H locs) (hA : ∀ q, s.heap.size ≤ q → A q) (hx0 : X A s s.heap) (hl : lv_has ls nL []) (hcat : (rest.map fun v => v.category).sum ≤ 8) (hdg : decode cc pc = .ok (.invokevirtual index, 3)) (hroom : cells ≤ R.cells ∧ slots ≤ R.slots)
    (kk : ∀ T ∈ k.2.2.2, ∀ (r' : Nat → Int) (ad' : Nat → Nat) (u' : va_W) (H1 : Heap) (locs1 : List Loc), zokE r' T.1 → zokZ r' T.2.1 → (∀ i, i < K0 → r' i = r i) → (∀ j, j < n → r' (K0 + j) = (vs.getD j 0).toInt) → zInR I kA x (zr2 k I T r') u' → va_P D cl (v ++ u') H1 → va_D A (v ++ u') → va_S A s.heap H1 locs1 → W p l e R s m args below meth c H1 locs1 cells slots Q (F0 m (pc + 3) ls ((T.2.2.2.1.map (zcv r' ad')).head?.toList ++ rest))) :
    W p l e R s m args below meth c H locs cells slots Q (F0 m pc ls ((vs.map Value.int).reverse ++ .ref x :: rest)) := by
  obtain ⟨ad, ph, e1, e3, e4, e5⟩ := hu
  simp only [zlck, Bool.and_eq_true] at hck
  obtain ⟨⟨⟨⟨⟨c1, c2⟩, c3⟩, c4⟩, c5⟩, c6⟩ := hck
  have k0 := zblt c1
  have k1 := Nat.le_of_ble_eq_true c3
  subst hbn
  obtain ⟨r1, hr1⟩ : ∃ r1 : Nat → Int, r1 = fun i => if i < K0 then r i else (vs.getD (i - K0) 0).toInt := ⟨_, rfl⟩
  have hag : ∀ i, i < K0 → r1 i = r i := fun i hi => by rw [hr1]; exact if_pos hi
  have hnew : ∀ j, r1 (K0 + j) = (vs.getD j 0).toInt := fun j => by
    rw [hr1]
    dsimp only
    rw [if_neg (by omega), Nat.add_sub_cancel_left]
  have hb := c2
  simp only [zbS, Bool.and_eq_true] at hb
  have eW := zbW_eq hag kA ad ph hb.1.2
  have hE : zokE r1 k.2.2.1.1 := by
    refine ⟨by rw [hag 0 k0]; exact e1.1, fun x hx => ?_⟩
    have q := List.all_eq_true.mp c5 x hx
    rw [Bool.or_eq_true] at q
    rcases q with q | q
    · simp only [Bool.and_eq_true] at q
      rw [hag _ (zblt q.1)]
      exact zfind_ok e1.2 (of_decide_eq_true q.2)
    · simp only [Bool.and_eq_true] at q
      have hle := Nat.le_of_ble_eq_true q.1
      have h2 := q.2
      split at h2
      · rename_i b hb
        simp only [Bool.and_eq_true] at h2
        have w := hbs _ b hb
        have w1 := zle_ok h2.1
        have w2 := zle_ok h2.2
        have w3 := hnew (x.1 - K0)
        rw [show K0 + (x.1 - K0) = x.1 by omega] at w3
        omega
      · cases h2
  have hW1 : zokW r1 ph k.2.2.1.2.2.2.2.1 := by
    rw [hk2]
    exact fun x hx => zbC_ok hag (ph x.1) (List.all_eq_true.mp hb.1.2 x hx) (e3 x hx)
  have hstk : (vs.map Value.int).reverse ++ .ref x :: rest = (((List.range bs.length).map (fun j => (.inl (.inl (K0 + j, 0)) : zA))).map (zcv r1 ad)).reverse ++ .ref (ad 0) :: rest := by
    rw [e4]
    congr 2
    apply List.ext_getElem?
    intro j
    rw [List.getElem?_map, List.getElem?_map, List.getElem?_map]
    by_cases hj : j < vs.length
    · rw [List.getElem?_eq_getElem hj, List.getElem?_range (by omega)]
      show some (Value.int vs[j]) = some (Value.int (Int32.ofInt (zev r1 (K0 + j, 0))))
      have : zev r1 (K0 + j, 0) = vs[j].toInt := by
        show r1 (K0 + j) + 0 = _
        rw [hnew j, Int.add_zero, List.getD_eq_getElem?_getD, List.getElem?_eq_getElem hj]
        rfl
      rw [this, Int32.ofInt_toInt]
    · rw [List.getElem?_eq_none (Nat.le_of_not_lt hj), List.getElem?_eq_none (by rw [List.length_range]; omega)]
      rfl
  rw [hstk]
  have hP' : va_P D cl (zws kA r1 ad ph k.2.2.1.2.2.2.2.1 ++ v) H := by
    rw [hk2, eW, ← e5]
    exact hP
  have hD' : va_D A (zws kA r1 ad ph k.2.2.1.2.2.2.2.1 ++ v) := by
    rw [hk2, eW, ← e5]
    exact hD
  refine zcallG hX S hM cw hk3 ?_ (by rw [List.length_map, List.length_range]) hK hE (by rw [hk1]; intro z hz; cases hz) hW1 hP' hD' hS hA hx0 hl.1 hcat hdg hroom (fun T hT r' ad' ph' H1 locs1 j1 j2 j3 j4 j5 j6 j8 => ?_)
  · obtain ⟨ci, fs, T, nF, g1, g2⟩ := hi4
    exact ⟨0, ci, fs, T, nF, by rw [hk2]; exact g1, g2⟩
  have q := List.all_eq_true.mp c6 T hT
  have hE' : zokE r' (T.1 ++ k.2.2.1.1) := ⟨j2.1, fun x hx => by
    rcases List.mem_append.mp hx with h | h
    · exact j2.2 x h
    · have hlt : x.1 < k.1 := by
        have q := List.all_eq_true.mp c5 x h
        rw [Bool.or_eq_true] at q
        rcases q with q | q
        · simp only [Bool.and_eq_true] at q
          have := zblt q.1
          omega
        · simp only [Bool.and_eq_true] at q
          have hle := Nat.le_of_ble_eq_true q.1
          have h2 := q.2
          split at h2
          · rename_i b hb
            have := (List.getElem?_eq_some_iff.mp hb).1
            omega
          · cases h2
      rw [j1.1 _ hlt]
      exact hE.2 x h⟩
  obtain ⟨w1, ⟨t1, t2, t3, t4, t5, t6, t7⟩, -⟩ := zent_ok q (r0 := r') (ad0 := ad') (D := D) (cl := cl) (kA := kA) (A := A) (H0 := s.heap) (nL := nL) (ph := ph') (H := H1) (locs := locs1) (ls := ls) ⟨fun _ _ => rfl, fun _ _ => rfl⟩ ⟨hE', j3, j4, zP_r j5, zD_r j6, j8, hl⟩
  have hz := q
  simp only [zent, Bool.and_eq_true] at hz
  obtain ⟨-, -, -, -, -, h5, -, -⟩ := hz
  obtain ⟨w2, -⟩ := zWle_ok hE' _ _ kA ad' ph' j4 _ _ h5
  refine kk T hT r' ad' _ H1 locs1 j2 j3 (fun i hi => by rw [j1.1 i (by omega)]; exact hag i hi) (fun j hj => by rw [j1.1 _ (by omega)]; exact hnew j) ⟨_, _, t1, t3, ?_, rfl⟩ (va_P.app (zP_l j5) t4) (va_D.app (zD_l j6) t5 (fun i j x y hx hy e6 => ?_)) j8
  · have e0 := w1.2 0 List.mem_cons_self
    exact e0.trans ((j1.2 0 (zmem_ok.mp c4)).trans e4)
  · have e : (List.map (fun i : Nat => (zws kA r' ad' ph' T.2.2.2.2.1)[i]?) (zmp T.2.2.2.2.1 (zmS [0] (T.1 ++ k.2.2.1.1, T.2.1, [], [], T.2.2.2.2.1, []) I).2 I.2.2.2.2.1))[j]? = some (some y) := by
      rw [w2, List.getElem?_map]
      exact congrArg (Option.map some) hy
    rw [List.getElem?_map] at e
    cases hi : (zmp T.2.2.2.2.1 (zmS [0] (T.1 ++ k.2.2.1.1, T.2.1, [], [], T.2.2.2.2.1, []) I).2 I.2.2.2.2.1)[j]? with
    | none => rw [hi] at e; cases e
    | some i' =>
      rw [hi] at e
      exact zD_x j6 i i' x y hx (Option.some.inj e) e6
end ZLR
/-- no end changes the numbers ss -/
def zunc (k : zK) (I : zS) (ss : List Nat) : Bool := k.2.2.2.all (fun T => ss.all (fun i => let v := zth2 k I T i; Nat.beq v.1 i && zle v.2 0 && zle 0 v.2))
theorem zunc_ok {k : zK} {I : zS} {ss : List Nat} (h : zunc k I ss = true) {T : zS} (hT : T ∈ k.2.2.2) (r : Nat → Int) {i : Nat} (hi : i ∈ ss) : zr2 k I T r i = r i := by
  have q := List.all_eq_true.mp (List.all_eq_true.mp h T hT) i hi
  simp only [Bool.and_eq_true] at q
  have a := Nat.eq_of_beq_eq_true q.1.1
  have b := zle_ok q.1.2
  have c := zle_ok q.2
  unfold zr2 zev
  rw [a]
  omega
/-- pairs of numbers that are one: of both methods' arguments, of both worlds -/
abbrev zPr : Type := List (Nat × Nat)
def zokP (r1 r2 : Nat → Int) (ps : zPr) : Prop := ∀ x ∈ ps, r1 x.1 = r2 x.2
def zdisE (ps : zPr) (E1 E2 : zE) : Bool := ps.any (fun x => E1.any (fun a => Nat.beq a.1 x.1 && E2.any (fun b => Nat.beq b.1 x.2 && (zle (a.2.2 + 1) b.2.1 || zle (b.2.2 + 1) a.2.1))))
def zdisZ (ps : zPr) (Z1 Z2 : zZ) : Bool := ps.any (fun x => ps.any (fun y => Z1.any (fun a => Nat.beq a.1 x.1 && Nat.beq a.2.1 y.1 && Z2.any (fun b => Nat.beq b.1 y.2 && Nat.beq b.2.1 x.2 && zle (a.2.2 + b.2.2 + 1) 0))))
/-- one number: a constant, or a pair -/
def zeqP (ps : zPr) (a b : zV) : Bool := (zle a.2 b.2 && zle b.2 a.2) && ((Nat.beq a.1 0 && Nat.beq b.1 0) || ps.any (fun x => Nat.beq x.1 a.1 && Nat.beq x.2 b.1))
theorem zeqP_ok {r1 r2 : Nat → Int} {ps : zPr} {a b : zV} (h1 : r1 0 = 0) (h2 : r2 0 = 0) (hp : zokP r1 r2 ps) (h : zeqP ps a b = true) : zev r1 a = zev r2 b := by
  simp only [zeqP, Bool.and_eq_true, Bool.or_eq_true] at h
  have x := zle_ok h.1.1
  have y := zle_ok h.1.2
  unfold zev
  rcases h.2 with q | q
  · rw [Nat.eq_of_beq_eq_true q.1, Nat.eq_of_beq_eq_true q.2, h1, h2]
    omega
  · obtain ⟨z, hz, q⟩ := List.any_eq_true.mp q
    simp only [Bool.and_eq_true] at q
    have e := hp z hz
    rw [Nat.eq_of_beq_eq_true q.1, Nat.eq_of_beq_eq_true q.2] at e
    omega
def zsamA (ps : zPr) (T1 T2 : zS) : Bool := match T1.2.2.2.1, T2.2.2.2.1 with
  | [.inl (.inl a)], [.inl (.inl b)] => zeqP ps a b
  | _, _ => false
/-- both methods answer alike, and the worlds' pairs ws stay pairs -/
def zagr (ps ws : zPr) (I1 I2 : zS) (k1 k2 : zK) : Bool := k1.2.2.2.all (fun T1 => k2.2.2.2.all (fun T2 => zdisE ps T1.1 T2.1 || (zdisZ ps T1.2.1 T2.2.1 || (zsamA ps T1 T2 && ws.all (fun x => zeqP ps (zth2 k1 I1 T1 x.1) (zth2 k2 I2 T2 x.2))))))
theorem zagr_ok {ps ws : zPr} {I1 I2 : zS} {k1 k2 : zK} (h : zagr ps ws I1 I2 k1 k2 = true) {T1 T2 : zS} (h1 : T1 ∈ k1.2.2.2) (h2 : T2 ∈ k2.2.2.2) {r1 r2 : Nat → Int} {ad1 ad2 : Nat → Nat} (e1 : zokE r1 T1.1) (e2 : zokE r2 T2.1) (z1 : zokZ r1 T1.2.1) (z2 : zokZ r2 T2.2.1) (hp : zokP r1 r2 ps) : (∃ z : Int, T1.2.2.2.1.map (zcv r1 ad1) = [.int (Int32.ofInt z)] ∧ T2.2.2.2.1.map (zcv r2 ad2) = [.int (Int32.ofInt z)]) ∧ zokP (zr2 k1 I1 T1 r1) (zr2 k2 I2 T2 r2) ws := by
  have q := List.all_eq_true.mp (List.all_eq_true.mp h T1 h1) T2 h2
  simp only [Bool.or_eq_true] at q
  rcases q with q | q | q
  · exfalso
    obtain ⟨x, hx, q⟩ := List.any_eq_true.mp q
    obtain ⟨a, ha, q⟩ := List.any_eq_true.mp q
    rw [Bool.and_eq_true] at q
    obtain ⟨qa, q⟩ := q
    obtain ⟨b, hb, q⟩ := List.any_eq_true.mp q
    rw [Bool.and_eq_true, Bool.or_eq_true] at q
    obtain ⟨qb, q⟩ := q
    have x1 := e1.2 a ha
    have x2 := e2.2 b hb
    have e := hp x hx
    rw [Nat.eq_of_beq_eq_true qa] at x1
    rw [Nat.eq_of_beq_eq_true qb] at x2
    rcases q with q | q <;> have := zle_ok q <;> omega
  · exfalso
    obtain ⟨x, hx, q⟩ := List.any_eq_true.mp q
    obtain ⟨y, hy, q⟩ := List.any_eq_true.mp q
    obtain ⟨a, ha, q⟩ := List.any_eq_true.mp q
    simp only [Bool.and_eq_true] at q
    obtain ⟨⟨qa, qa2⟩, q⟩ := q
    obtain ⟨b, hb, q⟩ := List.any_eq_true.mp q
    simp only [Bool.and_eq_true] at q
    obtain ⟨⟨qb, qb2⟩, q⟩ := q
    have x1 := z1 a ha
    have x2 := z2 b hb
    have e := hp x hx
    have f := hp y hy
    rw [Nat.eq_of_beq_eq_true qa, Nat.eq_of_beq_eq_true qa2] at x1
    rw [Nat.eq_of_beq_eq_true qb, Nat.eq_of_beq_eq_true qb2] at x2
    have := zle_ok q
    omega
  · rw [Bool.and_eq_true] at q
    obtain ⟨qs, qw⟩ := q
    refine ⟨?_, fun x hx => zeqP_ok e1.1 e2.1 hp (List.all_eq_true.mp qw x hx)⟩
    unfold zsamA at qs
    split at qs
    · rename_i a b s1 s2
      refine ⟨zev r1 a, ?_, ?_⟩
      · rw [s1]
        rfl
      · rw [s2, zeqP_ok e1.1 e2.1 hp qs]
        rfl
    · cases qs
/-- no end changes the pairs -/
theorem zunP {ws : zPr} {I1 I2 : zS} {k1 k2 : zK} {K1 K2 : Nat} (h1 : zunc k1 I1 (ws.map Prod.fst) = true) (h2 : zunc k2 I2 (ws.map Prod.snd) = true) (hb : ws.all (fun x => Nat.blt x.1 K1 && Nat.blt x.2 K2) = true) {T1 T2 : zS} (t1 : T1 ∈ k1.2.2.2) (t2 : T2 ∈ k2.2.2.2) {r1 r2 a1 a2 : Nat → Int} (p1 : ∀ i, i < K1 → a1 i = r1 i) (p2 : ∀ i, i < K2 → a2 i = r2 i) (hp : zokP r1 r2 ws) : zokP (zr2 k1 I1 T1 a1) (zr2 k2 I2 T2 a2) ws := by
  intro x hx
  have b := List.all_eq_true.mp hb x hx
  simp only [Bool.and_eq_true] at b
  rw [zunc_ok h1 t1 a1 (List.mem_map.mpr ⟨x, hx, rfl⟩), zunc_ok h2 t2 a2 (List.mem_map.mpr ⟨x, hx, rfl⟩), p1 _ (zblt b.1), p2 _ (zblt b.2)]
  exact hp x hx
/-- all ends set the numbers ss to c -/
def zcst (k : zK) (I : zS) (ss : List Nat) (c : Int) : Bool := k.2.2.2.all (fun T => ss.all (fun i => let v := zth2 k I T i; Nat.beq v.1 0 && zle v.2 c && zle c v.2))
theorem zcst_ok {k : zK} {I : zS} {ss : List Nat} {c : Int} (h : zcst k I ss c = true) {T : zS} (hT : T ∈ k.2.2.2) {r : Nat → Int} (h0 : r 0 = 0) {i : Nat} (hi : i ∈ ss) : zr2 k I T r i = c := by
  have q := List.all_eq_true.mp (List.all_eq_true.mp h T hT) i hi
  simp only [Bool.and_eq_true] at q
  have a := Nat.eq_of_beq_eq_true q.1.1
  have b := zle_ok q.1.2
  have d := zle_ok q.2
  unfold zr2 zev
  rw [a, h0]
  omega
theorem zcstP {ws : zPr} {I1 I2 : zS} {k1 k2 : zK} {c : Int} (h1 : zcst k1 I1 (ws.map Prod.fst) c = true) (h2 : zcst k2 I2 (ws.map Prod.snd) c = true) {T1 T2 : zS} (t1 : T1 ∈ k1.2.2.2) (t2 : T2 ∈ k2.2.2.2) {a1 a2 : Nat → Int} (e1 : a1 0 = 0) (e2 : a2 0 = 0) : zokP (zr2 k1 I1 T1 a1) (zr2 k2 I2 T2 a2) ws := by
  intro x hx
  rw [zcst_ok h1 t1 e1 (List.mem_map.mpr ⟨x, hx, rfl⟩), zcst_ok h2 t2 e2 (List.mem_map.mpr ⟨x, hx, rfl⟩)]
def zaps (K1 K2 n : Nat) : zPr := (List.range n).map (fun j => (K1 + j, K2 + j))
theorem zapP {ws : zPr} {K1 K2 n : Nat} (hb : ws.all (fun x => Nat.blt x.1 K1 && Nat.blt x.2 K2) = true) {r1 r2 a1 a2 : Nat → Int} {g : Nat → Int} (p1 : ∀ i, i < K1 → a1 i = r1 i) (p2 : ∀ i, i < K2 → a2 i = r2 i) (w1 : ∀ j, j < n → a1 (K1 + j) = g j) (w2 : ∀ j, j < n → a2 (K2 + j) = g j) (hp : zokP r1 r2 ws) : zokP a1 a2 (zaps K1 K2 n ++ ws) := by
  intro x hx
  rcases List.mem_append.mp hx with h | h
  · obtain ⟨j, hj, rfl⟩ := List.mem_map.mp h
    have hj := List.mem_range.mp hj
    exact (w1 j hj).trans (w2 j hj).symm
  · have b := List.all_eq_true.mp hb x h
    simp only [Bool.and_eq_true] at b
    rw [p1 _ (zblt b.1), p2 _ (zblt b.2)]
    exact hp x h
