def zrx (E : zE) : zI ⊕ zV → Option zI
  | .inl i => some i
  | .inr v => zrng E v
theorem zrx_ok {r : Nat → Int} {E : zE} (hE : zokE r E) {x : zI ⊕ zV} {i : zI} (h : zrx E x = some i) {y : Int} (hy : zokX r y x) : i.1 ≤ y ∧ y ≤ i.2 := by
  rcases x with j | v
  · cases h
    exact hy
  · have e : y = zev r v := hy
    rw [e]
    exact zrng_ok hE h
def zlenG : List zG → Nat
  | [] => 0
  | g :: gs => g.1 + zlenG gs
def zrd (E : zE) (a b : Int) : Nat → List zG → Option (Option zI)
  | _, [] => some none
  | o, g :: gs => match zrd E a b (o + g.1) gs, zrx E g.2 with
    | some acc, some i => bif zle ((o : Int) + (g.1 : Int)) a || zle (b + 1) (o : Int) then some acc else some (some (match acc with
      | none => i
      | some j => (zmin i.1 j.1, zmax i.2 j.2)))
    | _, _ => none
theorem zrd_ok {r : Nat → Int} {E : zE} (hE : zokE r E) {f : Nat → Int} {a b : Int} : ∀ (gs : List zG) (o : Nat) (acc : Option zI), zokG r f o gs → zrd E a b o gs = some acc → ∀ j : Nat, o ≤ j → j < o + zlenG gs → a ≤ j → j ≤ b → ∃ i, acc = some i ∧ i.1 ≤ f j ∧ f j ≤ i.2
  | [], o, acc, _, _, j, h1, h2, _, _ => by simp only [zlenG] at h2; omega
  | g :: gs, o, acc, hk, h, j, h1, h2, h3, h4 => by
    simp only [zlenG] at h2
    unfold zrd at h
    split at h
    · rename_i acc' i ha hi
      cases hz : zle ((o : Int) + (g.1 : Int)) a || zle (b + 1) (o : Int) with
      | true =>
        rw [hz] at h
        cases h
        simp only [Bool.or_eq_true] at hz
        have hj : o + g.1 ≤ j := by
          rcases hz with q | q
          · have := zle_ok q; omega
          · have := zle_ok q; omega
        exact zrd_ok hE gs (o + g.1) _ hk.2 ha j hj (by omega) h3 h4
      | false =>
        rw [hz] at h
        cases h
        by_cases hj : j < o + g.1
        · have q := zrx_ok hE hi (hk.1 j h1 hj)
          cases acc' with
          | none => exact ⟨_, rfl, q⟩
          | some k => exact ⟨_, rfl, zmin_l q.1, le_zmax_l q.2⟩
        · obtain ⟨k, e, q1, q2⟩ := zrd_ok hE gs (o + g.1) _ hk.2 ha j (by omega) (by omega) h3 h4
          subst e
          exact ⟨_, rfl, zmin_r q1, le_zmax_r q2⟩
    · cases h
def zrdx (a : Int) : Nat → List zG → Option zV
  | _, [] => none
  | o, g :: gs => bif zle (o : Int) a && zle (a + 1) ((o : Int) + (g.1 : Int)) then (match g.2 with
    | .inr v => some v
    | .inl _ => none) else zrdx a (o + g.1) gs
theorem zrdx_ok {r : Nat → Int} {f : Nat → Int} {j : Nat} {v : zV} : ∀ (gs : List zG) (o : Nat), zokG r f o gs → zrdx (j : Int) o gs = some v → f j = zev r v
  | [], _, _, h => by cases h
  | g :: gs, o, hk, h => by
    unfold zrdx at h
    cases hz : zle (o : Int) j && zle ((j : Int) + 1) ((o : Int) + (g.1 : Int)) with
    | true =>
      rw [hz] at h
      simp only [Bool.and_eq_true] at hz
      have a := zle_ok hz.1
      have b := zle_ok hz.2
      have q := hk.1 j (by omega) (by omega)
      obtain ⟨k, x⟩ := g
      rcases x with x | u
      · cases h
      · cases h
        exact q
    | false =>
      rw [hz] at h
      exact zrdx_ok gs (o + g.1) hk.2 h
def zrq (E : zE) (i : zI) (gs : List zG) : Option (zV ⊕ zI) := match zrd E i.1 i.2 0 gs with
  | some (some q) => bif zint q then (bif zle i.2 i.1 then (match zrdx i.1 0 gs with
    | some v => some (.inl v)
    | none => some (.inr q)) else some (.inr q)) else none
  | _ => none
theorem zrq_ok {r : Nat → Int} {E : zE} (hE : zokE r E) {f : Nat → Int} {gs : List zG} {i : zI} {q : zV ⊕ zI} (hk : zokG r f 0 gs) (h : zrq E i gs = some q) {j : Nat} (h1 : i.1 ≤ j) (h2 : j ≤ i.2) (h3 : j < zlenG gs) : zresI r (Int32.ofInt (f j)) q := by
  unfold zrq at h
  split at h
  · rename_i k hr
    obtain ⟨k', e, q1, q2⟩ := zrd_ok hE gs 0 _ hk hr j (by omega) (by omega) h1 h2
    cases e
    cases hz : zint k with
    | false => rw [hz] at h; cases h
    | true =>
      rw [hz] at h
      have b := zint_ok hz q1 q2
      have d : k.1 ≤ (Int32.ofInt (f j)).toInt ∧ (Int32.ofInt (f j)).toInt ≤ k.2 := by rw [zq_of b.1 b.2]; exact ⟨q1, q2⟩
      dsimp only [cond] at h
      cases hs : zle i.2 i.1 with
      | true =>
        rw [hs] at h
        dsimp only at h
        have s := zle_ok hs
        have ej : i.1 = (j : Int) := by omega
        rw [ej] at h
        split at h
        · rename_i v hv
          cases h
          show Int32.ofInt (f j) = Int32.ofInt (zev r v)
          rw [zrdx_ok gs 0 hk hv]
        · cases h
          exact d
      | false =>
        rw [hs] at h
        cases h
        exact d
  · cases h
theorem zrq_in {r : Nat → Int} {E : zE} (hE : zokE r E) {f : Nat → Int} {gs : List zG} {i q : zI} (hk : zokG r f 0 gs) (h : zrq E i gs = some (.inr q)) {j : Nat} (h1 : i.1 ≤ j) (h2 : j ≤ i.2) (h3 : j < zlenG gs) : q.1 ≤ f j ∧ f j ≤ q.2 := by
  unfold zrq at h
  split at h
  · rename_i k hr
    obtain ⟨k', e, q1, q2⟩ := zrd_ok hE gs 0 _ hk hr j (by omega) (by omega) h1 h2
    cases e
    cases hz : zint k with
    | false => rw [hz] at h; cases h
    | true =>
      rw [hz] at h
      dsimp only [cond] at h
      cases hs : zle i.2 i.1 with
      | true =>
        rw [hs] at h
        dsimp only at h
        split at h
        · cases h
        · cases h
          exact ⟨q1, q2⟩
      | false =>
        rw [hs] at h
        cases h
        exact ⟨q1, q2⟩
  · cases h
def zwr (E : zE) (a b : Int) (v : zV) (i : zI) : Nat → List zG → Option (List zG)
  | _, [] => some []
  | o, g :: gs => match zwr E a b v i (o + g.1) gs with
    | none => none
    | some gs' => bif zle ((o : Int) + (g.1 : Int)) a || zle (b + 1) (o : Int) then some (g :: gs') else bif zle b a && Nat.beq g.1 1 then some ((1, .inr v) :: gs') else match zrx E g.2 with
      | some j => some ((g.1, .inl (zmin i.1 j.1, zmax i.2 j.2)) :: gs')
      | none => none
theorem zwr_ok {r : Nat → Int} {E : zE} (hE : zokE r E) {f : Nat → Int} {a b : Int} {v : zV} {i : zI} {x : Nat} (hx1 : a ≤ x) (hx2 : x ≤ b) (hv : i.1 ≤ zev r v ∧ zev r v ≤ i.2) : ∀ (gs : List zG) (o : Nat) (gs' : List zG), zokG r f o gs → zwr E a b v i o gs = some gs' → zokG r (fun j => if j = x then zev r v else f j) o gs' ∧ zlenG gs' = zlenG gs
  | [], _, _, _, h => by cases h; exact ⟨trivial, rfl⟩
  | g :: gs, o, gs', hk, h => by
    unfold zwr at h
    split at h
    · cases h
    · rename_i gt ht
      have ih := zwr_ok hE hx1 hx2 hv gs (o + g.1) gt hk.2 ht
      cases hz : zle ((o : Int) + (g.1 : Int)) a || zle (b + 1) (o : Int) with
      | true =>
        rw [hz] at h
        cases h
        simp only [Bool.or_eq_true] at hz
        refine ⟨⟨fun j h1 h2 => ?_, ih.1⟩, by simp only [zlenG]; rw [ih.2]⟩
        have hne : ¬ j = x := by
          rcases hz with q | q
          · have := zle_ok q; omega
          · have := zle_ok q; omega
        dsimp only
        rw [if_neg hne]
        exact hk.1 j h1 h2
      | false =>
        rw [hz] at h
        dsimp only [cond] at h
        simp only [Bool.or_eq_false_iff] at hz
        have n1 : ¬ ((o : Int) + (g.1 : Int)) ≤ a := of_decide_eq_false hz.1
        have n2 : ¬ (b + 1) ≤ (o : Int) := of_decide_eq_false hz.2
        cases hs : zle b a && Nat.beq g.1 1 with
        | true =>
          rw [hs] at h
          cases h
          simp only [Bool.and_eq_true] at hs
          have s1 := zle_ok hs.1
          have s2 := Nat.eq_of_beq_eq_true hs.2
          refine ⟨⟨fun j h1 h2 => ?_, ?_⟩, by simp only [zlenG]; rw [ih.2, s2]⟩
          · dsimp only at h2 ⊢
            rw [if_pos (by omega)]
            rfl
          · have := ih.1
            rw [s2] at this
            exact this
        | false =>
          rw [hs] at h
          dsimp only at h
          split at h
          · rename_i k hr
            cases h
            refine ⟨⟨fun j h1 h2 => ?_, ih.1⟩, by simp only [zlenG]; rw [ih.2]⟩
            dsimp only at h2 ⊢
            by_cases hj : j = x
            · rw [if_pos hj]
              exact ⟨zmin_l hv.1, le_zmax_l hv.2⟩
            · rw [if_neg hj]
              have q := zrx_ok hE hr (hk.1 j h1 h2)
              exact ⟨zmin_r q.1, le_zmax_r q.2⟩
          · cases h
def zpos : zW → Nat → Option Nat
  | [], _ => none
  | x :: w, i => bif Nat.beq x.1 i then some 0 else (zpos w i).map (· + 1)
theorem zws_get {w : zW} {q i : Nat} {x : zC} (kA : Nat → ClassId) (r : Nat → Int) (ad : Nat → Nat) (ph : Nat → Nat → Int) (h : w[q]? = some (i, x)) : (zws kA r ad ph w)[q]? = some (ad i, zce kA r ad (ph i) x) := by
  unfold zws
  rw [List.getElem?_map, h]
  rfl
theorem zws_ids {A : Nat → Prop} {w : zW} {kA : Nat → ClassId} {r : Nat → Int} {ad : Nat → Nat} {ph : Nat → Nat → Int} (hD : va_D A (zws kA r ad ph w)) {q k i : Nat} {x y : zC} (h1 : w[q]? = some (i, x)) (h2 : w[k]? = some (i, y)) : q = k :=
  hD.1 q k _ _ (zws_get kA r ad ph h1) (zws_get kA r ad ph h2) rfl
theorem zws_set {A : Nat → Prop} {w : zW} {kA : Nat → ClassId} {r : Nat → Int} {ad : Nat → Nat} {ph ph' : Nat → Nat → Int} (hD : va_D A (zws kA r ad ph w)) {q i : Nat} {x x' : zC} (h : w[q]? = some (i, x)) (hph : ∀ k, k ≠ i → ph' k = ph k) : zws kA r ad ph' (w.set q (i, x')) = (zws kA r ad ph w).set q (ad i, zce kA r ad (ph' i) x') := by
  have hl := (List.getElem?_eq_some_iff.mp h).1
  apply List.ext_getElem?
  intro k
  by_cases hk : q = k
  · subst hk
    unfold zws
    rw [List.getElem?_map, List.getElem?_set_self hl, List.getElem?_set_self (by rw [List.length_map]; exact hl)]
    rfl
  · rw [List.getElem?_set_ne hk]
    unfold zws
    rw [List.getElem?_map, List.getElem?_set_ne hk, List.getElem?_map]
    cases hw : w[k]? with
    | none => rfl
    | some y =>
      have hne : y.1 ≠ i := fun e => hk (zws_ids hD h (y := y.2) (by rw [hw, ← e]))
      show some (ad y.1, zce kA r ad (ph' y.1) y.2) = some (ad y.1, zce kA r ad (ph y.1) y.2)
      rw [hph _ hne]
theorem zokW_set {r : Nat → Int} {ph ph' : Nat → Nat → Int} {w : zW} {A : Nat → Prop} {kA : Nat → ClassId} {ad : Nat → Nat} (hD : va_D A (zws kA r ad ph w)) {q i : Nat} {x x' : zC} (h : w[q]? = some (i, x)) (hph : ∀ k, k ≠ i → ph' k = ph k) (hw : zokW r ph w) (hx : zokC r (ph' i) x') : zokW r ph' (w.set q (i, x')) := by
  intro y hy
  obtain ⟨k, hk⟩ := List.getElem?_of_mem hy
  by_cases e : q = k
  · subst e
    rw [List.getElem?_set_self (List.getElem?_eq_some_iff.mp h).1] at hk
    cases hk
    exact hx
  · rw [List.getElem?_set_ne e] at hk
    have hne : y.1 ≠ i := fun z => e (zws_ids hD h (y := y.2) (by rw [hk, ← z]))
    rw [hph _ hne]
    exact hw y (List.mem_of_getElem? hk)
def ztag (tag : Nat) (ty : FieldType) (fin : Bool) : Prop := match tag with
  | 0 => fin = false ∧ ty = .int
  | 1 => fin = false ∧ ty = .boolean
  | 2 => fin = false ∧ ∃ C, ty = .object C
  | _ => True
def zFld (Ts : List Cond) (own : String) (cl : List vw_C) (idx ci k tag : Nat) : Prop :=
  ∃ (C : String) (T : u_T) (nF : Nat) (ty0 : Nat → FieldType), cl[ci]? = some (C, T, nF) ∧ k < nF ∧ (∀ w ∈ u_ws C T nF, w ∈ Ts) ∧ (∀ j, j < nF → parseFieldDescriptor (T j).2.2.1 = some (ty0 j)) ∧ (∀ a, a < nF → ∀ b, b < nF → a ≠ b → (T a).2.1 ≠ (T b).2.1) ∧ Cond.fieldLink own idx (T k).1 (T k).2.1 (T k).2.2.1 ∈ Ts ∧ ztag tag (ty0 k) (T k).2.2.2
def ztok (E : zE) (tag : Nat) (a : zA) : Bool := match tag, a with
  | 0, .inl (.inl _) => true
  | 1, .inl (.inl v) => match zrng E v with
    | some i => zle 0 i.1 && zle i.2 1
    | none => false
  | 2, .inr (some _) => true
  | _, _ => false
theorem znar_bool {k : Int} (h1 : 0 ≤ k) (h2 : k ≤ 1) : narrow .boolean (.int (Int32.ofInt k)) = .int (Int32.ofInt k) ∧ fits .boolean (.int (Int32.ofInt k)) = true := by
  rcases (show k = 0 ∨ k = 1 by omega) with rfl | rfl
  · exact ⟨by decide +kernel, by decide +kernel⟩
  · exact ⟨by decide +kernel, by decide +kernel⟩
theorem ztok_ok {r : Nat → Int} {E : zE} (hE : zokE r E) {tag : Nat} {a : zA} (h : ztok E tag a = true) {ty : FieldType} {fin : Bool} (ht : ztag tag ty fin) (ad : Nat → Nat) : fin = false ∧ narrow ty (zcv r ad a) = zcv r ad a ∧ fits ty (zcv r ad a) = true := by
  unfold ztok at h
  split at h
  · obtain ⟨h1, rfl⟩ := ht
    exact ⟨h1, rfl, rfl⟩
  · rename_i v
    obtain ⟨h1, rfl⟩ := ht
    split at h
    · rename_i i hr
      simp only [Bool.and_eq_true] at h
      have b := zrng_ok hE hr
      have q := znar_bool (k := zev r v) (by have := zle_ok h.1; omega) (by have := zle_ok h.2; omega)
      exact ⟨h1, q.1, q.2⟩
    · cases h
  · obtain ⟨h1, C, rfl⟩ := ht
    exact ⟨h1, rfl, rfl⟩
  · cases h
