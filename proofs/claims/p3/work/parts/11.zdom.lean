abbrev zV : Type := Nat × Int
abbrev zA : Type := (zV ⊕ zV) ⊕ Option Nat
abbrev zI : Type := Int × Int
abbrev zG : Type := Nat × (zI ⊕ zV)
abbrev zM : Type := List (zV × zV)
abbrev zC : Type := (Nat × List zA) ⊕ ((Nat × Nat × List zG × zM) ⊕ (Nat × List Nat))
abbrev zE : Type := List (Nat × zI)
abbrev zZ : Type := List (Nat × Nat × Int)
abbrev zW : Type := List (Nat × zC)
abbrev zR : Type := Bool × zV
abbrev zS : Type := zE × zZ × List (Nat × zA) × List zA × zW × List zR
def zev (r : Nat → Int) (v : zV) : Int := r v.1 + v.2
def zcv (r : Nat → Int) (ad : Nat → Nat) : zA → Value
  | .inl (.inl v) => .int (Int32.ofInt (zev r v))
  | .inl (.inr v) => .long (Int64.ofInt (zev r v))
  | .inr (some i) => .ref (ad i)
  | .inr none => .null
def zcat : zA → Nat
  | .inl (.inr _) => 2
  | _ => 1
theorem zcat_ok (r : Nat → Int) (ad : Nat → Nat) (a : zA) : (zcv r ad a).category = zcat a := by
  rcases a with (a | a) | (_ | a) <;> rfl
def zce (kA : Nat → ClassId) (r : Nat → Int) (ad : Nat → Nat) (f : Nat → Int) : zC → va_E
  | .inl (ci, fs) => .inr (ci, fs.map (zcv r ad))
  | .inr (.inl (kd, n, _)) => .inl (kA kd, n, .inl (fun j => Int32.ofInt (f j)))
  | .inr (.inr (kd, is)) => .inl (kA kd, is.length, .inr (.inr (.inr (.inr (fun j => (is[j]?).map ad)))))
def zws (kA : Nat → ClassId) (r : Nat → Int) (ad : Nat → Nat) (ph : Nat → Nat → Int) (w : zW) : va_W := w.map (fun x => (ad x.1, zce kA r ad (ph x.1) x.2))
def zrv (r : Nat → Int) (q : zR) : Int := if q.1 then q.2.2 - r q.2.1 else r q.2.1 + q.2.2
def zenc (r : Nat → Int) : List zR → Nat
  | [] => 0
  | q :: qs => (zrv r q).toNat * 2 ^ (64 * qs.length) + zenc r qs
def zokE (r : Nat → Int) (E : zE) : Prop := r 0 = 0 ∧ ∀ x ∈ E, x.2.1 ≤ r x.1 ∧ r x.1 ≤ x.2.2
def zokZ (r : Nat → Int) (Z : zZ) : Prop := ∀ x ∈ Z, r x.1 - r x.2.1 ≤ x.2.2
def zokX (r : Nat → Int) (y : Int) : zI ⊕ zV → Prop
  | .inl i => i.1 ≤ y ∧ y ≤ i.2
  | .inr v => y = zev r v
def zokG (r : Nat → Int) (f : Nat → Int) : Nat → List zG → Prop
  | _, [] => True
  | o, g :: gs => (∀ j, o ≤ j → j < o + g.1 → zokX r (f j) g.2) ∧ zokG r f (o + g.1) gs
/-- what single places were seen to hold -/
def zokM (r : Nat → Int) (f : Nat → Int) (mm : zM) : Prop := ∀ x ∈ mm, f (zev r x.1).toNat = zev r x.2
def zokC (r : Nat → Int) (f : Nat → Int) : zC → Prop
  | .inr (.inl (_, _, gs, mm)) => zokG r f 0 gs ∧ zokM r f mm
  | _ => True
def zokW (r : Nat → Int) (ph : Nat → Nat → Int) (w : zW) : Prop := ∀ x ∈ w, zokC r (ph x.1) x.2
def zfind : zE → Nat → Option zI
  | [], _ => none
  | e :: es, s => bif Nat.beq e.1 s then some e.2 else zfind es s
theorem zfind_ok {r : Nat → Int} {s : Nat} {i : zI} : ∀ {E : zE}, (∀ x ∈ E, x.2.1 ≤ r x.1 ∧ r x.1 ≤ x.2.2) → zfind E s = some i → i.1 ≤ r s ∧ r s ≤ i.2
  | [], _, h => by cases h
  | e :: es, hE, h => by
    unfold zfind at h
    cases hb : Nat.beq e.1 s with
    | true =>
      rw [hb] at h
      have he := Nat.eq_of_beq_eq_true hb
      have hi : e.2 = i := Option.some.inj h
      have h1 := hE e List.mem_cons_self
      rw [he, hi] at h1
      exact h1
    | false =>
      rw [hb] at h
      exact zfind_ok (fun x hx => hE x (List.mem_cons_of_mem _ hx)) h
def zrng (E : zE) (v : zV) : Option zI := bif Nat.beq v.1 0 then some (v.2, v.2) else match zfind E v.1 with
  | some i => some (i.1 + v.2, i.2 + v.2)
  | none => none
theorem zrng_ok {r : Nat → Int} {E : zE} {v : zV} {i : zI} (hE : zokE r E) (h : zrng E v = some i) : i.1 ≤ zev r v ∧ zev r v ≤ i.2 := by
  unfold zrng at h
  cases hb : Nat.beq v.1 0 with
  | true =>
    rw [hb] at h
    have h1 := Nat.eq_of_beq_eq_true hb
    have hi : (v.2, v.2) = i := Option.some.inj h
    subst hi
    have e : zev r v = v.2 := by unfold zev; rw [h1, hE.1]; omega
    rw [e]
    exact ⟨Int.le_refl _, Int.le_refl _⟩
  | false =>
    rw [hb] at h
    dsimp only [cond] at h
    cases hf : zfind E v.1 with
    | none => rw [hf] at h; cases h
    | some j =>
      rw [hf] at h
      have hi : (j.1 + v.2, j.2 + v.2) = i := Option.some.inj h
      subst hi
      have h1 := zfind_ok hE.2 hf
      unfold zev
      dsimp only
      omega
def zle (a b : Int) : Bool := decide (a ≤ b)
theorem zle_ok {a b : Int} (h : zle a b = true) : a ≤ b := of_decide_eq_true h
def zmax (a b : Int) : Int := bif zle a b then b else a
def zmin (a b : Int) : Int := bif zle a b then a else b
theorem zmax_le {a b x : Int} (h1 : a ≤ x) (h2 : b ≤ x) : zmax a b ≤ x := by unfold zmax; cases zle a b <;> simpa
theorem zmin_le {a b x : Int} (h1 : x ≤ a) (h2 : x ≤ b) : x ≤ zmin a b := by unfold zmin; cases zle a b <;> simpa
theorem le_zmax_l {a b x : Int} (h : x ≤ a) : x ≤ zmax a b := by
  unfold zmax
  cases hb : zle a b with
  | true => exact Int.le_trans h (zle_ok hb)
  | false => exact h
theorem le_zmax_r {a b x : Int} (h : x ≤ b) : x ≤ zmax a b := by
  unfold zmax
  cases hb : zle a b with
  | true => exact h
  | false =>
    have : ¬ a ≤ b := of_decide_eq_false hb
    exact Int.le_trans h (by dsimp only [cond]; omega)
theorem zmin_l {a b x : Int} (h : a ≤ x) : zmin a b ≤ x := by
  unfold zmin
  cases hb : zle a b with
  | true => exact h
  | false =>
    have : ¬ a ≤ b := of_decide_eq_false hb
    exact Int.le_trans (by dsimp only [cond]; omega) h
theorem zmin_r {a b x : Int} (h : b ≤ x) : zmin a b ≤ x := by
  unfold zmin
  cases hb : zle a b with
  | true => exact Int.le_trans (zle_ok hb) h
  | false => exact h
/-- v lies within lo, hi: none where it cannot -/
def zref (E : zE) (v : zV) (lo hi : Int) : Option zE := bif Nat.beq v.1 0 then (bif zle lo v.2 && zle v.2 hi then some E else none) else match zfind E v.1 with
  | none => some E
  | some i => bif zle (zmax i.1 (lo - v.2)) (zmin i.2 (hi - v.2)) then some ((v.1, (zmax i.1 (lo - v.2), zmin i.2 (hi - v.2))) :: E) else none
theorem zref_ok {r : Nat → Int} {E : zE} {v : zV} {lo hi : Int} (hE : zokE r E) (h1 : lo ≤ zev r v) (h2 : zev r v ≤ hi) : ∃ E', zref E v lo hi = some E' ∧ zokE r E' := by
  unfold zref
  cases hb : Nat.beq v.1 0 with
  | true =>
    have h0 := Nat.eq_of_beq_eq_true hb
    have e : zev r v = v.2 := by unfold zev; rw [h0, hE.1]; omega
    rw [e] at h1 h2
    have g1 : zle lo v.2 = true := decide_eq_true h1
    have g2 : zle v.2 hi = true := decide_eq_true h2
    exact ⟨E, by simp [g1, g2], hE⟩
  | false =>
    dsimp only [cond]
    cases hf : zfind E v.1 with
    | none => exact ⟨E, rfl, hE⟩
    | some i =>
      have hq := zfind_ok hE.2 hf
      unfold zev at h1 h2
      have a1 : zmax i.1 (lo - v.2) ≤ r v.1 := zmax_le hq.1 (by omega)
      have a2 : r v.1 ≤ zmin i.2 (hi - v.2) := zmin_le hq.2 (by omega)
      have g : zle (zmax i.1 (lo - v.2)) (zmin i.2 (hi - v.2)) = true := decide_eq_true (Int.le_trans a1 a2)
      refine ⟨(v.1, (zmax i.1 (lo - v.2), zmin i.2 (hi - v.2))) :: E, by simp [g], hE.1, fun x hx => ?_⟩
      rcases List.mem_cons.mp hx with h | h
      · subst h; exact ⟨a1, a2⟩
      · exact hE.2 x h
def zBig : Int := 36893488147419103232
def zaz (Z : zZ) (v1 v2 : zV) (c : Int) : zZ := bif Nat.beq v1.1 0 || Nat.beq v2.1 0 then Z else (v1.1, v2.1, c + v2.2 - v1.2) :: Z
theorem zaz_ok {r : Nat → Int} {Z : zZ} {v1 v2 : zV} {c : Int} (hZ : zokZ r Z) (h : zev r v1 - zev r v2 ≤ c) : zokZ r (zaz Z v1 v2 c) := by
  unfold zaz
  cases (Nat.beq v1.1 0 || Nat.beq v2.1 0) with
  | true => exact hZ
  | false =>
    intro x hx
    rcases List.mem_cons.mp hx with h1 | h1
    · subst h1
      unfold zev at h
      dsimp only
      omega
    · exact hZ x h1
/-- v1 + k ≤ v2 -/
def zlek (E : zE) (Z : zZ) (v1 v2 : zV) (k : Int) : Option (zE × zZ) := match zrng E v1, zrng E v2 with
  | some i, some j => match zref E v1 (-zBig) (j.2 - k) with
    | none => none
    | some E1 => match zref E1 v2 (i.1 + k) zBig with
      | none => none
      | some E2 => some (E2, zaz Z v1 v2 (-k))
  | _, _ => some (E, Z)
def zsm (i : zI) : Bool := zle (-zBig) i.1 && zle i.2 zBig
def zbad (Z : zZ) (v1 v2 : zV) (k : Int) : Bool := Z.any (fun z => Nat.beq z.1 v2.1 && Nat.beq z.2.1 v1.1 && zle (z.2.2 + v2.2 - v1.2 + 1) k)
theorem zbad_ok {r : Nat → Int} {Z : zZ} {v1 v2 : zV} {k : Int} (hZ : zokZ r Z) (h : zev r v1 + k ≤ zev r v2) : zbad Z v1 v2 k = false := by
  cases hb : zbad Z v1 v2 k with
  | false => rfl
  | true =>
    obtain ⟨z, hz, q⟩ := List.any_eq_true.mp hb
    simp only [Bool.and_eq_true] at q
    have a := Nat.eq_of_beq_eq_true q.1.1
    have b := Nat.eq_of_beq_eq_true q.1.2
    have c := zle_ok q.2
    have d := hZ z hz
    rw [a, b] at d
    unfold zev at h
    omega
/-- what a branch tells: none where it cannot be taken -/
def zlekS (E : zE) (Z : zZ) (v1 v2 : zV) (k : Int) : Option (zE × zZ) := bif zbad Z v1 v2 k then none else match zrng E v1, zrng E v2 with
  | some i, some j => bif zsm i && zsm j then zlek E Z v1 v2 k else some (E, Z)
  | _, _ => some (E, Z)
theorem zlekS_ok {r : Nat → Int} {E : zE} {Z : zZ} {v1 v2 : zV} {k : Int} (hE : zokE r E) (hZ : zokZ r Z) (h : zev r v1 + k ≤ zev r v2) : ∃ q, zlekS E Z v1 v2 k = some q ∧ zokE r q.1 ∧ zokZ r q.2 := by
  unfold zlekS
  rw [zbad_ok hZ h]
  dsimp only [cond]
  cases h1 : zrng E v1 with
  | none => exact ⟨(E, Z), by cases zrng E v2 <;> rfl, hE, hZ⟩
  | some i =>
    cases h2 : zrng E v2 with
    | none => exact ⟨(E, Z), rfl, hE, hZ⟩
    | some j =>
      dsimp only
      cases hs : zsm i && zsm j with
      | false => exact ⟨(E, Z), rfl, hE, hZ⟩
      | true =>
        simp only [zsm, Bool.and_eq_true] at hs
        have b1 := zle_ok hs.1.1
        have b2 := zle_ok hs.2.2
        have r1 := zrng_ok hE h1
        have r2 := zrng_ok hE h2
        obtain ⟨E1, e1, o1⟩ := zref_ok (v := v1) (lo := -zBig) (hi := j.2 - k) hE (by omega) (by omega)
        obtain ⟨E2, e2, o2⟩ := zref_ok (v := v2) (lo := i.1 + k) (hi := zBig) o1 (by omega) (by omega)
        refine ⟨(E2, zaz Z v1 v2 (-k)), ?_, o2, zaz_ok hZ (by omega)⟩
        simp only [cond, zlek, h1, h2, e1, e2]
/-- v1 = v2 -/
def zeqS (E : zE) (Z : zZ) (v1 v2 : zV) : Option (zE × zZ) := match zlekS E Z v1 v2 0 with
  | none => none
  | some q => zlekS q.1 q.2 v2 v1 0
theorem zeqS_ok {r : Nat → Int} {E : zE} {Z : zZ} {v1 v2 : zV} (hE : zokE r E) (hZ : zokZ r Z) (h : zev r v1 = zev r v2) : ∃ q, zeqS E Z v1 v2 = some q ∧ zokE r q.1 ∧ zokZ r q.2 := by
  unfold zeqS
  obtain ⟨q, e, a, b⟩ := zlekS_ok (v1 := v1) (v2 := v2) (k := 0) hE hZ (by omega)
  rw [e]
  exact zlekS_ok a b (by omega)
/-- v1 ≠ v2 -/
def zneS (E : zE) (Z : zZ) (v1 v2 : zV) : Option (zE × zZ) := match zrng E v1, zrng E v2 with
  | some i, some j => bif zle j.2 j.1 then (bif zle i.2 i.1 && zle i.1 j.1 && zle j.1 i.1 then none else bif zle j.2 i.1 then zlekS E Z v2 v1 1 else bif zle i.2 j.1 then zlekS E Z v1 v2 1 else some (E, Z)) else bif zle i.2 i.1 then (bif zle j.2 i.1 then zlekS E Z v2 v1 1 else bif zle i.2 j.1 then zlekS E Z v1 v2 1 else some (E, Z)) else some (E, Z)
  | _, _ => some (E, Z)
theorem zneS_ok {r : Nat → Int} {E : zE} {Z : zZ} {v1 v2 : zV} (hE : zokE r E) (hZ : zokZ r Z) (h : ¬ zev r v1 = zev r v2) : ∃ q, zneS E Z v1 v2 = some q ∧ zokE r q.1 ∧ zokZ r q.2 := by
  unfold zneS
  cases h1 : zrng E v1 with
  | none => exact ⟨(E, Z), by cases zrng E v2 <;> rfl, hE, hZ⟩
  | some i =>
    cases h2 : zrng E v2 with
    | none => exact ⟨(E, Z), rfl, hE, hZ⟩
    | some j =>
      have r1 := zrng_ok hE h1
      have r2 := zrng_ok hE h2
      dsimp only
      cases c1 : zle j.2 j.1 with
      | true =>
        have d1 := zle_ok c1
        cases c2 : zle i.2 i.1 && zle i.1 j.1 && zle j.1 i.1 with
        | true =>
          simp only [Bool.and_eq_true] at c2
          have d2 := zle_ok c2.1.1
          have d3 := zle_ok c2.1.2
          have d4 := zle_ok c2.2
          omega
        | false =>
          dsimp only [cond]
          cases c3 : zle j.2 i.1 with
          | true => have d3 := zle_ok c3; exact zlekS_ok hE hZ (by omega)
          | false =>
            dsimp only
            cases c4 : zle i.2 j.1 with
            | true => have d4 := zle_ok c4; exact zlekS_ok hE hZ (by omega)
            | false => exact ⟨(E, Z), rfl, hE, hZ⟩
      | false =>
        dsimp only [cond]
        cases c2 : zle i.2 i.1 with
        | true =>
          dsimp only
          have d2 := zle_ok c2
          cases c3 : zle j.2 i.1 with
          | true => have d3 := zle_ok c3; exact zlekS_ok hE hZ (by omega)
          | false =>
            dsimp only
            cases c4 : zle i.2 j.1 with
            | true => have d4 := zle_ok c4; exact zlekS_ok hE hZ (by omega)
            | false => exact ⟨(E, Z), rfl, hE, hZ⟩
        | false => exact ⟨(E, Z), rfl, hE, hZ⟩
