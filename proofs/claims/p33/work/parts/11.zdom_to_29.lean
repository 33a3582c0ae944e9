section
abbrev zV : Type := Nat × Int
abbrev zA : Type := (zV ⊕ zV) ⊕ Option Nat
abbrev zI : Type := Int × Int
abbrev zG : Type := Nat × (zI ⊕ zV)
abbrev zM : Type := List (zV × zV)
abbrev zC : Type := (Nat × List zA) ⊕ ((Nat × Nat × List zG × zM) ⊕ (Nat × List Nat))
abbrev zE : Type := List (Nat × zI)
abbrev zZ : Type := List (Nat × Nat × Int)
abbrev zW : Type := List (Nat × zC)
abbrev zR : Type := Bool × zV
abbrev zS : Type := zE × zZ × List (Nat × zA) × List zA × zW × List zR
def zev (r : Nat → Int) (v : zV) : Int := r v.1 + v.2
def zcv (r : Nat → Int) (ad : Nat → Nat) : zA → Value
  | .inl (.inl v) => .int (Int32.ofInt (zev r v))
  | .inl (.inr v) => .long (Int64.ofInt (zev r v))
  | .inr (some i) => .ref (ad i)
  | .inr none => .null
def zcat : zA → Nat
  | .inl (.inr _) => 2
  | _ => 1
theorem zcat_ok (r : Nat → Int) (ad : Nat → Nat) (a : zA) : (zcv r ad a).category = zcat a := by
  rcases a with (a | a) | (_ | a) <;> rfl
def zce (kA : Nat → ClassId) (r : Nat → Int) (ad : Nat → Nat) (f : Nat → Int) : zC → va_E
  | .inl (ci, fs) => .inr (ci, fs.map (zcv r ad))
  | .inr (.inl (kd, n, _)) => .inl (kA kd, n, .inl (fun j => Int32.ofInt (f j)))
  | .inr (.inr (kd, is)) => .inl (kA kd, is.length, .inr (.inr (.inr (.inr (fun j => (is[j]?).map ad)))))
def zws (kA : Nat → ClassId) (r : Nat → Int) (ad : Nat → Nat) (ph : Nat → Nat → Int) (w : zW) : va_W := w.map (fun x => (ad x.1, zce kA r ad (ph x.1) x.2))
def zrv (r : Nat → Int) (q : zR) : Int := if q.1 then q.2.2 - r q.2.1 else r q.2.1 + q.2.2
def zenc (r : Nat → Int) : List zR → Nat
  | [] => 0
  | q :: qs => (zrv r q).toNat * 2 ^ (64 * qs.length) + zenc r qs
def zokE (r : Nat → Int) (E : zE) : Prop := r 0 = 0 ∧ ∀ x ∈ E, x.2.1 ≤ r x.1 ∧ r x.1 ≤ x.2.2
def zokZ (r : Nat → Int) (Z : zZ) : Prop := ∀ x ∈ Z, r x.1 - r x.2.1 ≤ x.2.2
def zokX (r : Nat → Int) (y : Int) : zI ⊕ zV → Prop
  | .inl i => i.1 ≤ y ∧ y ≤ i.2
  | .inr v => y = zev r v
def zokG (r : Nat → Int) (f : Nat → Int) : Nat → List zG → Prop
  | _, [] => True
  | o, g :: gs => (∀ j, o ≤ j → j < o + g.1 → zokX r (f j) g.2) ∧ zokG r f (o + g.1) gs
/-- what single places were seen to hold -/
def zokM (r : Nat → Int) (f : Nat → Int) (mm : zM) : Prop := ∀ x ∈ mm, f (zev r x.1).toNat = zev r x.2
def zokC (r : Nat → Int) (f : Nat → Int) : zC → Prop
  | .inr (.inl (_, _, gs, mm)) => zokG r f 0 gs ∧ zokM r f mm
  | _ => True
def zokW (r : Nat → Int) (ph : Nat → Nat → Int) (w : zW) : Prop := ∀ x ∈ w, zokC r (ph x.1) x.2
def zfind : zE → Nat → Option zI
  | [], _ => none
  | e :: es, s => bif Nat.beq e.1 s then some e.2 else zfind es s
theorem zfind_ok {r : Nat → Int} {s : Nat} {i : zI} : ∀ {E : zE}, (∀ x ∈ E, x.2.1 ≤ r x.1 ∧ r x.1 ≤ x.2.2) → zfind E s = some i → i.1 ≤ r s ∧ r s ≤ i.2
  | [], _, h => by cases h
  | e :: es, hE, h => by
    unfold zfind at h
    cases hb : Nat.beq e.1 s with
    | true =>
      rw [hb] at h
      have he := Nat.eq_of_beq_eq_true hb
      have hi : e.2 = i := Option.some.inj h
      have h1 := hE e List.mem_cons_self
      rw [he, hi] at h1
      exact h1
    | false =>
      rw [hb] at h
      exact zfind_ok (fun x hx => hE x (List.mem_cons_of_mem _ hx)) h
def zrng (E : zE) (v : zV) : Option zI := bif Nat.beq v.1 0 then some (v.2, v.2) else match zfind E v.1 with
  | some i => some (i.1 + v.2, i.2 + v.2)
  | none => none
theorem zrng_ok {r : Nat → Int} {E : zE} {v : zV} {i : zI} (hE : zokE r E) (h : zrng E v = some i) : i.1 ≤ zev r v ∧ zev r v ≤ i.2 := by
  unfold zrng at h
  cases hb : Nat.beq v.1 0 with
  | true =>
    rw [hb] at h
    have h1 := Nat.eq_of_beq_eq_true hb
    have hi : (v.2, v.2) = i := Option.some.inj h
    subst hi
    have e : zev r v = v.2 := by unfold zev; rw [h1, hE.1]; omega
    rw [e]
    exact ⟨Int.le_refl _, Int.le_refl _⟩
  | false =>
    rw [hb] at h
    dsimp only [cond] at h
    cases hf : zfind E v.1 with
    | none => rw [hf] at h; cases h
    | some j =>
      rw [hf] at h
      have hi : (j.1 + v.2, j.2 + v.2) = i := Option.some.inj h
      subst hi
      have h1 := zfind_ok hE.2 hf
      unfold zev
      dsimp only
      omega
def zle (a b : Int) : Bool := decide (a ≤ b)
theorem zle_ok {a b : Int} (h : zle a b = true) : a ≤ b := of_decide_eq_true h
def zmax (a b : Int) : Int := bif zle a b then b else a
def zmin (a b : Int) : Int := bif zle a b then a else b
theorem zmax_le {a b x : Int} (h1 : a ≤ x) (h2 : b ≤ x) : zmax a b ≤ x := by unfold zmax; cases zle a b <;> simpa
theorem zmin_le {a b x : Int} (h1 : x ≤ a) (h2 : x ≤ b) : x ≤ zmin a b := by unfold zmin; cases zle a b <;> simpa
theorem le_zmax_l {a b x : Int} (h : x ≤ a) : x ≤ zmax a b := by
  unfold zmax
  cases hb : zle a b with
  | true => exact Int.le_trans h (zle_ok hb)
  | false => exact h
theorem le_zmax_r {a b x : Int} (h : x ≤ b) : x ≤ zmax a b := by
  unfold zmax
  cases hb : zle a b with
  | true => exact h
  | false =>
    have : ¬ a ≤ b := of_decide_eq_false hb
    exact Int.le_trans h (by dsimp only [cond]; omega)
theorem zmin_l {a b x : Int} (h : a ≤ x) : zmin a b ≤ x := by
  unfold zmin
  cases hb : zle a b with
  | true => exact h
  | false =>
    have : ¬ a ≤ b := of_decide_eq_false hb
    exact Int.le_trans (by dsimp only [cond]; omega) h
theorem zmin_r {a b x : Int} (h : b ≤ x) : zmin a b ≤ x := by
  unfold zmin
  cases hb : zle a b with
  | true => exact Int.le_trans (zle_ok hb) h
  | false => exact h
/-- v lies within lo, hi: none where it cannot -/
def zref (E : zE) (v : zV) (lo hi : Int) : Option zE := bif Nat.beq v.1 0 then (bif zle lo v.2 && zle v.2 hi then some E else none) else match zfind E v.1 with
  | none => some E
  | some i => bif zle (zmax i.1 (lo - v.2)) (zmin i.2 (hi - v.2)) then some ((v.1, (zmax i.1 (lo - v.2), zmin i.2 (hi - v.2))) :: E) else none
theorem zref_ok {r : Nat → Int} {E : zE} {v : zV} {lo hi : Int} (hE : zokE r E) (h1 : lo ≤ zev r v) (h2 : zev r v ≤ hi) : ∃ E', zref E v lo hi = some E' ∧ zokE r E' := by
  unfold zref
  cases hb : Nat.beq v.1 0 with
  | true =>
    have h0 := Nat.eq_of_beq_eq_true hb
    have e : zev r v = v.2 := by unfold zev; rw [h0, hE.1]; omega
    rw [e] at h1 h2
    have g1 : zle lo v.2 = true := decide_eq_true h1
    have g2 : zle v.2 hi = true := decide_eq_true h2
    exact ⟨E, by simp [g1, g2], hE⟩
  | false =>
    dsimp only [cond]
    cases hf : zfind E v.1 with
    | none => exact ⟨E, rfl, hE⟩
    | some i =>
      have hq := zfind_ok hE.2 hf
      unfold zev at h1 h2
      have a1 : zmax i.1 (lo - v.2) ≤ r v.1 := zmax_le hq.1 (by omega)
      have a2 : r v.1 ≤ zmin i.2 (hi - v.2) := zmin_le hq.2 (by omega)
      have g : zle (zmax i.1 (lo - v.2)) (zmin i.2 (hi - v.2)) = true := decide_eq_true (Int.le_trans a1 a2)
      refine ⟨(v.1, (zmax i.1 (lo - v.2), zmin i.2 (hi - v.2))) :: E, by simp [g], hE.1, fun x hx => ?_⟩
      rcases List.mem_cons.mp hx with h | h
      · subst h; exact ⟨a1, a2⟩
      · exact hE.2 x h
def zBig : Int := 36893488147419103232
def zaz (Z : zZ) (v1 v2 : zV) (c : Int) : zZ := bif Nat.beq v1.1 0 || Nat.beq v2.1 0 then Z else (v1.1, v2.1, c + v2.2 - v1.2) :: Z
theorem zaz_ok {r : Nat → Int} {Z : zZ} {v1 v2 : zV} {c : Int} (hZ : zokZ r Z) (h : zev r v1 - zev r v2 ≤ c) : zokZ r (zaz Z v1 v2 c) := by
  unfold zaz
  cases (Nat.beq v1.1 0 || Nat.beq v2.1 0) with
  | true => exact hZ
  | false =>
    intro x hx
    rcases List.mem_cons.mp hx with h1 | h1
    · subst h1
      unfold zev at h
      dsimp only
      omega
    · exact hZ x h1
/-- v1 + k ≤ v2 -/
def zlek (E : zE) (Z : zZ) (v1 v2 : zV) (k : Int) : Option (zE × zZ) := match zrng E v1, zrng E v2 with
  | some i, some j => match zref E v1 (-zBig) (j.2 - k) with
    | none => none
    | some E1 => match zref E1 v2 (i.1 + k) zBig with
      | none => none
      | some E2 => some (E2, zaz Z v1 v2 (-k))
  | _, _ => some (E, Z)
def zsm (i : zI) : Bool := zle (-zBig) i.1 && zle i.2 zBig
def zbad (Z : zZ) (v1 v2 : zV) (k : Int) : Bool := Z.any (fun z => Nat.beq z.1 v2.1 && Nat.beq z.2.1 v1.1 && zle (z.2.2 + v2.2 - v1.2 + 1) k)
theorem zbad_ok {r : Nat → Int} {Z : zZ} {v1 v2 : zV} {k : Int} (hZ : zokZ r Z) (h : zev r v1 + k ≤ zev r v2) : zbad Z v1 v2 k = false := by
  cases hb : zbad Z v1 v2 k with
  | false => rfl
  | true =>
    obtain ⟨z, hz, q⟩ := List.any_eq_true.mp hb
    simp only [Bool.and_eq_true] at q
    have a := Nat.eq_of_beq_eq_true q.1.1
    have b := Nat.eq_of_beq_eq_true q.1.2
    have c := zle_ok q.2
    have d := hZ z hz
    rw [a, b] at d
    unfold zev at h
    omega
/-- what a branch tells: none where it cannot be taken -/
def zlekS (E : zE) (Z : zZ) (v1 v2 : zV) (k : Int) : Option (zE × zZ) := bif zbad Z v1 v2 k then none else match zrng E v1, zrng E v2 with
  | some i, some j => bif zsm i && zsm j then zlek E Z v1 v2 k else some (E, Z)
  | _, _ => some (E, Z)
theorem zlekS_ok {r : Nat → Int} {E : zE} {Z : zZ} {v1 v2 : zV} {k : Int} (hE : zokE r E) (hZ : zokZ r Z) (h : zev r v1 + k ≤ zev r v2) : ∃ q, zlekS E Z v1 v2 k = some q ∧ zokE r q.1 ∧ zokZ r q.2 := by
  unfold zlekS
  rw [zbad_ok hZ h]
  dsimp only [cond]
  cases h1 : zrng E v1 with
  | none => exact ⟨(E, Z), by cases zrng E v2 <;> rfl, hE, hZ⟩
  | some i =>
    cases h2 : zrng E v2 with
    | none => exact ⟨(E, Z), rfl, hE, hZ⟩
    | some j =>
      dsimp only
      cases hs : zsm i && zsm j with
      | false => exact ⟨(E, Z), rfl, hE, hZ⟩
      | true =>
        simp only [zsm, Bool.and_eq_true] at hs
        have b1 := zle_ok hs.1.1
        have b2 := zle_ok hs.2.2
        have r1 := zrng_ok hE h1
        have r2 := zrng_ok hE h2
        obtain ⟨E1, e1, o1⟩ := zref_ok (v := v1) (lo := -zBig) (hi := j.2 - k) hE (by omega) (by omega)
        obtain ⟨E2, e2, o2⟩ := zref_ok (v := v2) (lo := i.1 + k) (hi := zBig) o1 (by omega) (by omega)
        refine ⟨(E2, zaz Z v1 v2 (-k)), ?_, o2, zaz_ok hZ (by omega)⟩
        simp only [cond, zlek, h1, h2, e1, e2]
/-- v1 = v2 -/
def zeqS (E : zE) (Z : zZ) (v1 v2 : zV) : Option (zE × zZ) := match zlekS E Z v1 v2 0 with
  | none => none
  | some q => zlekS q.1 q.2 v2 v1 0
theorem zeqS_ok {r : Nat → Int} {E : zE} {Z : zZ} {v1 v2 : zV} (hE : zokE r E) (hZ : zokZ r Z) (h : zev r v1 = zev r v2) : ∃ q, zeqS E Z v1 v2 = some q ∧ zokE r q.1 ∧ zokZ r q.2 := by
  unfold zeqS
  obtain ⟨q, e, a, b⟩ := zlekS_ok (v1 := v1) (v2 := v2) (k := 0) hE hZ (by omega)
  rw [e]
  exact zlekS_ok a b (by omega)
/-- v1 ≠ v2 -/
def zneS (E : zE) (Z : zZ) (v1 v2 : zV) : Option (zE × zZ) := match zrng E v1, zrng E v2 with
  | some i, some j => bif zle j.2 j.1 then (bif zle i.2 i.1 && zle i.1 j.1 && zle j.1 i.1 then none else bif zle j.2 i.1 then zlekS E Z v2 v1 1 else bif zle i.2 j.1 then zlekS E Z v1 v2 1 else some (E, Z)) else bif zle i.2 i.1 then (bif zle j.2 i.1 then zlekS E Z v2 v1 1 else bif zle i.2 j.1 then zlekS E Z v1 v2 1 else some (E, Z)) else some (E, Z)
  | _, _ => some (E, Z)
theorem zneS_ok {r : Nat → Int} {E : zE} {Z : zZ} {v1 v2 : zV} (hE : zokE r E) (hZ : zokZ r Z) (h : ¬ zev r v1 = zev r v2) : ∃ q, zneS E Z v1 v2 = some q ∧ zokE r q.1 ∧ zokZ r q.2 := by
  unfold zneS
  cases h1 : zrng E v1 with
  | none => exact ⟨(E, Z), by cases zrng E v2 <;> rfl, hE, hZ⟩
  | some i =>
    cases h2 : zrng E v2 with
    | none => exact ⟨(E, Z), rfl, hE, hZ⟩
    | some j =>
      have r1 := zrng_ok hE h1
      have r2 := zrng_ok hE h2
      dsimp only
      cases c1 : zle j.2 j.1 with
      | true =>
        have d1 := zle_ok c1
        cases c2 : zle i.2 i.1 && zle i.1 j.1 && zle j.1 i.1 with
        | true =>
          simp only [Bool.and_eq_true] at c2
          have d2 := zle_ok c2.1.1
          have d3 := zle_ok c2.1.2
          have d4 := zle_ok c2.2
          omega
        | false =>
          dsimp only [cond]
          cases c3 : zle j.2 i.1 with
          | true => have d3 := zle_ok c3; exact zlekS_ok hE hZ (by omega)
          | false =>
            dsimp only
            cases c4 : zle i.2 j.1 with
            | true => have d4 := zle_ok c4; exact zlekS_ok hE hZ (by omega)
            | false => exact ⟨(E, Z), rfl, hE, hZ⟩
      | false =>
        dsimp only [cond]
        cases c2 : zle i.2 i.1 with
        | true =>
          dsimp only
          have d2 := zle_ok c2
          cases c3 : zle j.2 i.1 with
          | true => have d3 := zle_ok c3; exact zlekS_ok hE hZ (by omega)
          | false =>
            dsimp only
            cases c4 : zle i.2 j.1 with
            | true => have d4 := zle_ok c4; exact zlekS_ok hE hZ (by omega)
            | false => exact ⟨(E, Z), rfl, hE, hZ⟩
        | false => exact ⟨(E, Z), rfl, hE, hZ⟩
end
section
def zfull : zI := (-2147483648, 2147483647)
def zint (i : zI) : Bool := zle (-2147483648) i.1 && zle i.2 2147483647
def zlng (i : zI) : Bool := zle (-9223372036854775808) i.1 && zle i.2 9223372036854775807
theorem zq_rng (x : Int32) : -2147483648 ≤ x.toInt ∧ x.toInt ≤ 2147483647 := by
  have h1 := Int32.le_toInt x
  have h2 := Int32.toInt_lt x
  omega
theorem zq_bmod {z : Int} (h1 : -2147483648 ≤ z) (h2 : z ≤ 2147483647) : z.bmod (2 ^ 32) = z := by
  rw [Int.bmod_eq_of_le (by omega) (by omega)]
theorem zq_of {z : Int} (h1 : -2147483648 ≤ z) (h2 : z ≤ 2147483647) : (Int32.ofInt z).toInt = z := by
  rw [Int32.toInt_ofInt, zq_bmod h1 h2]
theorem zq_rngL (x : Int64) : -9223372036854775808 ≤ x.toInt ∧ x.toInt ≤ 9223372036854775807 := by
  have h1 := Int64.le_toInt x
  have h2 := Int64.toInt_lt x
  omega
theorem zq_bmodL {z : Int} (h1 : -9223372036854775808 ≤ z) (h2 : z ≤ 9223372036854775807) : z.bmod (2 ^ 64) = z := by
  rw [Int.bmod_eq_of_le (by omega) (by omega)]
theorem zq_ofL {z : Int} (h1 : -9223372036854775808 ≤ z) (h2 : z ≤ 9223372036854775807) : (Int64.ofInt z).toInt = z := by
  rw [Int64.toInt_ofInt, zq_bmodL h1 h2]
theorem zint_ok {i : zI} {y : Int} (h : zint i = true) (h1 : i.1 ≤ y) (h2 : y ≤ i.2) : -2147483648 ≤ y ∧ y ≤ 2147483647 := by
  simp only [zint, Bool.and_eq_true] at h
  have a := zle_ok h.1
  have b := zle_ok h.2
  omega
theorem zlng_ok {i : zI} {y : Int} (h : zlng i = true) (h1 : i.1 ≤ y) (h2 : y ≤ i.2) : -9223372036854775808 ≤ y ∧ y ≤ 9223372036854775807 := by
  simp only [zlng, Bool.and_eq_true] at h
  have a := zle_ok h.1
  have b := zle_ok h.2
  omega
def zresI (r : Nat → Int) (z : Int32) : zV ⊕ zI → Prop
  | .inl v => z = Int32.ofInt (zev r v)
  | .inr i => i.1 ≤ z.toInt ∧ z.toInt ≤ i.2
def zresL (r : Nat → Int) (z : Int64) : zV ⊕ zI → Prop
  | .inl v => z = Int64.ofInt (zev r v)
  | .inr i => i.1 ≤ z.toInt ∧ z.toInt ≤ i.2
theorem zres_full (r : Nat → Int) (z : Int32) : zresI r z (.inr zfull) := zq_rng z
def zfullL : zI := (-9223372036854775808, 9223372036854775807)
theorem zres_fullL (r : Nat → Int) (z : Int64) : zresL r z (.inr zfullL) := zq_rngL z
/-- what is known of two numbers on top: their bounds, within int -/
def zB (r : Nat → Int) (i : zI) (v : zV) : Prop := i.1 ≤ zev r v ∧ zev r v ≤ i.2
def zadd (i j : zI) (v1 v2 : zV) : zV ⊕ zI := bif zint (i.1 + j.1, i.2 + j.2) then (bif Nat.beq v2.1 0 then .inl (v1.1, v1.2 + v2.2) else bif Nat.beq v1.1 0 then .inl (v2.1, v1.2 + v2.2) else .inr (i.1 + j.1, i.2 + j.2)) else .inr zfull
theorem zadd_ok {r : Nat → Int} {i j : zI} {v1 v2 : zV} (h0 : r 0 = 0) (hi : zB r i v1) (hj : zB r j v2) (ii : zint i = true) (jj : zint j = true) : zresI r (Int32.ofInt (zev r v1) + Int32.ofInt (zev r v2)) (zadd i j v1 v2) := by
  unfold zadd
  cases hz : zint (i.1 + j.1, i.2 + j.2) with
  | false => exact zres_full _ _
  | true =>
    obtain ⟨a1, a2⟩ := hi
    obtain ⟨b1, b2⟩ := hj
    have c1 := zint_ok ii a1 a2
    have c2 := zint_ok jj b1 b2
    have c3 := zint_ok hz (y := zev r v1 + zev r v2) (by dsimp only; omega) (by dsimp only; omega)
    have e : Int32.ofInt (zev r v1) + Int32.ofInt (zev r v2) = Int32.ofInt (zev r v1 + zev r v2) := by
      apply Int32.toInt_inj.1
      rw [Int32.toInt_add, zq_of c1.1 c1.2, zq_of c2.1 c2.2, zq_of c3.1 c3.2, zq_bmod c3.1 c3.2]
    rw [e]
    dsimp only [cond]
    cases hb : Nat.beq v2.1 0 with
    | true =>
      have := Nat.eq_of_beq_eq_true hb
      show Int32.ofInt _ = Int32.ofInt _
      congr 1
      unfold zev; rw [this, h0]; dsimp only; omega
    | false =>
      dsimp only
      cases hc : Nat.beq v1.1 0 with
      | true =>
        have := Nat.eq_of_beq_eq_true hc
        show Int32.ofInt _ = Int32.ofInt _
        congr 1
        unfold zev; rw [this, h0]; dsimp only; omega
      | false =>
        show _ ≤ _ ∧ _ ≤ _
        rw [zq_of c3.1 c3.2]
        exact ⟨by dsimp only; omega, by dsimp only; omega⟩
def zsub (i j : zI) (v1 v2 : zV) : zV ⊕ zI := bif zint (i.1 - j.2, i.2 - j.1) then (bif Nat.beq v2.1 0 then .inl (v1.1, v1.2 - v2.2) else bif Nat.beq v1.1 v2.1 then .inl (0, v1.2 - v2.2) else .inr (i.1 - j.2, i.2 - j.1)) else .inr zfull
theorem zsub_ok {r : Nat → Int} {i j : zI} {v1 v2 : zV} (h0 : r 0 = 0) (hi : zB r i v1) (hj : zB r j v2) (ii : zint i = true) (jj : zint j = true) : zresI r (Int32.ofInt (zev r v1) - Int32.ofInt (zev r v2)) (zsub i j v1 v2) := by
  unfold zsub
  cases hz : zint (i.1 - j.2, i.2 - j.1) with
  | false => exact zres_full _ _
  | true =>
    obtain ⟨a1, a2⟩ := hi
    obtain ⟨b1, b2⟩ := hj
    have c1 := zint_ok ii a1 a2
    have c2 := zint_ok jj b1 b2
    have c3 := zint_ok hz (y := zev r v1 - zev r v2) (by dsimp only; omega) (by dsimp only; omega)
    have e : Int32.ofInt (zev r v1) - Int32.ofInt (zev r v2) = Int32.ofInt (zev r v1 - zev r v2) := by
      apply Int32.toInt_inj.1
      rw [Int32.toInt_sub, zq_of c1.1 c1.2, zq_of c2.1 c2.2, zq_of c3.1 c3.2, zq_bmod c3.1 c3.2]
    rw [e]
    dsimp only [cond]
    cases hb : Nat.beq v2.1 0 with
    | true =>
      have := Nat.eq_of_beq_eq_true hb
      show Int32.ofInt _ = Int32.ofInt _
      congr 1
      unfold zev; rw [this, h0]; dsimp only; omega
    | false =>
      dsimp only
      cases hc : Nat.beq v1.1 v2.1 with
      | true =>
        have := Nat.eq_of_beq_eq_true hc
        show Int32.ofInt _ = Int32.ofInt _
        congr 1
        unfold zev; rw [this, h0]; dsimp only; omega
      | false =>
        show _ ≤ _ ∧ _ ≤ _
        rw [zq_of c3.1 c3.2]
        exact ⟨by dsimp only; omega, by dsimp only; omega⟩
theorem zmul_b {a b c d x y : Int} (ha : 0 ≤ a) (hc : 0 ≤ c) (h1 : a ≤ x) (h2 : x ≤ b) (h3 : c ≤ y) (h4 : y ≤ d) : a * c ≤ x * y ∧ x * y ≤ b * d :=
  ⟨Int.mul_le_mul h1 h3 hc (by omega), Int.mul_le_mul h2 h4 (by omega) (by omega)⟩
def zmul (i j : zI) (v1 v2 : zV) : zV ⊕ zI := bif Nat.beq v1.1 0 && Nat.beq v2.1 0 && zint (v1.2 * v2.2, v1.2 * v2.2) then .inl (0, v1.2 * v2.2) else bif zle 0 i.1 && zle 0 j.1 && zint (i.1 * j.1, i.2 * j.2) then .inr (i.1 * j.1, i.2 * j.2) else .inr zfull
theorem zmul_ok {r : Nat → Int} {i j : zI} {v1 v2 : zV} (h0 : r 0 = 0) (hi : zB r i v1) (hj : zB r j v2) (ii : zint i = true) (jj : zint j = true) : zresI r (Int32.ofInt (zev r v1) * Int32.ofInt (zev r v2)) (zmul i j v1 v2) := by
  obtain ⟨a1, a2⟩ := hi
  obtain ⟨b1, b2⟩ := hj
  have c1 := zint_ok ii a1 a2
  have c2 := zint_ok jj b1 b2
  unfold zmul
  cases hq : Nat.beq v1.1 0 && Nat.beq v2.1 0 && zint (v1.2 * v2.2, v1.2 * v2.2) with
  | true =>
    simp only [Bool.and_eq_true] at hq
    have e1 : zev r v1 = v1.2 := by unfold zev; rw [Nat.eq_of_beq_eq_true hq.1.1, h0]; omega
    have e2 : zev r v2 = v2.2 := by unfold zev; rw [Nat.eq_of_beq_eq_true hq.1.2, h0]; omega
    have e3 : zev r (0, v1.2 * v2.2) = v1.2 * v2.2 := by unfold zev; dsimp only; rw [h0]; omega
    have c3 := zint_ok hq.2 (y := v1.2 * v2.2) (Int.le_refl _) (Int.le_refl _)
    show Int32.ofInt (zev r v1) * Int32.ofInt (zev r v2) = Int32.ofInt (zev r (0, v1.2 * v2.2))
    apply Int32.toInt_inj.1
    rw [Int32.toInt_mul, zq_of c1.1 c1.2, zq_of c2.1 c2.2, e1, e2, e3, zq_of c3.1 c3.2, zq_bmod c3.1 c3.2]
  | false =>
    dsimp only [cond]
    cases hz : zle 0 i.1 && zle 0 j.1 && zint (i.1 * j.1, i.2 * j.2) with
    | false => exact zres_full _ _
    | true =>
      simp only [Bool.and_eq_true] at hz
      have p1 := zle_ok hz.1.1
      have p2 := zle_ok hz.1.2
      have c4 := zmul_b p1 p2 a1 a2 b1 b2
      have c3 := zint_ok hz.2 (y := zev r v1 * zev r v2) c4.1 c4.2
      show _ ≤ _ ∧ _ ≤ _
      rw [Int32.toInt_mul, zq_of c1.1 c1.2, zq_of c2.1 c2.2, zq_bmod c3.1 c3.2]
      exact c4
theorem zand_r (x y : Int32) (h : 0 ≤ y.toInt) : 0 ≤ (x &&& y).toInt ∧ (x &&& y).toInt ≤ y.toInt := by
  have e1 : y.toInt = y.toBitVec.toInt := rfl
  have e2 : (x &&& y).toInt = (x.toBitVec &&& y.toBitVec).toInt := rfl
  rw [e1] at h ⊢
  rw [e2]
  rw [BitVec.toInt_eq_toNat_cond] at h ⊢
  rw [BitVec.toInt_eq_toNat_cond, BitVec.toNat_and]
  have h1 : x.toBitVec.toNat &&& y.toBitVec.toNat ≤ y.toBitVec.toNat := Nat.and_le_right
  have h2 := y.toBitVec.isLt
  split at h <;> split <;> (try split) <;> omega
theorem zand_l (x y : Int32) (h : 0 ≤ x.toInt) : 0 ≤ (x &&& y).toInt ∧ (x &&& y).toInt ≤ x.toInt := by
  have e : x &&& y = y &&& x := by
    apply Int32.toBitVec_inj.1
    exact BitVec.and_comm _ _
  rw [e]
  exact zand_r y x h
def zand (i j : zI) (_ _ : zV) : zV ⊕ zI := bif zle 0 i.1 then (bif zle 0 j.1 then .inr (0, zmin i.2 j.2) else .inr (0, i.2)) else bif zle 0 j.1 then .inr (0, j.2) else .inr zfull
theorem zand_ok {r : Nat → Int} {i j : zI} {v1 v2 : zV} (hi : zB r i v1) (hj : zB r j v2) (ii : zint i = true) (jj : zint j = true) : zresI r (Int32.ofInt (zev r v1) &&& Int32.ofInt (zev r v2)) (zand i j v1 v2) := by
  obtain ⟨a1, a2⟩ := hi
  obtain ⟨b1, b2⟩ := hj
  have c1 := zint_ok ii a1 a2
  have c2 := zint_ok jj b1 b2
  have d1 := zq_of c1.1 c1.2
  have d2 := zq_of c2.1 c2.2
  unfold zand
  cases p1 : zle 0 i.1 with
  | true =>
    have q1 := zle_ok p1
    have l1 := zand_l (Int32.ofInt (zev r v1)) (Int32.ofInt (zev r v2)) (by omega)
    cases p2 : zle 0 j.1 with
    | true =>
      have q2 := zle_ok p2
      have l2 := zand_r (Int32.ofInt (zev r v1)) (Int32.ofInt (zev r v2)) (by omega)
      exact ⟨l1.1, zmin_le (by omega) (by omega)⟩
    | false => exact ⟨l1.1, by dsimp only; omega⟩
  | false =>
    dsimp only [cond]
    cases p2 : zle 0 j.1 with
    | true =>
      have q2 := zle_ok p2
      have l2 := zand_r (Int32.ofInt (zev r v1)) (Int32.ofInt (zev r v2)) (by omega)
      exact ⟨l2.1, by dsimp only; omega⟩
    | false => exact zres_full _ _
theorem zor_b (x y : Int32) (k : Nat) (hk : k ≤ 31) (h1 : 0 ≤ x.toInt) (h2 : x.toInt < 2 ^ k) (h3 : 0 ≤ y.toInt) (h4 : y.toInt < 2 ^ k) : 0 ≤ (x ||| y).toInt ∧ (x ||| y).toInt < 2 ^ k := by
  have e1 : y.toInt = y.toBitVec.toInt := rfl
  have e3 : x.toInt = x.toBitVec.toInt := rfl
  have e2 : (x ||| y).toInt = (x.toBitVec ||| y.toBitVec).toInt := rfl
  rw [e1] at h3 h4
  rw [e3] at h1 h2
  rw [e2]
  rw [BitVec.toInt_eq_toNat_cond] at h1 h2 h3 h4
  rw [BitVec.toInt_eq_toNat_cond, BitVec.toNat_or]
  have l1 := x.toBitVec.isLt
  have l2 := y.toBitVec.isLt
  have hp : (2 : Nat) ^ k ≤ 2 ^ 31 := Nat.pow_le_pow_right (by omega) hk
  have hc : ((2 ^ k : Nat) : Int) = (2 : Int) ^ k := by simp
  have x1 : x.toBitVec.toNat < 2 ^ k := by split at h2 <;> omega
  have y1 : y.toBitVec.toNat < 2 ^ k := by split at h4 <;> omega
  have o1 := Nat.or_lt_two_pow x1 y1
  split <;> omega
def zlog : Nat → Int → Nat
  | 0, _ => 0
  | n + 1, x => bif zle x ((2 ^ (31 - (n + 1)) : Nat) - 1) then 31 - (n + 1) else zlog n x
def zor (i j : zI) (_ _ : zV) : zV ⊕ zI := bif zle 0 i.1 && zle 0 j.1 && Nat.ble (zlog 31 (zmax i.2 j.2)) 31 && zle i.2 ((2 ^ zlog 31 (zmax i.2 j.2) : Nat) - 1) && zle j.2 ((2 ^ zlog 31 (zmax i.2 j.2) : Nat) - 1) then .inr (0, (2 ^ zlog 31 (zmax i.2 j.2) : Nat) - 1) else .inr zfull
theorem zor_ok {r : Nat → Int} {i j : zI} {v1 v2 : zV} (hi : zB r i v1) (hj : zB r j v2) (ii : zint i = true) (jj : zint j = true) : zresI r (Int32.ofInt (zev r v1) ||| Int32.ofInt (zev r v2)) (zor i j v1 v2) := by
  obtain ⟨a1, a2⟩ := hi
  obtain ⟨b1, b2⟩ := hj
  have c1 := zint_ok ii a1 a2
  have c2 := zint_ok jj b1 b2
  have d1 := zq_of c1.1 c1.2
  have d2 := zq_of c2.1 c2.2
  unfold zor
  generalize zlog 31 (zmax i.2 j.2) = k
  cases hz : zle 0 i.1 && zle 0 j.1 && Nat.ble k 31 && zle i.2 ((2 ^ k : Nat) - 1) && zle j.2 ((2 ^ k : Nat) - 1) with
  | false => exact zres_full _ _
  | true =>
    simp only [Bool.and_eq_true] at hz
    have p1 := zle_ok hz.1.1.1.1
    have p2 := zle_ok hz.1.1.1.2
    have p3 := Nat.le_of_ble_eq_true hz.1.1.2
    have p4 := zle_ok hz.1.2
    have p5 := zle_ok hz.2
    have hc : ((2 ^ k : Nat) : Int) = (2 : Int) ^ k := by simp
    have o := zor_b (Int32.ofInt (zev r v1)) (Int32.ofInt (zev r v2)) k p3 (by omega) (by omega) (by omega) (by omega)
    exact ⟨o.1, by dsimp only; omega⟩
theorem zpow_le {a b : Nat} (h : a ≤ b) : (2 : Int) ^ a ≤ 2 ^ b := by
  have q : 2 ^ a ≤ 2 ^ b := Nat.pow_le_pow_right (by omega) h
  have e1 : ((2 ^ a : Nat) : Int) = (2 : Int) ^ a := by simp
  have e2 : ((2 ^ b : Nat) : Int) = (2 : Int) ^ b := by simp
  omega
theorem zshl_c : ∀ n : Nat, n < 32 → ((Int32.ofInt (n : Int) &&& 31).toBitVec.smod 32).toNat = n := by decide +kernel
theorem zshl_b (x : Int32) (n : Nat) (hn : n < 32) (h1 : 0 ≤ x.toInt) (h2 : x.toInt * 2 ^ n ≤ 2147483647) : (x <<< (Int32.ofInt (n : Int) &&& 31)).toInt = x.toInt * 2 ^ n := by
  have e := pk_shl x (Int32.ofInt (n : Int) &&& 31) n (zshl_c n hn)
  have e1 : x.toInt = x.toBitVec.toInt := rfl
  rw [e1] at h1 h2 ⊢
  have e2 : (x <<< (Int32.ofInt (n : Int) &&& 31)).toInt = (x <<< (Int32.ofInt (n : Int) &&& 31)).toBitVec.toInt := rfl
  rw [e2, BitVec.toInt_eq_toNat_cond, e]
  have l1 := x.toBitVec.isLt
  have hx : x.toBitVec.toInt = (x.toBitVec.toNat : Int) := by
    rw [BitVec.toInt_eq_toNat_cond] at h1 ⊢
    split at h1
    · rw [if_pos (by assumption)]
    · omega
  rw [hx] at h1 h2 ⊢
  have hc : ((x.toBitVec.toNat * 2 ^ n : Nat) : Int) = (x.toBitVec.toNat : Int) * 2 ^ n := by simp
  have hm : x.toBitVec.toNat * 2 ^ n % 2 ^ 32 = x.toBitVec.toNat * 2 ^ n := Nat.mod_eq_of_lt (by omega)
  rw [hm, if_pos (by omega), hc]
def zshl (i j : zI) (_ _ : zV) : zV ⊕ zI := bif zle 0 i.1 && zle 0 j.1 && zle j.2 31 && zle (i.2 * 2 ^ j.2.toNat) 2147483647 then .inr (i.1 * 2 ^ j.1.toNat, i.2 * 2 ^ j.2.toNat) else .inr zfull
theorem zshl_ok {r : Nat → Int} {i j : zI} {v1 v2 : zV} (hi : zB r i v1) (hj : zB r j v2) (ii : zint i = true) (jj : zint j = true) : zresI r (Int32.ofInt (zev r v1) <<< (Int32.ofInt (zev r v2) &&& 31)) (zshl i j v1 v2) := by
  obtain ⟨a1, a2⟩ := hi
  obtain ⟨b1, b2⟩ := hj
  have c1 := zint_ok ii a1 a2
  have d1 := zq_of c1.1 c1.2
  unfold zshl
  cases hz : zle 0 i.1 && zle 0 j.1 && zle j.2 31 && zle (i.2 * 2 ^ j.2.toNat) 2147483647 with
  | false => exact zres_full _ _
  | true =>
    simp only [Bool.and_eq_true] at hz
    have p1 := zle_ok hz.1.1.1
    have p2 := zle_ok hz.1.1.2
    have p3 := zle_ok hz.1.2
    have p4 := zle_ok hz.2
    obtain ⟨n, hn⟩ : ∃ n : Nat, zev r v2 = (n : Int) := ⟨(zev r v2).toNat, by omega⟩
    have u1 : (2 : Int) ^ j.1.toNat ≤ 2 ^ n := zpow_le (by omega)
    have u2 : (2 : Int) ^ n ≤ 2 ^ j.2.toNat := zpow_le (by omega)
    have u3 : (0 : Int) < 2 ^ j.1.toNat := Int.pow_pos (by omega)
    have q := zmul_b p1 (Int.le_of_lt u3) a1 a2 u1 u2
    rw [hn]
    have o := zshl_b (Int32.ofInt (zev r v1)) n (by omega) (by omega) (by rw [d1]; omega)
    show _ ≤ _ ∧ _ ≤ _
    rw [o, d1]
    exact q
def zshr (i _ : zI) (_ _ : zV) : zV ⊕ zI := bif zle 0 i.1 then .inr (0, i.2) else .inr zfull
theorem zshr_ok {r : Nat → Int} {i j : zI} {v1 v2 : zV} (hi : zB r i v1) (ii : zint i = true) : zresI r (Int32.ofInt (zev r v1) >>> (Int32.ofInt (zev r v2) &&& 31)) (zshr i j v1 v2) := by
  obtain ⟨a1, a2⟩ := hi
  have c1 := zint_ok ii a1 a2
  have d1 := zq_of c1.1 c1.2
  unfold zshr
  cases hz : zle 0 i.1 with
  | false => exact zres_full _ _
  | true =>
    have p1 := zle_ok hz
    show _ ≤ _ ∧ _ ≤ _
    rw [pk_shr _ _ _ rfl, d1, Int.shiftRight_eq_div_pow]
    have hp : (0 : Int) < ((2 ^ ((Int32.ofInt (zev r v2) &&& 31).toBitVec.smod 32).toNat : Nat) : Int) := by
      have : 0 < 2 ^ ((Int32.ofInt (zev r v2) &&& 31).toBitVec.smod 32).toNat := Nat.pow_pos (by omega)
      omega
    exact ⟨Int.ediv_nonneg (by omega) (by omega), Int.le_trans (Int.ediv_le_self _ (by omega)) a2⟩
end
section
theorem zq_ne {y : Int} (h1 : -2147483648 ≤ y) (h2 : y ≤ 2147483647) (h : y < 0 ∨ 0 < y) : ¬ Int32.ofInt y = 0 := by
  intro q
  have e := congrArg Int32.toInt q
  rw [zq_of h1 h2] at e
  have e0 : (0 : Int32).toInt = 0 := by decide +kernel
  omega
theorem zq_neL {y : Int} (h1 : -9223372036854775808 ≤ y) (h2 : y ≤ 9223372036854775807) (h : y < 0 ∨ 0 < y) : ¬ Int64.ofInt y = 0 := by
  intro q
  have e := congrArg Int64.toInt q
  rw [zq_ofL h1 h2] at e
  have e0 : (0 : Int64).toInt = 0 := by decide +kernel
  omega
theorem zdiv_b (x y : Int32) (h1 : 0 ≤ x.toInt) (h2 : 0 < y.toInt) : (x / y).toInt = x.toInt / y.toInt := by
  have b1 := zq_rng x
  have e : x.toInt.tdiv y.toInt = x.toInt / y.toInt := Int.tdiv_eq_ediv_of_nonneg h1
  have n1 : 0 ≤ x.toInt / y.toInt := Int.ediv_nonneg h1 (by omega)
  have n2 : x.toInt / y.toInt ≤ x.toInt := Int.ediv_le_self _ h1
  rw [Int32.toInt_div, e, zq_bmod (by omega) (by omega)]
theorem zrem_b (x y : Int32) (h1 : 0 ≤ x.toInt) (h2 : 0 < y.toInt) : (x - x / y * y).toInt = x.toInt % y.toInt := by
  have b1 := zq_rng x
  have e := zdiv_b x y h1 h2
  have d := Int.emod_add_mul_ediv x.toInt y.toInt
  have m1 := Int.emod_nonneg x.toInt (b := y.toInt) (by omega)
  have n1 : 0 ≤ x.toInt / y.toInt := Int.ediv_nonneg h1 (by omega)
  have n3 : 0 ≤ x.toInt / y.toInt * y.toInt := Int.mul_nonneg n1 (by omega)
  have cm : y.toInt * (x.toInt / y.toInt) = x.toInt / y.toInt * y.toInt := Int.mul_comm _ _
  rw [Int32.toInt_sub, Int32.toInt_mul, e, zq_bmod (z := x.toInt / y.toInt * y.toInt) (by omega) (by omega), zq_bmod (by omega) (by omega)]
  omega
theorem zdiv_bL (x y : Int64) (h1 : 0 ≤ x.toInt) (h2 : 0 < y.toInt) : (x / y).toInt = x.toInt / y.toInt := by
  have b1 := zq_rngL x
  have e : x.toInt.tdiv y.toInt = x.toInt / y.toInt := Int.tdiv_eq_ediv_of_nonneg h1
  have n1 : 0 ≤ x.toInt / y.toInt := Int.ediv_nonneg h1 (by omega)
  have n2 : x.toInt / y.toInt ≤ x.toInt := Int.ediv_le_self _ h1
  rw [Int64.toInt_div, e, zq_bmodL (by omega) (by omega)]
theorem zrem_bL (x y : Int64) (h1 : 0 ≤ x.toInt) (h2 : 0 < y.toInt) : (x - x / y * y).toInt = x.toInt % y.toInt := by
  have b1 := zq_rngL x
  have e := zdiv_bL x y h1 h2
  have d := Int.emod_add_mul_ediv x.toInt y.toInt
  have m1 := Int.emod_nonneg x.toInt (b := y.toInt) (by omega)
  have n1 : 0 ≤ x.toInt / y.toInt := Int.ediv_nonneg h1 (by omega)
  have n3 : 0 ≤ x.toInt / y.toInt * y.toInt := Int.mul_nonneg n1 (by omega)
  have cm : y.toInt * (x.toInt / y.toInt) = x.toInt / y.toInt * y.toInt := Int.mul_comm _ _
  rw [Int64.toInt_sub, Int64.toInt_mul, e, zq_bmodL (z := x.toInt / y.toInt * y.toInt) (by omega) (by omega), zq_bmodL (by omega) (by omega)]
  omega
def zpos2 (i j : zI) : Bool := zle 0 i.1 && zle 1 j.1
def zdiv (i j : zI) (_ _ : zV) : zV ⊕ zI := bif zpos2 i j then (bif zle j.2 j.1 then .inr (i.1 / j.1, i.2 / j.1) else .inr (0, i.2)) else .inr zfull
theorem zdiv_ok {r : Nat → Int} {i j : zI} {v1 v2 : zV} (hi : zB r i v1) (hj : zB r j v2) (ii : zint i = true) (jj : zint j = true) : zresI r (Int32.ofInt (zev r v1) / Int32.ofInt (zev r v2)) (zdiv i j v1 v2) := by
  obtain ⟨a1, a2⟩ := hi
  obtain ⟨b1, b2⟩ := hj
  have c1 := zint_ok ii a1 a2
  have c2 := zint_ok jj b1 b2
  have d1 := zq_of c1.1 c1.2
  have d2 := zq_of c2.1 c2.2
  unfold zdiv
  cases hz : zpos2 i j with
  | false => exact zres_full _ _
  | true =>
    simp only [zpos2, Bool.and_eq_true] at hz
    have p1 := zle_ok hz.1
    have p2 := zle_ok hz.2
    have q := zdiv_b (Int32.ofInt (zev r v1)) (Int32.ofInt (zev r v2)) (by omega) (by omega)
    rw [d1, d2] at q
    dsimp only [cond]
    cases hk : zle j.2 j.1 with
    | true =>
      have p3 := zle_ok hk
      have e : zev r v2 = j.1 := by omega
      show _ ≤ _ ∧ _ ≤ _
      rw [q, e]
      exact ⟨Int.ediv_le_ediv (by omega) a1, Int.ediv_le_ediv (by omega) a2⟩
    | false =>
      show _ ≤ _ ∧ _ ≤ _
      rw [q]
      exact ⟨Int.ediv_nonneg (by omega) (by omega), Int.le_trans (Int.ediv_le_self _ (by omega)) a2⟩
def zrem (i j : zI) (_ _ : zV) : zV ⊕ zI := bif zpos2 i j then .inr (0, zmin i.2 (j.2 - 1)) else .inr zfull
theorem zrem_ok {r : Nat → Int} {i j : zI} {v1 v2 : zV} (hi : zB r i v1) (hj : zB r j v2) (ii : zint i = true) (jj : zint j = true) : zresI r (Int32.ofInt (zev r v1) - Int32.ofInt (zev r v1) / Int32.ofInt (zev r v2) * Int32.ofInt (zev r v2)) (zrem i j v1 v2) := by
  obtain ⟨a1, a2⟩ := hi
  obtain ⟨b1, b2⟩ := hj
  have c1 := zint_ok ii a1 a2
  have c2 := zint_ok jj b1 b2
  have d1 := zq_of c1.1 c1.2
  have d2 := zq_of c2.1 c2.2
  unfold zrem
  cases hz : zpos2 i j with
  | false => exact zres_full _ _
  | true =>
    simp only [zpos2, Bool.and_eq_true] at hz
    have p1 := zle_ok hz.1
    have p2 := zle_ok hz.2
    have q := zrem_b (Int32.ofInt (zev r v1)) (Int32.ofInt (zev r v2)) (by omega) (by omega)
    rw [d1, d2] at q
    show _ ≤ _ ∧ _ ≤ _
    rw [q]
    have m1 := Int.emod_nonneg (zev r v1) (b := zev r v2) (by omega)
    have m2 := Int.emod_lt_of_pos (zev r v1) (b := zev r v2) (by omega)
    have dd := Int.emod_add_mul_ediv (zev r v1) (zev r v2)
    have n1 : 0 ≤ zev r v1 / zev r v2 := Int.ediv_nonneg (by omega) (by omega)
    have n3 : 0 ≤ zev r v2 * (zev r v1 / zev r v2) := Int.mul_nonneg (by omega) n1
    exact ⟨m1, zmin_le (by omega) (by omega)⟩
def zneg (i : zI) (v : zV) : zV ⊕ zI := bif zint (-i.2, -i.1) then (bif Nat.beq v.1 0 then .inl (0, -v.2) else .inr (-i.2, -i.1)) else .inr zfull
theorem zneg_ok {r : Nat → Int} {i : zI} {v : zV} (h0 : r 0 = 0) (hi : zB r i v) (ii : zint i = true) : zresI r (-Int32.ofInt (zev r v)) (zneg i v) := by
  obtain ⟨a1, a2⟩ := hi
  have c1 := zint_ok ii a1 a2
  have d1 := zq_of c1.1 c1.2
  unfold zneg
  cases hz : zint (-i.2, -i.1) with
  | false => exact zres_full _ _
  | true =>
    have c3 := zint_ok hz (y := -zev r v) (by dsimp only; omega) (by dsimp only; omega)
    have e : -Int32.ofInt (zev r v) = Int32.ofInt (-zev r v) := by
      apply Int32.toInt_inj.1
      rw [Int32.toInt_neg, d1, zq_of c3.1 c3.2, zq_bmod c3.1 c3.2]
    rw [e]
    dsimp only [cond]
    cases hb : Nat.beq v.1 0 with
    | true =>
      have := Nat.eq_of_beq_eq_true hb
      show Int32.ofInt _ = Int32.ofInt _
      congr 1
      unfold zev; rw [this, h0]; dsimp only; omega
    | false =>
      show _ ≤ _ ∧ _ ≤ _
      rw [zq_of c3.1 c3.2]
      exact ⟨by dsimp only; omega, by dsimp only; omega⟩
def zaddL (i j : zI) (v1 v2 : zV) : zV ⊕ zI := bif zlng (i.1 + j.1, i.2 + j.2) then (bif Nat.beq v2.1 0 then .inl (v1.1, v1.2 + v2.2) else bif Nat.beq v1.1 0 then .inl (v2.1, v1.2 + v2.2) else .inr (i.1 + j.1, i.2 + j.2)) else .inr zfullL
theorem zaddL_ok {r : Nat → Int} {i j : zI} {v1 v2 : zV} (h0 : r 0 = 0) (hi : zB r i v1) (hj : zB r j v2) (ii : zlng i = true) (jj : zlng j = true) : zresL r (Int64.ofInt (zev r v1) + Int64.ofInt (zev r v2)) (zaddL i j v1 v2) := by
  unfold zaddL
  cases hz : zlng (i.1 + j.1, i.2 + j.2) with
  | false => exact zres_fullL _ _
  | true =>
    obtain ⟨a1, a2⟩ := hi
    obtain ⟨b1, b2⟩ := hj
    have c1 := zlng_ok ii a1 a2
    have c2 := zlng_ok jj b1 b2
    have c3 := zlng_ok hz (y := zev r v1 + zev r v2) (by dsimp only; omega) (by dsimp only; omega)
    have e : Int64.ofInt (zev r v1) + Int64.ofInt (zev r v2) = Int64.ofInt (zev r v1 + zev r v2) := by
      apply Int64.toInt_inj.1
      rw [Int64.toInt_add, zq_ofL c1.1 c1.2, zq_ofL c2.1 c2.2, zq_ofL c3.1 c3.2, zq_bmodL c3.1 c3.2]
    rw [e]
    dsimp only [cond]
    cases hb : Nat.beq v2.1 0 with
    | true =>
      have := Nat.eq_of_beq_eq_true hb
      show Int64.ofInt _ = Int64.ofInt _
      congr 1
      unfold zev; rw [this, h0]; dsimp only; omega
    | false =>
      dsimp only
      cases hc : Nat.beq v1.1 0 with
      | true =>
        have := Nat.eq_of_beq_eq_true hc
        show Int64.ofInt _ = Int64.ofInt _
        congr 1
        unfold zev; rw [this, h0]; dsimp only; omega
      | false =>
        show _ ≤ _ ∧ _ ≤ _
        rw [zq_ofL c3.1 c3.2]
        exact ⟨by dsimp only; omega, by dsimp only; omega⟩
def zmulL (i j : zI) (_ _ : zV) : zV ⊕ zI := bif zle 0 i.1 && zle 0 j.1 && zlng (i.1 * j.1, i.2 * j.2) then .inr (i.1 * j.1, i.2 * j.2) else .inr zfullL
theorem zmulL_ok {r : Nat → Int} {i j : zI} {v1 v2 : zV} (hi : zB r i v1) (hj : zB r j v2) (ii : zlng i = true) (jj : zlng j = true) : zresL r (Int64.ofInt (zev r v1) * Int64.ofInt (zev r v2)) (zmulL i j v1 v2) := by
  unfold zmulL
  cases hz : zle 0 i.1 && zle 0 j.1 && zlng (i.1 * j.1, i.2 * j.2) with
  | false => exact zres_fullL _ _
  | true =>
    simp only [Bool.and_eq_true] at hz
    have p1 := zle_ok hz.1.1
    have p2 := zle_ok hz.1.2
    obtain ⟨a1, a2⟩ := hi
    obtain ⟨b1, b2⟩ := hj
    have c1 := zlng_ok ii a1 a2
    have c2 := zlng_ok jj b1 b2
    have c4 := zmul_b p1 p2 a1 a2 b1 b2
    have c3 := zlng_ok hz.2 (y := zev r v1 * zev r v2) c4.1 c4.2
    show _ ≤ _ ∧ _ ≤ _
    rw [Int64.toInt_mul, zq_ofL c1.1 c1.2, zq_ofL c2.1 c2.2, zq_bmodL c3.1 c3.2]
    exact c4
def zdivL (i j : zI) (_ _ : zV) : zV ⊕ zI := bif zpos2 i j then .inr (0, i.2) else .inr zfullL
theorem zdivL_ok {r : Nat → Int} {i j : zI} {v1 v2 : zV} (hi : zB r i v1) (hj : zB r j v2) (ii : zlng i = true) (jj : zlng j = true) : zresL r (Int64.ofInt (zev r v1) / Int64.ofInt (zev r v2)) (zdivL i j v1 v2) := by
  obtain ⟨a1, a2⟩ := hi
  obtain ⟨b1, b2⟩ := hj
  have c1 := zlng_ok ii a1 a2
  have c2 := zlng_ok jj b1 b2
  have d1 := zq_ofL c1.1 c1.2
  have d2 := zq_ofL c2.1 c2.2
  unfold zdivL
  cases hz : zpos2 i j with
  | false => exact zres_fullL _ _
  | true =>
    simp only [zpos2, Bool.and_eq_true] at hz
    have p1 := zle_ok hz.1
    have p2 := zle_ok hz.2
    have q := zdiv_bL (Int64.ofInt (zev r v1)) (Int64.ofInt (zev r v2)) (by omega) (by omega)
    rw [d1, d2] at q
    show _ ≤ _ ∧ _ ≤ _
    rw [q]
    exact ⟨Int.ediv_nonneg (by omega) (by omega), Int.le_trans (Int.ediv_le_self _ (by omega)) a2⟩
theorem zremL_b {r : Nat → Int} {i j : zI} {v1 v2 : zV} (hi : zB r i v1) (hj : zB r j v2) (ii : zlng i = true) (jj : zlng j = true) (hz : zpos2 i j = true) : 0 ≤ (Int64.ofInt (zev r v1) - Int64.ofInt (zev r v1) / Int64.ofInt (zev r v2) * Int64.ofInt (zev r v2)).toInt ∧ (Int64.ofInt (zev r v1) - Int64.ofInt (zev r v1) / Int64.ofInt (zev r v2) * Int64.ofInt (zev r v2)).toInt < zev r v2 := by
  obtain ⟨a1, a2⟩ := hi
  obtain ⟨b1, b2⟩ := hj
  have c1 := zlng_ok ii a1 a2
  have c2 := zlng_ok jj b1 b2
  have d1 := zq_ofL c1.1 c1.2
  have d2 := zq_ofL c2.1 c2.2
  simp only [zpos2, Bool.and_eq_true] at hz
  have p1 := zle_ok hz.1
  have p2 := zle_ok hz.2
  have q := zrem_bL (Int64.ofInt (zev r v1)) (Int64.ofInt (zev r v2)) (by omega) (by omega)
  rw [d1, d2] at q
  rw [q]
  exact ⟨Int.emod_nonneg (zev r v1) (by omega), Int.emod_lt_of_pos (zev r v1) (by omega)⟩
end
section
def zbA (n : Nat) : zA → Bool
  | .inl (.inl v) => Nat.blt v.1 n
  | .inl (.inr v) => Nat.blt v.1 n
  | .inr _ => true
def zbX (n : Nat) : zI ⊕ zV → Bool
  | .inl _ => true
  | .inr v => Nat.blt v.1 n
def zbC (n : Nat) : zC → Bool
  | .inl (_, fs) => fs.all (zbA n)
  | .inr (.inl (_, _, gs, mm)) => gs.all (fun g => zbX n g.2) && mm.all (fun x => Nat.blt x.1.1 n && Nat.blt x.2.1 n)
  | .inr (.inr _) => true
def zbS (n : Nat) (S : zS) : Bool := S.1.all (fun x => Nat.blt x.1 n) && S.2.1.all (fun x => Nat.blt x.1 n && Nat.blt x.2.1 n) && S.2.2.1.all (fun x => zbA n x.2) && S.2.2.2.1.all (zbA n) && S.2.2.2.2.1.all (fun x => zbC n x.2) && S.2.2.2.2.2.all (fun q => Nat.blt q.2.1 n)
theorem zblt {a b : Nat} (h : Nat.blt a b = true) : a < b := Nat.le_of_ble_eq_true h
theorem zbA_eq {n : Nat} {r r' : Nat → Int} (hag : ∀ i, i < n → r' i = r i) (ad : Nat → Nat) {a : zA} (h : zbA n a = true) : zcv r' ad a = zcv r ad a := by
  rcases a with (v | v) | v
  · show Value.int (Int32.ofInt (r' v.1 + v.2)) = Value.int (Int32.ofInt (r v.1 + v.2))
    rw [hag _ (zblt h)]
  · show Value.long (Int64.ofInt (r' v.1 + v.2)) = Value.long (Int64.ofInt (r v.1 + v.2))
    rw [hag _ (zblt h)]
  · rcases v with _ | v <;> rfl
theorem zbG_eq {n : Nat} {r r' : Nat → Int} (hag : ∀ i, i < n → r' i = r i) (f : Nat → Int) : ∀ (gs : List zG) (o : Nat), gs.all (fun g => zbX n g.2) = true → zokG r f o gs → zokG r' f o gs
  | [], _, _, _ => trivial
  | g :: gs, o, hb, h => by
    simp only [List.all_cons, Bool.and_eq_true] at hb
    refine ⟨fun j h1 h2 => ?_, zbG_eq hag f gs (o + g.1) hb.2 h.2⟩
    have q := h.1 j h1 h2
    obtain ⟨m, x⟩ := g
    rcases x with x | v
    · exact q
    · have hv : v.1 < n := zblt hb.1
      show f j = r' v.1 + v.2
      rw [hag _ hv]
      exact q
theorem zbM_eq {n : Nat} {r r' : Nat → Int} (hag : ∀ i, i < n → r' i = r i) (f : Nat → Int) {mm : zM} (hb : mm.all (fun x => Nat.blt x.1.1 n && Nat.blt x.2.1 n) = true) (h : zokM r f mm) : zokM r' f mm := by
  intro x hx
  have q := List.all_eq_true.mp hb x hx
  simp only [Bool.and_eq_true] at q
  have e := h x hx
  unfold zev at e ⊢
  rw [hag _ (zblt q.1), hag _ (zblt q.2)]
  exact e
theorem zbC_eq {n : Nat} {r r' : Nat → Int} (hag : ∀ i, i < n → r' i = r i) (kA : Nat → ClassId) (ad : Nat → Nat) (f : Nat → Int) {x : zC} (h : zbC n x = true) : zce kA r' ad f x = zce kA r ad f x := by
  rcases x with ⟨ci, fs⟩ | ⟨kd, m, gs⟩ | ⟨kd, is⟩
  · show Sum.inr (ci, fs.map (zcv r' ad)) = Sum.inr (ci, fs.map (zcv r ad))
    have e : fs.map (zcv r' ad) = fs.map (zcv r ad) := List.map_congr_left (fun a ha => zbA_eq hag ad (List.all_eq_true.mp h a ha))
    rw [e]
  · rfl
  · rfl
theorem zbC_ok {n : Nat} {r r' : Nat → Int} (hag : ∀ i, i < n → r' i = r i) (f : Nat → Int) {x : zC} (h : zbC n x = true) (hk : zokC r f x) : zokC r' f x := by
  rcases x with ⟨ci, fs⟩ | ⟨kd, m, gs, mm⟩ | ⟨kd, is⟩
  · trivial
  · simp only [zbC, Bool.and_eq_true] at h
    exact ⟨zbG_eq hag f gs 0 h.1 hk.1, zbM_eq hag f h.2 hk.2⟩
  · trivial
def zRel (D : va_G) (cl : List vw_C) (kA : Nat → ClassId) (A : Nat → Prop) (H0 : Heap) (nL : Nat) (S : zS) (r : Nat → Int) (ad : Nat → Nat) (ph : Nat → Nat → Int) (H : Heap) (locs : List Loc) (ls : Array Slot) : Prop :=
  zokE r S.1 ∧ zokZ r S.2.1 ∧ zokW r ph S.2.2.2.2.1 ∧ va_P D cl (zws kA r ad ph S.2.2.2.2.1) H ∧ va_D A (zws kA r ad ph S.2.2.2.2.1) ∧ va_S A H0 H locs ∧ lv_has ls nL (S.2.2.1.map (fun x => (x.1, zcv r ad x.2)))
theorem zbW_eq {n : Nat} {r r' : Nat → Int} (hag : ∀ i, i < n → r' i = r i) (kA : Nat → ClassId) (ad : Nat → Nat) (ph : Nat → Nat → Int) {w : zW} (h : w.all (fun x => zbC n x.2) = true) : zws kA r' ad ph w = zws kA r ad ph w :=
  List.map_congr_left (fun x hx => by rw [zbC_eq hag kA ad (ph x.1) (List.all_eq_true.mp h x hx)])
theorem zbR_eq {n : Nat} {r r' : Nat → Int} (hag : ∀ i, i < n → r' i = r i) : ∀ (qs : List zR), qs.all (fun q => Nat.blt q.2.1 n) = true → zenc r' qs = zenc r qs
  | [], _ => rfl
  | q :: qs, h => by
    simp only [List.all_cons, Bool.and_eq_true] at h
    have e : zrv r' q = zrv r q := by
      unfold zrv
      rw [hag _ (zblt h.1)]
    show (zrv r' q).toNat * 2 ^ (64 * qs.length) + zenc r' qs = (zrv r q).toNat * 2 ^ (64 * qs.length) + zenc r qs
    rw [e, zbR_eq hag qs h.2]
theorem zbS_ok {n : Nat} {r r' : Nat → Int} (hn : 0 < n) (hag : ∀ i, i < n → r' i = r i) {D : va_G} {cl : List vw_C} {kA : Nat → ClassId} {A : Nat → Prop} {H0 : Heap} {nL : Nat} {S : zS} {ad : Nat → Nat} {ph : Nat → Nat → Int} {H : Heap} {locs : List Loc} {ls : Array Slot} (hb : zbS n S = true) (h : zRel D cl kA A H0 nL S r ad ph H locs ls) : zRel D cl kA A H0 nL S r' ad ph H locs ls ∧ S.2.2.2.1.map (zcv r' ad) = S.2.2.2.1.map (zcv r ad) ∧ zenc r' S.2.2.2.2.2 = zenc r S.2.2.2.2.2 := by
  simp only [zbS, Bool.and_eq_true] at hb
  obtain ⟨⟨⟨⟨⟨b1, b2⟩, b3⟩, b4⟩, b5⟩, b6⟩ := hb
  obtain ⟨hE, hZ, hW, hP, hD, hS, hl⟩ := h
  have eW := zbW_eq hag kA ad ph b5
  refine ⟨⟨⟨by rw [hag 0 hn]; exact hE.1, fun x hx => ?_⟩, fun x hx => ?_, fun x hx => zbC_ok hag (ph x.1) (List.all_eq_true.mp b5 x hx) (hW x hx), by rw [eW]; exact hP, by rw [eW]; exact hD, hS, ?_⟩, List.map_congr_left (fun a ha => zbA_eq hag ad (List.all_eq_true.mp b4 a ha)), zbR_eq hag _ b6⟩
  · rw [hag _ (zblt (List.all_eq_true.mp b1 x hx))]
    exact hE.2 x hx
  · have q := List.all_eq_true.mp b2 x hx
    simp only [Bool.and_eq_true] at q
    rw [hag _ (zblt q.1), hag _ (zblt q.2)]
    exact hZ x hx
  · have e : S.2.2.1.map (fun x => (x.1, zcv r' ad x.2)) = S.2.2.1.map (fun x => (x.1, zcv r ad x.2)) := List.map_congr_left (fun x hx => by rw [zbA_eq hag ad (List.all_eq_true.mp b3 x hx)])
    rw [e]
    exact hl
def ztv (th : Nat → zV) (v : zV) : zV := ((th v.1).1, (th v.1).2 + v.2)
theorem ztv_ok (r : Nat → Int) (th : Nat → zV) (v : zV) : zev r (ztv th v) = zev (fun s => zev r (th s)) v := by
  unfold zev ztv
  dsimp only
  omega
def ztA (th : Nat → zV) (ka : Nat → Nat) : zA → zA
  | .inl (.inl v) => .inl (.inl (ztv th v))
  | .inl (.inr v) => .inl (.inr (ztv th v))
  | .inr (some i) => .inr (some (ka i))
  | .inr none => .inr none
theorem ztA_ok (r : Nat → Int) (ad : Nat → Nat) (th : Nat → zV) (ka : Nat → Nat) (a : zA) : zcv r ad (ztA th ka a) = zcv (fun s => zev r (th s)) (fun i => ad (ka i)) a := by
  rcases a with (v | v) | (_ | i)
  · show Value.int (Int32.ofInt (zev r (ztv th v))) = _
    rw [ztv_ok]; rfl
  · show Value.long (Int64.ofInt (zev r (ztv th v))) = _
    rw [ztv_ok]; rfl
  · rfl
  · rfl
def zxle (E : zE) (th : Nat → zV) : zI ⊕ zV → zI ⊕ zV → Bool
  | .inl i, .inl j => zle i.1 j.1 && zle j.2 i.2
  | .inl i, .inr v => match zrng E v with
    | some j => zle i.1 j.1 && zle j.2 i.2
    | none => false
  | .inr v, .inr u => Nat.beq (ztv th v).1 u.1 && decide ((ztv th v).2 = u.2)
  | .inr _, .inl _ => false
def zgle (E : zE) (th : Nat → zV) : List zG → List zG → Bool
  | [], [] => true
  | g :: gs, g' :: gs' => Nat.beq g.1 g'.1 && zxle E th g.2 g'.2 && zgle E th gs gs'
  | _, _ => false
theorem zxle_ok {r : Nat → Int} {E : zE} (hE : zokE r E) (th : Nat → zV) {x y : zI ⊕ zV} {z : Int} (h : zxle E th x y = true) (hy : zokX r z y) : zokX (fun s => zev r (th s)) z x := by
  rcases x with i | v <;> rcases y with j | u
  · simp only [zxle, Bool.and_eq_true] at h
    have a := zle_ok h.1
    have b := zle_ok h.2
    have c : j.1 ≤ z ∧ z ≤ j.2 := hy
    show i.1 ≤ z ∧ z ≤ i.2
    omega
  · simp only [zxle] at h
    cases hr : zrng E u with
    | none => rw [hr] at h; cases h
    | some j =>
      rw [hr] at h
      simp only [Bool.and_eq_true] at h
      have a := zle_ok h.1
      have b := zle_ok h.2
      have c := zrng_ok hE hr
      have d : z = zev r u := hy
      show i.1 ≤ z ∧ z ≤ i.2
      omega
  · cases h
  · simp only [zxle, Bool.and_eq_true] at h
    have a := Nat.eq_of_beq_eq_true h.1
    have b : (ztv th v).2 = u.2 := of_decide_eq_true h.2
    have d : z = zev r u := hy
    show z = zev (fun s => zev r (th s)) v
    rw [← ztv_ok, d]
    unfold zev
    rw [a, b]
theorem zgle_ok {r : Nat → Int} {E : zE} (hE : zokE r E) (th : Nat → zV) (f : Nat → Int) : ∀ (gs gs' : List zG) (o : Nat), zgle E th gs gs' = true → zokG r f o gs' → zokG (fun s => zev r (th s)) f o gs
  | [], [], _, _, _ => trivial
  | g :: gs, g' :: gs', o, h, hk => by
    simp only [zgle, Bool.and_eq_true] at h
    have e := Nat.eq_of_beq_eq_true h.1.1
    refine ⟨fun j h1 h2 => zxle_ok hE th h.1.2 (hk.1 j h1 (by rw [← e]; exact h2)), ?_⟩
    rw [e]
    exact zgle_ok hE th f gs gs' (o + g'.1) h.2 hk.2
  | [], g' :: gs', _, h, _ => by cases h
  | g :: gs, [], _, h, _ => by cases h
def zmle (th : Nat → zV) (t s : zM) : Bool := t.all (fun x => s.any (fun y => Nat.beq (ztv th x.1).1 y.1.1 && decide ((ztv th x.1).2 = y.1.2) && Nat.beq (ztv th x.2).1 y.2.1 && decide ((ztv th x.2).2 = y.2.2)))
theorem zmle_ok {r : Nat → Int} (th : Nat → zV) (f : Nat → Int) {t s : zM} (h : zmle th t s = true) (hs : zokM r f s) : zokM (fun s => zev r (th s)) f t := by
  intro x hx
  obtain ⟨y, hy, q⟩ := List.any_eq_true.mp (List.all_eq_true.mp h x hx)
  simp only [Bool.and_eq_true] at q
  have a := Nat.eq_of_beq_eq_true q.1.1.1
  have b : (ztv th x.1).2 = y.1.2 := of_decide_eq_true q.1.1.2
  have c := Nat.eq_of_beq_eq_true q.1.2
  have d : (ztv th x.2).2 = y.2.2 := of_decide_eq_true q.2
  have e1 : zev r (ztv th x.1) = zev r y.1 := by unfold zev; rw [a, b]
  have e2 : zev r (ztv th x.2) = zev r y.2 := by unfold zev; rw [c, d]
  rw [← ztv_ok, ← ztv_ok, e1, e2]
  exact hs y hy
def zCle (E : zE) (th : Nat → zV) (ka : Nat → Nat) : zC → zC → Bool
  | .inl (ci, fs), .inl (ci', fs') => Nat.beq ci ci' && decide (fs.map (ztA th ka) = fs')
  | .inr (.inl (kd, n, gs, mm)), .inr (.inl (kd', n', gs', mm')) => Nat.beq kd kd' && Nat.beq n n' && zgle E th gs gs' && zmle th mm mm'
  | .inr (.inr (kd, is)), .inr (.inr (kd', is')) => Nat.beq kd kd' && decide (is.map ka = is')
  | _, _ => false
theorem zCle_ok {r : Nat → Int} {E : zE} (hE : zokE r E) (th : Nat → zV) (ka : Nat → Nat) (kA : Nat → ClassId) (ad : Nat → Nat) (f : Nat → Int) {x y : zC} (h : zCle E th ka x y = true) (hy : zokC r f y) : zce kA (fun s => zev r (th s)) (fun i => ad (ka i)) f x = zce kA r ad f y ∧ zokC (fun s => zev r (th s)) f x := by
  rcases x with ⟨ci, fs⟩ | ⟨kd, n, gs, mm⟩ | ⟨kd, is⟩ <;> rcases y with ⟨ci', fs'⟩ | ⟨kd', n', gs', mm'⟩ | ⟨kd', is'⟩ <;> try (cases h; done)
  · simp only [zCle, Bool.and_eq_true] at h
    have a := Nat.eq_of_beq_eq_true h.1
    have b : fs.map (ztA th ka) = fs' := of_decide_eq_true h.2
    subst a; subst b
    refine ⟨?_, trivial⟩
    show Sum.inr (ci, fs.map _) = Sum.inr (ci, (fs.map (ztA th ka)).map (zcv r ad))
    rw [List.map_map]
    congr 2
    exact List.map_congr_left (fun a _ => (ztA_ok r ad th ka a).symm)
  · simp only [zCle, Bool.and_eq_true] at h
    have a := Nat.eq_of_beq_eq_true h.1.1.1
    have b := Nat.eq_of_beq_eq_true h.1.1.2
    subst a; subst b
    exact ⟨rfl, zgle_ok hE th f gs gs' 0 h.1.2 hy.1, zmle_ok th f h.2 hy.2⟩
  · simp only [zCle, Bool.and_eq_true] at h
    have a := Nat.eq_of_beq_eq_true h.1
    have b : is.map ka = is' := of_decide_eq_true h.2
    subst a; subst b
    refine ⟨?_, trivial⟩
    show Sum.inl (kA kd, is.length, _) = Sum.inl (kA kd, (is.map ka).length, _)
    have e : (fun j : Nat => (is[j]?).map (fun i => ad (ka i))) = (fun j : Nat => ((is.map ka)[j]?).map ad) := by
      funext j
      rw [List.getElem?_map, Option.map_map]
      rfl
    rw [List.length_map, e]
def zWle (E : zE) (th : Nat → zV) (ka : Nat → Nat) (w : zW) : List Nat → zW → Bool
  | [], [] => true
  | i :: is, x :: tw => (match w[i]? with
    | some y => Nat.beq y.1 (ka x.1) && zCle E th ka x.2 y.2
    | none => false) && zWle E th ka w is tw
  | _, _ => false
theorem zWle_ok {r : Nat → Int} {E : zE} (hE : zokE r E) (th : Nat → zV) (ka : Nat → Nat) (kA : Nat → ClassId) (ad : Nat → Nat) (ph : Nat → Nat → Int) {w : zW} (hw : zokW r ph w) : ∀ (is : List Nat) (tw : zW), zWle E th ka w is tw = true →
    is.map (fun i => (zws kA r ad ph w)[i]?) = (zws kA (fun s => zev r (th s)) (fun i => ad (ka i)) (fun i => ph (ka i)) tw).map some ∧ zokW (fun s => zev r (th s)) (fun i => ph (ka i)) tw
  | [], [], _ => ⟨rfl, fun x hx => by cases hx⟩
  | i :: is, x :: tw, h => by
    simp only [zWle, Bool.and_eq_true] at h
    obtain ⟨h1, h2⟩ := h
    cases hg : w[i]? with
    | none => rw [hg] at h1; cases h1
    | some y =>
      rw [hg] at h1
      simp only [Bool.and_eq_true] at h1
      have a := Nat.eq_of_beq_eq_true h1.1
      have m := List.mem_of_getElem? hg
      have q := zCle_ok hE th ka kA ad (ph y.1) h1.2 (hw y m)
      obtain ⟨i1, i2⟩ := zWle_ok hE th ka kA ad ph hw is tw h2
      refine ⟨?_, fun z hz => ?_⟩
      · rw [List.map_cons, i1]
        show _ = some _ :: _
        congr 1
        show (w.map _)[i]? = _
        rw [List.getElem?_map, hg]
        show some (ad y.1, zce kA r ad (ph y.1) y.2) = some (ad (ka x.1), zce kA _ _ (ph (ka x.1)) x.2)
        rw [← a, ← q.1]
      · rcases List.mem_cons.mp hz with e | e
        · subst e
          show zokC _ (ph (ka z.1)) z.2
          rw [← a]
          exact q.2
        · exact i2 z e
  | [], x :: tw, h => by cases h
  | i :: is, [], h => by cases h
def zzle (E : zE) (Z : zZ) (v1 v2 : zV) (c : Int) : Bool :=
  (Nat.beq v1.1 v2.1 && zle (v1.2 - v2.2) c) || Z.any (fun z => Nat.beq z.1 v1.1 && Nat.beq z.2.1 v2.1 && zle (z.2.2 + v1.2 - v2.2) c) || (match zrng E v1, zrng E v2 with
    | some i, some j => zle (i.2 - j.1) c
    | _, _ => false)
theorem zzle_ok {r : Nat → Int} {E : zE} {Z : zZ} (hE : zokE r E) (hZ : zokZ r Z) {v1 v2 : zV} {c : Int} (h : zzle E Z v1 v2 c = true) : zev r v1 - zev r v2 ≤ c := by
  simp only [zzle, Bool.or_eq_true] at h
  rcases h with (h | h) | h
  · simp only [Bool.and_eq_true] at h
    have a := Nat.eq_of_beq_eq_true h.1
    have b := zle_ok h.2
    unfold zev
    rw [a]
    omega
  · obtain ⟨z, hz, q⟩ := List.any_eq_true.mp h
    simp only [Bool.and_eq_true] at q
    have a := Nat.eq_of_beq_eq_true q.1.1
    have b := Nat.eq_of_beq_eq_true q.1.2
    have d := zle_ok q.2
    have e := hZ z hz
    rw [a, b] at e
    unfold zev
    omega
  · cases h1 : zrng E v1 with
    | none => rw [h1] at h; cases h
    | some i =>
      cases h2 : zrng E v2 with
      | none => rw [h1, h2] at h; cases h
      | some j =>
        rw [h1, h2] at h
        have a := zrng_ok hE h1
        have b := zrng_ok hE h2
        have d := zle_ok h
        omega
end
section
def ztR (th : Nat → zV) (q : zR) : zR := bif q.1 then (true, ((th q.2.1).1, q.2.2 - (th q.2.1).2)) else (false, ztv th q.2)
theorem ztR_ok (r : Nat → Int) (th : Nat → zV) (q : zR) : zrv r (ztR th q) = zrv (fun s => zev r (th s)) q := by
  obtain ⟨b, v⟩ := q
  cases b with
  | true =>
    show v.2 - (th v.1).2 - r (th v.1).1 = v.2 - zev r (th v.1)
    unfold zev
    omega
  | false => exact ztv_ok r th v
def zrle (E : zE) (Z : zZ) (t q : zR) (k : Int) : Bool := match t.1, q.1 with
  | false, false => zzle E Z t.2 q.2 (-k)
  | true, true => zzle E Z (q.2.1, -q.2.2) (t.2.1, -t.2.2) (-k)
  | _, _ => false
theorem zrle_ok {r : Nat → Int} {E : zE} {Z : zZ} (hE : zokE r E) (hZ : zokZ r Z) {t q : zR} {k : Int} (h : zrle E Z t q k = true) : zrv r t + k ≤ zrv r q := by
  obtain ⟨b, v⟩ := t
  obtain ⟨d, u⟩ := q
  cases b <;> cases d
  · have a := zzle_ok hE hZ h
    show r v.1 + v.2 + k ≤ r u.1 + u.2
    unfold zev at a
    dsimp only at a
    omega
  · cases h
  · cases h
  · have a := zzle_ok hE hZ h
    show v.2 - r v.1 + k ≤ u.2 - r u.1
    unfold zev at a
    dsimp only at a
    omega
def zrrg (E : zE) (q : zR) : Option zI := bif q.1 then (match zrng E (q.2.1, 0) with
  | some i => some (q.2.2 - i.2, q.2.2 - i.1)
  | none => none) else zrng E q.2
theorem zrrg_ok {r : Nat → Int} {E : zE} (hE : zokE r E) {q : zR} {i : zI} (h : zrrg E q = some i) : i.1 ≤ zrv r q ∧ zrv r q ≤ i.2 := by
  obtain ⟨b, v⟩ := q
  cases b with
  | true =>
    simp only [zrrg, cond] at h
    cases hr : zrng E (v.1, 0) with
    | none => rw [hr] at h; cases h
    | some j =>
      rw [hr] at h
      have e : (v.2 - j.2, v.2 - j.1) = i := Option.some.inj h
      subst e
      have a := zrng_ok hE hr
      unfold zev at a
      dsimp only at a
      show v.2 - j.2 ≤ v.2 - r v.1 ∧ v.2 - r v.1 ≤ v.2 - j.1
      omega
  | false => exact zrng_ok hE h
def zrin (E : zE) (q : zR) : Bool := match zrrg E q with
  | some i => zle 0 i.1 && zle i.2 18446744073709551615
  | none => false
theorem zrin_ok {r : Nat → Int} {E : zE} (hE : zokE r E) {q : zR} (h : zrin E q = true) : 0 ≤ zrv r q ∧ zrv r q < 18446744073709551616 := by
  unfold zrin at h
  cases hr : zrrg E q with
  | none => rw [hr] at h; cases h
  | some i =>
    rw [hr] at h
    simp only [Bool.and_eq_true] at h
    have a := zle_ok h.1
    have b := zle_ok h.2
    have c := zrrg_ok hE hr
    omega
def zlex (E : zE) (Z : zZ) : List zR → List zR → Bool
  | q :: qs, t :: ts => (zrle E Z t q 1 && zrin E t && ts.all (zrin E) && Nat.beq qs.length ts.length) || (zrle E Z t q 0 && Nat.beq qs.length ts.length && zlex E Z qs ts)
  | _, _ => false
theorem zenc_lt {r : Nat → Int} {E : zE} (hE : zokE r E) : ∀ (ts : List zR), ts.all (zrin E) = true → zenc r ts < 2 ^ (64 * ts.length)
  | [], _ => by simp [zenc]
  | t :: ts, h => by
    simp only [List.all_cons, Bool.and_eq_true] at h
    have a := zenc_lt hE ts h.2
    have b := zrin_ok hE h.1
    have e : 2 ^ (64 * (t :: ts).length) = 18446744073709551616 * 2 ^ (64 * ts.length) := by
      rw [List.length_cons, Nat.mul_add, Nat.pow_add, Nat.mul_comm]
    rw [e]
    show (zrv r t).toNat * 2 ^ (64 * ts.length) + zenc r ts < _
    have c : (zrv r t).toNat + 1 ≤ 18446744073709551616 := by omega
    have d := Nat.mul_le_mul_right (2 ^ (64 * ts.length)) c
    rw [Nat.add_mul] at d
    omega
theorem zlex_ok {r : Nat → Int} {E : zE} {Z : zZ} (hE : zokE r E) (hZ : zokZ r Z) : ∀ (qs ts : List zR), zlex E Z qs ts = true → zenc r ts < zenc r qs
  | [], _, h => by cases h
  | _ :: _, [], h => by cases h
  | q :: qs, t :: ts, h => by
    simp only [zlex, Bool.or_eq_true] at h
    show (zrv r t).toNat * 2 ^ (64 * ts.length) + zenc r ts < (zrv r q).toNat * 2 ^ (64 * qs.length) + zenc r qs
    rcases h with h | h
    · simp only [Bool.and_eq_true] at h
      have a := zrle_ok hE hZ h.1.1.1
      have b := zrin_ok hE h.1.1.2
      have c := zenc_lt hE ts h.1.2
      have l := Nat.eq_of_beq_eq_true h.2
      rw [l]
      have d : (zrv r t).toNat + 1 ≤ (zrv r q).toNat := by omega
      have e := Nat.mul_le_mul_right (2 ^ (64 * ts.length)) d
      rw [Nat.add_mul] at e
      omega
    · simp only [Bool.and_eq_true] at h
      have a := zrle_ok hE hZ h.1.1
      have l := Nat.eq_of_beq_eq_true h.1.2
      have i := zlex_ok hE hZ qs ts h.2
      rw [l]
      have d : (zrv r t).toNat ≤ (zrv r q).toNat := by omega
      have e := Nat.mul_le_mul_right (2 ^ (64 * ts.length)) d
      omega
theorem zenc_t (r : Nat → Int) (th : Nat → zV) : ∀ (qs : List zR), zenc r (qs.map (ztR th)) = zenc (fun s => zev r (th s)) qs
  | [] => rfl
  | q :: qs => by
    show (zrv r (ztR th q)).toNat * 2 ^ (64 * (qs.map (ztR th)).length) + zenc r (qs.map (ztR th)) = (zrv _ q).toNat * 2 ^ (64 * qs.length) + zenc _ qs
    rw [ztR_ok, zenc_t r th qs, List.length_map]
def zlk {α : Type} : List (Nat × α) → Nat → Option α
  | [], _ => none
  | e :: es, s => bif Nat.beq e.1 s then some e.2 else zlk es s
def zth (K : Nat) (L : List (Nat × zV)) (s : Nat) : zV := bif Nat.blt s K then (s, 0) else (zlk L s).getD (0, 0)
def zka (M : List (Nat × Nat)) (i : Nat) : Nat := (zlk M i).getD i
def zJ (K : Nat) (pins : List Nat) (r0 : Nat → Int) (ad0 : Nat → Nat) (r : Nat → Int) (ad : Nat → Nat) : Prop := (∀ i, i < K → r i = r0 i) ∧ ∀ i ∈ pins, ad i = ad0 i
def zent (K : Nat) (pins : List Nat) (S T : zS) (L : List (Nat × zV)) (M : List (Nat × Nat)) (is : List Nat) : Bool :=
  Nat.blt 0 K && (T.2.2.1.all (fun x => decide (zlk S.2.2.1 x.1 = some (ztA (zth K L) (zka M) x.2)))
  && (decide (T.2.2.2.1.map (ztA (zth K L) (zka M)) = S.2.2.2.1)
  && (T.1.all (fun x => match zrng S.1 (zth K L x.1) with
    | some i => zle x.2.1 i.1 && zle i.2 x.2.2
    | none => false)
  && (T.2.1.all (fun z => zzle S.1 S.2.1 (zth K L z.1) (zth K L z.2.1) z.2.2)
  && (zWle S.1 (zth K L) (zka M) S.2.2.2.2.1 is T.2.2.2.2.1 && (va_nd is
  && pins.all (fun i => Nat.beq (zka M i) i)))))))
theorem zlk_mem {α : Type} {i : Nat} {a : α} : ∀ {l : List (Nat × α)}, zlk l i = some a → (i, a) ∈ l
  | [], h => by cases h
  | e :: es, h => by
    unfold zlk at h
    cases hb : Nat.beq e.1 i with
    | true =>
      rw [hb] at h
      have h1 := Nat.eq_of_beq_eq_true hb
      have h2 : e.2 = a := Option.some.inj h
      have : (i, a) = e := by rw [← h1, ← h2]
      rw [this]
      exact List.mem_cons_self
    | false =>
      rw [hb] at h
      exact List.mem_cons_of_mem _ (zlk_mem h)
theorem zlv_sub {ls : Array Slot} {nL : Nat} {l l' : List (Nat × Value)} (h : lv_has ls nL l) (hs : ∀ q ∈ l', q ∈ l) : lv_has ls nL l' := ⟨h.1, h.2.1, fun q hq => h.2.2 q (hs q hq)⟩
theorem zent_ok {K : Nat} {pins : List Nat} {S T : zS} {L : List (Nat × zV)} {M : List (Nat × Nat)} {is : List Nat} (h : zent K pins S T L M is = true) {D : va_G} {cl : List vw_C} {kA : Nat → ClassId} {A : Nat → Prop} {H0 : Heap} {nL : Nat} {r r0 : Nat → Int} {ad ad0 : Nat → Nat} {ph : Nat → Nat → Int} {H : Heap} {locs : List Loc} {ls : Array Slot} (hJ : zJ K pins r0 ad0 r ad) (hR : zRel D cl kA A H0 nL S r ad ph H locs ls) :
    zJ K pins r0 ad0 (fun s => zev r (zth K L s)) (fun i => ad (zka M i)) ∧ zRel D cl kA A H0 nL T (fun s => zev r (zth K L s)) (fun i => ad (zka M i)) (fun i => ph (zka M i)) H locs ls ∧ S.2.2.2.1.map (zcv r ad) = T.2.2.2.1.map (zcv (fun s => zev r (zth K L s)) (fun i => ad (zka M i))) := by
  simp only [zent, Bool.and_eq_true] at h
  obtain ⟨h0, h3, h4, h1, h2, h5, h6, h7⟩ := h
  obtain ⟨hE, hZ, hW, hP, hD, hS, hl⟩ := hR
  have rig : ∀ s, s < K → zth K L s = (s, 0) := fun s hs => by
    unfold zth
    have e : Nat.blt s K = true := Nat.ble_eq.mpr hs
    rw [e]
    rfl
  obtain ⟨w1, w2⟩ := zWle_ok hE (zth K L) (zka M) kA ad ph hW is _ h5
  refine ⟨⟨fun i hi => ?_, fun i hi => ?_⟩, ⟨⟨?_, fun x hx => ?_⟩, fun z hz => ?_, w2, ?_, hD.sub is h6 w1, hS, ?_⟩, ?_⟩
  · show zev r (zth K L i) = r0 i
    rw [rig i hi]
    have := hJ.1 i hi
    unfold zev
    dsimp only
    omega
  · show ad (zka M i) = ad0 i
    rw [Nat.eq_of_beq_eq_true (List.all_eq_true.mp h7 i hi)]
    exact hJ.2 i hi
  · show zev r (zth K L 0) = 0
    rw [rig 0 (zblt h0)]
    have := hE.1
    unfold zev
    dsimp only
    omega
  · have q := List.all_eq_true.mp h1 x hx
    cases hr : zrng S.1 (zth K L x.1) with
    | none => rw [hr] at q; cases q
    | some i =>
      rw [hr] at q
      simp only [Bool.and_eq_true] at q
      have a := zle_ok q.1
      have b := zle_ok q.2
      have c := zrng_ok hE hr
      show x.2.1 ≤ zev r (zth K L x.1) ∧ zev r (zth K L x.1) ≤ x.2.2
      omega
  · exact zzle_ok hE hZ (List.all_eq_true.mp h2 z hz)
  · intro k q hk
    have e : (is.map (fun i => (zws kA r ad ph S.2.2.2.2.1)[i]?))[k]? = some (some q) := by rw [w1, List.getElem?_map, hk]; rfl
    rw [List.getElem?_map] at e
    cases hi : is[k]? with
    | none => rw [hi] at e; cases e
    | some i =>
      rw [hi] at e
      exact hP i q (Option.some.inj e)
  · refine zlv_sub hl (fun q hq => ?_)
    obtain ⟨x, hx, rfl⟩ := List.mem_map.mp hq
    have e : zlk S.2.2.1 x.1 = some (ztA (zth K L) (zka M) x.2) := of_decide_eq_true (List.all_eq_true.mp h3 x hx)
    refine List.mem_map.mpr ⟨_, zlk_mem e, ?_⟩
    show (x.1, zcv r ad (ztA (zth K L) (zka M) x.2)) = _
    rw [ztA_ok]
  · have e : T.2.2.2.1.map (ztA (zth K L) (zka M)) = S.2.2.2.1 := of_decide_eq_true h4
    rw [← e, List.map_map]
    exact List.map_congr_left (fun a _ => ztA_ok r ad _ _ a)
end
section
abbrev ztys (kA : Nat → ClassId) : List (ClassId × FieldType) := [(kA 0, .int), (kA 1, .boolean), (kA 2, .object "VowTerrace$Terrace"), (kA 3, .object "VowTerrace$Sheet")]
abbrev zGT : Type := Nat → Heap → List Loc → Array Slot → List Value → Prop
abbrev zGW (p : Program) (l : Launch) (e : Env) (R : Room) (s : State) (m : MethodId) (args : Array Value) (below : List Frame) (meth : Method) (c : Code) (cells slots : Nat) (Q : State → Prop) : zGT := fun pc H locs ls st => W p l e R s m args below meth c H locs cells slots Q (F0 m pc ls st)
def zGo (G : zGT) (D : va_G) (cl : List vw_C) (kA : Nat → ClassId) (A : Nat → Prop) (H0 : Heap) (nL K : Nat) (pins : List Nat) (r0 : Nat → Int) (ad0 : Nat → Nat) (N : Nat) (pc : Nat) (S : zS) : Prop :=
  ∀ (r : Nat → Int) (ad : Nat → Nat) (ph : Nat → Nat → Int) (H : Heap) (locs : List Loc) (ls : Array Slot), zJ K pins r0 ad0 r ad → zRel D cl kA A H0 nL S r ad ph H locs ls → zenc r S.2.2.2.2.2 = N → G pc H locs ls (S.2.2.2.1.map (zcv r ad))
def zst (S : zS) (st : List zA) : zS := (S.1, S.2.1, S.2.2.1, st, S.2.2.2.2.1, S.2.2.2.2.2)
def zsl (S : zS) (lo : List (Nat × zA)) (st : List zA) : zS := (S.1, S.2.1, lo, st, S.2.2.2.2.1, S.2.2.2.2.2)
def zse (S : zS) (q : zE × zZ) (st : List zA) : zS := (q.1, q.2, S.2.2.1, st, S.2.2.2.2.1, S.2.2.2.2.2)
def zsw (S : zS) (w : zW) (st : List zA) : zS := (S.1, S.2.1, S.2.2.1, st, w, S.2.2.2.2.2)
def zputI (n : Nat) (S : zS) (st : List zA) : zV ⊕ zI → zS
  | .inl v => zst S (.inl (.inl v) :: st)
  | .inr i => ((n, i) :: S.1, S.2.1, S.2.2.1, .inl (.inl (n, 0)) :: st, S.2.2.2.2.1, S.2.2.2.2.2)
def zputL (n : Nat) (S : zS) (st : List zA) : zV ⊕ zI → zS
  | .inl v => zst S (.inl (.inr v) :: st)
  | .inr i => ((n, i) :: S.1, S.2.1, S.2.2.1, .inl (.inr (n, 0)) :: st, S.2.2.2.2.1, S.2.2.2.2.2)
def zfr (n K : Nat) (S : zS) : Bool := Nat.ble 1 K && Nat.ble K n && zbS n S
section ZGO
variable {G : zGT} {D : va_G} {cl : List vw_C} {kA : Nat → ClassId} {A : Nat → Prop} {H0 : Heap} {nL K : Nat} {pins : List Nat} {r0 : Nat → Int} {ad0 : Nat → Nat} {N : Nat} {pc : Nat} {S : zS}
theorem zfresh {n : Nat} {st : List zA} (hf : zfr n K (zst S st) = true) {r : Nat → Int} {ad : Nat → Nat} {ph : Nat → Nat → Int} {H : Heap} {locs : List Loc} {ls : Array Slot} (hJ : zJ K pins r0 ad0 r ad) (hR : zRel D cl kA A H0 nL S r ad ph H locs ls) (hN : zenc r S.2.2.2.2.2 = N) (z : Int) :
    let r' : Nat → Int := fun i => if i = n then z else r i
    zJ K pins r0 ad0 r' ad ∧ zRel D cl kA A H0 nL S r' ad ph H locs ls ∧ st.map (zcv r' ad) = st.map (zcv r ad) ∧ zenc r' S.2.2.2.2.2 = N ∧ r' n = z := by
  intro r'
  simp only [zfr, Bool.and_eq_true] at hf
  have k1 := Nat.le_of_ble_eq_true hf.1.1
  have k2 := Nat.le_of_ble_eq_true hf.1.2
  have hag : ∀ i, i < n → r' i = r i := fun i hi => if_neg (by omega)
  have q := zbS_ok (S := zst S st) (by omega) hag hf.2 hR
  exact ⟨⟨fun i hi => by rw [hag i (by omega)]; exact hJ.1 i hi, hJ.2⟩, q.1, q.2.1, q.2.2.trans hN, if_pos rfl⟩
theorem zputI_go {n : Nat} {st : List zA} {q : zV ⊕ zI} (hf : zfr n K (zst S st) = true) (hgo : zGo G D cl kA A H0 nL K pins r0 ad0 N pc (zputI n S st q)) {r : Nat → Int} {ad : Nat → Nat} {ph : Nat → Nat → Int} {H : Heap} {locs : List Loc} {ls : Array Slot} (hJ : zJ K pins r0 ad0 r ad) (hR : zRel D cl kA A H0 nL S r ad ph H locs ls) (hN : zenc r S.2.2.2.2.2 = N) {z : Int32} (hz : zresI r z q) : G pc H locs ls (.int z :: st.map (zcv r ad)) := by
  rcases q with v | i
  · have e : z = Int32.ofInt (zev r v) := hz
    rw [e]
    exact hgo r ad ph H locs ls hJ hR hN
  · obtain ⟨h1, h2, h3, h4, h5⟩ := zfresh hf hJ hR hN z.toInt
    have g := hgo _ ad ph H locs ls h1 ⟨⟨h2.1.1, fun x hx => by
      rcases List.mem_cons.mp hx with e | e
      · subst e
        dsimp only
        rw [if_pos rfl]
        exact hz
      · exact h2.1.2 x e⟩, h2.2⟩ h4
    have e2 : (zputI n S st (.inr i)).2.2.2.1.map (zcv (fun i => if i = n then z.toInt else r i) ad) = .int z :: st.map (zcv r ad) := by
      show Value.int (Int32.ofInt (zev _ (n, 0))) :: st.map _ = _
      rw [h3]
      congr 2
      unfold zev
      dsimp only
      rw [if_pos rfl, Int.add_zero, Int32.ofInt_toInt]
    rw [e2] at g
    exact g
theorem zputL_go {n : Nat} {st : List zA} {q : zV ⊕ zI} (hf : zfr n K (zst S st) = true) (hgo : zGo G D cl kA A H0 nL K pins r0 ad0 N pc (zputL n S st q)) {r : Nat → Int} {ad : Nat → Nat} {ph : Nat → Nat → Int} {H : Heap} {locs : List Loc} {ls : Array Slot} (hJ : zJ K pins r0 ad0 r ad) (hR : zRel D cl kA A H0 nL S r ad ph H locs ls) (hN : zenc r S.2.2.2.2.2 = N) {z : Int64} (hz : zresL r z q) : G pc H locs ls (.long z :: st.map (zcv r ad)) := by
  rcases q with v | i
  · have e : z = Int64.ofInt (zev r v) := hz
    rw [e]
    exact hgo r ad ph H locs ls hJ hR hN
  · obtain ⟨h1, h2, h3, h4, h5⟩ := zfresh hf hJ hR hN z.toInt
    have g := hgo _ ad ph H locs ls h1 ⟨⟨h2.1.1, fun x hx => by
      rcases List.mem_cons.mp hx with e | e
      · subst e
        dsimp only
        rw [if_pos rfl]
        exact hz
      · exact h2.1.2 x e⟩, h2.2⟩ h4
    have e2 : (zputL n S st (.inr i)).2.2.2.1.map (zcv (fun i => if i = n then z.toInt else r i) ad) = .long z :: st.map (zcv r ad) := by
      show Value.long (Int64.ofInt (zev _ (n, 0))) :: st.map _ = _
      rw [h3]
      congr 2
      unfold zev
      dsimp only
      rw [if_pos rfl, Int.add_zero, Int64.ofInt_toInt]
    rw [e2] at g
    exact g
theorem zlocal {i : Nat} {a : zA} (hl : zlk S.2.2.1 i = some a) {r : Nat → Int} {ad : Nat → Nat} {ph : Nat → Nat → Int} {H : Heap} {locs : List Loc} {ls : Array Slot} (hR : zRel D cl kA A H0 nL S r ad ph H locs ls) : ls[i]? = some (.val (zcv r ad a)) :=
  hR.2.2.2.2.2.2.2.2 (i, zcv r ad a) (List.mem_map.mpr ⟨_, zlk_mem hl, rfl⟩)
end ZGO
def zset1 (lo : List (Nat × zA)) (i : Nat) (a : zA) : List (Nat × zA) := (i, a) :: lo.filter (fun q => !(q.1 == i) && !(q.1 + 1 == i && zcat q.2 == 2))
def zset2 (lo : List (Nat × zA)) (i : Nat) (a : zA) : List (Nat × zA) := (i, a) :: lo.filter (fun q => !(q.1 == i) && (!(q.1 == i + 1) && !(q.1 + 1 == i && zcat q.2 == 2)))
theorem zset1_ok (r : Nat → Int) (ad : Nat → Nat) (lo : List (Nat × zA)) (i : Nat) (a : zA) : (i, zcv r ad a) :: (lo.map (fun x => (x.1, zcv r ad x.2))).filter (fun q => !(q.1 == i) && !(q.1 + 1 == i && q.2.category == 2)) = (zset1 lo i a).map (fun x => (x.1, zcv r ad x.2)) := by
  unfold zset1
  rw [List.map_cons, List.filter_map]
  congr 2
  apply List.filter_congr
  intro x _
  show (!(x.1 == i) && !(x.1 + 1 == i && (zcv r ad x.2).category == 2)) = _
  rw [zcat_ok]
theorem zset2_ok (r : Nat → Int) (ad : Nat → Nat) (lo : List (Nat × zA)) (i : Nat) (a : zA) : (i, zcv r ad a) :: (lo.map (fun x => (x.1, zcv r ad x.2))).filter (fun q => !(q.1 == i) && (!(q.1 == i + 1) && !(q.1 + 1 == i && q.2.category == 2))) = (zset2 lo i a).map (fun x => (x.1, zcv r ad x.2)) := by
  unfold zset2
  rw [List.map_cons, List.filter_map]
  congr 2
  apply List.filter_congr
  intro x _
  show (!(x.1 == i) && (!(x.1 == i + 1) && !(x.1 + 1 == i && (zcv r ad x.2).category == 2))) = _
  rw [zcat_ok]
end
section
def znz (j : zI) : Bool := zle 1 j.1 || zle j.2 (-1)
theorem znz_ok {r : Nat → Int} {j : zI} {v : zV} (hj : zB r j v) (h : znz j = true) : zev r v < 0 ∨ 0 < zev r v := by
  obtain ⟨b1, b2⟩ := hj
  simp only [znz, Bool.or_eq_true] at h
  rcases h with h | h
  · have := zle_ok h; omega
  · have := zle_ok h; omega
def zbin (ins : Instr) (i j : zI) (v1 v2 : zV) : Option (zV ⊕ zI) := match ins with
  | .iadd => some (zadd i j v1 v2)
  | .isub => some (zsub i j v1 v2)
  | .imul => some (zmul i j v1 v2)
  | .iand => some (zand i j v1 v2)
  | .ior => some (zor i j v1 v2)
  | .ixor => some (.inr zfull)
  | .ishl => some (zshl i j v1 v2)
  | .ishr => some (zshr i j v1 v2)
  | .iushr => some (.inr zfull)
  | .idiv => bif znz j then some (zdiv i j v1 v2) else none
  | .irem => bif znz j then some (zrem i j v1 v2) else none
  | _ => none
def zbinL (ins : Instr) (i j : zI) (v1 v2 : zV) : Option (zV ⊕ zI) := match ins with
  | .ladd => some (zaddL i j v1 v2)
  | .lmul => some (zmulL i j v1 v2)
  | .ldiv => bif znz j then some (zdivL i j v1 v2) else none
  | _ => none
def zun (ins : Instr) (i : zI) (v : zV) : Option (zV ⊕ zI) := match ins with
  | .ineg => some (zneg i v)
  | .i2b => some (.inr (-128, 127))
  | .i2s => some (.inr (-32768, 32767))
  | .i2c => some (.inr (0, 65535))
  | _ => none
section ZSA
variable {p : Program} {l : Launch} {e : Env} {R : Room} {s : State} {m : MethodId} {args : Array Value} {below : List Frame} {meth : Method} {c : Code} {cells slots : Nat} {Q : State → Prop} {cc : ByteArray} {pc : Nat} {ls : Array Slot} {H : Heap} {locs : List Loc} {rest : List Value} {r : Nat → Int} {i j : zI} {v1 v2 : zV} {q : zV ⊕ zI} {ins : Instr}
theorem zbin_W (hx : p.tables.exec = Jvm.exec) (hb : c.code = cc) (hdg : decode cc pc = .ok (ins, 1)) (h : zbin ins i j v1 v2 = some q) (h0 : r 0 = 0) (hi : zB r i v1) (hj : zB r j v2) (ii : zint i = true) (jj : zint j = true)
    (k : ∀ z : Int32, zresI r z q → W p l e R s m args below meth c H locs cells slots Q (F0 m (pc + 1) ls (.int z :: rest))) : W p l e R s m args below meth c H locs cells slots Q (F0 m pc ls (.int (Int32.ofInt (zev r v2)) :: .int (Int32.ofInt (zev r v1)) :: rest)) := by
  have cj := zint_ok jj hj.1 hj.2
  unfold zbin at h
  split at h
  · cases h; exact lv_iadd hx hb hdg (k _ (zadd_ok h0 hi hj ii jj))
  · cases h; exact lv_isub hx hb hdg (k _ (zsub_ok h0 hi hj ii jj))
  · cases h; exact lv_imul hx hb hdg (k _ (zmul_ok h0 hi hj ii jj))
  · cases h; exact lv_iand hx hb hdg (k _ (zand_ok hi hj ii jj))
  · cases h; exact lv_ior hx hb hdg (k _ (zor_ok hi hj ii jj))
  · cases h; exact lv_ixor hx hb hdg (k _ (zres_full _ _))
  · cases h; exact lv_ishl hx hb hdg (k _ (zshl_ok hi hj ii jj))
  · cases h; exact lv_ishr hx hb hdg (k _ (zshr_ok hi ii))
  · cases h; exact lv_iushr hx hb hdg rfl (k _ (zres_full _ _))
  · cases hz : znz j with
    | false => rw [hz] at h; cases h
    | true => rw [hz] at h; cases h; exact lv_idiv hx hb hdg (zq_ne cj.1 cj.2 (znz_ok hj hz)) (k _ (zdiv_ok hi hj ii jj))
  · cases hz : znz j with
    | false => rw [hz] at h; cases h
    | true => rw [hz] at h; cases h; exact lv_irem hx hb hdg (zq_ne cj.1 cj.2 (znz_ok hj hz)) (k _ (zrem_ok hi hj ii jj))
  · cases h
theorem zbinL_W (hx : p.tables.exec = Jvm.exec) (hb : c.code = cc) (hdg : decode cc pc = .ok (ins, 1)) (h : zbinL ins i j v1 v2 = some q) (h0 : r 0 = 0) (hi : zB r i v1) (hj : zB r j v2) (ii : zlng i = true) (jj : zlng j = true)
    (k : ∀ z : Int64, zresL r z q → W p l e R s m args below meth c H locs cells slots Q (F0 m (pc + 1) ls (.long z :: rest))) : W p l e R s m args below meth c H locs cells slots Q (F0 m pc ls (.long (Int64.ofInt (zev r v2)) :: .long (Int64.ofInt (zev r v1)) :: rest)) := by
  have cj := zlng_ok jj hj.1 hj.2
  unfold zbinL at h
  split at h
  · cases h; exact lv_ladd hx hb hdg (k _ (zaddL_ok h0 hi hj ii jj))
  · cases h; exact lv_lmul hx hb hdg (k _ (zmulL_ok hi hj ii jj))
  · cases hz : znz j with
    | false => rw [hz] at h; cases h
    | true => rw [hz] at h; cases h; exact lv_ldiv hx hb hdg (zq_neL cj.1 cj.2 (znz_ok hj hz)) (k _ (zdivL_ok hi hj ii jj))
  · cases h
theorem zun_W (hx : p.tables.exec = Jvm.exec) (hb : c.code = cc) (hdg : decode cc pc = .ok (ins, 1)) (h : zun ins i v1 = some q) (h0 : r 0 = 0) (hi : zB r i v1) (ii : zint i = true)
    (k : ∀ z : Int32, zresI r z q → W p l e R s m args below meth c H locs cells slots Q (F0 m (pc + 1) ls (.int z :: rest))) : W p l e R s m args below meth c H locs cells slots Q (F0 m pc ls (.int (Int32.ofInt (zev r v1)) :: rest)) := by
  unfold zun at h
  split at h
  · cases h; exact lv_ineg hx hb hdg (k _ (zneg_ok h0 hi ii))
  · cases h
    refine lv_i2b hx hb hdg rfl (k _ ?_)
    show _ ≤ _ ∧ _ ≤ _
    rw [Int8.toInt_toInt32]
    have a := Int8.le_toInt (Int32.ofInt (zev r v1)).toInt8
    have b := Int8.toInt_lt (Int32.ofInt (zev r v1)).toInt8
    dsimp only
    omega
  · cases h
    refine lv_i2s hx hb hdg rfl (k _ ?_)
    show _ ≤ _ ∧ _ ≤ _
    rw [Int16.toInt_toInt32]
    have a := Int16.le_toInt (Int32.ofInt (zev r v1)).toInt16
    have b := Int16.toInt_lt (Int32.ofInt (zev r v1)).toInt16
    dsimp only
    omega
  · cases h
    refine lv_i2c hx hb hdg rfl (k _ ?_)
    rw [pk_char]
    show _ ≤ _ ∧ _ ≤ _
    have a : (Int32.ofInt (zev r v1)).toBitVec.toNat % 65536 < 65536 := Nat.mod_lt _ (by omega)
    rw [nI_toInt (by omega)]
    dsimp only
    omega
  · cases h
end ZSA
theorem zq_i8 {k : Int} (h1 : -128 ≤ k) (h2 : k ≤ 127) : (Int8.ofInt k).toInt32 = Int32.ofInt k := by
  apply Int32.toInt_inj.1
  rw [Int8.toInt_toInt32, Int8.toInt_ofInt, show Int8.size = 256 from rfl, zq_of (by omega) (by omega), Int.bmod_eq_of_le (by omega) (by omega)]
theorem zq_i16 {k : Int} (h1 : -32768 ≤ k) (h2 : k ≤ 32767) : (Int16.ofInt k).toInt32 = Int32.ofInt k := by
  apply Int32.toInt_inj.1
  rw [Int16.toInt_toInt32, Int16.toInt_ofInt, show Int16.size = 65536 from rfl, zq_of (by omega) (by omega), Int.bmod_eq_of_le (by omega) (by omega)]
theorem zq_i2l {k : Int} (h1 : -2147483648 ≤ k) (h2 : k ≤ 2147483647) : (Int32.ofInt k).toInt64 = Int64.ofInt k := by
  apply Int64.toInt_inj.1
  rw [Int32.toInt_toInt64, zq_of h1 h2, zq_ofL (by omega) (by omega)]
theorem zq_l2i {k : Int} (h1 : -2147483648 ≤ k) (h2 : k ≤ 2147483647) : (Int64.ofInt k).toInt32 = Int32.ofInt k := by
  apply Int32.toInt_inj.1
  rw [Int64.toInt_toInt32, zq_ofL (by omega) (by omega), zq_of h1 h2, zq_bmod h1 h2]
def zld (S : zS) (pc i : Nat) (t : Nat) : Option (List (Nat × zS)) := match zlk S.2.2.1 i, t with
  | some (.inl (.inl v)), 0 => some [(pc, zst S (.inl (.inl v) :: S.2.2.2.1))]
  | some (.inl (.inr v)), 1 => some [(pc, zst S (.inl (.inr v) :: S.2.2.2.1))]
  | some (.inr (some a)), 2 => some [(pc, zst S (.inr (some a) :: S.2.2.2.1))]
  | _, _ => none
def zso (nL : Nat) (S : zS) (pc i : Nat) (t : Nat) : Option (List (Nat × zS)) := match S.2.2.2.1, t with
  | .inl (.inl v) :: st, 0 => bif Nat.blt i nL then some [(pc, zsl S (zset1 S.2.2.1 i (.inl (.inl v))) st)] else none
  | .inl (.inr v) :: st, 1 => bif Nat.blt (i + 1) nL then some [(pc, zsl S (zset2 S.2.2.1 i (.inl (.inr v))) st)] else none
  | .inr (some a) :: st, 2 => bif Nat.blt i nL then some [(pc, zsl S (zset1 S.2.2.1 i (.inr (some a))) st)] else none
  | _, _ => none
def zstepA (cons lcons : List (Nat × Int)) (nL K n : Nat) (S : zS) (pc : Nat) (ins : Instr) : Option (List (Nat × zS)) := match ins with
  | .iconst k => some [(pc + 1, zst S (.inl (.inl (0, k)) :: S.2.2.2.1))]
  | .bipush k => bif zle (-128) k && zle k 127 then some [(pc + 2, zst S (.inl (.inl (0, k)) :: S.2.2.2.1))] else none
  | .sipush k => bif zle (-32768) k && zle k 32767 then some [(pc + 3, zst S (.inl (.inl (0, k)) :: S.2.2.2.1))] else none
  | .lconst k => some [(pc + 1, zst S (.inl (.inr (0, (k.val : Int))) :: S.2.2.2.1))]
  | .ldc k => match zlk cons k with
    | some z => some [(pc + 2, zst S (.inl (.inl (0, z)) :: S.2.2.2.1))]
    | none => none
  | .ldc_w k => match zlk cons k with
    | some z => some [(pc + 3, zst S (.inl (.inl (0, z)) :: S.2.2.2.1))]
    | none => none
  | .ldc2_w k => match zlk lcons k with
    | some z => some [(pc + 3, zst S (.inl (.inr (0, z)) :: S.2.2.2.1))]
    | none => none
  | .iload i => zld S (pc + 2) i 0
  | .iload_n i => zld S (pc + 1) i.val 0
  | .lload i => zld S (pc + 2) i 1
  | .lload_n i => zld S (pc + 1) i.val 1
  | .aload i => zld S (pc + 2) i 2
  | .aload_n i => zld S (pc + 1) i.val 2
  | .istore i => zso nL S (pc + 2) i 0
  | .istore_n i => zso nL S (pc + 1) i.val 0
  | .lstore i => zso nL S (pc + 2) i 1
  | .lstore_n i => zso nL S (pc + 1) i.val 1
  | .astore i => zso nL S (pc + 2) i 2
  | .astore_n i => zso nL S (pc + 1) i.val 2
  | .goto o => bif zle 0 ((pc : Int) + o) then some [(((pc : Int) + o).toNat, S)] else none
  | .dup => match S.2.2.2.1 with
    | a :: st => bif Nat.beq (zcat a) 1 then some [(pc + 1, zst S (a :: a :: st))] else none
    | _ => none
  | .dup2 => match S.2.2.2.1 with
    | a :: b :: st => bif Nat.beq (zcat a) 1 && Nat.beq (zcat b) 1 then some [(pc + 1, zst S (a :: b :: a :: b :: st))] else none
    | _ => none
  | .pop => match S.2.2.2.1 with
    | a :: st => bif Nat.beq (zcat a) 1 then some [(pc + 1, zst S st)] else none
    | _ => none
  | .pop2 => match S.2.2.2.1 with
    | a :: st => bif Nat.beq (zcat a) 2 then some [(pc + 1, zst S st)] else none
    | _ => none
  | .i2l => match S.2.2.2.1 with
    | .inl (.inl v) :: st => match zrng S.1 v with
      | some i => bif zint i then some [(pc + 1, zst S (.inl (.inr v) :: st))] else none
      | none => none
    | _ => none
  | .l2i => match S.2.2.2.1 with
    | .inl (.inr v) :: st => match zrng S.1 v with
      | some i => bif zint i then some [(pc + 1, zst S (.inl (.inl v) :: st))] else none
      | none => none
    | _ => none
  | .iinc i k => match zlk S.2.2.1 i with
    | some (.inl (.inl v)) => match zrng S.1 v with
      | some b => bif zint b && zint (k, k) && Nat.blt i nL && zfr n K S then (match zadd b (k, k) v (0, k) with
        | .inl u => some [(pc + 3, zsl S (zset1 S.2.2.1 i (.inl (.inl u))) S.2.2.2.1)]
        | .inr b => some [(pc + 3, ((n, b) :: S.1, S.2.1, zset1 S.2.2.1 i (.inl (.inl (n, 0))), S.2.2.2.1, S.2.2.2.2.1, S.2.2.2.2.2))]) else none
      | none => none
    | _ => none
  | _ => none
/-- two numbers on top -/
def zstepB (K n : Nat) (S : zS) (pc : Nat) (ins : Instr) : Option (List (Nat × zS)) := match S.2.2.2.1 with
  | .inl (.inl v2) :: .inl (.inl v1) :: st => match zrng S.1 v1, zrng S.1 v2 with
    | some i, some j => bif zint i && zint j && zfr n K (zst S st) then (match zbin ins i j v1 v2 with
      | some q => some [(pc + 1, zputI n S st q)]
      | none => none) else none
    | _, _ => none
  | .inl (.inr v2) :: .inl (.inr v1) :: st => match zrng S.1 v1, zrng S.1 v2 with
    | some i, some j => bif zlng i && zlng j && zfr n K (zst S st) then (match zbinL ins i j v1 v2 with
      | some q => some [(pc + 1, zputL n S st q)]
      | none => none) else none
    | _, _ => none
  | _ => none
def zstepU (K n : Nat) (S : zS) (pc : Nat) (ins : Instr) : Option (List (Nat × zS)) := match S.2.2.2.1 with
  | .inl (.inl v) :: st => match zrng S.1 v with
    | some i => bif zint i && zfr n K (zst S st) then (match zun ins i v with
      | some q => some [(pc + 1, zputI n S st q)]
      | none => none) else none
    | none => none
  | _ => none
end
section
def zlen : Instr → Nat
  | .bipush _ | .ldc _ | .iload _ | .lload _ | .aload _ | .istore _ | .lstore _ | .astore _ => 2
  | .sipush _ | .ldc_w _ | .ldc2_w _ | .iinc _ _ | .goto _ | .ifCond _ _ | .if_icmp _ _ | .getfield _ | .putfield _ | .invokevirtual _ | .invokestatic _ | .invokespecial _ => 3
  | _ => 1
section ZSB
variable {p : Program} {l : Launch} {e : Env} {R : Room} {s : State} {m : MethodId} {args : Array Value} {below : List Frame} {meth : Method} {c : Code} {cells slots : Nat} {Q : State → Prop} {cc : ByteArray} {D : va_G} {cl : List vw_C} {kA : Nat → ClassId} {A : Nat → Prop} {H0 : Heap} {nL K : Nat} {pins : List Nat} {r0 : Nat → Int} {ad0 : Nat → Nat} {N pc n : Nat} {S : zS} {ins : Instr} {L : List (Nat × zS)}
theorem zld_go {pc' i t : Nat} (h : zld S pc' i t = some L) (hgo : ∀ x ∈ L, zGo (zGW p l e R s m args below meth c cells slots Q) D cl kA A H0 nL K pins r0 ad0 N x.1 x.2) {r : Nat → Int} {ad : Nat → Nat} {ph : Nat → Nat → Int} {H : Heap} {locs : List Loc} {ls : Array Slot} (hJ : zJ K pins r0 ad0 r ad) (hR : zRel D cl kA A H0 nL S r ad ph H locs ls) (hN : zenc r S.2.2.2.2.2 = N) :
    ∃ v : Value, ls[i]? = some (.val v) ∧ W p l e R s m args below meth c H locs cells slots Q (F0 m pc' ls (v :: S.2.2.2.1.map (zcv r ad))) ∧ (t = 0 → ∃ x, v = .int x) ∧ (t = 1 → ∃ x, v = .long x) ∧ (t = 2 → ∃ x, v = .ref x) := by
  unfold zld at h
  split at h
  · rename_i v hl
    cases h
    exact ⟨_, zlocal hl hR, hgo _ List.mem_cons_self r ad ph H locs ls hJ hR hN, fun _ => ⟨_, rfl⟩, (fun q => by cases q), (fun q => by cases q)⟩
  · rename_i v hl
    cases h
    exact ⟨_, zlocal hl hR, hgo _ List.mem_cons_self r ad ph H locs ls hJ hR hN, (fun q => by cases q), fun _ => ⟨_, rfl⟩, (fun q => by cases q)⟩
  · rename_i v hl
    cases h
    exact ⟨_, zlocal hl hR, hgo _ List.mem_cons_self r ad ph H locs ls hJ hR hN, (fun q => by cases q), (fun q => by cases q), fun _ => ⟨_, rfl⟩⟩
  · cases h
theorem zso_go {pc' i t : Nat} (h : zso nL S pc' i t = some L) (hgo : ∀ x ∈ L, zGo (zGW p l e R s m args below meth c cells slots Q) D cl kA A H0 nL K pins r0 ad0 N x.1 x.2) {r : Nat → Int} {ad : Nat → Nat} {ph : Nat → Nat → Int} {H : Heap} {locs : List Loc} {ls : Array Slot} (hJ : zJ K pins r0 ad0 r ad) (hR : zRel D cl kA A H0 nL S r ad ph H locs ls) (hN : zenc r S.2.2.2.2.2 = N) :
    ∃ (v : Value) (st : List zA), S.2.2.2.1.map (zcv r ad) = v :: st.map (zcv r ad) ∧
      (t = 0 → (∃ x, v = .int x) ∧ i < nL ∧ ∀ ls' : Array Slot, lv_has ls' nL ((i, v) :: (S.2.2.1.map (fun x => (x.1, zcv r ad x.2))).filter (fun q => !(q.1 == i) && !(q.1 + 1 == i && q.2.category == 2))) → W p l e R s m args below meth c H locs cells slots Q (F0 m pc' ls' (st.map (zcv r ad)))) ∧
      (t = 1 → (∃ x, v = .long x) ∧ i + 1 < nL ∧ ∀ ls' : Array Slot, lv_has ls' nL ((i, v) :: (S.2.2.1.map (fun x => (x.1, zcv r ad x.2))).filter (fun q => !(q.1 == i) && (!(q.1 == i + 1) && !(q.1 + 1 == i && q.2.category == 2)))) → W p l e R s m args below meth c H locs cells slots Q (F0 m pc' ls' (st.map (zcv r ad)))) ∧
      (t = 2 → (∃ x, v = .ref x) ∧ i < nL ∧ ∀ ls' : Array Slot, lv_has ls' nL ((i, v) :: (S.2.2.1.map (fun x => (x.1, zcv r ad x.2))).filter (fun q => !(q.1 == i) && !(q.1 + 1 == i && q.2.category == 2))) → W p l e R s m args below meth c H locs cells slots Q (F0 m pc' ls' (st.map (zcv r ad)))) := by
  obtain ⟨hE, hZ, hW, hP, hD, hS, hl⟩ := hR
  unfold zso at h
  split at h
  · rename_i v st hst
    cases hz : Nat.blt i nL with
    | false => rw [hz] at h; cases h
    | true =>
      rw [hz] at h
      cases h
      refine ⟨zcv r ad (.inl (.inl v)), st, by rw [hst]; rfl, fun _ => ⟨⟨_, rfl⟩, zblt hz, fun ls' hl' => ?_⟩, (fun q => by cases q), (fun q => by cases q)⟩
      exact hgo _ List.mem_cons_self r ad ph H locs ls' hJ ⟨hE, hZ, hW, hP, hD, hS, Eq.mp (congrArg (lv_has ls' nL) (zset1_ok r ad S.2.2.1 i _)) hl'⟩ hN
  · rename_i v st hst
    cases hz : Nat.blt (i + 1) nL with
    | false => rw [hz] at h; cases h
    | true =>
      rw [hz] at h
      cases h
      refine ⟨zcv r ad (.inl (.inr v)), st, by rw [hst]; rfl, (fun q => by cases q), fun _ => ⟨⟨_, rfl⟩, zblt hz, fun ls' hl' => ?_⟩, (fun q => by cases q)⟩
      exact hgo _ List.mem_cons_self r ad ph H locs ls' hJ ⟨hE, hZ, hW, hP, hD, hS, Eq.mp (congrArg (lv_has ls' nL) (zset2_ok r ad S.2.2.1 i _)) hl'⟩ hN
  · rename_i v st hst
    cases hz : Nat.blt i nL with
    | false => rw [hz] at h; cases h
    | true =>
      rw [hz] at h
      cases h
      refine ⟨zcv r ad (.inr (some v)), st, by rw [hst]; rfl, (fun q => by cases q), (fun q => by cases q), fun _ => ⟨⟨_, rfl⟩, zblt hz, fun ls' hl' => ?_⟩⟩
      exact hgo _ List.mem_cons_self r ad ph H locs ls' hJ ⟨hE, hZ, hW, hP, hD, hS, Eq.mp (congrArg (lv_has ls' nL) (zset1_ok r ad S.2.2.1 i _)) hl'⟩ hN
  · cases h
theorem zconst {r : Nat → Int} (h0 : r 0 = 0) (k : Int) : zev r (0, k) = k := by
  unfold zev
  dsimp only
  rw [h0]
  omega
set_option maxHeartbeats 4000000 in
theorem zstepA_ok (hx : p.tables.exec = Jvm.exec) (hb : c.code = cc) {own : String} {Ts : List Cond} (hown : s.vm.findClass own = some m.cls) (hts : ∀ w ∈ Ts, w.before args s = true) {cons lcons : List (Nat × Int)} (hcons : ∀ k z, zlk cons k = some z → Cond.constant own k (Int32.ofInt z) ∈ Ts) (hlc : ∀ k z, zlk lcons k = some z → Cond.constantLong own k (Int64.ofInt z) ∈ Ts)
    (hdg : decode cc pc = .ok (ins, zlen ins)) (h : zstepA cons lcons nL K n S pc ins = some L) (hgo : ∀ x ∈ L, zGo (zGW p l e R s m args below meth c cells slots Q) D cl kA A H0 nL K pins r0 ad0 N x.1 x.2) : zGo (zGW p l e R s m args below meth c cells slots Q) D cl kA A H0 nL K pins r0 ad0 N pc S := by
  intro r ad ph H locs ls hJ hR hN
  have h0 := hR.1.1
  unfold zstepA at h
  split at h
  · rename_i k
    cases h
    refine lv_iconst hx hb hdg rfl ?_
    have g := hgo _ List.mem_cons_self r ad ph H locs ls hJ hR hN
    rw [show (zst S (.inl (.inl (0, k)) :: S.2.2.2.1)).2.2.2.1.map (zcv r ad) = .int (Int32.ofInt k) :: S.2.2.2.1.map (zcv r ad) by show Value.int (Int32.ofInt (zev r (0, k))) :: _ = _; rw [zconst h0]] at g
    exact g
  · rename_i k
    cases hz : zle (-128) k && zle k 127 with
    | false => rw [hz] at h; cases h
    | true =>
      rw [hz] at h
      cases h
      simp only [Bool.and_eq_true] at hz
      refine lv_bipush hx hb hdg (zq_i8 (zle_ok hz.1) (zle_ok hz.2)) ?_
      have g := hgo _ List.mem_cons_self r ad ph H locs ls hJ hR hN
      rw [show (zst S (.inl (.inl (0, k)) :: S.2.2.2.1)).2.2.2.1.map (zcv r ad) = .int (Int32.ofInt k) :: S.2.2.2.1.map (zcv r ad) by show Value.int (Int32.ofInt (zev r (0, k))) :: _ = _; rw [zconst h0]] at g
      exact g
  · rename_i k
    cases hz : zle (-32768) k && zle k 32767 with
    | false => rw [hz] at h; cases h
    | true =>
      rw [hz] at h
      cases h
      simp only [Bool.and_eq_true] at hz
      refine lv_sipush hx hb hdg (zq_i16 (zle_ok hz.1) (zle_ok hz.2)) ?_
      have g := hgo _ List.mem_cons_self r ad ph H locs ls hJ hR hN
      rw [show (zst S (.inl (.inl (0, k)) :: S.2.2.2.1)).2.2.2.1.map (zcv r ad) = .int (Int32.ofInt k) :: S.2.2.2.1.map (zcv r ad) by show Value.int (Int32.ofInt (zev r (0, k))) :: _ = _; rw [zconst h0]] at g
      exact g
  · rename_i k
    cases h
    refine lv_lconst hx hb hdg rfl ?_
    have g := hgo _ List.mem_cons_self r ad ph H locs ls hJ hR hN
    rw [show (zst S (.inl (.inr (0, (k.val : Int))) :: S.2.2.2.1)).2.2.2.1.map (zcv r ad) = .long (Int64.ofNat k.val) :: S.2.2.2.1.map (zcv r ad) by show Value.long (Int64.ofInt (zev r (0, (k.val : Int)))) :: _ = _; rw [zconst h0]; rfl] at g
    exact g
  · rename_i k
    split at h
    · rename_i z hz
      cases h
      refine lv_ldc hx hb hown (hts _ (hcons k z hz)) hdg ?_
      have g := hgo _ List.mem_cons_self r ad ph H locs ls hJ hR hN
      rw [show (zst S (.inl (.inl (0, z)) :: S.2.2.2.1)).2.2.2.1.map (zcv r ad) = .int (Int32.ofInt z) :: S.2.2.2.1.map (zcv r ad) by show Value.int (Int32.ofInt (zev r (0, z))) :: _ = _; rw [zconst h0]] at g
      exact g
    · cases h
  · rename_i k
    split at h
    · rename_i z hz
      cases h
      refine lv_ldcw hx hb hown (hts _ (hcons k z hz)) hdg ?_
      have g := hgo _ List.mem_cons_self r ad ph H locs ls hJ hR hN
      rw [show (zst S (.inl (.inl (0, z)) :: S.2.2.2.1)).2.2.2.1.map (zcv r ad) = .int (Int32.ofInt z) :: S.2.2.2.1.map (zcv r ad) by show Value.int (Int32.ofInt (zev r (0, z))) :: _ = _; rw [zconst h0]] at g
      exact g
    · cases h
  · rename_i k
    split at h
    · rename_i z hz
      cases h
      refine lv_ldc2 hx hb hown (hts _ (hlc k z hz)) hdg ?_
      have g := hgo _ List.mem_cons_self r ad ph H locs ls hJ hR hN
      rw [show (zst S (.inl (.inr (0, z)) :: S.2.2.2.1)).2.2.2.1.map (zcv r ad) = .long (Int64.ofInt z) :: S.2.2.2.1.map (zcv r ad) by show Value.long (Int64.ofInt (zev r (0, z))) :: _ = _; rw [zconst h0]] at g
      exact g
    · cases h
  · obtain ⟨v, g1, g2, g3, -, -⟩ := zld_go h hgo hJ hR hN
    obtain ⟨x, rfl⟩ := g3 rfl
    exact lv_iload hx hb hdg g1 g2
  · obtain ⟨v, g1, g2, g3, -, -⟩ := zld_go h hgo hJ hR hN
    obtain ⟨x, rfl⟩ := g3 rfl
    exact lv_iload_n hx hb hdg rfl g1 g2
  · obtain ⟨v, g1, g2, -, g3, -⟩ := zld_go h hgo hJ hR hN
    obtain ⟨x, rfl⟩ := g3 rfl
    exact lv_lload hx hb hdg g1 g2
  · obtain ⟨v, g1, g2, -, g3, -⟩ := zld_go h hgo hJ hR hN
    obtain ⟨x, rfl⟩ := g3 rfl
    exact lv_lload_n hx hb hdg rfl g1 g2
  · obtain ⟨v, g1, g2, -, -, g3⟩ := zld_go h hgo hJ hR hN
    obtain ⟨x, rfl⟩ := g3 rfl
    exact lv_aload hx hb hdg g1 g2
  · obtain ⟨v, g1, g2, -, -, g3⟩ := zld_go h hgo hJ hR hN
    obtain ⟨x, rfl⟩ := g3 rfl
    exact lv_aload_n hx hb hdg rfl g1 g2
  · obtain ⟨v, st, g1, g2, -, -⟩ := zso_go h hgo hJ hR hN
    obtain ⟨⟨x, rfl⟩, hi, g3⟩ := g2 rfl
    show W _ _ _ _ _ _ _ _ _ _ _ _ _ _ _ (F0 m pc ls (S.2.2.2.1.map (zcv r ad)))
    rw [g1]
    exact lv_istore hx hb hdg hR.2.2.2.2.2.2 hi rfl g3
  · obtain ⟨v, st, g1, g2, -, -⟩ := zso_go h hgo hJ hR hN
    obtain ⟨⟨x, rfl⟩, hi, g3⟩ := g2 rfl
    show W _ _ _ _ _ _ _ _ _ _ _ _ _ _ _ (F0 m pc ls (S.2.2.2.1.map (zcv r ad)))
    rw [g1]
    exact lv_istore_n hx hb hdg rfl hR.2.2.2.2.2.2 hi rfl g3
  · obtain ⟨v, st, g1, -, g2, -⟩ := zso_go h hgo hJ hR hN
    obtain ⟨⟨x, rfl⟩, hi, g3⟩ := g2 rfl
    show W _ _ _ _ _ _ _ _ _ _ _ _ _ _ _ (F0 m pc ls (S.2.2.2.1.map (zcv r ad)))
    rw [g1]
    exact lv_lstore hx hb hdg hR.2.2.2.2.2.2 hi rfl g3
  · obtain ⟨v, st, g1, -, g2, -⟩ := zso_go h hgo hJ hR hN
    obtain ⟨⟨x, rfl⟩, hi, g3⟩ := g2 rfl
    show W _ _ _ _ _ _ _ _ _ _ _ _ _ _ _ (F0 m pc ls (S.2.2.2.1.map (zcv r ad)))
    rw [g1]
    exact lv_lstore_n hx hb hdg rfl hR.2.2.2.2.2.2 hi rfl g3
  · obtain ⟨v, st, g1, -, -, g2⟩ := zso_go h hgo hJ hR hN
    obtain ⟨⟨x, rfl⟩, hi, g3⟩ := g2 rfl
    show W _ _ _ _ _ _ _ _ _ _ _ _ _ _ _ (F0 m pc ls (S.2.2.2.1.map (zcv r ad)))
    rw [g1]
    exact lv_astore hx hb hdg hR.2.2.2.2.2.2 hi rfl g3
  · obtain ⟨v, st, g1, -, -, g2⟩ := zso_go h hgo hJ hR hN
    obtain ⟨⟨x, rfl⟩, hi, g3⟩ := g2 rfl
    show W _ _ _ _ _ _ _ _ _ _ _ _ _ _ _ (F0 m pc ls (S.2.2.2.1.map (zcv r ad)))
    rw [g1]
    exact lv_astore_n hx hb hdg rfl hR.2.2.2.2.2.2 hi rfl g3
  · rename_i o
    cases hz : zle 0 ((pc : Int) + o) with
    | false => rw [hz] at h; cases h
    | true =>
      rw [hz] at h
      cases h
      have q := zle_ok hz
      exact lv_goto (tgt := ((pc : Int) + o).toNat) hx hb hdg (by omega) (hgo _ List.mem_cons_self r ad ph H locs ls hJ hR hN)
  · split at h
    · rename_i a st hst
      cases hz : Nat.beq (zcat a) 1 with
      | false => rw [hz] at h; cases h
      | true =>
        rw [hz] at h
        cases h
        show W _ _ _ _ _ _ _ _ _ _ _ _ _ _ _ (F0 m pc ls (S.2.2.2.1.map (zcv r ad)))
        rw [hst]
        exact lv_dup hx hb hdg (by rw [zcat_ok]; exact Nat.eq_of_beq_eq_true hz) (hgo _ List.mem_cons_self r ad ph H locs ls hJ hR hN)
    · cases h
  · split at h
    · rename_i a b st hst
      cases hz : Nat.beq (zcat a) 1 && Nat.beq (zcat b) 1 with
      | false => rw [hz] at h; cases h
      | true =>
        rw [hz] at h
        cases h
        simp only [Bool.and_eq_true] at hz
        show W _ _ _ _ _ _ _ _ _ _ _ _ _ _ _ (F0 m pc ls (S.2.2.2.1.map (zcv r ad)))
        rw [hst]
        exact lv_dup2_11 hx hb hdg (by rw [zcat_ok]; exact Nat.eq_of_beq_eq_true hz.1) (by rw [zcat_ok]; exact Nat.eq_of_beq_eq_true hz.2) (hgo _ List.mem_cons_self r ad ph H locs ls hJ hR hN)
    · cases h
  · split at h
    · rename_i a st hst
      cases hz : Nat.beq (zcat a) 1 with
      | false => rw [hz] at h; cases h
      | true =>
        rw [hz] at h
        cases h
        show W _ _ _ _ _ _ _ _ _ _ _ _ _ _ _ (F0 m pc ls (S.2.2.2.1.map (zcv r ad)))
        rw [hst]
        exact lv_pop hx hb hdg (by rw [zcat_ok]; exact Nat.eq_of_beq_eq_true hz) (hgo _ List.mem_cons_self r ad ph H locs ls hJ hR hN)
    · cases h
  · split at h
    · rename_i a st hst
      cases hz : Nat.beq (zcat a) 2 with
      | false => rw [hz] at h; cases h
      | true =>
        rw [hz] at h
        cases h
        show W _ _ _ _ _ _ _ _ _ _ _ _ _ _ _ (F0 m pc ls (S.2.2.2.1.map (zcv r ad)))
        rw [hst]
        exact lv_pop2_2 hx hb hdg (by rw [zcat_ok]; exact Nat.eq_of_beq_eq_true hz) (hgo _ List.mem_cons_self r ad ph H locs ls hJ hR hN)
    · cases h
  · split at h
    · rename_i v st hst
      split at h
      · rename_i i hr
        cases hz : zint i with
        | false => rw [hz] at h; cases h
        | true =>
          rw [hz] at h
          cases h
          have b := zrng_ok hR.1 hr
          have q := zint_ok hz b.1 b.2
          show W _ _ _ _ _ _ _ _ _ _ _ _ _ _ _ (F0 m pc ls (S.2.2.2.1.map (zcv r ad)))
          rw [hst]
          exact lv_i2l hx hb hdg (zq_i2l q.1 q.2) (hgo _ List.mem_cons_self r ad ph H locs ls hJ hR hN)
      · cases h
    · cases h
  · split at h
    · rename_i v st hst
      split at h
      · rename_i i hr
        cases hz : zint i with
        | false => rw [hz] at h; cases h
        | true =>
          rw [hz] at h
          cases h
          have b := zrng_ok hR.1 hr
          have q := zint_ok hz b.1 b.2
          show W _ _ _ _ _ _ _ _ _ _ _ _ _ _ _ (F0 m pc ls (S.2.2.2.1.map (zcv r ad)))
          rw [hst]
          exact lv_l2i hx hb hdg (zq_l2i q.1 q.2) (hgo _ List.mem_cons_self r ad ph H locs ls hJ hR hN)
      · cases h
    · cases h
  · rename_i i k
    split at h
    · rename_i v hl
      split at h
      · rename_i b hr
        cases hz : zint b && zint (k, k) && Nat.blt i nL && zfr n K S with
        | false => rw [hz] at h; cases h
        | true =>
          rw [hz] at h
          simp only [Bool.and_eq_true] at hz
          have hB := zrng_ok hR.1 hr
          have q := zadd_ok (i := b) (j := (k, k)) (v1 := v) (v2 := (0, k)) h0 hB ⟨by rw [zconst h0]; exact Int.le_refl _, by rw [zconst h0]; exact Int.le_refl _⟩ hz.1.1.1 hz.1.1.2
          rw [zconst h0] at q
          obtain ⟨kk, hkk⟩ := List.getElem?_of_mem (List.mem_map.mpr ⟨_, zlk_mem hl, rfl⟩ : (i, zcv r ad (.inl (.inl v))) ∈ S.2.2.1.map (fun x => (x.1, zcv r ad x.2)))
          dsimp only [cond] at h
          split at h
          · rename_i u hu
            cases h
            rw [hu] at q
            have q : Int32.ofInt (zev r v) + Int32.ofInt k = Int32.ofInt (zev r u) := q
            refine lv_iinc (k := kk) hx hb hdg hR.2.2.2.2.2.2 hkk q (zblt hz.1.2) rfl (fun ls' hl' => ?_)
            exact hgo _ List.mem_cons_self r ad ph H locs ls' hJ ⟨hR.1, hR.2.1, hR.2.2.1, hR.2.2.2.1, hR.2.2.2.2.1, hR.2.2.2.2.2.1, Eq.mp (congrArg (lv_has ls' nL) (zset1_ok r ad S.2.2.1 i _)) hl'⟩ hN
          · rename_i w hw
            cases h
            rw [hw] at q
            obtain ⟨h1, h2, h3, h4, h5⟩ := zfresh (st := S.2.2.2.1) hz.2 hJ hR hN (Int32.ofInt (zev r v) + Int32.ofInt k).toInt
            refine lv_iinc (k := kk) hx hb hdg hR.2.2.2.2.2.2 hkk rfl (zblt hz.1.2) rfl (fun ls' hl' => ?_)
            have g := hgo _ List.mem_cons_self _ ad ph H locs ls' h1 ⟨⟨h2.1.1, fun x hx => by
              rcases List.mem_cons.mp hx with e | e
              · subst e
                dsimp only
                rw [if_pos rfl]
                exact q
              · exact h2.1.2 x e⟩, h2.2.1, h2.2.2.1, h2.2.2.2.1, h2.2.2.2.2.1, h2.2.2.2.2.2.1, by
                rw [← zset1_ok]
                have e1 : S.2.2.1.map (fun x => (x.1, zcv (fun i => if i = n then (Int32.ofInt (zev r v) + Int32.ofInt k).toInt else r i) ad x.2)) = S.2.2.1.map (fun x => (x.1, zcv r ad x.2)) := by
                  have hf := hz.2
                  simp only [zfr, zbS, Bool.and_eq_true] at hf
                  exact List.map_congr_left (fun x hx => by rw [zbA_eq (n := n) (fun i hi => if_neg (by omega)) ad (List.all_eq_true.mp hf.2.1.1.1.2 x hx)])
                rw [e1]
                have e2 : zcv (fun i => if i = n then (Int32.ofInt (zev r v) + Int32.ofInt k).toInt else r i) ad (.inl (.inl (n, 0))) = .int (Int32.ofInt (zev r v) + Int32.ofInt k) := by
                  show Value.int (Int32.ofInt (zev _ (n, 0))) = _
                  unfold zev
                  dsimp only
                  rw [if_pos rfl, Int.add_zero, Int32.ofInt_toInt]
                rw [e2]
                exact hl'⟩ h4
            have e3 : S.2.2.2.1.map (zcv (fun i => if i = n then (Int32.ofInt (zev r v) + Int32.ofInt k).toInt else r i) ad) = S.2.2.2.1.map (zcv r ad) := h3
            show W _ _ _ _ _ _ _ _ _ _ _ _ _ _ _ (F0 m (pc + 3) ls' (S.2.2.2.1.map (zcv r ad)))
            rw [← e3]
            exact g
      · cases h
    · cases h
  · cases h
end ZSB
end
section
section ZSC
variable {p : Program} {l : Launch} {e : Env} {R : Room} {s : State} {m : MethodId} {args : Array Value} {below : List Frame} {meth : Method} {c : Code} {cells slots : Nat} {Q : State → Prop} {cc : ByteArray} {D : va_G} {cl : List vw_C} {kA : Nat → ClassId} {A : Nat → Prop} {H0 : Heap} {nL K : Nat} {pins : List Nat} {r0 : Nat → Int} {ad0 : Nat → Nat} {N pc n : Nat} {S : zS} {ins : Instr} {L : List (Nat × zS)}
theorem zstepB_ok (hx : p.tables.exec = Jvm.exec) (hb : c.code = cc) (hdg : decode cc pc = .ok (ins, 1)) (h : zstepB K n S pc ins = some L) (hgo : ∀ x ∈ L, zGo (zGW p l e R s m args below meth c cells slots Q) D cl kA A H0 nL K pins r0 ad0 N x.1 x.2) : zGo (zGW p l e R s m args below meth c cells slots Q) D cl kA A H0 nL K pins r0 ad0 N pc S := by
  intro r ad ph H locs ls hJ hR hN
  unfold zstepB at h
  split at h
  · rename_i v2 v1 st hst
    split at h
    · rename_i i j hi hj
      cases hz : zint i && zint j && zfr n K (zst S st) with
      | false => rw [hz] at h; cases h
      | true =>
        rw [hz] at h
        simp only [Bool.and_eq_true] at hz
        dsimp only [cond] at h
        split at h
        · rename_i q hq
          cases h
          show W _ _ _ _ _ _ _ _ _ _ _ _ _ _ _ (F0 m pc ls (S.2.2.2.1.map (zcv r ad)))
          rw [hst]
          exact zbin_W hx hb hdg hq hR.1.1 (zrng_ok hR.1 hi) (zrng_ok hR.1 hj) hz.1.1 hz.1.2 (fun z hzz => zputI_go hz.2 (hgo _ List.mem_cons_self) hJ hR hN hzz)
        · cases h
    · cases h
  · rename_i v2 v1 st hst
    split at h
    · rename_i i j hi hj
      cases hz : zlng i && zlng j && zfr n K (zst S st) with
      | false => rw [hz] at h; cases h
      | true =>
        rw [hz] at h
        simp only [Bool.and_eq_true] at hz
        dsimp only [cond] at h
        split at h
        · rename_i q hq
          cases h
          show W _ _ _ _ _ _ _ _ _ _ _ _ _ _ _ (F0 m pc ls (S.2.2.2.1.map (zcv r ad)))
          rw [hst]
          exact zbinL_W hx hb hdg hq hR.1.1 (zrng_ok hR.1 hi) (zrng_ok hR.1 hj) hz.1.1 hz.1.2 (fun z hzz => zputL_go hz.2 (hgo _ List.mem_cons_self) hJ hR hN hzz)
        · cases h
    · cases h
  · cases h
theorem zstepU_ok (hx : p.tables.exec = Jvm.exec) (hb : c.code = cc) (hdg : decode cc pc = .ok (ins, 1)) (h : zstepU K n S pc ins = some L) (hgo : ∀ x ∈ L, zGo (zGW p l e R s m args below meth c cells slots Q) D cl kA A H0 nL K pins r0 ad0 N x.1 x.2) : zGo (zGW p l e R s m args below meth c cells slots Q) D cl kA A H0 nL K pins r0 ad0 N pc S := by
  intro r ad ph H locs ls hJ hR hN
  unfold zstepU at h
  split at h
  · rename_i v st hst
    split at h
    · rename_i i hi
      cases hz : zint i && zfr n K (zst S st) with
      | false => rw [hz] at h; cases h
      | true =>
        rw [hz] at h
        simp only [Bool.and_eq_true] at hz
        dsimp only [cond] at h
        split at h
        · rename_i q hq
          cases h
          show W _ _ _ _ _ _ _ _ _ _ _ _ _ _ _ (F0 m pc ls (S.2.2.2.1.map (zcv r ad)))
          rw [hst]
          exact zun_W hx hb hdg hq hR.1.1 (zrng_ok hR.1 hi) hz.1 (fun z hzz => zputI_go hz.2 (hgo _ List.mem_cons_self) hJ hR hN hzz)
        · cases h
    · cases h
  · cases h
end ZSC
/-- lrem: the rest is below the divisor -/
def zstepR (K n : Nat) (S : zS) (pc : Nat) : Option (List (Nat × zS)) := match S.2.2.2.1 with
  | .inl (.inr v2) :: .inl (.inr v1) :: st => match zrng S.1 v1, zrng S.1 v2 with
    | some i, some j => bif zlng i && zlng j && zpos2 i j && Nat.blt v2.1 n && zfr n K (zst S st) then some [(pc + 1, ((n, (0, j.2 - 1)) :: S.1, zaz S.2.1 (n, 0) v2 (-1), S.2.2.1, .inl (.inr (n, 0)) :: st, S.2.2.2.2.1, S.2.2.2.2.2))] else bif zlng i && zlng j && znz j && zfr n K (zst S st) then some [(pc + 1, zputL n S st (.inr zfullL))] else none
    | _, _ => none
  | _ => none
def zcP (cd : Jvm.ClassFile.Cond) (a b : Int) : Prop := match cd with
  | .eq => a = b
  | .ne => ¬ a = b
  | .lt => a < b
  | .ge => b ≤ a
  | .gt => b < a
  | .le => a ≤ b
def zcT (cd : Jvm.ClassFile.Cond) (E : zE) (Z : zZ) (v1 v2 : zV) : Option (zE × zZ) := match cd with
  | .eq => zeqS E Z v1 v2
  | .ne => zneS E Z v1 v2
  | .lt => zlekS E Z v1 v2 1
  | .ge => zlekS E Z v2 v1 0
  | .gt => zlekS E Z v2 v1 1
  | .le => zlekS E Z v1 v2 0
def zcF (cd : Jvm.ClassFile.Cond) (E : zE) (Z : zZ) (v1 v2 : zV) : Option (zE × zZ) := match cd with
  | .eq => zneS E Z v1 v2
  | .ne => zeqS E Z v1 v2
  | .lt => zlekS E Z v2 v1 0
  | .ge => zlekS E Z v1 v2 1
  | .gt => zlekS E Z v1 v2 0
  | .le => zlekS E Z v2 v1 1
theorem zcT_ok {r : Nat → Int} {E : zE} {Z : zZ} {v1 v2 : zV} {cd : Jvm.ClassFile.Cond} (hE : zokE r E) (hZ : zokZ r Z) (h : zcP cd (zev r v1) (zev r v2)) : ∃ q, zcT cd E Z v1 v2 = some q ∧ zokE r q.1 ∧ zokZ r q.2 := by
  cases cd
  · exact zeqS_ok hE hZ h
  · exact zneS_ok hE hZ h
  · have h : zev r v1 < zev r v2 := h
    exact zlekS_ok hE hZ (by omega)
  · have h : zev r v2 ≤ zev r v1 := h
    exact zlekS_ok hE hZ (by omega)
  · have h : zev r v2 < zev r v1 := h
    exact zlekS_ok hE hZ (by omega)
  · have h : zev r v1 ≤ zev r v2 := h
    exact zlekS_ok hE hZ (by omega)
theorem zcF_ok {r : Nat → Int} {E : zE} {Z : zZ} {v1 v2 : zV} {cd : Jvm.ClassFile.Cond} (hE : zokE r E) (hZ : zokZ r Z) (h : ¬ zcP cd (zev r v1) (zev r v2)) : ∃ q, zcF cd E Z v1 v2 = some q ∧ zokE r q.1 ∧ zokZ r q.2 := by
  cases cd
  · exact zneS_ok hE hZ h
  · exact zeqS_ok hE hZ (Classical.not_not.mp h)
  · have h : ¬ zev r v1 < zev r v2 := h
    exact zlekS_ok hE hZ (by omega)
  · have h : ¬ zev r v2 ≤ zev r v1 := h
    exact zlekS_ok hE hZ (by omega)
  · have h : ¬ zev r v2 < zev r v1 := h
    exact zlekS_ok hE hZ (by omega)
  · have h : ¬ zev r v1 ≤ zev r v2 := h
    exact zlekS_ok hE hZ (by omega)
theorem zq_eq {a b : Int} (a1 : -2147483648 ≤ a) (a2 : a ≤ 2147483647) (b1 : -2147483648 ≤ b) (b2 : b ≤ 2147483647) : Int32.ofInt a = Int32.ofInt b ↔ a = b := by
  rw [← Int32.toInt_inj, zq_of a1 a2, zq_of b1 b2]
theorem zq_lt {a b : Int} (a1 : -2147483648 ≤ a) (a2 : a ≤ 2147483647) (b1 : -2147483648 ≤ b) (b2 : b ≤ 2147483647) : Int32.ofInt a < Int32.ofInt b ↔ a < b := by
  rw [Int32.lt_iff_toInt_lt, zq_of a1 a2, zq_of b1 b2]
theorem zq_le {a b : Int} (a1 : -2147483648 ≤ a) (a2 : a ≤ 2147483647) (b1 : -2147483648 ≤ b) (b2 : b ≤ 2147483647) : Int32.ofInt a ≤ Int32.ofInt b ↔ a ≤ b := by
  rw [Int32.le_iff_toInt_le, zq_of a1 a2, zq_of b1 b2]
section ZSD
variable {p : Program} {l : Launch} {e : Env} {R : Room} {s : State} {m : MethodId} {args : Array Value} {below : List Frame} {meth : Method} {c : Code} {cells slots : Nat} {Q : State → Prop} {cc : ByteArray} {pc : Nat} {ls : Array Slot} {H : Heap} {locs : List Loc} {rest : List Value}
theorem zicmp_W (hx : p.tables.exec = Jvm.exec) (hb : c.code = cc) {cd : Jvm.ClassFile.Cond} {off : Int} {tgt : Nat} (hdg : decode cc pc = .ok (.if_icmp cd off, 3)) (ht : (pc : Int) + off = (tgt : Int)) {a b : Int} (a1 : -2147483648 ≤ a) (a2 : a ≤ 2147483647) (b1 : -2147483648 ≤ b) (b2 : b ≤ 2147483647)
    (kt : zcP cd a b → W p l e R s m args below meth c H locs cells slots Q (F0 m tgt ls rest)) (kf : ¬ zcP cd a b → W p l e R s m args below meth c H locs cells slots Q (F0 m (pc + 3) ls rest)) : W p l e R s m args below meth c H locs cells slots Q (F0 m pc ls (.int (Int32.ofInt b) :: .int (Int32.ofInt a) :: rest)) := by
  cases cd
  · exact lv_icmp_eq hx hb hdg ht (fun q => kt ((zq_eq a1 a2 b1 b2).mp q)) (fun q => kf (fun z => q ((zq_eq a1 a2 b1 b2).mpr z)))
  · exact lv_icmp_ne hx hb hdg ht (fun q => kt (fun z => q ((zq_eq a1 a2 b1 b2).mpr z))) (fun q => kf (fun z => z ((zq_eq a1 a2 b1 b2).mp q)))
  · exact lv_icmp_lt hx hb hdg ht (fun q => kt ((zq_lt a1 a2 b1 b2).mp q)) (fun q => kf (fun z => q ((zq_lt a1 a2 b1 b2).mpr z)))
  · exact lv_icmp_ge hx hb hdg ht (fun q => kt ((zq_le b1 b2 a1 a2).mp q)) (fun q => kf (fun z => q ((zq_le b1 b2 a1 a2).mpr z)))
  · exact lv_icmp_gt hx hb hdg ht (fun q => kt ((zq_lt b1 b2 a1 a2).mp q)) (fun q => kf (fun z => q ((zq_lt b1 b2 a1 a2).mpr z)))
  · exact lv_icmp_le hx hb hdg ht (fun q => kt ((zq_le a1 a2 b1 b2).mp q)) (fun q => kf (fun z => q ((zq_le a1 a2 b1 b2).mpr z)))
theorem zif_W (hx : p.tables.exec = Jvm.exec) (hb : c.code = cc) {cd : Jvm.ClassFile.Cond} {off : Int} {tgt : Nat} (hdg : decode cc pc = .ok (.ifCond cd off, 3)) (ht : (pc : Int) + off = (tgt : Int)) {a : Int} (a1 : -2147483648 ≤ a) (a2 : a ≤ 2147483647)
    (kt : zcP cd a 0 → W p l e R s m args below meth c H locs cells slots Q (F0 m tgt ls rest)) (kf : ¬ zcP cd a 0 → W p l e R s m args below meth c H locs cells slots Q (F0 m (pc + 3) ls rest)) : W p l e R s m args below meth c H locs cells slots Q (F0 m pc ls (.int (Int32.ofInt a) :: rest)) := by
  have z0 : (0 : Int32) = Int32.ofInt 0 := rfl
  have b1 : (-2147483648 : Int) ≤ 0 := by omega
  have b2 : (0 : Int) ≤ 2147483647 := by omega
  cases cd
  · exact lv_if_eq hx hb hdg ht (fun q => kt ((zq_eq a1 a2 b1 b2).mp q)) (fun q => kf (fun z => q ((zq_eq a1 a2 b1 b2).mpr z)))
  · exact lv_if_ne hx hb hdg ht (fun q => kt (fun z => q ((zq_eq a1 a2 b1 b2).mpr z))) (fun q => kf (fun z => z ((zq_eq a1 a2 b1 b2).mp q)))
  · exact lv_if_lt hx hb hdg ht (fun q => kt ((zq_lt a1 a2 b1 b2).mp q)) (fun q => kf (fun z => q ((zq_lt a1 a2 b1 b2).mpr z)))
  · exact lv_if_ge hx hb hdg ht (fun q => kt ((zq_le b1 b2 a1 a2).mp q)) (fun q => kf (fun z => q ((zq_le b1 b2 a1 a2).mpr z)))
  · exact lv_if_gt hx hb hdg ht (fun q => kt ((zq_lt b1 b2 a1 a2).mp q)) (fun q => kf (fun z => q ((zq_lt b1 b2 a1 a2).mpr z)))
  · exact lv_if_le hx hb hdg ht (fun q => kt ((zq_le a1 a2 b1 b2).mp q)) (fun q => kf (fun z => q ((zq_le a1 a2 b1 b2).mpr z)))
theorem zlg_cmp (x y : Int64) : ∃ k : Int, lg_cmp x y = Int32.ofInt k ∧ -1 ≤ k ∧ k ≤ 1 ∧ ∀ cd, zcP cd k 0 ↔ zcP cd x.toInt y.toInt := by
  unfold lg_cmp
  simp only [gt_iff_lt, Int64.lt_iff_toInt_lt, ← Int64.toInt_inj]
  by_cases h1 : y.toInt < x.toInt
  · refine ⟨1, by rw [if_pos h1]; rfl, by omega, by omega, fun cd => ?_⟩
    cases cd <;> (unfold zcP; dsimp only; omega)
  · by_cases h2 : x.toInt = y.toInt
    · refine ⟨0, by rw [if_neg h1, if_pos h2]; rfl, by omega, by omega, fun cd => ?_⟩
      cases cd <;> (unfold zcP; dsimp only; omega)
    · refine ⟨-1, by rw [if_neg h1, if_neg h2]; rfl, by omega, by omega, fun cd => ?_⟩
      cases cd <;> (unfold zcP; dsimp only; omega)
end ZSD
def zbr (S : zS) (st : List zA) (cd : Jvm.ClassFile.Cond) (v1 v2 : zV) (t f : Nat) : List (Nat × zS) := (match zcT cd S.1 S.2.1 v1 v2 with
  | none => []
  | some q => [(t, zse S q st)]) ++ (match zcF cd S.1 S.2.1 v1 v2 with
  | none => []
  | some q => [(f, zse S q st)])
/-- a sum with a constant that may run over: each way by itself -/
def zovf (S : zS) (st : List zA) (v : zV) (k : Int) (pc : Nat) : List (Nat × zS) := (match zref S.1 v (-2147483648 - k) (2147483647 - k) with
  | none => []
  | some E => [(pc, zse S (E, S.2.1) (.inl (.inl (v.1, v.2 + k)) :: st))]) ++ ((match zref S.1 v (-zBig) (-2147483648 - k - 1) with
  | none => []
  | some E => [(pc, zse S (E, S.2.1) (.inl (.inl (v.1, v.2 + (k + 4294967296))) :: st))]) ++ (match zref S.1 v (2147483647 - k + 1) zBig with
  | none => []
  | some E => [(pc, zse S (E, S.2.1) (.inl (.inl (v.1, v.2 + (k - 4294967296))) :: st))]))
def zstepO (S : zS) (pc : Nat) (neg : Bool) : Option (List (Nat × zS)) := match S.2.2.2.1 with
  | .inl (.inl v2) :: .inl (.inl v1) :: st => match zrng S.1 v1 with
    | some i => bif Nat.beq v2.1 0 && zint i && !zint (i.1 + (bif neg then -v2.2 else v2.2), i.2 + (bif neg then -v2.2 else v2.2)) then some (zovf S st v1 (bif neg then -v2.2 else v2.2) (pc + 1)) else none
    | none => none
  | _ => none
/-- where two longs differ: below, or above -/
def znel (S : zS) (st : List zA) (v1 v2 : zV) (t : Nat) : List (Nat × zS) := (match zlekS S.1 S.2.1 v1 v2 1 with
  | none => []
  | some q => [(t, zse S q st)]) ++ (match zlekS S.1 S.2.1 v2 v1 1 with
  | none => []
  | some q => [(t, zse S q st)])
def zbrl (S : zS) (st : List zA) (cd : Jvm.ClassFile.Cond) (v1 v2 : zV) (t f : Nat) : List (Nat × zS) := match cd with
  | .eq => (match zeqS S.1 S.2.1 v1 v2 with
    | none => []
    | some q => [(t, zse S q st)]) ++ znel S st v1 v2 f
  | .ne => znel S st v1 v2 t ++ (match zeqS S.1 S.2.1 v1 v2 with
    | none => []
    | some q => [(f, zse S q st)])
  | cd => zbr S st cd v1 v2 t f
def zstepC (K n : Nat) (S : zS) (pc : Nat) (ins : Instr) (nxt : Option Instr) : Option (List (Nat × zS)) := match ins with
  | .if_icmp cd o => match S.2.2.2.1 with
    | .inl (.inl v2) :: .inl (.inl v1) :: st => match zrng S.1 v1, zrng S.1 v2 with
      | some i, some j => bif zint i && zint j && zle 0 ((pc : Int) + o) then some (zbr S st cd v1 v2 ((pc : Int) + o).toNat (pc + 3)) else none
      | _, _ => none
    | _ => none
  | .ifCond cd o => match S.2.2.2.1 with
    | .inl (.inl v1) :: st => match zrng S.1 v1 with
      | some i => bif zint i && zle 0 ((pc : Int) + o) then some (zbr S st cd v1 (0, 0) ((pc : Int) + o).toNat (pc + 3)) else none
      | _ => none
    | _ => none
  | .lcmp => match nxt with
    | some (.ifCond cd o) => match S.2.2.2.1 with
      | .inl (.inr v2) :: .inl (.inr v1) :: st => match zrng S.1 v1, zrng S.1 v2 with
        | some i, some j => bif zlng i && zlng j && zle 0 (((pc + 1 : Nat) : Int) + o) then some (zbrl S st cd v1 v2 (((pc + 1 : Nat) : Int) + o).toNat (pc + 4)) else none
        | _, _ => none
      | _ => none
    | _ => none
  | .lrem => zstepR K n S pc
  | .iadd => zstepO S pc false
  | .isub => zstepO S pc true
  | _ => none
theorem zq_addW (a b : Int) : Int32.ofInt a + Int32.ofInt b = Int32.ofInt (a + b) := (Int32.ofInt_add a b).symm
theorem zq_subW (a b : Int) : Int32.ofInt a - Int32.ofInt b = Int32.ofInt (a - b) := (Int32.ofInt_sub a b).symm
theorem zq_per (a : Int) : Int32.ofInt (a + 4294967296) = Int32.ofInt a ∧ Int32.ofInt (a - 4294967296) = Int32.ofInt a := by
  constructor
  · apply Int32.toInt_inj.1
    rw [Int32.toInt_ofInt, Int32.toInt_ofInt, Int.bmod_def, Int.bmod_def]
    have e : (a + 4294967296) % ((Int32.size : Nat) : Int) = a % ((Int32.size : Nat) : Int) := by
      rw [show ((Int32.size : Nat) : Int) = 4294967296 from rfl]
      omega
    rw [e]
  · apply Int32.toInt_inj.1
    rw [Int32.toInt_ofInt, Int32.toInt_ofInt, Int.bmod_def, Int.bmod_def]
    have e : (a - 4294967296) % ((Int32.size : Nat) : Int) = a % ((Int32.size : Nat) : Int) := by
      rw [show ((Int32.size : Nat) : Int) = 4294967296 from rfl]
      omega
    rw [e]
section ZSF
variable {p : Program} {l : Launch} {e : Env} {R : Room} {s : State} {m : MethodId} {args : Array Value} {below : List Frame} {meth : Method} {c : Code} {cells slots : Nat} {Q : State → Prop} {cc : ByteArray} {D : va_G} {cl : List vw_C} {kA : Nat → ClassId} {A : Nat → Prop} {H0 : Heap} {nL K : Nat} {pins : List Nat} {r0 : Nat → Int} {ad0 : Nat → Nat} {N pc n : Nat} {S : zS} {ins : Instr} {L : List (Nat × zS)}
theorem zbr_t {G : zGT} {st : List zA} {cd : Jvm.ClassFile.Cond} {v1 v2 : zV} {t f : Nat} (hgo : ∀ x ∈ zbr S st cd v1 v2 t f, zGo G D cl kA A H0 nL K pins r0 ad0 N x.1 x.2) {r : Nat → Int} {ad : Nat → Nat} {ph : Nat → Nat → Int} {H : Heap} {locs : List Loc} {ls : Array Slot} (hJ : zJ K pins r0 ad0 r ad) (hR : zRel D cl kA A H0 nL S r ad ph H locs ls) (hN : zenc r S.2.2.2.2.2 = N) (h : zcP cd (zev r v1) (zev r v2)) : G t H locs ls (st.map (zcv r ad)) := by
  obtain ⟨q, e1, o1, o2⟩ := zcT_ok hR.1 hR.2.1 h
  refine hgo (t, zse S q st) ?_ r ad ph H locs ls hJ ⟨o1, o2, hR.2.2⟩ hN
  unfold zbr
  rw [e1]
  exact List.mem_append_left _ List.mem_cons_self
theorem zbr_f {G : zGT} {st : List zA} {cd : Jvm.ClassFile.Cond} {v1 v2 : zV} {t f : Nat} (hgo : ∀ x ∈ zbr S st cd v1 v2 t f, zGo G D cl kA A H0 nL K pins r0 ad0 N x.1 x.2) {r : Nat → Int} {ad : Nat → Nat} {ph : Nat → Nat → Int} {H : Heap} {locs : List Loc} {ls : Array Slot} (hJ : zJ K pins r0 ad0 r ad) (hR : zRel D cl kA A H0 nL S r ad ph H locs ls) (hN : zenc r S.2.2.2.2.2 = N) (h : ¬ zcP cd (zev r v1) (zev r v2)) : G f H locs ls (st.map (zcv r ad)) := by
  obtain ⟨q, e1, o1, o2⟩ := zcF_ok hR.1 hR.2.1 h
  refine hgo (f, zse S q st) ?_ r ad ph H locs ls hJ ⟨o1, o2, hR.2.2⟩ hN
  unfold zbr
  rw [e1]
  exact List.mem_append_right _ List.mem_cons_self
theorem znel_go {G : zGT} {st : List zA} {v1 v2 : zV} {t : Nat} (hgo : ∀ x ∈ znel S st v1 v2 t, zGo G D cl kA A H0 nL K pins r0 ad0 N x.1 x.2) {r : Nat → Int} {ad : Nat → Nat} {ph : Nat → Nat → Int} {H : Heap} {locs : List Loc} {ls : Array Slot} (hJ : zJ K pins r0 ad0 r ad) (hR : zRel D cl kA A H0 nL S r ad ph H locs ls) (hN : zenc r S.2.2.2.2.2 = N) (h : ¬ zev r v1 = zev r v2) : G t H locs ls (st.map (zcv r ad)) := by
  by_cases hlt : zev r v1 < zev r v2
  · obtain ⟨q, e1, o1, o2⟩ := zlekS_ok (v1 := v1) (v2 := v2) (k := 1) hR.1 hR.2.1 (by omega)
    refine hgo (t, zse S q st) ?_ r ad ph H locs ls hJ ⟨o1, o2, hR.2.2⟩ hN
    unfold znel
    rw [e1]
    exact List.mem_append_left _ List.mem_cons_self
  · obtain ⟨q, e1, o1, o2⟩ := zlekS_ok (v1 := v2) (v2 := v1) (k := 1) hR.1 hR.2.1 (by omega)
    refine hgo (t, zse S q st) ?_ r ad ph H locs ls hJ ⟨o1, o2, hR.2.2⟩ hN
    unfold znel
    rw [e1]
    exact List.mem_append_right _ List.mem_cons_self
theorem zeql_go {G : zGT} {st : List zA} {v1 v2 : zV} {t : Nat} {L1 : List (Nat × zS)} (hL : ∀ q, zeqS S.1 S.2.1 v1 v2 = some q → (t, zse S q st) ∈ L1) (hgo : ∀ x ∈ L1, zGo G D cl kA A H0 nL K pins r0 ad0 N x.1 x.2) {r : Nat → Int} {ad : Nat → Nat} {ph : Nat → Nat → Int} {H : Heap} {locs : List Loc} {ls : Array Slot} (hJ : zJ K pins r0 ad0 r ad) (hR : zRel D cl kA A H0 nL S r ad ph H locs ls) (hN : zenc r S.2.2.2.2.2 = N) (h : zev r v1 = zev r v2) : G t H locs ls (st.map (zcv r ad)) := by
  obtain ⟨q, e1, o1, o2⟩ := zeqS_ok hR.1 hR.2.1 h
  exact hgo (t, zse S q st) (hL q e1) r ad ph H locs ls hJ ⟨o1, o2, hR.2.2⟩ hN
theorem zbrl_t {G : zGT} {st : List zA} {cd : Jvm.ClassFile.Cond} {v1 v2 : zV} {t f : Nat} (hgo : ∀ x ∈ zbrl S st cd v1 v2 t f, zGo G D cl kA A H0 nL K pins r0 ad0 N x.1 x.2) {r : Nat → Int} {ad : Nat → Nat} {ph : Nat → Nat → Int} {H : Heap} {locs : List Loc} {ls : Array Slot} (hJ : zJ K pins r0 ad0 r ad) (hR : zRel D cl kA A H0 nL S r ad ph H locs ls) (hN : zenc r S.2.2.2.2.2 = N) (h : zcP cd (zev r v1) (zev r v2)) : G t H locs ls (st.map (zcv r ad)) := by
  cases cd
  · exact zeql_go (fun q e1 => by unfold zbrl; dsimp only; rw [e1]; exact List.mem_append_left _ List.mem_cons_self) hgo hJ hR hN h
  · exact znel_go (fun x hx => hgo x (List.mem_append_left _ hx)) hJ hR hN h
  · exact zbr_t hgo hJ hR hN h
  · exact zbr_t hgo hJ hR hN h
  · exact zbr_t hgo hJ hR hN h
  · exact zbr_t hgo hJ hR hN h
theorem zbrl_f {G : zGT} {st : List zA} {cd : Jvm.ClassFile.Cond} {v1 v2 : zV} {t f : Nat} (hgo : ∀ x ∈ zbrl S st cd v1 v2 t f, zGo G D cl kA A H0 nL K pins r0 ad0 N x.1 x.2) {r : Nat → Int} {ad : Nat → Nat} {ph : Nat → Nat → Int} {H : Heap} {locs : List Loc} {ls : Array Slot} (hJ : zJ K pins r0 ad0 r ad) (hR : zRel D cl kA A H0 nL S r ad ph H locs ls) (hN : zenc r S.2.2.2.2.2 = N) (h : ¬ zcP cd (zev r v1) (zev r v2)) : G f H locs ls (st.map (zcv r ad)) := by
  cases cd
  · exact znel_go (fun x hx => hgo x (List.mem_append_right _ hx)) hJ hR hN h
  · exact zeql_go (fun q e1 => by unfold zbrl; dsimp only; rw [e1]; exact List.mem_append_right _ List.mem_cons_self) hgo hJ hR hN (Classical.not_not.mp h)
  · exact zbr_f hgo hJ hR hN h
  · exact zbr_f hgo hJ hR hN h
  · exact zbr_f hgo hJ hR hN h
  · exact zbr_f hgo hJ hR hN h
theorem zstepR_ok (hx : p.tables.exec = Jvm.exec) (hb : c.code = cc) (hdg : decode cc pc = .ok (.lrem, 1)) (h : zstepR K n S pc = some L) (hgo : ∀ x ∈ L, zGo (zGW p l e R s m args below meth c cells slots Q) D cl kA A H0 nL K pins r0 ad0 N x.1 x.2) : zGo (zGW p l e R s m args below meth c cells slots Q) D cl kA A H0 nL K pins r0 ad0 N pc S := by
  intro r ad ph H locs ls hJ hR hN
  unfold zstepR at h
  split at h
  · rename_i v2 v1 st hst
    split at h
    · rename_i i j hi hj
      cases hz : zlng i && zlng j && zpos2 i j && Nat.blt v2.1 n && zfr n K (zst S st) with
      | false =>
        rw [hz] at h
        dsimp only [cond] at h
        cases hz2 : zlng i && zlng j && znz j && zfr n K (zst S st) with
        | false => rw [hz2] at h; cases h
        | true =>
          rw [hz2] at h
          simp only [Bool.and_eq_true] at hz2
          obtain ⟨⟨⟨z1, z2⟩, z3⟩, z5⟩ := hz2
          cases h
          have bj := zrng_ok hR.1 hj
          have cj := zlng_ok z2 bj.1 bj.2
          show W _ _ _ _ _ _ _ _ _ _ _ _ _ _ _ (F0 m pc ls (S.2.2.2.1.map (zcv r ad)))
          rw [hst]
          exact lv_lrem hx hb hdg (zq_neL cj.1 cj.2 (znz_ok bj z3)) (zputL_go z5 (hgo _ List.mem_cons_self) hJ hR hN (zres_fullL _ _))
      | true =>
        rw [hz] at h
        simp only [Bool.and_eq_true] at hz
        obtain ⟨⟨⟨⟨z1, z2⟩, z3⟩, z4⟩, z5⟩ := hz
        cases h
        have bi := zrng_ok hR.1 hi
        have bj := zrng_ok hR.1 hj
        have cj := zlng_ok z2 bj.1 bj.2
        have hb2 := zremL_b bi bj z1 z2 z3
        have hp2 := z3
        simp only [zpos2, Bool.and_eq_true] at hp2
        have hp3 := zle_ok hp2.2
        show W _ _ _ _ _ _ _ _ _ _ _ _ _ _ _ (F0 m pc ls (S.2.2.2.1.map (zcv r ad)))
        rw [hst]
        refine lv_lrem hx hb hdg (zq_neL cj.1 cj.2 (Or.inr (by omega))) ?_
        obtain ⟨h1, h2, h3, h4, h5⟩ := zfresh z5 hJ hR hN (Int64.ofInt (zev r v1) - Int64.ofInt (zev r v1) / Int64.ofInt (zev r v2) * Int64.ofInt (zev r v2)).toInt
        generalize hzz : Int64.ofInt (zev r v1) - Int64.ofInt (zev r v1) / Int64.ofInt (zev r v2) * Int64.ofInt (zev r v2) = z at *
        have g := hgo _ List.mem_cons_self _ ad ph H locs ls h1 ⟨⟨h2.1.1, fun x hx => by
          rcases List.mem_cons.mp hx with e | e
          · subst e
            dsimp only
            rw [if_pos rfl]
            omega
          · exact h2.1.2 x e⟩, zaz_ok h2.2.1 (by
            unfold zev at hb2 ⊢
            dsimp only
            rw [if_pos rfl, if_neg (by have := zblt z4; omega)]
            omega), h2.2.2⟩ h4
        have e2 : (.inl (.inr (n, 0)) :: st : List zA).map (zcv (fun i => if i = n then z.toInt else r i) ad) = .long z :: st.map (zcv r ad) := by
          show Value.long (Int64.ofInt (zev _ (n, 0))) :: st.map _ = _
          rw [h3]
          congr 2
          unfold zev
          dsimp only
          rw [if_pos rfl, Int.add_zero, Int64.ofInt_toInt]
        have g : W p l e R s m args below meth c H locs cells slots Q (F0 m (pc + 1) ls ((.inl (.inr (n, 0)) :: st : List zA).map (zcv (fun i => if i = n then z.toInt else r i) ad))) := g
        rw [e2] at g
        exact g
    · cases h
  · cases h
theorem zovf_go {G : zGT} {st : List zA} {v : zV} {k : Int} {t : Nat} (hgo : ∀ x ∈ zovf S st v k t, zGo G D cl kA A H0 nL K pins r0 ad0 N x.1 x.2) {r : Nat → Int} {ad : Nat → Nat} {ph : Nat → Nat → Int} {H : Heap} {locs : List Loc} {ls : Array Slot} (hJ : zJ K pins r0 ad0 r ad) (hR : zRel D cl kA A H0 nL S r ad ph H locs ls) (hN : zenc r S.2.2.2.2.2 = N) (hb : -zBig ≤ zev r v ∧ zev r v ≤ zBig) : G t H locs ls (.int (Int32.ofInt (zev r v + k)) :: st.map (zcv r ad)) := by
  have key : ∀ d : Int, zev r (v.1, v.2 + d) = zev r v + d := fun d => by unfold zev; dsimp only; omega
  by_cases h1 : zev r v < -2147483648 - k
  · obtain ⟨E, e1, o1⟩ := zref_ok (v := v) (lo := -zBig) (hi := -2147483648 - k - 1) hR.1 hb.1 (by omega)
    have g := hgo (t, zse S (E, S.2.1) (.inl (.inl (v.1, v.2 + (k + 4294967296))) :: st)) (by
      unfold zovf
      rw [e1]
      exact List.mem_append_right _ (List.mem_append_left _ List.mem_cons_self)) r ad ph H locs ls hJ ⟨o1, hR.2⟩ hN
    have e2 : (zse S (E, S.2.1) (.inl (.inl (v.1, v.2 + (k + 4294967296))) :: st)).2.2.2.1.map (zcv r ad) = .int (Int32.ofInt (zev r v + k)) :: st.map (zcv r ad) := by
      show Value.int (Int32.ofInt (zev r (v.1, v.2 + (k + 4294967296)))) :: _ = _
      rw [key, ← Int.add_assoc, (zq_per _).1]
    rw [e2] at g
    exact g
  · by_cases h2 : 2147483647 - k < zev r v
    · obtain ⟨E, e1, o1⟩ := zref_ok (v := v) (lo := 2147483647 - k + 1) (hi := zBig) hR.1 (by omega) hb.2
      have g := hgo (t, zse S (E, S.2.1) (.inl (.inl (v.1, v.2 + (k - 4294967296))) :: st)) (by
        unfold zovf
        rw [e1]
        exact List.mem_append_right _ (List.mem_append_right _ List.mem_cons_self)) r ad ph H locs ls hJ ⟨o1, hR.2⟩ hN
      have e2 : (zse S (E, S.2.1) (.inl (.inl (v.1, v.2 + (k - 4294967296))) :: st)).2.2.2.1.map (zcv r ad) = .int (Int32.ofInt (zev r v + k)) :: st.map (zcv r ad) := by
        show Value.int (Int32.ofInt (zev r (v.1, v.2 + (k - 4294967296)))) :: _ = _
        rw [key, ← Int.add_sub_assoc, (zq_per _).2]
      rw [e2] at g
      exact g
    · obtain ⟨E, e1, o1⟩ := zref_ok (v := v) (lo := -2147483648 - k) (hi := 2147483647 - k) hR.1 (by omega) (by omega)
      have g := hgo (t, zse S (E, S.2.1) (.inl (.inl (v.1, v.2 + k)) :: st)) (by
        unfold zovf
        rw [e1]
        exact List.mem_append_left _ List.mem_cons_self) r ad ph H locs ls hJ ⟨o1, hR.2⟩ hN
      have e2 : (zse S (E, S.2.1) (.inl (.inl (v.1, v.2 + k)) :: st)).2.2.2.1.map (zcv r ad) = .int (Int32.ofInt (zev r v + k)) :: st.map (zcv r ad) := by
        show Value.int (Int32.ofInt (zev r (v.1, v.2 + k))) :: _ = _
        rw [key]
      rw [e2] at g
      exact g
theorem zstepO_ok (hx : p.tables.exec = Jvm.exec) (hb : c.code = cc) {neg : Bool} (hdg : (neg = false ∧ decode cc pc = .ok (.iadd, 1)) ∨ (neg = true ∧ decode cc pc = .ok (.isub, 1))) (h : zstepO S pc neg = some L) (hgo : ∀ x ∈ L, zGo (zGW p l e R s m args below meth c cells slots Q) D cl kA A H0 nL K pins r0 ad0 N x.1 x.2) : zGo (zGW p l e R s m args below meth c cells slots Q) D cl kA A H0 nL K pins r0 ad0 N pc S := by
  intro r ad ph H locs ls hJ hR hN
  unfold zstepO at h
  split at h
  · rename_i v2 v1 st hst
    split at h
    · rename_i i hi
      cases hz : Nat.beq v2.1 0 && zint i && !zint (i.1 + (bif neg then -v2.2 else v2.2), i.2 + (bif neg then -v2.2 else v2.2)) with
      | false => rw [hz] at h; cases h
      | true =>
        rw [hz] at h
        simp only [Bool.and_eq_true] at hz
        cases h
        have bi := zrng_ok hR.1 hi
        have ci := zint_ok hz.1.2 bi.1 bi.2
        have e2 : zev r v2 = v2.2 := by
          unfold zev
          rw [Nat.eq_of_beq_eq_true hz.1.1, hR.1.1]
          omega
        have hbig : -zBig ≤ zev r v1 ∧ zev r v1 ≤ zBig := by unfold zBig; omega
        show W _ _ _ _ _ _ _ _ _ _ _ _ _ _ _ (F0 m pc ls (S.2.2.2.1.map (zcv r ad)))
        rw [hst]
        rcases hdg with ⟨rfl, hdg⟩ | ⟨rfl, hdg⟩
        · refine lv_iadd hx hb hdg ?_
          rw [zq_addW, e2]
          exact zovf_go hgo hJ hR hN hbig
        · refine lv_isub hx hb hdg ?_
          rw [zq_subW, e2, Int.sub_eq_add_neg]
          exact zovf_go hgo hJ hR hN hbig
    · cases h
  · cases h
theorem zstepC_ok (hx : p.tables.exec = Jvm.exec) (hb : c.code = cc) {nxt : Option Instr} (hdg : decode cc pc = .ok (ins, zlen ins)) (hnx : ∀ i, nxt = some i → decode cc (pc + 1) = .ok (i, zlen i)) (h : zstepC K n S pc ins nxt = some L) (hgo : ∀ x ∈ L, zGo (zGW p l e R s m args below meth c cells slots Q) D cl kA A H0 nL K pins r0 ad0 N x.1 x.2) : zGo (zGW p l e R s m args below meth c cells slots Q) D cl kA A H0 nL K pins r0 ad0 N pc S := by
  unfold zstepC at h
  split at h
  · rename_i cd o
    intro r ad ph H locs ls hJ hR hN
    split at h
    · rename_i v2 v1 st hst
      split at h
      · rename_i i j hi hj
        cases hz : zint i && zint j && zle 0 ((pc : Int) + o) with
        | false => rw [hz] at h; cases h
        | true =>
          rw [hz] at h
          simp only [Bool.and_eq_true] at hz
          cases h
          have bi := zrng_ok hR.1 hi
          have bj := zrng_ok hR.1 hj
          have ci := zint_ok hz.1.1 bi.1 bi.2
          have cj := zint_ok hz.1.2 bj.1 bj.2
          have q := zle_ok hz.2
          show W _ _ _ _ _ _ _ _ _ _ _ _ _ _ _ (F0 m pc ls (S.2.2.2.1.map (zcv r ad)))
          rw [hst]
          exact zicmp_W (tgt := ((pc : Int) + o).toNat) hx hb hdg (by omega) ci.1 ci.2 cj.1 cj.2 (fun hc => zbr_t hgo hJ hR hN hc) (fun hc => zbr_f hgo hJ hR hN hc)
      · cases h
    · cases h
  · rename_i cd o
    intro r ad ph H locs ls hJ hR hN
    split at h
    · rename_i v1 st hst
      split at h
      · rename_i i hi
        cases hz : zint i && zle 0 ((pc : Int) + o) with
        | false => rw [hz] at h; cases h
        | true =>
          rw [hz] at h
          simp only [Bool.and_eq_true] at hz
          cases h
          have bi := zrng_ok hR.1 hi
          have ci := zint_ok hz.1 bi.1 bi.2
          have q := zle_ok hz.2
          show W _ _ _ _ _ _ _ _ _ _ _ _ _ _ _ (F0 m pc ls (S.2.2.2.1.map (zcv r ad)))
          rw [hst]
          exact zif_W (tgt := ((pc : Int) + o).toNat) hx hb hdg (by omega) ci.1 ci.2 (fun hc => zbr_t hgo hJ hR hN (by rw [zconst hR.1.1]; exact hc)) (fun hc => zbr_f hgo hJ hR hN (by rw [zconst hR.1.1]; exact hc))
      · cases h
    · cases h
  · intro r ad ph H locs ls hJ hR hN
    split at h
    · rename_i cd o
      split at h
      · rename_i v2 v1 st hst
        split at h
        · rename_i i j hi hj
          cases hz : zlng i && zlng j && zle 0 (((pc + 1 : Nat) : Int) + o) with
          | false => rw [hz] at h; cases h
          | true =>
            rw [hz] at h
            simp only [Bool.and_eq_true] at hz
            cases h
            have bi := zrng_ok hR.1 hi
            have bj := zrng_ok hR.1 hj
            have ci := zlng_ok hz.1.1 bi.1 bi.2
            have cj := zlng_ok hz.1.2 bj.1 bj.2
            have q := zle_ok hz.2
            show W _ _ _ _ _ _ _ _ _ _ _ _ _ _ _ (F0 m pc ls (S.2.2.2.1.map (zcv r ad)))
            rw [hst]
            refine W.lcmp hx hb hdg ?_
            obtain ⟨k, hk, k1, k2, k3⟩ := zlg_cmp (Int64.ofInt (zev r v1)) (Int64.ofInt (zev r v2))
            rw [zq_ofL ci.1 ci.2, zq_ofL cj.1 cj.2] at k3
            rw [hk]
            exact zif_W (tgt := (((pc + 1 : Nat) : Int) + o).toNat) hx hb (hnx _ rfl) (by omega) (by omega) (by omega) (fun hc => zbrl_t hgo hJ hR hN ((k3 cd).mp hc)) (fun hc => zbrl_f hgo hJ hR hN (fun z => hc ((k3 cd).mpr z)))
        · cases h
      · cases h
    · cases h
  · exact zstepR_ok hx hb hdg h hgo
  · exact zstepO_ok hx hb (Or.inl ⟨rfl, hdg⟩) h hgo
  · exact zstepO_ok hx hb (Or.inr ⟨rfl, hdg⟩) h hgo
  · cases h
end ZSF
end
section
def zrx (E : zE) : zI ⊕ zV → Option zI
  | .inl i => some i
  | .inr v => zrng E v
theorem zrx_ok {r : Nat → Int} {E : zE} (hE : zokE r E) {x : zI ⊕ zV} {i : zI} (h : zrx E x = some i) {y : Int} (hy : zokX r y x) : i.1 ≤ y ∧ y ≤ i.2 := by
  rcases x with j | v
  · cases h
    exact hy
  · have e : y = zev r v := hy
    rw [e]
    exact zrng_ok hE h
def zlenG : List zG → Nat
  | [] => 0
  | g :: gs => g.1 + zlenG gs
def zrd (E : zE) (a b : Int) : Nat → List zG → Option (Option zI)
  | _, [] => some none
  | o, g :: gs => match zrd E a b (o + g.1) gs, zrx E g.2 with
    | some acc, some i => bif zle ((o : Int) + (g.1 : Int)) a || zle (b + 1) (o : Int) then some acc else some (some (match acc with
      | none => i
      | some j => (zmin i.1 j.1, zmax i.2 j.2)))
    | _, _ => none
theorem zrd_ok {r : Nat → Int} {E : zE} (hE : zokE r E) {f : Nat → Int} {a b : Int} : ∀ (gs : List zG) (o : Nat) (acc : Option zI), zokG r f o gs → zrd E a b o gs = some acc → ∀ j : Nat, o ≤ j → j < o + zlenG gs → a ≤ j → j ≤ b → ∃ i, acc = some i ∧ i.1 ≤ f j ∧ f j ≤ i.2
  | [], o, acc, _, _, j, h1, h2, _, _ => by simp only [zlenG] at h2; omega
  | g :: gs, o, acc, hk, h, j, h1, h2, h3, h4 => by
    simp only [zlenG] at h2
    unfold zrd at h
    split at h
    · rename_i acc' i ha hi
      cases hz : zle ((o : Int) + (g.1 : Int)) a || zle (b + 1) (o : Int) with
      | true =>
        rw [hz] at h
        cases h
        simp only [Bool.or_eq_true] at hz
        have hj : o + g.1 ≤ j := by
          rcases hz with q | q
          · have := zle_ok q; omega
          · have := zle_ok q; omega
        exact zrd_ok hE gs (o + g.1) _ hk.2 ha j hj (by omega) h3 h4
      | false =>
        rw [hz] at h
        cases h
        by_cases hj : j < o + g.1
        · have q := zrx_ok hE hi (hk.1 j h1 hj)
          cases acc' with
          | none => exact ⟨_, rfl, q⟩
          | some k => exact ⟨_, rfl, zmin_l q.1, le_zmax_l q.2⟩
        · obtain ⟨k, e, q1, q2⟩ := zrd_ok hE gs (o + g.1) _ hk.2 ha j (by omega) (by omega) h3 h4
          subst e
          exact ⟨_, rfl, zmin_r q1, le_zmax_r q2⟩
    · cases h
def zrdx (a : Int) : Nat → List zG → Option zV
  | _, [] => none
  | o, g :: gs => bif zle (o : Int) a && zle (a + 1) ((o : Int) + (g.1 : Int)) then (match g.2 with
    | .inr v => some v
    | .inl _ => none) else zrdx a (o + g.1) gs
theorem zrdx_ok {r : Nat → Int} {f : Nat → Int} {j : Nat} {v : zV} : ∀ (gs : List zG) (o : Nat), zokG r f o gs → zrdx (j : Int) o gs = some v → f j = zev r v
  | [], _, _, h => by cases h
  | g :: gs, o, hk, h => by
    unfold zrdx at h
    cases hz : zle (o : Int) j && zle ((j : Int) + 1) ((o : Int) + (g.1 : Int)) with
    | true =>
      rw [hz] at h
      simp only [Bool.and_eq_true] at hz
      have a := zle_ok hz.1
      have b := zle_ok hz.2
      have q := hk.1 j (by omega) (by omega)
      obtain ⟨k, x⟩ := g
      rcases x with x | u
      · cases h
      · cases h
        exact q
    | false =>
      rw [hz] at h
      exact zrdx_ok gs (o + g.1) hk.2 h
def zrq (E : zE) (i : zI) (gs : List zG) : Option (zV ⊕ zI) := match zrd E i.1 i.2 0 gs with
  | some (some q) => bif zint q then (bif zle i.2 i.1 then (match zrdx i.1 0 gs with
    | some v => some (.inl v)
    | none => some (.inr q)) else some (.inr q)) else none
  | _ => none
theorem zrq_ok {r : Nat → Int} {E : zE} (hE : zokE r E) {f : Nat → Int} {gs : List zG} {i : zI} {q : zV ⊕ zI} (hk : zokG r f 0 gs) (h : zrq E i gs = some q) {j : Nat} (h1 : i.1 ≤ j) (h2 : j ≤ i.2) (h3 : j < zlenG gs) : zresI r (Int32.ofInt (f j)) q := by
  unfold zrq at h
  split at h
  · rename_i k hr
    obtain ⟨k', e, q1, q2⟩ := zrd_ok hE gs 0 _ hk hr j (by omega) (by omega) h1 h2
    cases e
    cases hz : zint k with
    | false => rw [hz] at h; cases h
    | true =>
      rw [hz] at h
      have b := zint_ok hz q1 q2
      have d : k.1 ≤ (Int32.ofInt (f j)).toInt ∧ (Int32.ofInt (f j)).toInt ≤ k.2 := by rw [zq_of b.1 b.2]; exact ⟨q1, q2⟩
      dsimp only [cond] at h
      cases hs : zle i.2 i.1 with
      | true =>
        rw [hs] at h
        dsimp only at h
        have s := zle_ok hs
        have ej : i.1 = (j : Int) := by omega
        rw [ej] at h
        split at h
        · rename_i v hv
          cases h
          show Int32.ofInt (f j) = Int32.ofInt (zev r v)
          rw [zrdx_ok gs 0 hk hv]
        · cases h
          exact d
      | false =>
        rw [hs] at h
        cases h
        exact d
  · cases h
theorem zrq_in {r : Nat → Int} {E : zE} (hE : zokE r E) {f : Nat → Int} {gs : List zG} {i q : zI} (hk : zokG r f 0 gs) (h : zrq E i gs = some (.inr q)) {j : Nat} (h1 : i.1 ≤ j) (h2 : j ≤ i.2) (h3 : j < zlenG gs) : q.1 ≤ f j ∧ f j ≤ q.2 := by
  unfold zrq at h
  split at h
  · rename_i k hr
    obtain ⟨k', e, q1, q2⟩ := zrd_ok hE gs 0 _ hk hr j (by omega) (by omega) h1 h2
    cases e
    cases hz : zint k with
    | false => rw [hz] at h; cases h
    | true =>
      rw [hz] at h
      dsimp only [cond] at h
      cases hs : zle i.2 i.1 with
      | true =>
        rw [hs] at h
        dsimp only at h
        split at h
        · cases h
        · cases h
          exact ⟨q1, q2⟩
      | false =>
        rw [hs] at h
        cases h
        exact ⟨q1, q2⟩
  · cases h
def zwr (E : zE) (a b : Int) (v : zV) (i : zI) : Nat → List zG → Option (List zG)
  | _, [] => some []
  | o, g :: gs => match zwr E a b v i (o + g.1) gs with
    | none => none
    | some gs' => bif zle ((o : Int) + (g.1 : Int)) a || zle (b + 1) (o : Int) then some (g :: gs') else bif zle b a && Nat.beq g.1 1 then some ((1, .inr v) :: gs') else match zrx E g.2 with
      | some j => some ((g.1, .inl (zmin i.1 j.1, zmax i.2 j.2)) :: gs')
      | none => none
theorem zwr_ok {r : Nat → Int} {E : zE} (hE : zokE r E) {f : Nat → Int} {a b : Int} {v : zV} {i : zI} {x : Nat} (hx1 : a ≤ x) (hx2 : x ≤ b) (hv : i.1 ≤ zev r v ∧ zev r v ≤ i.2) : ∀ (gs : List zG) (o : Nat) (gs' : List zG), zokG r f o gs → zwr E a b v i o gs = some gs' → zokG r (fun j => if j = x then zev r v else f j) o gs' ∧ zlenG gs' = zlenG gs
  | [], _, _, _, h => by cases h; exact ⟨trivial, rfl⟩
  | g :: gs, o, gs', hk, h => by
    unfold zwr at h
    split at h
    · cases h
    · rename_i gt ht
      have ih := zwr_ok hE hx1 hx2 hv gs (o + g.1) gt hk.2 ht
      cases hz : zle ((o : Int) + (g.1 : Int)) a || zle (b + 1) (o : Int) with
      | true =>
        rw [hz] at h
        cases h
        simp only [Bool.or_eq_true] at hz
        refine ⟨⟨fun j h1 h2 => ?_, ih.1⟩, by simp only [zlenG]; rw [ih.2]⟩
        have hne : ¬ j = x := by
          rcases hz with q | q
          · have := zle_ok q; omega
          · have := zle_ok q; omega
        dsimp only
        rw [if_neg hne]
        exact hk.1 j h1 h2
      | false =>
        rw [hz] at h
        dsimp only [cond] at h
        simp only [Bool.or_eq_false_iff] at hz
        have n1 : ¬ ((o : Int) + (g.1 : Int)) ≤ a := of_decide_eq_false hz.1
        have n2 : ¬ (b + 1) ≤ (o : Int) := of_decide_eq_false hz.2
        cases hs : zle b a && Nat.beq g.1 1 with
        | true =>
          rw [hs] at h
          cases h
          simp only [Bool.and_eq_true] at hs
          have s1 := zle_ok hs.1
          have s2 := Nat.eq_of_beq_eq_true hs.2
          refine ⟨⟨fun j h1 h2 => ?_, ?_⟩, by simp only [zlenG]; rw [ih.2, s2]⟩
          · dsimp only at h2 ⊢
            rw [if_pos (by omega)]
            rfl
          · have := ih.1
            rw [s2] at this
            exact this
        | false =>
          rw [hs] at h
          dsimp only at h
          split at h
          · rename_i k hr
            cases h
            refine ⟨⟨fun j h1 h2 => ?_, ih.1⟩, by simp only [zlenG]; rw [ih.2]⟩
            dsimp only at h2 ⊢
            by_cases hj : j = x
            · rw [if_pos hj]
              exact ⟨zmin_l hv.1, le_zmax_l hv.2⟩
            · rw [if_neg hj]
              have q := zrx_ok hE hr (hk.1 j h1 h2)
              exact ⟨zmin_r q.1, le_zmax_r q.2⟩
          · cases h
def zpos : zW → Nat → Option Nat
  | [], _ => none
  | x :: w, i => bif Nat.beq x.1 i then some 0 else (zpos w i).map (· + 1)
theorem zws_get {w : zW} {q i : Nat} {x : zC} (kA : Nat → ClassId) (r : Nat → Int) (ad : Nat → Nat) (ph : Nat → Nat → Int) (h : w[q]? = some (i, x)) : (zws kA r ad ph w)[q]? = some (ad i, zce kA r ad (ph i) x) := by
  unfold zws
  rw [List.getElem?_map, h]
  rfl
theorem zws_ids {A : Nat → Prop} {w : zW} {kA : Nat → ClassId} {r : Nat → Int} {ad : Nat → Nat} {ph : Nat → Nat → Int} (hD : va_D A (zws kA r ad ph w)) {q k i : Nat} {x y : zC} (h1 : w[q]? = some (i, x)) (h2 : w[k]? = some (i, y)) : q = k :=
  hD.1 q k _ _ (zws_get kA r ad ph h1) (zws_get kA r ad ph h2) rfl
theorem zws_set {A : Nat → Prop} {w : zW} {kA : Nat → ClassId} {r : Nat → Int} {ad : Nat → Nat} {ph ph' : Nat → Nat → Int} (hD : va_D A (zws kA r ad ph w)) {q i : Nat} {x x' : zC} (h : w[q]? = some (i, x)) (hph : ∀ k, k ≠ i → ph' k = ph k) : zws kA r ad ph' (w.set q (i, x')) = (zws kA r ad ph w).set q (ad i, zce kA r ad (ph' i) x') := by
  have hl := (List.getElem?_eq_some_iff.mp h).1
  apply List.ext_getElem?
  intro k
  by_cases hk : q = k
  · subst hk
    unfold zws
    rw [List.getElem?_map, List.getElem?_set_self hl, List.getElem?_set_self (by rw [List.length_map]; exact hl)]
    rfl
  · rw [List.getElem?_set_ne hk]
    unfold zws
    rw [List.getElem?_map, List.getElem?_set_ne hk, List.getElem?_map]
    cases hw : w[k]? with
    | none => rfl
    | some y =>
      have hne : y.1 ≠ i := fun e => hk (zws_ids hD h (y := y.2) (by rw [hw, ← e]))
      show some (ad y.1, zce kA r ad (ph' y.1) y.2) = some (ad y.1, zce kA r ad (ph y.1) y.2)
      rw [hph _ hne]
theorem zokW_set {r : Nat → Int} {ph ph' : Nat → Nat → Int} {w : zW} {A : Nat → Prop} {kA : Nat → ClassId} {ad : Nat → Nat} (hD : va_D A (zws kA r ad ph w)) {q i : Nat} {x x' : zC} (h : w[q]? = some (i, x)) (hph : ∀ k, k ≠ i → ph' k = ph k) (hw : zokW r ph w) (hx : zokC r (ph' i) x') : zokW r ph' (w.set q (i, x')) := by
  intro y hy
  obtain ⟨k, hk⟩ := List.getElem?_of_mem hy
  by_cases e : q = k
  · subst e
    rw [List.getElem?_set_self (List.getElem?_eq_some_iff.mp h).1] at hk
    cases hk
    exact hx
  · rw [List.getElem?_set_ne e] at hk
    have hne : y.1 ≠ i := fun z => e (zws_ids hD h (y := y.2) (by rw [hk, ← z]))
    rw [hph _ hne]
    exact hw y (List.mem_of_getElem? hk)
def ztag (tag : Nat) (ty : FieldType) (fin : Bool) : Prop := match tag with
  | 0 => fin = false ∧ ty = .int
  | 1 => fin = false ∧ ty = .boolean
  | 2 => fin = false ∧ ∃ C, ty = .object C
  | _ => True
def zFld (Ts : List Cond) (own : String) (cl : List vw_C) (idx ci k tag : Nat) : Prop :=
  ∃ (C : String) (T : u_T) (nF : Nat) (ty0 : Nat → FieldType), cl[ci]? = some (C, T, nF) ∧ k < nF ∧ (∀ w ∈ u_ws C T nF, w ∈ Ts) ∧ (∀ j, j < nF → parseFieldDescriptor (T j).2.2.1 = some (ty0 j)) ∧ (∀ a, a < nF → ∀ b, b < nF → a ≠ b → (T a).2.1 ≠ (T b).2.1) ∧ Cond.fieldLink own idx (T k).1 (T k).2.1 (T k).2.2.1 ∈ Ts ∧ ztag tag (ty0 k) (T k).2.2.2
def ztok (E : zE) (tag : Nat) (a : zA) : Bool := match tag, a with
  | 0, .inl (.inl _) => true
  | 1, .inl (.inl v) => match zrng E v with
    | some i => zle 0 i.1 && zle i.2 1
    | none => false
  | 2, .inr (some _) => true
  | _, _ => false
theorem znar_bool {k : Int} (h1 : 0 ≤ k) (h2 : k ≤ 1) : narrow .boolean (.int (Int32.ofInt k)) = .int (Int32.ofInt k) ∧ fits .boolean (.int (Int32.ofInt k)) = true := by
  rcases (show k = 0 ∨ k = 1 by omega) with rfl | rfl
  · exact ⟨by decide +kernel, by decide +kernel⟩
  · exact ⟨by decide +kernel, by decide +kernel⟩
theorem ztok_ok {r : Nat → Int} {E : zE} (hE : zokE r E) {tag : Nat} {a : zA} (h : ztok E tag a = true) {ty : FieldType} {fin : Bool} (ht : ztag tag ty fin) (ad : Nat → Nat) : fin = false ∧ narrow ty (zcv r ad a) = zcv r ad a ∧ fits ty (zcv r ad a) = true := by
  unfold ztok at h
  split at h
  · obtain ⟨h1, rfl⟩ := ht
    exact ⟨h1, rfl, rfl⟩
  · rename_i v
    obtain ⟨h1, rfl⟩ := ht
    split at h
    · rename_i i hr
      simp only [Bool.and_eq_true] at h
      have b := zrng_ok hE hr
      have q := znar_bool (k := zev r v) (by have := zle_ok h.1; omega) (by have := zle_ok h.2; omega)
      exact ⟨h1, q.1, q.2⟩
    · cases h
  · obtain ⟨h1, C, rfl⟩ := ht
    exact ⟨h1, rfl, rfl⟩
  · cases h
end
section
def zcell (w : zW) (i : Nat) : Option (Nat × zC) := match zpos w i with
  | some q => match w[q]? with
    | some y => bif Nat.beq y.1 i then some (q, y.2) else none
    | none => none
  | none => none
theorem zcell_ok {w : zW} {i q : Nat} {x : zC} (h : zcell w i = some (q, x)) : w[q]? = some (i, x) := by
  unfold zcell at h
  split at h
  · rename_i k hk
    split at h
    · rename_i y hy
      cases hb : Nat.beq y.1 i with
      | false => rw [hb] at h; cases h
      | true =>
        rw [hb] at h
        cases h
        rw [hy, ← Nat.eq_of_beq_eq_true hb]
    · cases h
  · cases h
def zmlk (v : zV) : zM → Option zV
  | [] => none
  | x :: xs => bif Nat.beq x.1.1 v.1 && zle x.1.2 v.2 && zle v.2 x.1.2 then some x.2 else zmlk v xs
theorem zmlk_ok {r : Nat → Int} {f : Nat → Int} {v u : zV} : ∀ {mm : zM}, zokM r f mm → zmlk v mm = some u → f (zev r v).toNat = zev r u
  | [], _, h => by cases h
  | x :: xs, hk, h => by
    unfold zmlk at h
    cases hb : Nat.beq x.1.1 v.1 && zle x.1.2 v.2 && zle v.2 x.1.2 with
    | true =>
      rw [hb] at h
      cases h
      simp only [Bool.and_eq_true] at hb
      have a := Nat.eq_of_beq_eq_true hb.1.1
      have b := zle_ok hb.1.2
      have c := zle_ok hb.2
      have e : zev r v = zev r x.1 := by unfold zev; rw [a]; omega
      rw [e]
      exact hk x List.mem_cons_self
    | false =>
      rw [hb] at h
      exact zmlk_ok (fun y hy => hk y (List.mem_cons_of_mem _ hy)) h
def zald (kd K n : Nat) (S : zS) (pc : Nat) : Option (List (Nat × zS)) := match S.2.2.2.1 with
  | .inl (.inl v) :: .inr (some i) :: st => match zcell S.2.2.2.2.1 i, zrng S.1 v with
    | some (q0, .inr (.inl (kd', m, gs, mm))), some b => bif Nat.beq kd' kd && zle 0 b.1 && zle (b.2 + 1) (m : Int) && Nat.beq m (zlenG gs) && Nat.ble m 2000000 && zfr n K (zst S st) then (match zmlk v mm with
      | some u => some [(pc + 1, zst S (.inl (.inl u) :: st))]
      | none => match zrq S.1 b gs with
        | some (.inl u) => some [(pc + 1, zputI n S st (.inl u))]
        | some (.inr bi) => bif Nat.beq m 160 && Nat.blt 0 v.1 && Nat.blt v.1 n then some [(pc + 1, zputI n (zsw S (S.2.2.2.2.1.set q0 (i, .inr (.inl (kd', m, gs, (v, (n, 0)) :: mm)))) st) st (.inr bi))] else some [(pc + 1, zputI n S st (.inr bi))]
        | none => none) else none
    | _, _ => none
  | _ => none
def zast (kd : Nat) (S : zS) (pc : Nat) : Option (List (Nat × zS)) := match S.2.2.2.1 with
  | .inl (.inl u) :: .inl (.inl v) :: .inr (some i) :: st => match zcell S.2.2.2.2.1 i, zrng S.1 v, zrng S.1 u with
    | some (q, .inr (.inl (kd', m, gs, _))), some b, some d => bif Nat.beq kd' kd && zle 0 b.1 && zle (b.2 + 1) (m : Int) && Nat.ble m 2000000 && (Nat.beq kd 0 || (zle 0 d.1 && zle d.2 1)) then (match zwr S.1 b.1 b.2 u d 0 gs with
      | some gs' => some [(pc + 1, zsw S (S.2.2.2.2.1.set q (i, .inr (.inl (kd', m, gs', [])))) st)]
      | none => none) else none
    | _, _, _ => none
  | _ => none
def zaal (S : zS) (st : List zA) (v : zV) (pc : Nat) : Int → List Nat → List (Nat × zS)
  | _, [] => []
  | k, i :: is => (match zeqS S.1 S.2.1 v (0, k) with
    | none => []
    | some q => [(pc, zse S q (.inr (some i) :: st))]) ++ zaal S st v pc (k + 1) is
def zstepD (flds : List (Nat × Nat × Nat × Nat)) (K n : Nat) (S : zS) (pc : Nat) (ins : Instr) : Option (List (Nat × zS)) := match ins with
  | .getfield x => match S.2.2.2.1 with
    | .inr (some i) :: st => match zlk flds x, zcell S.2.2.2.2.1 i with
      | some (ci, k, _), some (_, .inl (ci', fs)) => bif Nat.beq ci' ci then (match fs[k]? with
        | some a => some [(pc + 3, zst S (a :: st))]
        | none => none) else none
      | _, _ => none
    | _ => none
  | .putfield x => match S.2.2.2.1 with
    | a :: .inr (some i) :: st => match zlk flds x, zcell S.2.2.2.2.1 i with
      | some (ci, k, tag), some (q, .inl (ci', fs)) => bif Nat.beq ci' ci && ztok S.1 tag a && Nat.blt k fs.length then some [(pc + 3, zsw S (S.2.2.2.2.1.set q (i, .inl (ci', fs.set k a))) st)] else none
      | _, _ => none
    | _ => none
  | .iaload => zald 0 K n S pc
  | .baload => zald 1 K n S pc
  | .iastore => zast 0 S pc
  | .bastore => zast 1 S pc
  | .aaload => match S.2.2.2.1 with
    | .inl (.inl v) :: .inr (some i) :: st => match zcell S.2.2.2.2.1 i, zrng S.1 v with
      | some (_, .inr (.inr (kd, is))), some b => bif (Nat.beq kd 2 || Nat.beq kd 3) && zle 0 b.1 && zle (b.2 + 1) (is.length : Int) && Nat.ble is.length 2000000 then some (zaal S st v (pc + 1) 0 is) else none
      | _, _ => none
    | _ => none
  | .arraylength => match S.2.2.2.1 with
    | .inr (some i) :: st => match zcell S.2.2.2.2.1 i with
      | some (_, .inr (.inl (kd, m, _, _))) => bif (Nat.beq kd 0 || Nat.beq kd 1) && Nat.ble m 2000000 then some [(pc + 1, zst S (.inl (.inl (0, (m : Int))) :: st))] else none
      | some (_, .inr (.inr (kd, is))) => bif (Nat.beq kd 2 || Nat.beq kd 3) && Nat.ble is.length 2000000 then some [(pc + 1, zst S (.inl (.inl (0, (is.length : Int))) :: st))] else none
      | _ => none
    | _ => none
  | _ => none
theorem zq_idx {k : Int} {m : Nat} (h1 : 0 ≤ k) (h2 : k + 1 ≤ m) (hm : m ≤ 2000000) : vp_in (Int32.ofInt k) m ∧ (Int32.ofInt k).toNatClampNeg = k.toNat := by
  have e := zq_of (z := k) (by omega) (by omega)
  exact ⟨vp_in_iff.mpr (by rw [e]; omega), by show (Int32.ofInt k).toInt.toNat = _; rw [e]⟩
section ZSG
variable {p : Program} {l : Launch} {e : Env} {R : Room} {s : State} {m : MethodId} {args : Array Value} {below : List Frame} {meth : Method} {c : Code} {cells slots : Nat} {Q : State → Prop} {cc : ByteArray} {D : va_G} {cl : List vw_C} {kA : Nat → ClassId} {A : Nat → Prop} {H0 : Heap} {nL K : Nat} {pins : List Nat} {r0 : Nat → Int} {ad0 : Nat → Nat} {N pc n : Nat} {S : zS} {ins : Instr} {L : List (Nat × zS)}
theorem zald_ok (hx : p.tables.exec = Jvm.exec) (hb : c.code = cc) (hK : va_K D cl (ztys kA) s) {kd : Nat} (hkd : (kd = 0 ∧ decode cc pc = .ok (.iaload, 1)) ∨ (kd = 1 ∧ decode cc pc = .ok (.baload, 1))) (h : zald kd K n S pc = some L) (hgo : ∀ x ∈ L, zGo (zGW p l e R s m args below meth c cells slots Q) D cl kA A H0 nL K pins r0 ad0 N x.1 x.2) : zGo (zGW p l e R s m args below meth c cells slots Q) D cl kA A H0 nL K pins r0 ad0 N pc S := by
  intro r ad ph H locs ls hJ hR hN
  unfold zald at h
  split at h
  · rename_i v i st hst
    split at h
    · rename_i q kd' k gs mm b hcell hr
      cases hz : Nat.beq kd' kd && zle 0 b.1 && zle (b.2 + 1) (k : Int) && Nat.beq k (zlenG gs) && Nat.ble k 2000000 && zfr n K (zst S st) with
      | false => rw [hz] at h; cases h
      | true =>
        rw [hz] at h
        simp only [Bool.and_eq_true] at hz
        obtain ⟨⟨⟨⟨⟨z1, z2⟩, z3⟩, z4⟩, z5⟩, z6⟩ := hz
        have hc := zcell_ok hcell
        have hb2 := zrng_ok hR.1 hr
        have y2 := zle_ok z2
        have y3 := zle_ok z3
        have y4 := Nat.eq_of_beq_eq_true z4
        have y5 := Nat.le_of_ble_eq_true z5
        have ek := Nat.eq_of_beq_eq_true z1
        subst ek
        obtain ⟨g1, g2⟩ := zq_idx (k := zev r v) (m := k) (by omega) (by omega) y5
        have hok : zokC r (ph i) (.inr (.inl (kd', k, gs, mm))) := hR.2.2.1 _ (List.mem_of_getElem? hc)
        have hget := zws_get kA r ad ph hc
        have fin : W p l e R s m args below meth c H locs cells slots Q (F0 m (pc + 1) ls (.int (Int32.ofInt (ph i (zev r v).toNat)) :: st.map (zcv r ad))) := by
          dsimp only [cond] at h
          split at h
          · rename_i u hu
            cases h
            have e := zmlk_ok hok.2 hu
            rw [e]
            exact hgo _ List.mem_cons_self r ad ph H locs ls hJ hR hN
          · split at h
            · rename_i u hq
              cases h
              exact zputI_go z6 (hgo _ List.mem_cons_self) hJ hR hN (zrq_ok hR.1 hok.1 hq (j := (zev r v).toNat) (by omega) (by omega) (by omega))
            · rename_i bi hq
              have hres := zrq_ok hR.1 hok.1 hq (j := (zev r v).toNat) (by omega) (by omega) (by omega)
              cases hm : Nat.beq k 160 && Nat.blt 0 v.1 && Nat.blt v.1 n with
              | false =>
                rw [hm] at h
                cases h
                exact zputI_go z6 (hgo _ List.mem_cons_self) hJ hR hN hres
              | true =>
                rw [hm] at h
                cases h
                simp only [Bool.and_eq_true] at hm
                have hv := zblt hm.2
                have hfi := zrq_in hR.1 hok.1 hq (j := (zev r v).toNat) (by omega) (by omega) (by omega)
                obtain ⟨h1, h2, h3, h4, h5⟩ := zfresh z6 hJ hR hN (ph i (zev r v).toNat)
                have ev : zev (fun i_1 => if i_1 = n then ph i (zev r v).toNat else r i_1) v = zev r v := by
                  show (if v.1 = n then ph i (zev r v).toNat else r v.1) + v.2 = r v.1 + v.2
                  rw [if_neg (by omega)]
                have en : zev (fun i_1 => if i_1 = n then ph i (zev r v).toNat else r i_1) (n, 0) = ph i (zev r v).toNat := by
                  show (if n = n then ph i (zev r v).toNat else r n) + (0 : Int) = ph i (zev r v).toNat
                  rw [if_pos rfl]
                  exact Int.add_zero _
                have hok2 : zokC (fun i_1 => if i_1 = n then ph i (zev r v).toNat else r i_1) (ph i) (.inr (.inl (kd', k, gs, mm))) := h2.2.2.1 _ (List.mem_of_getElem? hc)
                have ews := zws_set (ph' := ph) (x' := .inr (.inl (kd', k, gs, (v, (n, 0)) :: mm))) h2.2.2.2.2.1 hc (fun _ _ => rfl)
                have eself : (zws kA (fun i_1 => if i_1 = n then ph i (zev r v).toNat else r i_1) ad ph S.2.2.2.2.1).set q (ad i, zce kA (fun i_1 => if i_1 = n then ph i (zev r v).toNat else r i_1) ad (ph i) (.inr (.inl (kd', k, gs, (v, (n, 0)) :: mm)))) = zws kA (fun i_1 => if i_1 = n then ph i (zev r v).toNat else r i_1) ad ph S.2.2.2.2.1 := by
                  have hg := zws_get kA (fun i_1 => if i_1 = n then ph i (zev r v).toNat else r i_1) ad ph hc
                  apply List.ext_getElem?
                  intro j
                  by_cases hj : q = j
                  · subst hj
                    rw [List.getElem?_set_self (List.getElem?_eq_some_iff.mp hg).1, hg]
                    rfl
                  · rw [List.getElem?_set_ne hj]
                rw [eself] at ews
                have hwok := zokW_set (ph' := ph) (x' := .inr (.inl (kd', k, gs, (v, (n, 0)) :: mm))) h2.2.2.2.2.1 hc (fun _ _ => rfl) h2.2.2.1 ⟨hok2.1, fun x hx => by
                  rcases List.mem_cons.mp hx with e | e
                  · subst e
                    dsimp only
                    rw [ev, en]
                  · exact hok2.2 x e⟩
                have g := hgo _ List.mem_cons_self _ ad ph H locs ls h1 ⟨⟨h2.1.1, fun x hx => by
                  rcases List.mem_cons.mp hx with e | e
                  · subst e
                    dsimp only
                    rw [if_pos rfl]
                    exact hfi
                  · exact h2.1.2 x e⟩, h2.2.1, hwok, by rw [show (zputI n (zsw S (S.2.2.2.2.1.set q (i, .inr (.inl (kd', k, gs, (v, (n, 0)) :: mm)))) st) st (.inr bi)).2.2.2.2.1 = S.2.2.2.2.1.set q (i, .inr (.inl (kd', k, gs, (v, (n, 0)) :: mm))) from rfl, ews]; exact h2.2.2.2.1, by rw [show (zputI n (zsw S (S.2.2.2.2.1.set q (i, .inr (.inl (kd', k, gs, (v, (n, 0)) :: mm)))) st) st (.inr bi)).2.2.2.2.1 = S.2.2.2.2.1.set q (i, .inr (.inl (kd', k, gs, (v, (n, 0)) :: mm))) from rfl, ews]; exact h2.2.2.2.2.1, h2.2.2.2.2.2⟩ h4
                have e2 : (zputI n (zsw S (S.2.2.2.2.1.set q (i, .inr (.inl (kd', k, gs, (v, (n, 0)) :: mm)))) st) st (.inr bi)).2.2.2.1.map (zcv (fun i_1 => if i_1 = n then ph i (zev r v).toNat else r i_1) ad) = .int (Int32.ofInt (ph i (zev r v).toNat)) :: st.map (zcv r ad) := by
                  show Value.int (Int32.ofInt (zev _ (n, 0))) :: st.map _ = _
                  rw [h3, en]
                have g : W p l e R s m args below meth c H locs cells slots Q (F0 m (pc + 1) ls ((zputI n (zsw S (S.2.2.2.2.1.set q (i, .inr (.inl (kd', k, gs, (v, (n, 0)) :: mm)))) st) st (.inr bi)).2.2.2.1.map (zcv (fun i_1 => if i_1 = n then ph i (zev r v).toNat else r i_1) ad))) := g
                rw [e2] at g
                exact g
            · cases h
        show W _ _ _ _ _ _ _ _ _ _ _ _ _ _ _ (F0 m pc ls (S.2.2.2.1.map (zcv r ad)))
        rw [hst]
        rcases hkd with ⟨rfl, hdg⟩ | ⟨rfl, hdg⟩
        · refine va_iald hx hb hK hR.2.2.2.1 q 0 hget rfl g1 hdg ?_
          rw [g2]
          exact fin
        · refine va_zald hx hb hK hR.2.2.2.1 q 1 hget rfl g1 hdg ?_
          rw [g2]
          exact fin
    · cases h
  · cases h
theorem zast_ok (hx : p.tables.exec = Jvm.exec) (hb : c.code = cc) (hK : va_K D cl (ztys kA) s) {kd : Nat} (hkd : (kd = 0 ∧ decode cc pc = .ok (.iastore, 1)) ∨ (kd = 1 ∧ decode cc pc = .ok (.bastore, 1))) (h : zast kd S pc = some L) (hgo : ∀ x ∈ L, zGo (zGW p l e R s m args below meth c cells slots Q) D cl kA A H0 nL K pins r0 ad0 N x.1 x.2) : zGo (zGW p l e R s m args below meth c cells slots Q) D cl kA A H0 nL K pins r0 ad0 N pc S := by
  intro r ad ph H locs ls hJ hR hN
  unfold zast at h
  split at h
  · rename_i u v i st hst
    split at h
    · rename_i q kd' k gs mm0 b d hcell hr hu
      cases hz : Nat.beq kd' kd && zle 0 b.1 && zle (b.2 + 1) (k : Int) && Nat.ble k 2000000 && (Nat.beq kd 0 || (zle 0 d.1 && zle d.2 1)) with
      | false => rw [hz] at h; cases h
      | true =>
        rw [hz] at h
        simp only [Bool.and_eq_true] at hz
        obtain ⟨⟨⟨⟨z1, z2⟩, z3⟩, z5⟩, z6⟩ := hz
        dsimp only [cond] at h
        split at h
        · rename_i gs' hq
          cases h
          have hc := zcell_ok hcell
          have hb2 := zrng_ok hR.1 hr
          have hb3 := zrng_ok hR.1 hu
          have y2 := zle_ok z2
          have y3 := zle_ok z3
          have y5 := Nat.le_of_ble_eq_true z5
          have ek := Nat.eq_of_beq_eq_true z1
          subst ek
          obtain ⟨g1, g2⟩ := zq_idx (k := zev r v) (m := k) (by omega) (by omega) y5
          have hok : zokC r (ph i) (.inr (.inl (kd', k, gs, mm0))) := hR.2.2.1 _ (List.mem_of_getElem? hc)
          have hwr := (zwr_ok hR.1 (x := (zev r v).toNat) (by omega) (by omega) hb3 gs 0 gs' hok.1 hq).1
          have hget := zws_get kA r ad ph hc
          obtain ⟨ph', hph'⟩ : ∃ ph' : Nat → Nat → Int, ph' = fun x => if x = i then (fun j => if j = (zev r v).toNat then zev r u else ph i j) else ph x := ⟨_, rfl⟩
          have hp1 : ∀ x, x ≠ i → ph' x = ph x := fun x hx => by rw [hph']; exact if_neg hx
          have hp2 : ph' i = fun j => if j = (zev r v).toNat then zev r u else ph i j := by rw [hph']; exact if_pos rfl
          have ews := zws_set (x' := .inr (.inl (kd', k, gs', []))) hR.2.2.2.2.1 hc hp1
          have ef : zce kA r ad (ph' i) (.inr (.inl (kd', k, gs', []))) = .inl (kA kd', k, .inl (upd (fun j => Int32.ofInt (ph i j)) (zev r v).toNat (Int32.ofInt (zev r u)))) := by
            rw [hp2]
            show Sum.inl (kA kd', k, Sum.inl _) = _
            congr 4
            funext j
            unfold upd
            dsimp only
            split <;> rfl
          have hwok := zokW_set (x' := .inr (.inl (kd', k, gs', []))) hR.2.2.2.2.1 hc hp1 hR.2.2.1 ⟨by rw [hp2]; exact hwr, fun x hx => by cases hx⟩
          rw [ef] at ews
          show W _ _ _ _ _ _ _ _ _ _ _ _ _ _ _ (F0 m pc ls (S.2.2.2.1.map (zcv r ad)))
          rw [hst]
          rcases hkd with ⟨rfl, hdg⟩ | ⟨rfl, hdg⟩
          · refine va_iast hx hb hK hR.2.2.2.1 hR.2.2.2.2.1 hR.2.2.2.2.2.1 q 0 hget rfl g1 hdg (fun H1 locs1 hP1 hD1 hS1 => ?_)
            rw [g2, ← ews] at hP1 hD1
            exact hgo _ List.mem_cons_self r ad ph' H1 locs1 ls hJ ⟨hR.1, hR.2.1, hwok, hP1, hD1, hS1, hR.2.2.2.2.2.2⟩ hN
          · refine va_zast hx hb hK hR.2.2.2.1 hR.2.2.2.2.1 hR.2.2.2.2.2.1 q 1 hget rfl g1 hdg (fun H1 locs1 hP1 hD1 hS1 => ?_)
            have en : vp_nar .boolean (Int32.ofInt (zev r u)) = Int32.ofInt (zev r u) := by
              have hz6 : (zle 0 d.1 && zle d.2 1) = true := z6
              simp only [Bool.and_eq_true] at hz6
              have b1 := zle_ok hz6.1
              have b2 := zle_ok hz6.2
              unfold vp_nar
              rw [(znar_bool (k := zev r u) (by omega) (by omega)).1]
            rw [g2, en, ← ews] at hP1 hD1
            exact hgo _ List.mem_cons_self r ad ph' H1 locs1 ls hJ ⟨hR.1, hR.2.1, hwok, hP1, hD1, hS1, hR.2.2.2.2.2.2⟩ hN
        · cases h
    · cases h
  · cases h
theorem zaal_mem {st : List zA} {v : zV} {pc' : Nat} {r : Nat → Int} (hE : zokE r S.1) (hZ : zokZ r S.2.1) : ∀ (is : List Nat) (k : Int) (j i : Nat), is[j]? = some i → zev r v = k + j → ∃ q, (pc', zse S q (.inr (some i) :: st)) ∈ zaal S st v pc' k is ∧ zokE r q.1 ∧ zokZ r q.2
  | [], _, j, i, h, _ => by simp at h
  | a :: is, k, 0, i, h, hv => by
    simp only [List.getElem?_cons_zero, Option.some.injEq] at h
    subst h
    obtain ⟨q, e1, o1, o2⟩ := zeqS_ok (v1 := v) (v2 := (0, k)) hE hZ (by rw [zconst hE.1]; omega)
    refine ⟨q, ?_, o1, o2⟩
    unfold zaal
    rw [e1]
    exact List.mem_append_left _ List.mem_cons_self
  | a :: is, k, j + 1, i, h, hv => by
    rw [List.getElem?_cons_succ] at h
    obtain ⟨q, m1, o1, o2⟩ := zaal_mem (st := st) (v := v) (pc' := pc') hE hZ is (k + 1) j i h (by omega)
    refine ⟨q, ?_, o1, o2⟩
    unfold zaal
    exact List.mem_append_right _ m1
theorem zstepD_ok (hx : p.tables.exec = Jvm.exec) (hb : c.code = cc) (hK : va_K D cl (ztys kA) s) {own : String} {Ts : List Cond} (hown : s.vm.findClass own = some m.cls) (hts : ∀ w ∈ Ts, w.before args s = true) {flds : List (Nat × Nat × Nat × Nat)} (hfl : ∀ x ci k tag, zlk flds x = some (ci, k, tag) → zFld Ts own cl x ci k tag)
    (hdg : decode cc pc = .ok (ins, zlen ins)) (h : zstepD flds K n S pc ins = some L) (hgo : ∀ x ∈ L, zGo (zGW p l e R s m args below meth c cells slots Q) D cl kA A H0 nL K pins r0 ad0 N x.1 x.2) : zGo (zGW p l e R s m args below meth c cells slots Q) D cl kA A H0 nL K pins r0 ad0 N pc S := by
  unfold zstepD at h
  split at h
  · rename_i x
    intro r ad ph H locs ls hJ hR hN
    split at h
    · rename_i i st hst
      split at h
      · rename_i ci k tag q ci' fs hlk hcell
        cases hz : Nat.beq ci' ci with
        | false => rw [hz] at h; cases h
        | true =>
          rw [hz] at h
          have ec := Nat.eq_of_beq_eq_true hz
          subst ec
          dsimp only [cond] at h
          split at h
          · rename_i a ha
            cases h
            obtain ⟨C, T, nF, ty0, f1, f2, f3, f4, f5, f6, f7⟩ := hfl x _ k tag hlk
            have hget := zws_get kA r ad ph (zcell_ok hcell)
            show W _ _ _ _ _ _ _ _ _ _ _ _ _ _ _ (F0 m pc ls (S.2.2.2.1.map (zcv r ad)))
            rw [hst]
            exact va_get hx hb hts f3 hown hK hR.2.2.2.1 q hget f1 k f2 (hts _ f6) (fun _ h => h) (by rw [List.getElem?_map, ha]; rfl) hdg (hgo _ List.mem_cons_self r ad ph H locs ls hJ hR hN)
          · cases h
      · cases h
    · cases h
  · rename_i x
    intro r ad ph H locs ls hJ hR hN
    split at h
    · rename_i a i st hst
      split at h
      · rename_i ci k tag q ci' fs hlk hcell
        cases hz : Nat.beq ci' ci && ztok S.1 tag a && Nat.blt k fs.length with
        | false => rw [hz] at h; cases h
        | true =>
          rw [hz] at h
          simp only [Bool.and_eq_true] at hz
          obtain ⟨⟨z1, z2⟩, z3⟩ := hz
          have ec := Nat.eq_of_beq_eq_true z1
          subst ec
          cases h
          obtain ⟨C, T, nF, ty0, f1, f2, f3, f4, f5, f6, f7⟩ := hfl x _ k tag hlk
          obtain ⟨t1, t2, t3⟩ := ztok_ok hR.1 z2 f7 ad
          have hc := zcell_ok hcell
          have hget := zws_get kA r ad ph hc
          have ews := zws_set (ph' := ph) (x' := .inl (ci', fs.set k a)) hR.2.2.2.2.1 hc (fun _ _ => rfl)
          have ef : zce kA r ad (ph i) (.inl (ci', fs.set k a)) = .inr (ci', (fs.map (zcv r ad)).set k (zcv r ad a)) := by
            show Sum.inr (ci', (fs.set k a).map (zcv r ad)) = _
            rw [List.map_set]
          rw [ef] at ews
          have hwok := zokW_set (x' := .inl (ci', fs.set k a)) hR.2.2.2.2.1 hc (fun _ _ => rfl) hR.2.2.1 trivial
          show W _ _ _ _ _ _ _ _ _ _ _ _ _ _ _ (F0 m pc ls (S.2.2.2.1.map (zcv r ad)))
          rw [hst]
          refine va_put hx hb hts f3 ty0 f4 f5 hown hK hR.2.2.2.1 hR.2.2.2.2.1 hR.2.2.2.2.2.1 q hget f1 k f2 (hts _ f6) (fun _ h => h) t1 (f4 k f2) t2 t3 (by rw [List.length_map]; exact zblt z3) hdg (fun H1 locs1 hP1 hD1 hS1 => ?_)
          rw [← ews] at hP1 hD1
          exact hgo _ List.mem_cons_self r ad ph H1 locs1 ls hJ ⟨hR.1, hR.2.1, hwok, hP1, hD1, hS1, hR.2.2.2.2.2.2⟩ hN
      · cases h
    · cases h
  · exact zald_ok hx hb hK (Or.inl ⟨rfl, hdg⟩) h hgo
  · exact zald_ok hx hb hK (Or.inr ⟨rfl, hdg⟩) h hgo
  · exact zast_ok hx hb hK (Or.inl ⟨rfl, hdg⟩) h hgo
  · exact zast_ok hx hb hK (Or.inr ⟨rfl, hdg⟩) h hgo
  · intro r ad ph H locs ls hJ hR hN
    split at h
    · rename_i v i st hst
      split at h
      · rename_i q kd is b hcell hr
        cases hz : (Nat.beq kd 2 || Nat.beq kd 3) && zle 0 b.1 && zle (b.2 + 1) (is.length : Int) && Nat.ble is.length 2000000 with
        | false => rw [hz] at h; cases h
        | true =>
          rw [hz] at h
          simp only [Bool.and_eq_true, Bool.or_eq_true] at hz
          obtain ⟨⟨⟨z1, z2⟩, z3⟩, z4⟩ := hz
          cases h
          have hb2 := zrng_ok hR.1 hr
          have y2 := zle_ok z2
          have y3 := zle_ok z3
          have y5 := Nat.le_of_ble_eq_true z4
          obtain ⟨g1, g2⟩ := zq_idx (k := zev r v) (m := is.length) (by omega) (by omega) y5
          have hget := zws_get kA r ad ph (zcell_ok hcell)
          have hlt : (zev r v).toNat < is.length := by omega
          obtain ⟨qq, m1, o1, o2⟩ := zaal_mem (st := st) (v := v) (pc' := pc + 1) hR.1 hR.2.1 is 0 (zev r v).toNat is[(zev r v).toNat] (List.getElem?_eq_getElem hlt) (by omega)
          have g := hgo _ m1 r ad ph H locs ls hJ ⟨o1, o2, hR.2.2⟩ hN
          have eqv : (is[(zev r v).toNat]?).map ad = some (ad is[(zev r v).toNat]) := by rw [List.getElem?_eq_getElem hlt]; rfl
          show W _ _ _ _ _ _ _ _ _ _ _ _ _ _ _ (F0 m pc ls (S.2.2.2.1.map (zcv r ad)))
          rw [hst]
          rcases z1 with z1 | z1
          · have ek := Nat.eq_of_beq_eq_true z1
            subst ek
            refine va_aldq (C := "VowTerrace$Terrace") hx hb hK hR.2.2.2.1 q 2 hget rfl g1 hdg ?_
            rw [g2, eqv]
            exact g
          · have ek := Nat.eq_of_beq_eq_true z1
            subst ek
            refine va_aldq (C := "VowTerrace$Sheet") hx hb hK hR.2.2.2.1 q 3 hget rfl g1 hdg ?_
            rw [g2, eqv]
            exact g
      · cases h
    · cases h
  · intro r ad ph H locs ls hJ hR hN
    split at h
    · rename_i i st hst
      split at h
      · rename_i q kd k gs mm0 hcell
        cases hz : (Nat.beq kd 0 || Nat.beq kd 1) && Nat.ble k 2000000 with
        | false => rw [hz] at h; cases h
        | true =>
          rw [hz] at h
          simp only [Bool.and_eq_true, Bool.or_eq_true] at hz
          cases h
          have hget := zws_get kA r ad ph (zcell_ok hcell)
          have g := hgo _ List.mem_cons_self r ad ph H locs ls hJ hR hN
          rw [show (zst S (.inl (.inl (0, (k : Int))) :: st)).2.2.2.1.map (zcv r ad) = .int (Int32.ofNat k) :: st.map (zcv r ad) by show Value.int (Int32.ofInt (zev r (0, (k : Int)))) :: _ = _; rw [zconst hR.1.1]; rfl] at g
          show W _ _ _ _ _ _ _ _ _ _ _ _ _ _ _ (F0 m pc ls (S.2.2.2.1.map (zcv r ad)))
          rw [hst]
          rcases hz.1 with z1 | z1
          · have ek := Nat.eq_of_beq_eq_true z1
            subst ek
            exact va_alen hx hb hK hR.2.2.2.1 q 0 hget (ty := .int) rfl rfl hdg g
          · have ek := Nat.eq_of_beq_eq_true z1
            subst ek
            exact va_alen hx hb hK hR.2.2.2.1 q 1 hget (ty := .boolean) rfl rfl hdg g
      · rename_i q kd is hcell
        cases hz : (Nat.beq kd 2 || Nat.beq kd 3) && Nat.ble is.length 2000000 with
        | false => rw [hz] at h; cases h
        | true =>
          rw [hz] at h
          simp only [Bool.and_eq_true, Bool.or_eq_true] at hz
          cases h
          have hget := zws_get kA r ad ph (zcell_ok hcell)
          have g := hgo _ List.mem_cons_self r ad ph H locs ls hJ hR hN
          rw [show (zst S (.inl (.inl (0, (is.length : Int))) :: st)).2.2.2.1.map (zcv r ad) = .int (Int32.ofNat is.length) :: st.map (zcv r ad) by show Value.int (Int32.ofInt (zev r (0, (is.length : Int)))) :: _ = _; rw [zconst hR.1.1]; rfl] at g
          show W _ _ _ _ _ _ _ _ _ _ _ _ _ _ _ (F0 m pc ls (S.2.2.2.1.map (zcv r ad)))
          rw [hst]
          rcases hz.1 with z1 | z1
          · have ek := Nat.eq_of_beq_eq_true z1
            subst ek
            exact va_alen hx hb hK hR.2.2.2.1 q 2 hget (ty := .object "VowTerrace$Terrace") rfl rfl hdg g
          · have ek := Nat.eq_of_beq_eq_true z1
            subst ek
            exact va_alen hx hb hK hR.2.2.2.1 q 3 hget (ty := .object "VowTerrace$Sheet") rfl rfl hdg g
      · cases h
    · cases h
  · cases h
end ZSG
end
section
abbrev zK : Type := Nat × List Nat × zS × List zS
def ztX (th : Nat → zV) : zI ⊕ zV → zI ⊕ zV
  | .inl i => .inl i
  | .inr v => .inr (ztv th v)
def ztC (th : Nat → zV) (ka : Nat → Nat) : zC → zC
  | .inl (ci, fs) => .inl (ci, fs.map (ztA th ka))
  | .inr (.inl (kd, n, gs, mm)) => .inr (.inl (kd, n, gs.map (fun g => (g.1, ztX th g.2)), mm.map (fun x => (ztv th x.1, ztv th x.2))))
  | .inr (.inr (kd, is)) => .inr (.inr (kd, is.map ka))
def zrefA : zA → List Nat
  | .inr (some i) => [i]
  | _ => []
def zrefC : zC → List Nat
  | .inl (_, fs) => fs.flatMap zrefA
  | .inr (.inl _) => []
  | .inr (.inr (_, is)) => is
def zmem (i : Nat) : List Nat → Bool
  | [] => false
  | j :: js => Nat.beq j i || zmem i js
theorem zmem_ok {i : Nat} : ∀ {l : List Nat}, zmem i l = true ↔ i ∈ l
  | [] => by simp [zmem]
  | j :: js => by
    simp only [zmem, Bool.or_eq_true, zmem_ok (l := js), List.mem_cons]
    constructor
    · rintro (h | h)
      · exact Or.inl (Nat.eq_of_beq_eq_true h).symm
      · exact Or.inr h
    · rintro (h | h)
      · exact Or.inl (by rw [h]; exact Nat.beq_refl j)
      · exact Or.inr h
section ZAF
variable {r r' : Nat → Int} {ad ad' : Nat → Nat} {th : Nat → zV} {ka : Nat → Nat}
theorem ztA_to (hr : ∀ s, zev r (th s) = r' s) {a : zA} (ha : ∀ j ∈ zrefA a, ad (ka j) = ad' j) : zcv r ad (ztA th ka a) = zcv r' ad' a := by
  have e : (fun s => zev r (th s)) = r' := funext hr
  rcases a with (v | v) | (_ | i)
  · rw [ztA_ok, e]; rfl
  · rw [ztA_ok, e]; rfl
  · rfl
  · show Value.ref (ad (ka i)) = Value.ref (ad' i)
    rw [ha i List.mem_cons_self]
theorem ztC_to (hr : ∀ s, zev r (th s) = r' s) (kA : Nat → ClassId) (f : Nat → Int) {x : zC} (hx : ∀ j ∈ zrefC x, ad (ka j) = ad' j) : zce kA r ad f (ztC th ka x) = zce kA r' ad' f x := by
  rcases x with ⟨ci, fs⟩ | ⟨kd, n, gs⟩ | ⟨kd, is⟩
  · show Sum.inr (ci, (fs.map (ztA th ka)).map (zcv r ad)) = Sum.inr (ci, fs.map (zcv r' ad'))
    rw [List.map_map]
    congr 2
    exact List.map_congr_left (fun a ha => ztA_to hr (fun j hj => hx j (List.mem_flatMap.mpr ⟨a, ha, hj⟩)))
  · rfl
  · have e : (fun j : Nat => ((is.map ka)[j]?).map ad) = (fun j : Nat => (is[j]?).map ad') := by
      funext j
      rw [List.getElem?_map, Option.map_map]
      cases hj : is[j]? with
      | none => rfl
      | some i =>
        show some (ad (ka i)) = some (ad' i)
        rw [hx i (List.mem_of_getElem? hj)]
    show Sum.inl (kA kd, (is.map ka).length, _) = Sum.inl (kA kd, is.length, _)
    rw [List.length_map, e]
theorem ztG_to (hr : ∀ s, zev r (th s) = r' s) (f : Nat → Int) : ∀ (gs : List zG) (o : Nat), zokG r' f o gs → zokG r f o (gs.map (fun g => (g.1, ztX th g.2)))
  | [], _, _ => trivial
  | g :: gs, o, h => by
    refine ⟨fun j h1 h2 => ?_, ztG_to hr f gs (o + g.1) h.2⟩
    have q := h.1 j h1 h2
    obtain ⟨k, x⟩ := g
    rcases x with i | v
    · exact q
    · show f j = zev r (ztv th v)
      have e : (fun s => zev r (th s)) = r' := funext hr
      rw [ztv_ok, e]
      exact q
theorem ztCk_to (hr : ∀ s, zev r (th s) = r' s) (f : Nat → Int) {x : zC} (h : zokC r' f x) : zokC r f (ztC th ka x) := by
  rcases x with ⟨ci, fs⟩ | ⟨kd, n, gs, mm⟩ | ⟨kd, is⟩
  · trivial
  · refine ⟨ztG_to hr f gs 0 h.1, fun x hx => ?_⟩
    obtain ⟨y, hy, rfl⟩ := List.mem_map.mp hx
    have e : (fun s => zev r (th s)) = r' := funext hr
    dsimp only
    rw [ztv_ok, ztv_ok, e]
    exact h.2 y hy
  · trivial
end ZAF
def zinv : List (Nat × Nat) → Nat → Option Nat
  | [], _ => none
  | x :: xs, i => bif Nat.beq x.2 i then some x.1 else zinv xs i
theorem zinv_none {i : Nat} : ∀ {l : List (Nat × Nat)}, i ∉ l.map (·.2) → zinv l i = none
  | [], _ => rfl
  | x :: xs, h => by
    unfold zinv
    cases hb : Nat.beq x.2 i with
    | true => exact absurd (by rw [List.map_cons]; exact List.mem_cons.mpr (Or.inl (Nat.eq_of_beq_eq_true hb).symm)) h
    | false => exact zinv_none (fun q => h (List.mem_cons_of_mem _ q))
theorem zinv_some {f : Nat → Nat} {j : Nat} : ∀ {l : List Nat}, va_nd (l.map f) = true → j ∈ l → zinv (l.map (fun x => (x, f x))) (f j) = some j
  | [], _, h => by cases h
  | x :: xs, hn, h => by
    simp only [List.map_cons, va_nd, Bool.and_eq_true, decide_eq_true_eq] at hn
    unfold zinv
    rw [List.map_cons]
    dsimp only
    rcases List.mem_cons.mp h with e | e
    · subst e
      rw [Nat.beq_refl]
      rfl
    · cases hb : Nat.beq (f x) (f j) with
      | true => exact absurd (by rw [Nat.eq_of_beq_eq_true hb]; exact List.mem_map.mpr ⟨j, e, rfl⟩) hn.1
      | false => exact zinv_some hn.2 e
/-- bounds that come back: old symbols are narrowed, new ones are added -/
def zmE (kK n : Nat) (th : Nat → zV) : zE → zE → Option zE
  | E, [] => some E
  | E, x :: xs => bif Nat.blt x.1 kK then (match zref E (th x.1) x.2.1 x.2.2 with
    | some E' => zmE kK n th E' xs
    | none => none) else zmE kK n th (((n + (x.1 - kK)), x.2) :: E) xs
theorem zmE_ok {r r' : Nat → Int} {kK n : Nat} {th : Nat → zV} (hr : ∀ s, zev r (th s) = r' s) (hn : ∀ s, kK ≤ s → r (n + (s - kK)) = r' s) : ∀ (xs E : zE), zokE r E → (∀ x ∈ xs, x.2.1 ≤ r' x.1 ∧ r' x.1 ≤ x.2.2) → ∃ E', zmE kK n th E xs = some E' ∧ zokE r E'
  | [], E, h, _ => ⟨E, rfl, h⟩
  | x :: xs, E, h, hx => by
    have q := hx x List.mem_cons_self
    unfold zmE
    cases hb : Nat.blt x.1 kK with
    | true =>
      obtain ⟨E1, e1, o1⟩ := zref_ok (v := th x.1) (lo := x.2.1) (hi := x.2.2) h (by rw [hr]; exact q.1) (by rw [hr]; exact q.2)
      rw [e1]
      exact zmE_ok hr hn xs E1 o1 (fun y hy => hx y (List.mem_cons_of_mem _ hy))
    | false =>
      have hk : kK ≤ x.1 := by
        have : ¬ x.1 < kK := fun z => by rw [show Nat.blt x.1 kK = true from Nat.ble_eq.mpr z] at hb; cases hb
        omega
      refine zmE_ok hr hn xs _ ⟨h.1, fun y hy => ?_⟩ (fun y hy => hx y (List.mem_cons_of_mem _ hy))
      rcases List.mem_cons.mp hy with e | e
      · subst e
        dsimp only
        rw [hn _ hk]
        exact q
      · exact h.2 y e
def zmZc (Z : zZ) (v1 v2 : zV) (d : Int) : zZ := bif Nat.beq v1.1 0 || Nat.beq v2.1 0 then [] else Z.filterMap (fun z => bif Nat.beq z.2.1 v1.1 then some (z.1, v2.1, z.2.2 + (d + v2.2 - v1.2)) else none)
theorem zmZc_ok {r : Nat → Int} {Z : zZ} {v1 v2 : zV} {d : Int} (hZ : zokZ r Z) (h : zev r v1 - zev r v2 ≤ d) : zokZ r (zmZc Z v1 v2 d) := by
  intro x hx
  unfold zmZc at hx
  cases hb : Nat.beq v1.1 0 || Nat.beq v2.1 0 with
  | true => rw [hb] at hx; cases hx
  | false =>
    rw [hb] at hx
    obtain ⟨z, hz, q⟩ := List.mem_filterMap.mp hx
    cases hc : Nat.beq z.2.1 v1.1 with
    | false => rw [hc] at q; cases q
    | true =>
      rw [hc] at q
      have e := Nat.eq_of_beq_eq_true hc
      have q : (z.1, v2.1, z.2.2 + (d + v2.2 - v1.2)) = x := Option.some.inj q
      subst q
      have a := hZ z hz
      rw [e] at a
      unfold zev at h
      dsimp only
      omega
/-- differences that come back: they narrow bounds too; none where they cannot be -/
def zmZ (th : Nat → zV) : zE × zZ → zZ → Option (zE × zZ)
  | q, [] => some q
  | q, x :: xs => match zlekS q.1 q.2 (th x.1) (th x.2.1) (-x.2.2) with
    | none => none
    | some q' => zmZ th (q'.1, q'.2 ++ zmZc q.2 (th x.1) (th x.2.1) x.2.2) xs
theorem zmZ_ok {r r' : Nat → Int} {th : Nat → zV} (hr : ∀ s, zev r (th s) = r' s) : ∀ (xs : zZ) (q : zE × zZ), zokE r q.1 → zokZ r q.2 → zokZ r' xs → ∃ q', zmZ th q xs = some q' ∧ zokE r q'.1 ∧ zokZ r q'.2
  | [], q, h1, h2, _ => ⟨q, rfl, h1, h2⟩
  | x :: xs, q, h1, h2, hx => by
    have hd := hx x List.mem_cons_self
    obtain ⟨q1, e1, o1, o2⟩ := zlekS_ok (v1 := th x.1) (v2 := th x.2.1) (k := -x.2.2) h1 h2 (by rw [hr, hr]; omega)
    unfold zmZ
    rw [e1]
    refine zmZ_ok hr xs _ o1 (fun y hy => ?_) (fun y hy => hx y (List.mem_cons_of_mem _ hy))
    rcases List.mem_append.mp hy with h | h
    · exact o2 y h
    · exact zmZc_ok h2 (by rw [hr, hr]; exact hd) y h
def zths (kK n : Nat) (L : List (Nat × zV)) (s : Nat) : zV := bif Nat.blt s kK then zth 1 L s else (n + (s - kK), 0)
def zrest (w : zW) (is : List Nat) : List Nat := (List.range w.length).filter (fun i => !zmem i is)
def zchk (K : Nat) (pins : List Nat) (n : Nat) (S : zS) (st : List zA) (k : zK) (T : zS) (L : List (Nat × zV)) (M : List (Nat × Nat)) (is : List Nat) : Bool :=
  let ids := T.2.2.2.2.1.map (·.1)
  let kis := ids.map (zka M)
  let un := (ids.filter (fun j => !zmem j k.2.1)).map (zka M)
  let wr := (zrest S.2.2.2.2.1 is).filterMap (fun i => S.2.2.2.2.1[i]?)
  zfr n K (zst S st) && Nat.ble 1 k.1 && L.all (fun x => Nat.blt x.2.1 n) && va_nd kis
  && T.2.2.2.2.1.all (fun x => (zrefC x.2).all (fun j => zmem j ids || zmem j k.2.1))
  && T.2.2.2.1.all (fun a => (zrefA a).all (fun j => zmem j ids || zmem j k.2.1))
  && k.2.1.all (fun j => zmem j ids || !zmem (zka M j) kis)
  && st.all (fun a => (zrefA a).all (fun i => !zmem i un))
  && S.2.2.1.all (fun x => (zrefA x.2).all (fun i => !zmem i un))
  && wr.all (fun x => (zrefC x.2).all (fun i => !zmem i un) && !zmem x.1 kis)
  && pins.all (fun i => !zmem i un)
  && Nat.ble T.2.2.2.1.length 1 && va_nd (zrest S.2.2.2.2.1 is)
def zaft (n : Nat) (S : zS) (st : List zA) (k : zK) (T : zS) (L : List (Nat × zV)) (M : List (Nat × Nat)) (is : List Nat) : Option zS :=
  match zmE k.1 n (zths k.1 n L) S.1 T.1 with
  | none => none
  | some E' => match zmZ (zths k.1 n L) (E', S.2.1) T.2.1 with
    | none => none
    | some q => some (q.1, q.2, S.2.2.1, T.2.2.2.1.map (ztA (zths k.1 n L) (zka M)) ++ st, (zrest S.2.2.2.2.1 is).filterMap (fun i => S.2.2.2.2.1[i]?) ++ T.2.2.2.2.1.map (fun x => (zka M x.1, ztC (zths k.1 n L) (zka M) x.2)), S.2.2.2.2.2)
end
section
theorem zcv_both {n : Nat} {r r' : Nat → Int} {ad ad' : Nat → Nat} (hag : ∀ i, i < n → r' i = r i) {a : zA} (hb : zbA n a = true) (ha : ∀ i ∈ zrefA a, ad' i = ad i) : zcv r' ad' a = zcv r ad a := by
  rcases a with (v | v) | (_ | i)
  · exact zbA_eq (a := .inl (.inl v)) hag ad hb
  · exact zbA_eq (a := .inl (.inr v)) hag ad hb
  · rfl
  · show Value.ref (ad' i) = Value.ref (ad i)
    rw [ha i List.mem_cons_self]
theorem zce_both {n : Nat} {r r' : Nat → Int} {ad ad' : Nat → Nat} (hag : ∀ i, i < n → r' i = r i) (kA : Nat → ClassId) (f : Nat → Int) {x : zC} (hb : zbC n x = true) (ha : ∀ i ∈ zrefC x, ad' i = ad i) : zce kA r' ad' f x = zce kA r ad f x := by
  rcases x with ⟨ci, fs⟩ | ⟨kd, k, gs⟩ | ⟨kd, is⟩
  · show Sum.inr (ci, fs.map (zcv r' ad')) = Sum.inr (ci, fs.map (zcv r ad))
    have e : fs.map (zcv r' ad') = fs.map (zcv r ad) := List.map_congr_left (fun a h => zcv_both hag (List.all_eq_true.mp hb a h) (fun i hi => ha i (List.mem_flatMap.mpr ⟨a, h, hi⟩)))
    rw [e]
  · rfl
  · have e : (fun j : Nat => (is[j]?).map ad') = (fun j : Nat => (is[j]?).map ad) := by
      funext j
      cases hj : is[j]? with
      | none => rfl
      | some i =>
        show some (ad' i) = some (ad i)
        rw [ha i (List.mem_of_getElem? hj)]
    show Sum.inl (kA kd, is.length, _) = Sum.inl (kA kd, is.length, _)
    rw [e]
theorem zth_lt {n : Nat} {L : List (Nat × zV)} (hn : 0 < n) (hL : L.all (fun x => Nat.blt x.2.1 n) = true) (s : Nat) : (zth 1 L s).1 < n := by
  unfold zth
  cases hb : Nat.blt s 1 with
  | true =>
    have := zblt hb
    show s < n
    omega
  | false =>
    dsimp only [cond]
    cases hl : zlk L s with
    | none => exact hn
    | some v => exact zblt (List.all_eq_true.mp hL _ (zlk_mem hl))
set_option maxHeartbeats 4000000 in
theorem zaft_ok {K : Nat} {pins : List Nat} {n : Nat} {S : zS} {st as : List zA} {k : zK} {T : zS} {L : List (Nat × zV)} {M : List (Nat × Nat)} {is : List Nat} (hc : zchk K pins n S st k T L M is = true) (he : zent 1 [] (zsl S [] as) k.2.2.1 L M is = true)
    {D : va_G} {cl : List vw_C} {kA : Nat → ClassId} {A : Nat → Prop} {H0 : Heap} {nL : Nat} {r r0 r' : Nat → Int} {ad ad0 ad' : Nat → Nat} {ph ph' : Nat → Nat → Int} {H H1 : Heap} {locs locs1 : List Loc} {ls : Array Slot} {N : Nat} (hJ : zJ K pins r0 ad0 r ad) (hR : zRel D cl kA A H0 nL S r ad ph H locs ls) (hN : zenc r S.2.2.2.2.2 = N)
    (hJ' : zJ k.1 k.2.1 (fun s => zev r (zth 1 L s)) (fun i => ad (zka M i)) r' ad') (hE' : zokE r' T.1) (hZ' : zokZ r' T.2.1) (hW' : zokW r' ph' T.2.2.2.2.1) (hP' : va_P D cl (zws kA r' ad' ph' T.2.2.2.2.1) H1)
    (hD' : va_D (va_A (zws kA (fun s => zev r (zth 1 L s)) (fun i => ad (zka M i)) (fun i => ph (zka M i)) k.2.2.1.2.2.2.2.1) H.size) (zws kA r' ad' ph' T.2.2.2.2.1))
    (hk : ∀ q : Nat, q < H.size → ¬ va_A (zws kA (fun s => zev r (zth 1 L s)) (fun i => ad (zka M i)) (fun i => ph (zka M i)) k.2.2.1.2.2.2.2.1) H.size q → H1[q]? = H[q]?) (hF : ∀ q, va_A (zws kA (fun s => zev r (zth 1 L s)) (fun i => ad (zka M i)) (fun i => ph (zka M i)) k.2.2.1.2.2.2.2.1) H.size q → A q) (hS1 : va_S A H0 H1 locs1) :
    ∃ (S' : zS) (r2 : Nat → Int) (ad2 : Nat → Nat) (ph2 : Nat → Nat → Int), zaft n S st k T L M is = some S' ∧ zJ K pins r0 ad0 r2 ad2 ∧ zRel D cl kA A H0 nL S' r2 ad2 ph2 H1 locs1 ls ∧ zenc r2 S'.2.2.2.2.2 = N ∧ S'.2.2.2.1.map (zcv r2 ad2) = T.2.2.2.1.map (zcv r' ad') ++ st.map (zcv r ad) := by
  simp only [zchk, Bool.and_eq_true] at hc
  obtain ⟨⟨⟨⟨⟨⟨⟨⟨⟨⟨⟨⟨c1, c1b⟩, c2⟩, c3⟩, c4⟩, c5⟩, c6⟩, c7⟩, c8⟩, c9⟩, c10⟩, c11⟩, c12⟩ := hc
  simp only [zent, Bool.and_eq_true] at he
  obtain ⟨-, -, -, -, -, h5, -, -⟩ := he
  obtain ⟨hE, hZ, hW, hP, hD, hS, hl⟩ := hR
  simp only [zfr, Bool.and_eq_true] at c1
  have k1 := Nat.le_of_ble_eq_true c1.1.1
  have k2 := Nat.le_of_ble_eq_true c1.1.2
  have k3 := Nat.le_of_ble_eq_true c1b
  have hb := c1.2
  have hb' := hb
  simp only [zbS, Bool.and_eq_true] at hb'
  obtain ⟨⟨⟨⟨⟨b1, b2⟩, b3⟩, b4⟩, b5⟩, b6⟩ := hb'
  have hn0 : 0 < n := by omega
  obtain ⟨w1, -⟩ := zWle_ok (w := S.2.2.2.2.1) hE (zth 1 L) (zka M) kA ad ph hW is _ h5
  obtain ⟨ids, hids⟩ : ∃ ids, ids = T.2.2.2.2.1.map (·.1) := ⟨_, rfl⟩
  obtain ⟨un, hun⟩ : ∃ un, un = (ids.filter (fun j => !zmem j k.2.1)).map (zka M) := ⟨_, rfl⟩
  rw [← hids] at c3 c4 c5 c6 c7 c8 c9 c10
  rw [← hun] at c7 c8 c9 c10
  obtain ⟨r2, hr2⟩ : ∃ r2 : Nat → Int, r2 = fun s => if s < n then r s else r' (k.1 + (s - n)) := ⟨_, rfl⟩
  obtain ⟨ad2, had2⟩ : ∃ ad2 : Nat → Nat, ad2 = fun i => match zinv (ids.map (fun x => (x, zka M x))) i with
    | some j => ad' j
    | none => ad i := ⟨_, rfl⟩
  obtain ⟨ph2, hph2⟩ : ∃ ph2 : Nat → Nat → Int, ph2 = fun i => match zinv (ids.map (fun x => (x, zka M x))) i with
    | some j => ph' j
    | none => ph i := ⟨_, rfl⟩
  have hag : ∀ i, i < n → r2 i = r i := fun i hi => by rw [hr2]; exact if_pos hi
  have hnew : ∀ s, k.1 ≤ s → r2 (n + (s - k.1)) = r' s := fun s hs => by
    rw [hr2]
    show (if n + (s - k.1) < n then _ else _) = _
    rw [if_neg (by omega)]
    congr 1
    omega
  have hr : ∀ s, zev r2 (zths k.1 n L s) = r' s := fun s => by
    unfold zths
    cases hs : Nat.blt s k.1 with
    | true =>
      show r2 (zth 1 L s).1 + (zth 1 L s).2 = r' s
      rw [hag _ (zth_lt hn0 c2 s)]
      exact (hJ'.1 s (zblt hs)).symm
    | false =>
      have hk' : k.1 ≤ s := by
        have : ¬ s < k.1 := fun z => by rw [show Nat.blt s k.1 = true from Nat.ble_eq.mpr z] at hs; cases hs
        omega
      show r2 (n + (s - k.1)) + 0 = r' s
      rw [hnew s hk', Int.add_zero]
  have kmap : (ids.map (fun x => (x, zka M x))).map (·.2) = ids.map (zka M) := by rw [List.map_map]; rfl
  have fA : ∀ j, j ∈ ids → ad2 (zka M j) = ad' j := fun j hj => by rw [had2]; dsimp only; rw [zinv_some c3 hj]
  have fB : ∀ i, i ∉ ids.map (zka M) → ad2 i = ad i := fun i hi => by rw [had2]; dsimp only; rw [zinv_none (by rw [kmap]; exact hi)]
  have pA : ∀ j, j ∈ ids → ph2 (zka M j) = ph' j := fun j hj => by rw [hph2]; dsimp only; rw [zinv_some c3 hj]
  have pB : ∀ i, i ∉ ids.map (zka M) → ph2 i = ph i := fun i hi => by rw [hph2]; dsimp only; rw [zinv_none (by rw [kmap]; exact hi)]
  have nz : ∀ {i : Nat} {l : List Nat}, (!zmem i l) = true → i ∉ l := fun h q => by rw [zmem_ok.mpr q] at h; cases h
  have fC : ∀ j, (zmem j ids || zmem j k.2.1) = true → ad2 (zka M j) = ad' j := fun j hj => by
    by_cases hi : j ∈ ids
    · exact fA j hi
    · have hp : j ∈ k.2.1 := by
        simp only [Bool.or_eq_true] at hj
        rcases hj with q | q
        · exact absurd (zmem_ok.mp q) hi
        · exact zmem_ok.mp q
      have q := List.all_eq_true.mp c6 j hp
      simp only [Bool.or_eq_true] at q
      rcases q with q | q
      · exact absurd (zmem_ok.mp q) hi
      · rw [fB _ (nz q)]
        exact (hJ'.2 j hp).symm
  have fD : ∀ i, i ∉ un → ad2 i = ad i := fun i hi => by
    by_cases hk2 : i ∈ ids.map (zka M)
    · obtain ⟨j, hj, rfl⟩ := List.mem_map.mp hk2
      by_cases hp : j ∈ k.2.1
      · rw [fA j hj]
        exact hJ'.2 j hp
      · exact absurd (by rw [hun]; exact List.mem_map.mpr ⟨j, List.mem_filter.mpr ⟨hj, by cases hz : zmem j k.2.1 with
          | true => exact absurd (zmem_ok.mp hz) hp
          | false => rfl⟩, rfl⟩) hi
    · exact fB i hk2
  have hzE : zokE r2 S.1 := ⟨by rw [hag 0 hn0]; exact hE.1, fun x hx => by rw [hag _ (zblt (List.all_eq_true.mp b1 x hx))]; exact hE.2 x hx⟩
  have hzZ : zokZ r2 S.2.1 := fun x hx => by
    have q := List.all_eq_true.mp b2 x hx
    simp only [Bool.and_eq_true] at q
    rw [hag _ (zblt q.1), hag _ (zblt q.2)]
    exact hZ x hx
  obtain ⟨E2, e2, oE2⟩ := zmE_ok hr hnew T.1 S.1 hzE hE'.2
  obtain ⟨qz, eqz, oE, oZ⟩ := zmZ_ok hr T.2.1 (E2, S.2.1) oE2 hzZ hZ'
  obtain ⟨wa, hwa⟩ : ∃ wa, wa = (zrest S.2.2.2.2.1 is).filterMap (fun i => S.2.2.2.2.1[i]?) := ⟨_, rfl⟩
  rw [← hwa] at c9
  have wamem : ∀ x ∈ wa, x ∈ S.2.2.2.2.1 := fun x hx => by
    rw [hwa] at hx
    obtain ⟨i, -, hi⟩ := List.mem_filterMap.mp hx
    exact List.mem_of_getElem? hi
  have hRm : (zrest S.2.2.2.2.1 is).map (fun i => (zws kA r ad ph S.2.2.2.2.1)[i]?) = (zws kA r ad ph wa).map some := by
    rw [hwa]
    have key : ∀ (js : List Nat), (∀ j ∈ js, j < S.2.2.2.2.1.length) → js.map (fun i => (zws kA r ad ph S.2.2.2.2.1)[i]?) = (zws kA r ad ph (js.filterMap (fun i => S.2.2.2.2.1[i]?))).map some := by
      intro js
      induction js with
      | nil => intro _; rfl
      | cons j js ih =>
        intro hj
        have hlt := hj j List.mem_cons_self
        have hg : S.2.2.2.2.1[j]? = some S.2.2.2.2.1[j] := List.getElem?_eq_getElem hlt
        rw [List.filterMap_cons_some hg, List.map_cons, ih (fun x hx => hj x (List.mem_cons_of_mem _ hx))]
        show _ :: _ = some _ :: _
        congr 1
        exact zws_get kA r ad ph (q := j) (i := S.2.2.2.2.1[j].1) (x := S.2.2.2.2.1[j].2) hg
    exact key _ (fun j hj => List.mem_range.mp (List.mem_filter.mp hj).1)
  obtain ⟨hPj, hDj⟩ := va_join (wr := zws kA r ad ph wa) hP hD is (zrest S.2.2.2.2.1 is) w1 hRm c12 (fun i hi => nz (List.mem_filter.mp hi).2) hk hF hP' hD'
  have eW : zws kA r2 ad2 ph2 (wa ++ T.2.2.2.2.1.map (fun x => (zka M x.1, ztC (zths k.1 n L) (zka M) x.2))) = zws kA r ad ph wa ++ zws kA r' ad' ph' T.2.2.2.2.1 := by
    unfold zws
    rw [List.map_append, List.map_map]
    congr 1
    · refine List.map_congr_left (fun x hx => ?_)
      have q := List.all_eq_true.mp c9 x hx
      simp only [Bool.and_eq_true] at q
      have q2 : x.1 ∉ ids.map (zka M) := nz q.2
      have e1 : ad2 x.1 = ad x.1 := fB _ q2
      have e3 : ph2 x.1 = ph x.1 := pB _ q2
      rw [e1, e3, zce_both hag kA (ph x.1) (List.all_eq_true.mp b5 x (wamem x hx)) (fun i hi => fD i (nz (List.all_eq_true.mp q.1 i hi)))]
    · refine List.map_congr_left (fun x hx => ?_)
      have hj : x.1 ∈ ids := by rw [hids]; exact List.mem_map.mpr ⟨x, hx, rfl⟩
      show (ad2 (zka M x.1), zce kA r2 ad2 (ph2 (zka M x.1)) (ztC (zths k.1 n L) (zka M) x.2)) = (ad' x.1, zce kA r' ad' (ph' x.1) x.2)
      rw [fA _ hj, pA _ hj, ztC_to hr kA (ph' x.1) (fun j hj2 => fC j (List.all_eq_true.mp (List.all_eq_true.mp c4 x hx) j hj2))]
  refine ⟨(qz.1, qz.2, S.2.2.1, T.2.2.2.1.map (ztA (zths k.1 n L) (zka M)) ++ st, wa ++ T.2.2.2.2.1.map (fun x => (zka M x.1, ztC (zths k.1 n L) (zka M) x.2)), S.2.2.2.2.2), r2, ad2, ph2, ?_, ⟨fun i hi => ?_, fun i hi => ?_⟩, ⟨oE, oZ, fun x hx => ?_, ?_, ?_, hS1, ?_⟩, ?_, ?_⟩
  · unfold zaft
    rw [e2]
    dsimp only
    rw [eqz, ← hwa]
  · rw [hag i (by omega)]
    exact hJ.1 i hi
  · rw [fD i (nz (List.all_eq_true.mp c10 i hi))]
    exact hJ.2 i hi
  · rcases List.mem_append.mp hx with h | h
    · have q := List.all_eq_true.mp c9 x h
      simp only [Bool.and_eq_true] at q
      rw [pB _ (nz q.2)]
      exact zbC_ok hag (ph x.1) (List.all_eq_true.mp b5 x (wamem x h)) (hW x (wamem x h))
    · obtain ⟨y, hy, rfl⟩ := List.mem_map.mp h
      have hj : y.1 ∈ ids := by rw [hids]; exact List.mem_map.mpr ⟨y, hy, rfl⟩
      show zokC r2 (ph2 (zka M y.1)) (ztC (zths k.1 n L) (zka M) y.2)
      rw [pA _ hj]
      exact ztCk_to hr (ph' y.1) (hW' y hy)
  · show va_P D cl (zws kA r2 ad2 ph2 _) H1
    rw [eW]
    exact hPj
  · show va_D A (zws kA r2 ad2 ph2 _)
    rw [eW]
    exact hDj
  · have e : S.2.2.1.map (fun x => (x.1, zcv r2 ad2 x.2)) = S.2.2.1.map (fun x => (x.1, zcv r ad x.2)) := List.map_congr_left (fun x hx => by rw [zcv_both hag (List.all_eq_true.mp b3 x hx) (fun i hi => fD i (nz (List.all_eq_true.mp (List.all_eq_true.mp c8 x hx) i hi)))])
    show lv_has ls nL (S.2.2.1.map (fun x => (x.1, zcv r2 ad2 x.2)))
    rw [e]
    exact hl
  · show zenc r2 S.2.2.2.2.2 = N
    exact (zbR_eq hag S.2.2.2.2.2 b6).trans hN
  · show (T.2.2.2.1.map (ztA (zths k.1 n L) (zka M)) ++ st).map (zcv r2 ad2) = _
    rw [List.map_append, List.map_map]
    congr 1
    · exact List.map_congr_left (fun a ha => ztA_to hr (fun j hj => fC j (List.all_eq_true.mp (List.all_eq_true.mp c5 a ha) j hj)))
    · exact List.map_congr_left (fun a ha => zcv_both hag (List.all_eq_true.mp b4 a ha) (fun i hi => fD i (nz (List.all_eq_true.mp (List.all_eq_true.mp c7 a ha) i hi))))
end
section
abbrev zXT : Type := (Nat → Prop) → State → Heap → Prop
/-- what a thing known of the start must bear: other states with the same tables, other heaps, smaller footprints -/
def zXok (X : zXT) : Prop := (∀ (A : Nat → Prop) (s U : State) (H : Heap), s.WarmedH U.vm → X A s H → X A U H) ∧ (∀ (A : Nat → Prop) (u U : State) (H : Heap), u.vm = U.vm → X A u H → X A U H) ∧ (∀ (A : Nat → Prop) (U : State) (H H1 : Heap), (∀ a : Nat, a < H.size → ¬ A a → H1[a]? = H[a]?) → X A U H → X A U H1) ∧ ∀ (A B : Nat → Prop) (U : State) (H : Heap), (∀ q, B q → A q) → X A U H → X B U H
def zBf (X : zXT) (D : va_G) (cl : List vw_C) (kA : Nat → ClassId) (ws : va_W) (sz : Nat) (U : State) : Prop := U.heap.size = sz ∧ va_P D cl ws U.heap ∧ va_K D cl (ztys kA) U ∧ va_D (fun _ => True) ws ∧ X (va_A ws sz) U U.heap
def zQc (D : va_G) (cl : List vw_C) (kA : Nat → ClassId) (k : zK) (r : Nat → Int) (ad : Nat → Nat) (A : Nat → Prop) : Array Value → State → Outcome → State → Prop := fun _ st oc t =>
  (∃ T ∈ k.2.2.2, ∃ (r' : Nat → Int) (ad' : Nat → Nat) (ph' : Nat → Nat → Int), zJ k.1 k.2.1 r ad r' ad' ∧ zokE r' T.1 ∧ zokZ r' T.2.1 ∧ zokW r' ph' T.2.2.2.2.1 ∧ oc = .returned ((T.2.2.2.1.map (zcv r' ad')).head?) ∧ va_P D cl (zws kA r' ad' ph' T.2.2.2.2.1) t.heap ∧ va_D A (zws kA r' ad' ph' T.2.2.2.2.1)) ∧ va_F A st t
def zMet (X : zXT) (cl : List vw_C) (l : Launch) (y : MethodName) (ws : List Cond) (rm : Room) (k : zK) : Prop :=
  ∀ (D : va_G) (kA : Nat → ClassId) (r : Nat → Int) (ad : Nat → Nat) (ph : Nat → Nat → Int) (sz : Nat), zokE r k.2.2.1.1 → zokZ r k.2.2.1.2.1 → zokW r ph k.2.2.1.2.2.2.2.1 →
    Met l y ws rm (va_Pc (k.2.2.1.2.2.2.1.map (zcv r ad)) (zBf X D cl kA (zws kA r ad ph k.2.2.1.2.2.2.2.1) sz)) (zQc D cl kA k r ad (va_A (zws kA r ad ph k.2.2.1.2.2.2.2.1) sz)) 0 0 (va_A (zws kA r ad ph k.2.2.1.2.2.2.2.1) sz)
def zCal (X : zXT) (cl : List vw_C) (p : Program) (l : Launch) (e : Env) (R : Room) (s : State) (m : MethodId) (args : Array Value) (below : List Frame) (meth : Method) (c : Code) (cc : ByteArray) (nL : Nat) (ins : Instr) (k : zK) : Prop :=
  ∀ (D : va_G) (kA : Nat → ClassId) (r : Nat → Int) (ad : Nat → Nat) (ph : Nat → Nat → Int) (H : Heap) (locs : List Loc) (ls : Array Slot) (pc : Nat) (rest : List Value), va_K D cl (ztys kA) s → zokE r k.2.2.1.1 → zokZ r k.2.2.1.2.1 → zokW r ph k.2.2.1.2.2.2.2.1 → va_P D cl (zws kA r ad ph k.2.2.1.2.2.2.2.1) H → va_D (fun _ => True) (zws kA r ad ph k.2.2.1.2.2.2.2.1) → X (va_A (zws kA r ad ph k.2.2.1.2.2.2.2.1) H.size) s H → ls.size = nL → (rest.map fun v => v.category).sum ≤ 8 → decode cc pc = .ok (ins, 3) →
    va_Run p l e R s m args below meth c H locs 0 0 0 0 (F0 m pc ls ((k.2.2.1.2.2.2.1.map (zcv r ad)).reverse ++ rest)) rest (zQc D cl kA k r ad (va_A (zws kA r ad ph k.2.2.1.2.2.2.2.1) H.size) (k.2.2.1.2.2.2.1.map (zcv r ad)).toArray) (va_A (zws kA r ad ph k.2.2.1.2.2.2.2.1) H.size)
section ZCL
variable {X : zXT} {cl : List vw_C} {p : Program} {l : Launch} {e : Env} {R : Room} {s : State} {m : MethodId} {args : Array Value} {below : List Frame} {meth : Method} {c : Code} {cc : ByteArray} {nL : Nat} {k : zK} {y : MethodName} {bytes : ByteArray} {maxL n index : Nat} {ret : Option FieldType} {ws : List Cond} {rm : Room} {Ts : List Cond} {own C host : String} {i0 : Nat} {as : List zA}
theorem zBf_blind (hX : zXok X) {D : va_G} {kA : Nat → ClassId} {w : va_W} {sz : Nat} {av : List Value} : FrameBlind (va_Pc av (zBf X D cl kA w sz)) := by
  intro a U g mk q
  obtain ⟨q0, q1, q2, q3, q4, q5⟩ := q
  exact ⟨q0, q1, q2, va_K.moved (u := U) (U := U.calling g mk a) (Vm.Alike.refl U.vm) q3, q4, hX.2.1 _ U (U.calling g mk a) _ rfl q5⟩
theorem zBf_of (hX : zXok X) {D : va_G} {kA : Nat → ClassId} {w : va_W} {H : Heap} {av : List Value} (hK : va_K D cl (ztys kA) s) (hP : va_P D cl w H) (hD : va_D (fun _ => True) w) (hx : X (va_A w H.size) s H) : ∀ U : State, U.heap = H → s.WarmedH U.vm → va_Pc av (zBf X D cl kA w H.size) av.toArray U := by
  intro U hU hW
  exact ⟨rfl, by rw [hU], by rw [hU]; exact hP, va_K.moved hW.alike hK, hD, by rw [hU]; exact hX.1 _ s U _ hW hx⟩
theorem zcal_V (hX : zXok X) (S : CallFix p m c cc nL s args Ts own) (hM : zMet X cl l y ws rm k) (cw : CallW R s args own C index y bytes maxL ret ws rm 0 0 n) (ha : k.2.2.1.2.2.2.1 = .inr (some i0) :: as) (hr : ∃ (q ci : Nat) (fs : List zA) (T : u_T) (nF : Nat), k.2.2.1.2.2.2.2.1[q]? = some (i0, .inl (ci, fs)) ∧ cl[ci]? = some (C, T, nF)) (hn : as.length = n) : zCal X cl p l e R s m args below meth c cc nL (.invokevirtual index) k := by
  intro D kA r ad ph H locs ls pc rest hK hE hZ hW hP hD hx hls hcat hdg
  have hm := hM D kA r ad ph H.size hE hZ hW
  obtain ⟨q, ci, fs, T, nF, g1, g2⟩ := hr
  rw [ha] at hm ⊢
  have hst : ((.inr (some i0) :: as : List zA).map (zcv r ad)).reverse ++ rest = (as.map (zcv r ad)).reverse ++ .ref (ad i0) :: rest := by
    rw [List.map_cons, List.reverse_cons, List.append_assoc]
    rfl
  rw [hst]
  exact va_runV (As := as.map (zcv r ad)) (b := ad i0) S hm cw ⟨zBf_blind hX, va_recv hK hP (ci := ci) (q0 := q) g2 (zws_get kA r ad ph g1), fun U hU hW => zBf_of hX hK hP hD hx U hU hW⟩ rfl (by rw [List.length_map]; exact hn) hls rfl (lv_room hcat) hdg ⟨Nat.zero_le _, Nat.zero_le _⟩
theorem zcal_VN (hX : zXok X) (S : CallFix p m c cc nL s args Ts own) (hM : zMet X cl l y ws rm k) (cw : va_CN R s args own index y host bytes maxL ret ws rm 0 0 n ∧ (Cond.instanceMethod y).before args s = true ∧ (Cond.selects C y y).before args s = true) (ha : k.2.2.1.2.2.2.1 = .inr (some i0) :: as) (hr : ∃ (q ci : Nat) (fs : List zA) (T : u_T) (nF : Nat), k.2.2.1.2.2.2.2.1[q]? = some (i0, .inl (ci, fs)) ∧ cl[ci]? = some (C, T, nF)) (hn : as.length = n) : zCal X cl p l e R s m args below meth c cc nL (.invokevirtual index) k := by
  intro D kA r ad ph H locs ls pc rest hK hE hZ hW hP hD hx hls hcat hdg
  have hm := hM D kA r ad ph H.size hE hZ hW
  obtain ⟨q, ci, fs, T, nF, g1, g2⟩ := hr
  rw [ha] at hm ⊢
  have hst : ((.inr (some i0) :: as : List zA).map (zcv r ad)).reverse ++ rest = (as.map (zcv r ad)).reverse ++ .ref (ad i0) :: rest := by
    rw [List.map_cons, List.reverse_cons, List.append_assoc]
    rfl
  rw [hst]
  exact va_runVN (As := as.map (zcv r ad)) (b := ad i0) S hm cw ⟨zBf_blind hX, va_recv hK hP (ci := ci) (q0 := q) g2 (zws_get kA r ad ph g1), fun U hU hW => zBf_of hX hK hP hD hx U hU hW⟩ rfl (by rw [List.length_map]; exact hn) hls rfl (lv_room hcat) hdg ⟨Nat.zero_le _, Nat.zero_le _⟩
theorem zcal_S (hX : zXok X) (S : CallFix p m c cc nL s args Ts own) (hM : zMet X cl l y ws rm k) (cw : CallB R s args own index y bytes maxL ret ws rm 0 0 n ∧ (Cond.static y).before args s = true) (hn : k.2.2.1.2.2.2.1.length = n) : zCal X cl p l e R s m args below meth c cc nL (.invokestatic index) k := by
  intro D kA r ad ph H locs ls pc rest hK hE hZ hW hP hD hx hls hcat hdg
  have hm := hM D kA r ad ph H.size hE hZ hW
  exact va_runS (As := k.2.2.1.2.2.2.1.map (zcv r ad)) S hm cw ⟨zBf_blind hX, fun U hU hW => zBf_of hX hK hP hD hx U hU hW⟩ rfl (by rw [List.length_map]; exact hn) hls rfl (lv_room hcat) hdg ⟨Nat.zero_le _, Nat.zero_le _⟩
theorem zcal_SN (hX : zXok X) (S : CallFix p m c cc nL s args Ts own) (hM : zMet X cl l y ws rm k) (cw : va_CN R s args own index y host bytes maxL ret ws rm 0 0 n ∧ (Cond.static y).before args s = true ∧ True) (hn : k.2.2.1.2.2.2.1.length = n) : zCal X cl p l e R s m args below meth c cc nL (.invokestatic index) k := by
  intro D kA r ad ph H locs ls pc rest hK hE hZ hW hP hD hx hls hcat hdg
  have hm := hM D kA r ad ph H.size hE hZ hW
  exact va_runSN (As := k.2.2.1.2.2.2.1.map (zcv r ad)) S hm cw ⟨zBf_blind hX, fun U hU hW => zBf_of hX hK hP hD hx U hU hW⟩ rfl (by rw [List.length_map]; exact hn) hls rfl (lv_room hcat) hdg ⟨Nat.zero_le _, Nat.zero_le _⟩
end ZCL
end
section
def zmv (L : List (Nat × zV)) (t v : zV) : List (Nat × zV) := bif Nat.beq t.1 0 then L else match zlk L t.1 with
  | some _ => L
  | none => (t.1, (v.1, v.2 - t.2)) :: L
def zm1 (q : List (Nat × zV) × List (Nat × Nat)) (t a : zA) : List (Nat × zV) × List (Nat × Nat) := match t, a with
  | .inl (.inl t), .inl (.inl v) => (zmv q.1 t v, q.2)
  | .inl (.inr t), .inl (.inr v) => (zmv q.1 t v, q.2)
  | .inr (some j), .inr (some i) => match zlk q.2 j with
    | some _ => q
    | none => (q.1, (j, i) :: q.2)
  | _, _ => q
def zml (q : List (Nat × zV) × List (Nat × Nat)) : List zA → List zA → List (Nat × zV) × List (Nat × Nat)
  | t :: ts, a :: as => zml (zm1 q t a) ts as
  | _, _ => q
def zmg (L : List (Nat × zV)) : List zG → List zG → List (Nat × zV)
  | (_, .inr t) :: ts, (_, .inr v) :: vs => zmg (zmv L t v) ts vs
  | _ :: ts, _ :: vs => zmg L ts vs
  | _, _ => L
def zmn (L : List (Nat × zV)) : zM → zM → List (Nat × zV)
  | t :: ts, v :: vs => zmn (zmv (zmv L t.1 v.1) t.2 v.2) ts vs
  | _, _ => L
def zmc (q : List (Nat × zV) × List (Nat × Nat)) (t a : zC) : List (Nat × zV) × List (Nat × Nat) := match t, a with
  | .inl (_, ts), .inl (_, as) => zml q ts as
  | .inr (.inl (_, _, ts, tm)), .inr (.inl (_, _, as, am)) => (zmn (zmg q.1 ts as) tm am, q.2)
  | .inr (.inr (_, ts)), .inr (.inr (_, as)) => zml q (ts.map (fun i => .inr (some i))) (as.map (fun i => .inr (some i)))
  | _, _ => q
def zmw (w : zW) (q : List (Nat × zV) × List (Nat × Nat)) : zW → List (Nat × zV) × List (Nat × Nat)
  | [] => q
  | x :: tw => match zlk q.2 x.1 with
    | some i => match zcell w i with
      | some (_, y) => zmw w (zmc q x.2 y) tw
      | none => zmw w q tw
    | none => zmw w q tw
def zmo (lo : List (Nat × zA)) (q : List (Nat × zV) × List (Nat × Nat)) : List (Nat × zA) → List (Nat × zV) × List (Nat × Nat)
  | [] => q
  | x :: tl => match zlk lo x.1 with
    | some a => zmo lo (zm1 q x.2 a) tl
    | none => zmo lo q tl
/-- a guess: which symbols, which cells are meant -/
def zmS (pins : List Nat) (S T : zS) : List (Nat × zV) × List (Nat × Nat) := zmw S.2.2.2.2.1 (zml (zmo S.2.2.1 ([], pins.map (fun i => (i, i))) T.2.2.1) T.2.2.2.1 S.2.2.2.1) T.2.2.2.2.1
def zmp (w : zW) (M : List (Nat × Nat)) (tw : zW) : List Nat := tw.map (fun x => (zpos w (zka M x.1)).getD 0)
def ztry (K : Nat) (pins : List Nat) (n : Nat) (S : zS) (pc : Nat) (k : zK) : Option (List (Nat × zS)) :=
  let as := (S.2.2.2.1.take k.2.2.1.2.2.2.1.length).reverse
  let st := S.2.2.2.1.drop k.2.2.1.2.2.2.1.length
  let q := zmS [] (zsl S [] as) k.2.2.1
  let is := zmp S.2.2.2.2.1 q.2 k.2.2.1.2.2.2.2.1
  bif zent 1 [] (zsl S [] as) k.2.2.1 q.1 q.2 is && Nat.ble ((st.map zcat).sum) 8 && k.2.2.2.all (fun T => zchk K pins n S st k T q.1 q.2 is) then some (k.2.2.2.filterMap (fun T => (zaft n S st k T q.1 q.2 is).map (fun S' => (pc + 3, S')))) else none
def zstepE (K : Nat) (pins : List Nat) (n : Nat) (S : zS) (pc x : Nat) : List (Nat × zK) → Option (List (Nat × zS))
  | [] => none
  | q :: qs => bif Nat.beq q.1 x then (match ztry K pins n S pc q.2 with
    | some L => some L
    | none => zstepE K pins n S pc x qs) else zstepE K pins n S pc x qs
section ZSE
variable {X : zXT} {p : Program} {l : Launch} {e : Env} {R : Room} {s : State} {m : MethodId} {args : Array Value} {below : List Frame} {meth : Method} {c : Code} {Q : State → Prop} {cc : ByteArray} {D : va_G} {cl : List vw_C} {kA : Nat → ClassId} {A : Nat → Prop} {nL K : Nat} {pins : List Nat} {r0 : Nat → Int} {ad0 : Nat → Nat} {N pc n : Nat} {S : zS} {ins : Instr} {L : List (Nat × zS)}
theorem zcallz {H : Heap} {locs : List Loc} {H0 : Heap} {A0 A1 : Nat → Prop} {ls : Array Slot} {st0 rest : List Value} {a : Array Value} {k : zK} {r1 : Nat → Int} {ad1 : Nat → Nat} (hr : va_Run p l e R s m args below meth c H locs 0 0 0 0 (F0 m pc ls st0) rest (zQc D cl kA k r1 ad1 A1 a) A1) (hS : va_S A0 H0 H locs) (hA : ∀ q, A1 q → A0 q)
    (kk : ∀ T ∈ k.2.2.2, ∀ (r' : Nat → Int) (ad' : Nat → Nat) (ph' : Nat → Nat → Int) (H1 : Heap) (locs1 : List Loc), zJ k.1 k.2.1 r1 ad1 r' ad' → zokE r' T.1 → zokZ r' T.2.1 → zokW r' ph' T.2.2.2.2.1 → va_P D cl (zws kA r' ad' ph' T.2.2.2.2.1) H1 → va_D A1 (zws kA r' ad' ph' T.2.2.2.2.1) → (∀ q : Nat, q < H.size → ¬ A1 q → H1[q]? = H[q]?) → va_S A0 H0 H1 locs1 → W p l e R s m args below meth c H1 locs1 0 0 Q (F0 m (pc + 3) ls ((T.2.2.2.1.map (zcv r' ad')).head?.toList ++ rest))) : W p l e R s m args below meth c H locs 0 0 Q (F0 m pc ls st0) := by
  intro T hT Xs
  obtain ⟨v, st₀, t, T', L, h0, X', hL, e1, e2, ⟨⟨Tx, hTx, r', ad', ph', j1, j2, j3, j4, hv, j5, j6⟩, hz, hk⟩, st⟩ := hr T hT Xs
  cases hv
  rw [h0] at hz hk
  rw [← e1] at j5
  obtain ⟨t2, a1, b1⟩ := kk Tx hTx r' ad' ph' T'.heap (locs ++ L) j1 j2 j3 j4 j5 j6 (fun q h1 h2 => by rw [e1]; exact hk q h1 h2)
    ⟨Nat.le_trans hS.1 (by rw [e1]; exact hz), fun q h1 h2 => by rw [e1, hk q (Nat.lt_of_lt_of_le h1 hS.1) (fun z => h2 (hA q z))]; exact hS.2.1 q h1 h2, fun q hq => by
      rcases List.mem_append.mp hq with h | h
      · exact hS.2.2 q h
      · exact hA _ (hL q h)⟩ T' rfl X'
  exact ⟨t2, st t2 a1, b1⟩
theorem zhead {α : Type} {l : List α} (h : l.length ≤ 1) : l.head?.toList = l := by
  rcases l with _ | ⟨a, _ | ⟨b, t⟩⟩
  · rfl
  · rfl
  · simp only [List.length_cons] at h
    omega
theorem ztry_ok (hX : zXok X) (hx0 : X A s s.heap) (hA : ∀ q, s.heap.size ≤ q → A q) (hK : va_K D cl (ztys kA) s) {k : zK} (hcal : zCal X cl p l e R s m args below meth c cc nL ins k) (hdg : decode cc pc = .ok (ins, 3)) (h : ztry K pins n S pc k = some L) (hgo : ∀ x ∈ L, zGo (zGW p l e R s m args below meth c 0 0 Q) D cl kA A s.heap nL K pins r0 ad0 N x.1 x.2) : zGo (zGW p l e R s m args below meth c 0 0 Q) D cl kA A s.heap nL K pins r0 ad0 N pc S := by
  intro r ad ph H locs ls hJ hR hN
  unfold ztry at h
  · obtain ⟨as, has⟩ : ∃ as, as = (S.2.2.2.1.take k.2.2.1.2.2.2.1.length).reverse := ⟨_, rfl⟩
    obtain ⟨st, hst⟩ : ∃ st, st = S.2.2.2.1.drop k.2.2.1.2.2.2.1.length := ⟨_, rfl⟩
    dsimp only at h
    rw [← has, ← hst] at h
    generalize (zmS [] (zsl S [] as) k.2.2.1).1 = La at h
    generalize (zmS [] (zsl S [] as) k.2.2.1).2 = Ma at h
    generalize zmp S.2.2.2.2.1 Ma k.2.2.1.2.2.2.2.1 = is at h
    cases hz : zent 1 [] (zsl S [] as) k.2.2.1 La Ma is && Nat.ble ((st.map zcat).sum) 8 && k.2.2.2.all (fun T => zchk K pins n S st k T La Ma is) with
    | false => rw [hz] at h; cases h
    | true =>
      rw [hz] at h
      have h : k.2.2.2.filterMap (fun T => (zaft n S st k T La Ma is).map (fun S' => (pc + 3, S'))) = L := Option.some.inj h
      simp only [Bool.and_eq_true] at hz
      obtain ⟨⟨z1, z2⟩, z3⟩ := hz
      have hR' : zRel D cl kA A s.heap nL (zsl S [] as) r ad ph H locs ls := ⟨hR.1, hR.2.1, hR.2.2.1, hR.2.2.2.1, hR.2.2.2.2.1, hR.2.2.2.2.2.1, zlv_sub hR.2.2.2.2.2.2 (fun q hq => by cases hq)⟩
      obtain ⟨-, ⟨t1, t2, t3, t4, t5, t6, t7⟩, t8⟩ := zent_ok z1 (r0 := r) (ad0 := ad) ⟨fun _ _ => rfl, fun _ _ => rfl⟩ hR'
      have z1' := z1
      simp only [zent, Bool.and_eq_true] at z1'
      obtain ⟨-, -, -, -, -, h5, -, -⟩ := z1'
      obtain ⟨w1, -⟩ := zWle_ok (w := S.2.2.2.2.1) hR.1 (zth 1 La) (zka Ma) kA ad ph hR.2.2.1 is _ h5
      have hF := va_free hR.2.2.2.2.1 hR.2.2.2.2.2.1 hA is w1
      have t8 : as.map (zcv r ad) = _ := t8
      have hstk : S.2.2.2.1.map (zcv r ad) = (k.2.2.1.2.2.2.1.map (zcv (fun s => zev r (zth 1 La s)) (fun i => ad (zka Ma i)))).reverse ++ st.map (zcv r ad) := by
        rw [← t8, has, hst, List.map_reverse, List.reverse_reverse, ← List.map_append, List.take_append_drop]
      have hcat : ((st.map (zcv r ad)).map fun v => v.category).sum ≤ 8 := by
        rw [List.map_map, show ((fun v : Value => v.category) ∘ zcv r ad) = zcat from funext (zcat_ok r ad)]
        exact Nat.le_of_ble_eq_true z2
      have hrun := hcal D kA _ _ (fun i => ph (zka Ma i)) H locs ls pc (st.map (zcv r ad)) hK t1 t2 t3 t4 (t5.weaken (fun _ _ _ _ => trivial)) (hX.2.2.2 A _ s H hF (hX.2.2.1 A s s.heap H (fun a h1 h2 => hR.2.2.2.2.2.1.2.1 a h1 h2) hx0)) hR.2.2.2.2.2.2.1 hcat hdg
      show W _ _ _ _ _ _ _ _ _ _ _ _ _ _ _ (F0 m pc ls (S.2.2.2.1.map (zcv r ad)))
      rw [hstk]
      refine zcallz hrun hR.2.2.2.2.2.1 hF (fun T hT r' ad' ph' H1 locs1 j1 j2 j3 j4 j5 j6 j7 j8 => ?_)
      have hck := List.all_eq_true.mp z3 T hT
      obtain ⟨S', r2, ad2, ph2, y1, y2, y3, y4, y5⟩ := zaft_ok hck z1 hJ hR hN j1 j2 j3 j4 j5 j6 j7 hF j8
      have hmem : (pc + 3, S') ∈ L := by
        rw [← h]
        exact List.mem_filterMap.mpr ⟨T, hT, by rw [y1]; rfl⟩
      have g := hgo _ hmem r2 ad2 ph2 H1 locs1 ls y2 y3 y4
      have g : W p l e R s m args below meth c H1 locs1 0 0 Q (F0 m (pc + 3) ls (S'.2.2.2.1.map (zcv r2 ad2))) := g
      rw [y5] at g
      have hlen : T.2.2.2.1.length ≤ 1 := by
        simp only [zchk, Bool.and_eq_true] at hck
        exact Nat.le_of_ble_eq_true hck.1.2
      rw [zhead (by rw [List.length_map]; exact hlen)]
      exact g
theorem zstepE_ok (hX : zXok X) (hx0 : X A s s.heap) (hA : ∀ q, s.heap.size ≤ q → A q) (hK : va_K D cl (ztys kA) s) {x : Nat} (hdg : decode cc pc = .ok (ins, 3)) (hgo : ∀ x ∈ L, zGo (zGW p l e R s m args below meth c 0 0 Q) D cl kA A s.heap nL K pins r0 ad0 N x.1 x.2) : ∀ (calls : List (Nat × zK)), (∀ q ∈ calls, q.1 = x → zCal X cl p l e R s m args below meth c cc nL ins q.2) → zstepE K pins n S pc x calls = some L → zGo (zGW p l e R s m args below meth c 0 0 Q) D cl kA A s.heap nL K pins r0 ad0 N pc S
  | [], _, h => by cases h
  | q :: qs, hc, h => by
    unfold zstepE at h
    cases hb : Nat.beq q.1 x with
    | false =>
      rw [hb] at h
      exact zstepE_ok hX hx0 hA hK hdg hgo qs (fun y hy => hc y (List.mem_cons_of_mem _ hy)) h
    | true =>
      rw [hb] at h
      dsimp only [cond] at h
      split at h
      · rename_i L' hL
        cases h
        exact ztry_ok hX hx0 hA hK (hc q List.mem_cons_self (Nat.eq_of_beq_eq_true hb)) hdg hL hgo
      · exact zstepE_ok hX hx0 hA hK hdg hgo qs (fun y hy => hc y (List.mem_cons_of_mem _ hy)) h
end ZSE
/-- the members of the library: max, min, arraycopy -/
def zMM (Ts : List Cond) (own : String) (x t : Nat) : Prop := match t with
  | 0 => Cond.methodLink own x Lib.Math.max.name ∈ Ts ∧ Cond.static Lib.Math.max.name ∈ Ts ∧ Cond.initialized "java/lang/Math" ∈ Ts ∧ Cond.code Lib.Math.max.name Lib.Math.max.code 2 (some .int) ∈ Ts
  | 1 => Cond.methodLink own x Lib.Math.min.name ∈ Ts ∧ Cond.static Lib.Math.min.name ∈ Ts ∧ Cond.initialized "java/lang/Math" ∈ Ts ∧ Cond.code Lib.Math.min.name Lib.Math.min.code 2 (some .int) ∈ Ts
  | 2 => Cond.methodLink own x arraycopyName ∈ Ts ∧ Cond.native arraycopyName ∈ Ts ∧ Cond.static arraycopyName ∈ Ts ∧ Cond.initialized "java/lang/System" ∈ Ts
  | _ => False
def zwm (E : zE) (a b : Int) (i : zI) : Nat → List zG → Option (List zG)
  | _, [] => some []
  | o, g :: gs => match zwm E a b i (o + g.1) gs with
    | none => none
    | some gs' => bif zle ((o : Int) + (g.1 : Int)) a || zle (b + 1) (o : Int) then some (g :: gs') else match zrx E g.2 with
      | some j => some ((g.1, .inl (zmin i.1 j.1, zmax i.2 j.2)) :: gs')
      | none => none
theorem zwm_ok {r : Nat → Int} {E : zE} (hE : zokE r E) {f f' : Nat → Int} {a b : Int} {i : zI} (h1 : ∀ j : Nat, a ≤ j → j ≤ b → f' j = f j ∨ (i.1 ≤ f' j ∧ f' j ≤ i.2)) (h2 : ∀ j : Nat, ¬ (a ≤ j ∧ j ≤ b) → f' j = f j) : ∀ (gs : List zG) (o : Nat) (gs' : List zG), zokG r f o gs → zwm E a b i o gs = some gs' → zokG r f' o gs'
  | [], _, _, _, h => by cases h; exact trivial
  | g :: gs, o, gs', hk, h => by
    unfold zwm at h
    split at h
    · cases h
    · rename_i gt ht
      have ih := zwm_ok hE h1 h2 gs (o + g.1) gt hk.2 ht
      cases hz : zle ((o : Int) + (g.1 : Int)) a || zle (b + 1) (o : Int) with
      | true =>
        rw [hz] at h
        cases h
        simp only [Bool.or_eq_true] at hz
        refine ⟨fun j q1 q2 => ?_, ih⟩
        rw [h2 j (fun z => by
          rcases hz with q | q
          · have := zle_ok q; omega
          · have := zle_ok q; omega)]
        exact hk.1 j q1 q2
      | false =>
        rw [hz] at h
        dsimp only [cond] at h
        split at h
        · rename_i k hr
          cases h
          refine ⟨fun j q1 q2 => ?_, ih⟩
          have q := zrx_ok hE hr (hk.1 j q1 q2)
          by_cases hj : a ≤ j ∧ j ≤ b
          · rcases h1 j hj.1 hj.2 with e | e
            · dsimp only
              rw [e]
              exact ⟨zmin_r q.1, le_zmax_r q.2⟩
            · exact ⟨zmin_l e.1, le_zmax_l e.2⟩
          · dsimp only
            rw [h2 j hj]
            exact ⟨zmin_r q.1, le_zmax_r q.2⟩
        · cases h
def zstepM (mm : List (Nat × Nat)) (K n : Nat) (S : zS) (pc x : Nat) : Option (List (Nat × zS)) := match zlk mm x, S.2.2.2.1 with
  | some 0, .inl (.inl v2) :: .inl (.inl v1) :: st => match zrng S.1 v1, zrng S.1 v2 with
    | some i, some j => bif zint i && zint j && Nat.ble ((st.map zcat).sum) 8 && zfr n K (zst S st) then some [(pc + 3, zputI n S st (.inr (zmax i.1 j.1, zmax i.2 j.2)))] else none
    | _, _ => none
  | some 1, .inl (.inl v2) :: .inl (.inl v1) :: st => match zrng S.1 v1, zrng S.1 v2 with
    | some i, some j => bif zint i && zint j && Nat.ble ((st.map zcat).sum) 8 && zfr n K (zst S st) then some [(pc + 3, zputI n S st (.inr (zmin i.1 j.1, zmin i.2 j.2)))] else none
    | _, _ => none
  | some 2, .inl (.inl vn) :: .inl (.inl vd) :: .inr (some i1) :: .inl (.inl vs) :: .inr (some i0) :: st => match zrng S.1 vn, zrng S.1 vd, zrng S.1 vs, zcell S.2.2.2.2.1 i0, zcell S.2.2.2.2.1 i1 with
    | some bn, some bd, some bs, some (_, .inr (.inl (0, n0, gs0, _))), some (q1, .inr (.inl (0, n1, gs1, _))) => bif zle 0 bn.1 && zle 0 bd.1 && zle 0 bs.1 && zle (bs.2 + bn.2) (n0 : Int) && zle (bd.2 + bn.2) (n1 : Int) && Nat.ble n0 2000000 && Nat.ble n1 2000000 && Nat.beq n0 (zlenG gs0) && Nat.ble ((st.map zcat).sum) 8 then (match zrd S.1 bs.1 (bs.2 + bn.2 - 1) 0 gs0 with
      | some (some i) => (match zwm S.1 bd.1 (bd.2 + bn.2 - 1) i 0 gs1 with
        | some gs' => some [(pc + 3, zsw S (S.2.2.2.2.1.set q1 (i1, .inr (.inl (0, n1, gs', [])))) st)]
        | none => none)
      | _ => none) else none
    | _, _, _, _, _ => none
  | _, _ => none
end
section
section ZSM
variable {p : Program} {l : Launch} {e : Env} {R : Room} {s : State} {m : MethodId} {args : Array Value} {below : List Frame} {meth : Method} {c : Code} {Q : State → Prop} {cc : ByteArray} {D : va_G} {cl : List vw_C} {kA : Nat → ClassId} {A : Nat → Prop} {H0 : Heap} {nL K : Nat} {pins : List Nat} {r0 : Nat → Int} {ad0 : Nat → Nat} {N pc n : Nat} {S : zS} {ins : Instr} {L : List (Nat × zS)}
theorem zcats {st : List zA} (h : Nat.ble ((st.map zcat).sum) 8 = true) (r : Nat → Int) (ad : Nat → Nat) : ((st.map (zcv r ad)).map fun v => v.category).sum ≤ 8 := by
  rw [List.map_map, show ((fun v : Value => v.category) ∘ zcv r ad) = zcat from funext (zcat_ok r ad)]
  exact Nat.le_of_ble_eq_true h
set_option maxHeartbeats 4000000 in
theorem zstepM_ok (hx : p.tables.exec = Jvm.exec) (hb : c.code = cc) (hml : c.maxLocals = nL) (hK : va_K D cl (ztys kA) s) {own : String} {Ts : List Cond} (hown : s.vm.findClass own = some m.cls) (hts : ∀ w ∈ Ts, w.before args s = true) (hroom : 1 ≤ R.frames ∧ 64 ≤ R.locals) {mm : List (Nat × Nat)} (hmm : ∀ x t, zlk mm x = some t → zMM Ts own x t) {x : Nat}
    (hdg : decode cc pc = .ok (.invokestatic x, 3)) (h : zstepM mm K n S pc x = some L) (hgo : ∀ x ∈ L, zGo (zGW p l e R s m args below meth c 0 0 Q) D cl kA A H0 nL K pins r0 ad0 N x.1 x.2) : zGo (zGW p l e R s m args below meth c 0 0 Q) D cl kA A H0 nL K pins r0 ad0 N pc S := by
  intro r ad ph H locs ls hJ hR hN
  have hls : c.maxLocals = ls.size := hml.trans hR.2.2.2.2.2.2.1.symm
  unfold zstepM at h
  split at h
  · rename_i v2 v1 st hmx hst
    split at h
    · rename_i i j hi hj
      cases hz : zint i && zint j && Nat.ble ((st.map zcat).sum) 8 && zfr n K (zst S st) with
      | false => rw [hz] at h; cases h
      | true =>
        rw [hz] at h
        simp only [Bool.and_eq_true] at hz
        obtain ⟨⟨⟨z1, z2⟩, z3⟩, z4⟩ := hz
        cases h
        have bi := zrng_ok hR.1 hi
        have bj := zrng_ok hR.1 hj
        have ci := zint_ok z1 bi.1 bi.2
        have cj := zint_ok z2 bj.1 bj.2
        obtain ⟨m1, m2, m3, m4⟩ := hmm x 0 hmx
        have hcat := zcats z3 r ad
        show W _ _ _ _ _ _ _ _ _ _ _ _ _ _ _ (F0 m pc ls (S.2.2.2.1.map (zcv r ad)))
        rw [hst]
        refine va_mmax hx hb hls hown (hts _ m1) (hts _ m2) (hts _ m3) (hts _ m4) hroom.1 (by omega) (Nat.zero_le _) (Nat.zero_le _) hdg ?_
        refine zputI_go z4 (hgo _ List.mem_cons_self) hJ hR hN ?_
        have lt := zq_lt ci.1 ci.2 cj.1 cj.2
        by_cases hc : Int32.ofInt (zev r v1) < Int32.ofInt (zev r v2)
        · have q := lt.mp hc
          rw [if_pos hc]
          show _ ≤ _ ∧ _ ≤ _
          rw [zq_of cj.1 cj.2]
          exact ⟨zmax_le (by omega) bj.1, le_zmax_r bj.2⟩
        · have q : ¬ zev r v1 < zev r v2 := fun z => hc (lt.mpr z)
          rw [if_neg hc]
          show _ ≤ _ ∧ _ ≤ _
          rw [zq_of ci.1 ci.2]
          exact ⟨zmax_le bi.1 (by omega), le_zmax_l bi.2⟩
    · cases h
  · rename_i v2 v1 st hmx hst
    split at h
    · rename_i i j hi hj
      cases hz : zint i && zint j && Nat.ble ((st.map zcat).sum) 8 && zfr n K (zst S st) with
      | false => rw [hz] at h; cases h
      | true =>
        rw [hz] at h
        simp only [Bool.and_eq_true] at hz
        obtain ⟨⟨⟨z1, z2⟩, z3⟩, z4⟩ := hz
        cases h
        have bi := zrng_ok hR.1 hi
        have bj := zrng_ok hR.1 hj
        have ci := zint_ok z1 bi.1 bi.2
        have cj := zint_ok z2 bj.1 bj.2
        obtain ⟨m1, m2, m3, m4⟩ := hmm x 1 hmx
        have hcat := zcats z3 r ad
        show W _ _ _ _ _ _ _ _ _ _ _ _ _ _ _ (F0 m pc ls (S.2.2.2.1.map (zcv r ad)))
        rw [hst]
        refine va_mmin hx hb hls hown (hts _ m1) (hts _ m2) (hts _ m3) (hts _ m4) hroom.1 (by omega) (Nat.zero_le _) (Nat.zero_le _) hdg ?_
        refine zputI_go z4 (hgo _ List.mem_cons_self) hJ hR hN ?_
        have lt := zq_lt cj.1 cj.2 ci.1 ci.2
        by_cases hc : Int32.ofInt (zev r v2) < Int32.ofInt (zev r v1)
        · have q := lt.mp hc
          rw [if_pos hc]
          show _ ≤ _ ∧ _ ≤ _
          rw [zq_of cj.1 cj.2]
          exact ⟨zmin_r bj.1, zmin_le (by omega) bj.2⟩
        · have q : ¬ zev r v2 < zev r v1 := fun z => hc (lt.mpr z)
          rw [if_neg hc]
          show _ ≤ _ ∧ _ ≤ _
          rw [zq_of ci.1 ci.2]
          exact ⟨zmin_l bi.1, zmin_le bi.2 (by omega)⟩
    · cases h
  · rename_i vn vd i1 vs i0 st hmx hst
    split at h
    · rename_i bn bd bs q0 n0 gs0 mm0 q1 n1 gs1 mm1 hn hd hs hc0 hc1
      cases hz : zle 0 bn.1 && zle 0 bd.1 && zle 0 bs.1 && zle (bs.2 + bn.2) (n0 : Int) && zle (bd.2 + bn.2) (n1 : Int) && Nat.ble n0 2000000 && Nat.ble n1 2000000 && Nat.beq n0 (zlenG gs0) && Nat.ble ((st.map zcat).sum) 8 with
      | false => rw [hz] at h; cases h
      | true =>
        rw [hz] at h
        simp only [Bool.and_eq_true] at hz
        obtain ⟨⟨⟨⟨⟨⟨⟨⟨z1, z2⟩, z3⟩, z4⟩, z5⟩, z6⟩, z7⟩, z8⟩, z9⟩ := hz
        dsimp only [cond] at h
        split at h
        · rename_i i hrd
          split at h
          · rename_i gs' hwm
            cases h
            have y1 := zle_ok z1
            have y2 := zle_ok z2
            have y3 := zle_ok z3
            have y4 := zle_ok z4
            have y5 := zle_ok z5
            have y6 := Nat.le_of_ble_eq_true z6
            have y7 := Nat.le_of_ble_eq_true z7
            have y8 := Nat.eq_of_beq_eq_true z8
            have rn := zrng_ok hR.1 hn
            have rd := zrng_ok hR.1 hd
            have rs := zrng_ok hR.1 hs
            have en := zq_of (z := zev r vn) (by omega) (by omega)
            have ed := zq_of (z := zev r vd) (by omega) (by omega)
            have es := zq_of (z := zev r vs) (by omega) (by omega)
            have nonneg : ∀ {z : Int}, 0 ≤ z → (Int32.ofInt z).toInt = z → ¬ Int32.ofInt z < 0 := fun h1 h2 q => by
              rw [Int32.lt_iff_toInt_lt, h2] at q
              have : (0 : Int32).toInt = 0 := by decide +kernel
              omega
            have cn : (Int32.ofInt (zev r vn)).toNatClampNeg = (zev r vn).toNat := by show (Int32.ofInt (zev r vn)).toInt.toNat = _; rw [en]
            have cd : (Int32.ofInt (zev r vd)).toNatClampNeg = (zev r vd).toNat := by show (Int32.ofInt (zev r vd)).toInt.toNat = _; rw [ed]
            have cs : (Int32.ofInt (zev r vs)).toNatClampNeg = (zev r vs).toNat := by show (Int32.ofInt (zev r vs)).toInt.toNat = _; rw [es]
            have g0 := zcell_ok hc0
            have g1 := zcell_ok hc1
            have ok0 : zokG r (ph i0) 0 gs0 := (hR.2.2.1 _ (List.mem_of_getElem? g0)).1
            have ok1 : zokG r (ph i1) 0 gs1 := (hR.2.2.1 _ (List.mem_of_getElem? g1)).1
            obtain ⟨m1, m2, m3, m4⟩ := hmm x 2 hmx
            have hcat := zcats z9 r ad
            obtain ⟨f', hf'⟩ : ∃ f' : Nat → Int, f' = fun k => if (zev r vd).toNat ≤ k ∧ k < (zev r vd).toNat + (zev r vn).toNat then ph i0 ((zev r vs).toNat + (k - (zev r vd).toNat)) else ph i1 k := ⟨_, rfl⟩
            have hok' : zokG r f' 0 gs' := by
              refine zwm_ok hR.1 (f := ph i1) (f' := f') (fun j h1 h2 => ?_) (fun j hj => ?_) gs1 0 gs' ok1 hwm
              · by_cases hc : (zev r vd).toNat ≤ j ∧ j < (zev r vd).toNat + (zev r vn).toNat
                · right
                  rw [hf']
                  dsimp only
                  rw [if_pos hc]
                  obtain ⟨i', e', b1, b2⟩ := zrd_ok hR.1 gs0 0 _ ok0 hrd ((zev r vs).toNat + (j - (zev r vd).toNat)) (by omega) (by omega) (by omega) (by omega)
                  cases e'
                  exact ⟨b1, b2⟩
                · left
                  rw [hf']
                  exact if_neg hc
              · rw [hf']
                exact if_neg (by omega)
            obtain ⟨ph', hph'⟩ : ∃ ph' : Nat → Nat → Int, ph' = fun y => if y = i1 then f' else ph y := ⟨_, rfl⟩
            have hp1 : ∀ y, y ≠ i1 → ph' y = ph y := fun y hy => by rw [hph']; exact if_neg hy
            have hp2 : ph' i1 = f' := by rw [hph']; exact if_pos rfl
            have ews := zws_set (x' := .inr (.inl (0, n1, gs', []))) hR.2.2.2.2.1 g1 hp1
            have ef : zce kA r ad (ph' i1) (.inr (.inl (0, n1, gs', []))) = .inl (kA 0, n1, .inl (va_cpy (fun j => Int32.ofInt (ph i0 j)) (fun j => Int32.ofInt (ph i1 j)) (zev r vs).toNat (zev r vd).toNat (zev r vn).toNat)) := by
              rw [hp2, hf']
              show Sum.inl (kA 0, n1, Sum.inl _) = _
              congr 4
              funext j
              unfold va_cpy
              dsimp only
              split <;> rfl
            have hwok := zokW_set (x' := .inr (.inl (0, n1, gs', []))) hR.2.2.2.2.1 g1 hp1 hR.2.2.1 ⟨by rw [hp2]; exact hok', fun x hx => by cases hx⟩
            rw [ef] at ews
            show W _ _ _ _ _ _ _ _ _ _ _ _ _ _ _ (F0 m pc ls (S.2.2.2.1.map (zcv r ad)))
            rw [hst]
            refine va_copyi (ty := .int) hx hb hls hown (hts _ m1) (hts _ m2) (hts _ m3) (hts _ m4) hK hR.2.2.2.1 hR.2.2.2.2.1 hR.2.2.2.2.2.1 q0 q1 0 0 (zws_get kA r ad ph g0) (zws_get kA r ad ph g1) rfl rfl rfl (nonneg (by omega) es) (nonneg (by omega) ed) (nonneg (by omega) en) (by rw [cs, cn]; omega) (by rw [cd, cn]; omega) (fun _ _ => rfl) hroom.1 (by
              have e7 : nativeFrameWords "java/lang/System" "arraycopy" 5 = 7 := by decide +kernel
              rw [e7]
              omega) hdg (fun H1 locs1 hP1 hD1 hS1 => ?_)
            rw [cs, cd, cn, ← ews] at hP1 hD1
            exact hgo _ List.mem_cons_self r ad ph' H1 locs1 ls hJ ⟨hR.1, hR.2.1, hwok, hP1, hD1, hS1, hR.2.2.2.2.2.2⟩ hN
          · cases h
        · cases h
    · cases h
  · cases h
end ZSM
def ztab (S : zS) (st : List zA) (v : zV) (pc : Nat) : Int → List Int → List (Nat × zS)
  | _, [] => []
  | k, o :: os => (match zeqS S.1 S.2.1 v (0, k) with
    | none => []
    | some q => [(((pc : Int) + o).toNat, zse S q st)]) ++ ztab S st v pc (k + 1) os
def ztsw (S : zS) (pc : Nat) (d lo hi : Int) (offs : List Int) : Option (List (Nat × zS)) := match S.2.2.2.1 with
  | .inl (.inl v) :: st => match zrng S.1 v with
    | some i => bif zint i && zle 0 ((pc : Int) + d) && offs.all (fun o => zle 0 ((pc : Int) + o)) && decide (hi - lo + 1 = (offs.length : Int)) then some ((match zlekS S.1 S.2.1 v (0, lo) 1 with
      | none => []
      | some q => [(((pc : Int) + d).toNat, zse S q st)]) ++ (match zlekS S.1 S.2.1 (0, hi) v 1 with
      | none => []
      | some q => [(((pc : Int) + d).toNat, zse S q st)]) ++ ztab S st v pc lo offs) else none
    | none => none
  | _ => none
def zlks (S : zS) (st : List zA) (v : zV) (pc : Nat) : List (Int × Int) → List (Nat × zS)
  | [] => []
  | x :: xs => (match zeqS S.1 S.2.1 v (0, x.1) with
    | none => []
    | some q => [(((pc : Int) + x.2).toNat, zse S q st)]) ++ zlks S st v pc xs
def zlsw (S : zS) (pc : Nat) (d : Int) (ps : List (Int × Int)) : Option (List (Nat × zS)) := match S.2.2.2.1 with
  | .inl (.inl v) :: st => match zrng S.1 v with
    | some i => bif zint i && zle 0 ((pc : Int) + d) && ps.all (fun x => zle 0 ((pc : Int) + x.2)) && (ps.zip (ps.drop 1)).all (fun (a, next) => a.1 < next.1) then some ((((pc : Int) + d).toNat, zst S st) :: zlks S st v pc ps) else none
    | none => none
  | _ => none
section ZSW
variable {p : Program} {l : Launch} {e : Env} {R : Room} {s : State} {m : MethodId} {args : Array Value} {below : List Frame} {meth : Method} {c : Code} {Q : State → Prop} {cc : ByteArray} {D : va_G} {cl : List vw_C} {kA : Nat → ClassId} {A : Nat → Prop} {H0 : Heap} {nL K : Nat} {pins : List Nat} {r0 : Nat → Int} {ad0 : Nat → Nat} {N pc n : Nat} {S : zS} {L : List (Nat × zS)}
theorem ztab_mem {st : List zA} {v : zV} {r : Nat → Int} (hE : zokE r S.1) (hZ : zokZ r S.2.1) : ∀ (os : List Int) (k : Int) (j : Nat) (o : Int), os[j]? = some o → zev r v = k + j → ∃ q, (((pc : Int) + o).toNat, zse S q st) ∈ ztab S st v pc k os ∧ zokE r q.1 ∧ zokZ r q.2
  | [], _, j, i, h, _ => by simp at h
  | a :: is, k, 0, i, h, hv => by
    simp only [List.getElem?_cons_zero, Option.some.injEq] at h
    subst h
    obtain ⟨q, e1, o1, o2⟩ := zeqS_ok (v1 := v) (v2 := (0, k)) hE hZ (by rw [zconst hE.1]; omega)
    refine ⟨q, ?_, o1, o2⟩
    unfold ztab
    rw [e1]
    exact List.mem_append_left _ List.mem_cons_self
  | a :: is, k, j + 1, i, h, hv => by
    rw [List.getElem?_cons_succ] at h
    obtain ⟨q, m1, o1, o2⟩ := ztab_mem (st := st) (v := v) hE hZ is (k + 1) j i h (by omega)
    refine ⟨q, ?_, o1, o2⟩
    unfold ztab
    exact List.mem_append_right _ m1
theorem ztsw_ok (hx : p.tables.exec = Jvm.exec) (hb : c.code = cc) {d lo hi : Int} {offs : Array Int} {len : Nat} (hdg : decode cc pc = .ok (.tableswitch d lo hi offs, len)) (h : ztsw S pc d lo hi offs.toList = some L) (hgo : ∀ x ∈ L, zGo (zGW p l e R s m args below meth c 0 0 Q) D cl kA A H0 nL K pins r0 ad0 N x.1 x.2) : zGo (zGW p l e R s m args below meth c 0 0 Q) D cl kA A H0 nL K pins r0 ad0 N pc S := by
  intro r ad ph H locs ls hJ hR hN
  unfold ztsw at h
  split at h
  · rename_i v st hst
    split at h
    · rename_i i hri
      cases hz : zint i && zle 0 ((pc : Int) + d) && offs.toList.all (fun o => zle 0 ((pc : Int) + o)) && decide (hi - lo + 1 = (offs.toList.length : Int)) with
      | false => rw [hz] at h; cases h
      | true =>
        rw [hz] at h
        simp only [Bool.and_eq_true] at hz
        obtain ⟨⟨⟨z1, z2⟩, z3⟩, z4⟩ := hz
        cases h
        have b := zrng_ok hR.1 hri
        have ci := zint_ok z1 b.1 b.2
        have ev := zq_of ci.1 ci.2
        have y2 := zle_ok z2
        have y4 : hi - lo + 1 = (offs.toList.length : Int) := of_decide_eq_true z4
        show W _ _ _ _ _ _ _ _ _ _ _ _ _ _ _ (F0 m pc ls (S.2.2.2.1.map (zcv r ad)))
        rw [hst]
        by_cases c1 : zev r v < lo
        · obtain ⟨q, e1, o1, o2⟩ := zlekS_ok (v1 := v) (v2 := (0, lo)) (k := 1) hR.1 hR.2.1 (by rw [zconst hR.1.1]; omega)
          exact lv_tableOut (tgt := ((pc : Int) + d).toNat) hx hb hdg (by rw [ev]; exact Or.inl c1) (by omega) (hgo (((pc : Int) + d).toNat, zse S q st) (by rw [e1]; exact List.mem_append_left _ (List.mem_append_left _ List.mem_cons_self)) r ad ph H locs ls hJ ⟨o1, o2, hR.2.2⟩ hN)
        · by_cases c2 : hi < zev r v
          · obtain ⟨q, e1, o1, o2⟩ := zlekS_ok (v1 := (0, hi)) (v2 := v) (k := 1) hR.1 hR.2.1 (by rw [zconst hR.1.1]; omega)
            exact lv_tableOut (tgt := ((pc : Int) + d).toNat) hx hb hdg (by rw [ev]; exact Or.inr c2) (by omega) (hgo (((pc : Int) + d).toNat, zse S q st) (by rw [e1]; exact List.mem_append_left _ (List.mem_append_right _ List.mem_cons_self)) r ad ph H locs ls hJ ⟨o1, o2, hR.2.2⟩ hN)
          · have hlt : (zev r v - lo).toNat < offs.toList.length := by omega
            have hget : offs.toList[(zev r v - lo).toNat]? = some offs.toList[(zev r v - lo).toNat] := List.getElem?_eq_getElem hlt
            have y3 := zle_ok (List.all_eq_true.mp z3 _ (List.mem_of_getElem? hget))
            obtain ⟨q, m1, o1, o2⟩ := ztab_mem (st := st) (v := v) (pc := pc) hR.1 hR.2.1 offs.toList lo (zev r v - lo).toNat _ hget (by omega)
            exact lv_tableIn (tgt := ((pc : Int) + offs.toList[(zev r v - lo).toNat]).toNat) hx hb hdg (by rw [ev]; exact c1) (by rw [ev]; exact c2) (by rw [ev, ← Array.getElem?_toList]; exact hget) (by omega) (hgo _ (List.mem_append_right _ m1) r ad ph H locs ls hJ ⟨o1, o2, hR.2.2⟩ hN)
    · cases h
  · cases h
theorem zlks_mem {st : List zA} {v : zV} {r : Nat → Int} (hE : zokE r S.1) (hZ : zokZ r S.2.1) (d : Int) : ∀ (ps : List (Int × Int)), Op.lookupswitch.offset ps d (zev r v) = d ∨ ∃ x ∈ ps, Op.lookupswitch.offset ps d (zev r v) = x.2 ∧ ∃ q, (((pc : Int) + x.2).toNat, zse S q st) ∈ zlks S st v pc ps ∧ zokE r q.1 ∧ zokZ r q.2
  | [] => Or.inl rfl
  | (a, o) :: ps => by
    rw [Op.lookupswitch.offset_cons]
    by_cases h : a = zev r v
    · rw [if_pos h]
      obtain ⟨q, e1, o1, o2⟩ := zeqS_ok (v1 := v) (v2 := (0, a)) hE hZ (by rw [zconst hE.1]; exact h.symm)
      refine Or.inr ⟨(a, o), List.mem_cons_self, rfl, q, ?_, o1, o2⟩
      unfold zlks
      rw [e1]
      exact List.mem_append_left _ List.mem_cons_self
    · rw [if_neg h]
      rcases zlks_mem (st := st) (v := v) hE hZ d ps with q | ⟨x, hx, e1, q, m1, o1, o2⟩
      · exact Or.inl q
      · refine Or.inr ⟨x, List.mem_cons_of_mem _ hx, e1, q, ?_, o1, o2⟩
        unfold zlks
        exact List.mem_append_right _ m1
theorem zlsw_ok (hx : p.tables.exec = Jvm.exec) (hb : c.code = cc) {d : Int} {ps : Array (Int × Int)} {len : Nat} (hdg : decode cc pc = .ok (.lookupswitch d ps, len)) (h : zlsw S pc d ps.toList = some L) (hgo : ∀ x ∈ L, zGo (zGW p l e R s m args below meth c 0 0 Q) D cl kA A H0 nL K pins r0 ad0 N x.1 x.2) : zGo (zGW p l e R s m args below meth c 0 0 Q) D cl kA A H0 nL K pins r0 ad0 N pc S := by
  intro r ad ph H locs ls hJ hR hN
  unfold zlsw at h
  split at h
  · rename_i v st hst
    split at h
    · rename_i i hi
      cases hz : zint i && zle 0 ((pc : Int) + d) && ps.toList.all (fun x => zle 0 ((pc : Int) + x.2)) && (ps.toList.zip (ps.toList.drop 1)).all (fun (a, next) => a.1 < next.1) with
      | false => rw [hz] at h; cases h
      | true =>
        rw [hz] at h
        simp only [Bool.and_eq_true] at hz
        obtain ⟨⟨⟨z1, z2⟩, z3⟩, z4⟩ := hz
        cases h
        have b := zrng_ok hR.1 hi
        have ci := zint_ok z1 b.1 b.2
        have ev := zq_of ci.1 ci.2
        have y2 := zle_ok z2
        show W _ _ _ _ _ _ _ _ _ _ _ _ _ _ _ (F0 m pc ls (S.2.2.2.1.map (zcv r ad)))
        rw [hst]
        rcases zlks_mem (st := st) (v := v) (pc := pc) hR.1 hR.2.1 d ps.toList with q | ⟨x, hx1, e1, q, m1, o1, o2⟩
        · exact lv_lookup (off := d) (tgt := ((pc : Int) + d).toNat) hx hb hdg z4 (by rw [ev]; exact q) (by omega) (hgo _ List.mem_cons_self r ad ph H locs ls hJ hR hN)
        · have y3 := zle_ok (List.all_eq_true.mp z3 x hx1)
          exact lv_lookup (off := x.2) (tgt := ((pc : Int) + x.2).toNat) hx hb hdg z4 (by rw [ev]; exact e1) (by omega) (hgo _ (List.mem_cons_of_mem _ m1) r ad ph H locs ls hJ ⟨o1, o2, hR.2.2⟩ hN)
    · cases h
  · cases h
end ZSW
end
section
/-- a method's tables: fields, int constants, long constants, virtual calls, static calls, library members -/
abbrev zTb : Type := List (Nat × Nat × Nat × Nat) × List (Nat × Int) × List (Nat × Int) × List (Nat × zK) × List (Nat × zK) × List (Nat × Nat)
def zstep (tb : zTb) (nL K : Nat) (pins : List Nat) (n : Nat) (S : zS) (pc : Nat) (ins : Instr) (len : Nat) (nxt : Option Instr) : Option (List (Nat × zS)) := match ins with
  | .tableswitch d lo hi offs => ztsw S pc d lo hi offs.toList
  | .lookupswitch d ps => zlsw S pc d ps.toList
  | .invokevirtual x => bif Nat.beq len 3 then zstepE K pins n S pc x tb.2.2.2.1 else none
  | .invokestatic x => bif Nat.beq len 3 then (match zstepM tb.2.2.2.2.2 K n S pc x with
    | some L => some L
    | none => zstepE K pins n S pc x tb.2.2.2.2.1) else none
  | i => bif Nat.beq len (zlen i) then (match zstepA tb.2.1 tb.2.2.1 nL K n S pc i with
    | some L => some L
    | none => match zstepD tb.1 K n S pc i with
      | some L => some L
      | none => match zstepC K n S pc i nxt with
        | some L => some L
        | none => bif Nat.beq (zlen i) 1 then (match zstepB K n S pc i with
          | some L => some L
          | none => zstepU K n S pc i) else none) else none
def zrtok (E : zE) (rt : Nat) (ins : Instr) (st : List zA) : Bool := match rt, ins, st with
  | 0, .return_, [] => true
  | 1, .ireturn, [.inl (.inl _)] => true
  | 2, .ireturn, [.inl (.inl v)] => match zrng E v with
    | some i => zle 0 i.1 && zle i.2 1
    | none => false
  | 3, .lreturn, [.inl (.inr _)] => true
  | _, _, _ => false
def zisret : Instr → Bool
  | .return_ => true
  | .ireturn => true
  | .lreturn => true
  | _ => false
def zrty : Nat → Option FieldType
  | 0 => none
  | 1 => some .int
  | 2 => some .boolean
  | _ => some .long
def zexit (K : Nat) (pins : List Nat) (exits : List zS) (S : zS) : Bool := exits.any (fun T =>
  let q := zmS pins (zsl S [] S.2.2.2.1) T
  zent K pins (zsl S [] S.2.2.2.1) T q.1 q.2 (zmp S.2.2.2.2.1 q.2 T.2.2.2.2.1))
/-- constants among the variables must be the same: a cheap look ahead of the whole comparison -/
def zpre (S T : zS) : Bool := T.2.2.1.all (fun x => match x.2 with
  | .inl (.inl v) => bif Nat.beq v.1 0 then (match zlk S.2.2.1 x.1 with
    | some (.inl (.inl u)) => Nat.beq u.1 0 && zle u.2 v.2 && zle v.2 u.2
    | _ => false) else true
  | _ => true)
def zedge (K : Nat) (pins : List Nat) (bl : List (Nat × zS)) (dec : Bool) (pc : Nat) (S : zS) : Bool := bl.any (fun b => Nat.beq b.1 pc && (zpre S b.2 &&
  (let q := zmS pins S b.2
  zent K pins S b.2 q.1 q.2 (zmp S.2.2.2.2.1 q.2 b.2.2.2.2.2.1) && (!dec || zlex S.1 S.2.1 S.2.2.2.2.2 (b.2.2.2.2.2.2.map (ztR (zth K q.1)))))))
def znx (pr : List (Nat × Instr × Nat)) (pc : Nat) : Option Instr := match zlk pr pc with
  | some (i, ln) => bif Nat.beq ln (zlen i) then some i else none
  | none => none
/-- a state taken apart by the bounds of a number: place 0 is the top, place i + 1 the variable i -/
abbrev zSp : Type := List (Nat × Nat × List zI)
def zspr (S : zS) (v : zV) : List zI → List zS
  | [] => []
  | i :: is => (match zref S.1 v i.1 i.2 with
    | none => []
    | some E => [zse S (E, S.2.1) S.2.2.2.1]) ++ zspr S v is
def zcov (b : zI) : List zI → Bool
  | [] => zle (b.2 + 1) b.1
  | i :: is => zle i.1 b.1 && (zle b.2 i.2 || zcov (i.2 + 1, b.2) is)
theorem zcov_ok {x : Int} : ∀ (is : List zI) (b : zI), zcov b is = true → b.1 ≤ x → x ≤ b.2 → ∃ i ∈ is, i.1 ≤ x ∧ x ≤ i.2
  | [], b, h, h1, h2 => by
    have := zle_ok h
    omega
  | i :: is, b, h, h1, h2 => by
    simp only [zcov, Bool.and_eq_true, Bool.or_eq_true] at h
    have a := zle_ok h.1
    by_cases hx : x ≤ i.2
    · exact ⟨i, List.mem_cons_self, by omega, hx⟩
    · rcases h.2 with q | q
      · have := zle_ok q
        omega
      · obtain ⟨j, m, r⟩ := zcov_ok is (i.2 + 1, b.2) q (by dsimp only; omega) h2
        exact ⟨j, List.mem_cons_of_mem _ m, r⟩
def zspl (sp : zSp) (S : zS) (pc : Nat) : Option (List zS) := match zlk sp pc with
  | none => some [S]
  | some (pl, is) => match (match pl with
    | 0 => S.2.2.2.1.head?
    | i + 1 => zlk S.2.2.1 i) with
    | some (.inl (.inl v)) => match zrng S.1 v with
      | some b => bif zcov b is then some (zspr S v is) else none
      | none => none
    | _ => none
def zrun (tb : zTb) (sp : zSp) (pr : List (Nat × Instr × Nat)) (nL rt K : Nat) (pins : List Nat) (exits : List zS) (bl : List (Nat × zS)) (dec : Bool) : Nat → Nat → zS → Nat → Bool
  | 0, _, _, _ => false
  | f + 1, n, S0, pc => match zlk pr pc with
    | none => false
    | some (ins, len) => match zspl sp S0 pc with
      | none => false
      | some Ss => Ss.all (fun S => bif zisret ins then Nat.beq len 1 && zrtok S.1 rt ins S.2.2.2.1 && zexit K pins exits S else match zstep tb nL K pins n S pc ins len (znx pr (pc + 1)) with
        | none => false
        | some L => L.all (fun x => bif bl.any (fun b => Nat.beq b.1 x.1) then zedge K pins bl dec x.1 x.2 else zrun tb sp pr nL rt K pins exits bl dec f (n + 1000) x.2 x.1))
section ZRN
variable {X : zXT} {p : Program} {l : Launch} {e : Env} {R : Room} {s : State} {m : MethodId} {args : Array Value} {below : List Frame} {meth : Method} {c : Code} {cc : ByteArray} {D : va_G} {cl : List vw_C} {kA : Nat → ClassId} {A : Nat → Prop} {nL : Nat} {k : zK} {r0 : Nat → Int} {ad0 : Nat → Nat} {N : Nat} {Ts : List Cond} {own : String} {tb : zTb} {pr : List (Nat × Instr × Nat)} {rt : Nat} {bl : List (Nat × zS)} {dec : Bool} {sp : zSp}
/-- what is fixed while a method runs -/
def zCx (X : zXT) (p : Program) (l : Launch) (e : Env) (R : Room) (s : State) (m : MethodId) (args : Array Value) (below : List Frame) (meth : Method) (c : Code) (cc : ByteArray) (D : va_G) (cl : List vw_C) (kA : Nat → ClassId) (A : Nat → Prop) (nL : Nat) (Ts : List Cond) (own : String) (tb : zTb) (pr : List (Nat × Instr × Nat)) (rt : Nat) : Prop :=
  zXok X ∧ X A s s.heap ∧ (∀ q, s.heap.size ≤ q → A q) ∧ va_K D cl (ztys kA) s ∧ p.tables.exec = Jvm.exec ∧ c.code = cc ∧ c.maxLocals = nL ∧ s.vm.findClass own = some m.cls ∧ (∀ w ∈ Ts, w.before args s = true) ∧ meth.locks = false ∧ meth.sig.returnType = zrty rt ∧ (1 ≤ R.frames ∧ 64 ≤ R.locals)
  ∧ (∀ x ci k tag, zlk tb.1 x = some (ci, k, tag) → zFld Ts own cl x ci k tag) ∧ (∀ k z, zlk tb.2.1 k = some z → Cond.constant own k (Int32.ofInt z) ∈ Ts) ∧ (∀ k z, zlk tb.2.2.1 k = some z → Cond.constantLong own k (Int64.ofInt z) ∈ Ts) ∧ (∀ q ∈ tb.2.2.2.1, zCal X cl p l e R s m args below meth c cc nL (.invokevirtual q.1) q.2) ∧ (∀ q ∈ tb.2.2.2.2.1, zCal X cl p l e R s m args below meth c cc nL (.invokestatic q.1) q.2) ∧ (∀ x t, zlk tb.2.2.2.2.2 x = some t → zMM Ts own x t)
  ∧ (∀ pc ins len, zlk pr pc = some (ins, len) → decode cc pc = .ok (ins, len))
theorem zstep_ok {K : Nat} {pins : List Nat} {Q : State → Prop} {n pc len : Nat} {S : zS} {ins : Instr} {nxt : Option Instr} {L : List (Nat × zS)} (hcx : zCx X p l e R s m args below meth c cc D cl kA A nL Ts own tb pr rt) (hdg : decode cc pc = .ok (ins, len)) (hnx : ∀ i, nxt = some i → decode cc (pc + 1) = .ok (i, zlen i)) (h : zstep tb nL K pins n S pc ins len nxt = some L) (hgo : ∀ x ∈ L, zGo (zGW p l e R s m args below meth c 0 0 Q) D cl kA A s.heap nL K pins r0 ad0 N x.1 x.2) : zGo (zGW p l e R s m args below meth c 0 0 Q) D cl kA A s.heap nL K pins r0 ad0 N pc S := by
  obtain ⟨hX, hx0, hA, hK, hx, hb, hml, hown, hts, hlk, hrt, hroom, hfl, hco, hlc, hvc, hsc, hmm, hpr⟩ := hcx
  unfold zstep at h
  split at h
  · exact ztsw_ok hx hb hdg h hgo
  · exact zlsw_ok hx hb hdg h hgo
  · rename_i x
    cases hl : Nat.beq len 3 with
    | false => rw [hl] at h; cases h
    | true =>
      rw [hl] at h
      have el := Nat.eq_of_beq_eq_true hl
      subst el
      exact zstepE_ok hX hx0 hA hK hdg hgo tb.2.2.2.1 (fun q hq e => by rw [← e]; exact hvc q hq) h
  · rename_i x
    cases hl : Nat.beq len 3 with
    | false => rw [hl] at h; cases h
    | true =>
      rw [hl] at h
      have el := Nat.eq_of_beq_eq_true hl
      subst el
      dsimp only [cond] at h
      split at h
      · rename_i L' hM
        cases h
        exact zstepM_ok hx hb hml hK hown hts hroom hmm hdg hM hgo
      · exact zstepE_ok hX hx0 hA hK hdg hgo tb.2.2.2.2.1 (fun q hq e => by rw [← e]; exact hsc q hq) h
  · cases hl : Nat.beq len (zlen ins) with
    | false => rw [hl] at h; cases h
    | true =>
      rw [hl] at h
      have el := Nat.eq_of_beq_eq_true hl
      subst el
      dsimp only [cond] at h
      split at h
      · rename_i L' hM
        cases h
        exact zstepA_ok hx hb hown hts hco hlc hdg hM hgo
      · split at h
        · rename_i L' hM
          cases h
          exact zstepD_ok hx hb hK hown hts hfl hdg hM hgo
        · split at h
          · rename_i L' hM
            cases h
            exact zstepC_ok hx hb hdg hnx hM hgo
          · cases h1 : Nat.beq (zlen ins) 1 with
            | false => rw [h1] at h; cases h
            | true =>
              rw [h1] at h
              rw [Nat.eq_of_beq_eq_true h1] at hdg
              dsimp only at h
              split at h
              · rename_i L' hM
                cases h
                exact zstepB_ok hx hb hdg hM hgo
              · exact zstepU_ok hx hb hdg h hgo
theorem zret_ok {pc : Nat} {S : zS} {ins : Instr} (hcx : zCx X p l e R s m args below meth c cc D cl kA A nL Ts own tb pr rt) (hdg : decode cc pc = .ok (ins, 1)) (h1 : zrtok S.1 rt ins S.2.2.2.1 = true) (h2 : zexit k.1 k.2.1 k.2.2.2 S = true) : zGo (zGW p l e R s m args below meth c 0 0 (MQ below (zQc D cl kA k r0 ad0 A) args s 0 0 A)) D cl kA A s.heap nL k.1 k.2.1 r0 ad0 N pc S := by
  obtain ⟨hX, hx0, hA, hK, hx, hb, hml, hown, hts, hlk, hrt, hroom, hfl, hco, hlc, hvc, hsc, hmm, hpr⟩ := hcx
  intro r ad ph H locs ls hJ hR hN
  obtain ⟨T, hT, hq⟩ := List.any_eq_true.mp h2
  have hR' : zRel D cl kA A s.heap nL (zsl S [] S.2.2.2.1) r ad ph H locs ls := ⟨hR.1, hR.2.1, hR.2.2.1, hR.2.2.2.1, hR.2.2.2.2.1, hR.2.2.2.2.2.1, zlv_sub hR.2.2.2.2.2.2 (fun q hq => by cases hq)⟩
  obtain ⟨j1, ⟨t1, t2, t3, t4, t5, t6, t7⟩, t8⟩ := zent_ok hq hJ hR'
  have t8 : S.2.2.2.1.map (zcv r ad) = _ := t8
  have post : ∀ (o : Option Value), o = (S.2.2.2.1.map (zcv r ad)).head? → ∀ t : State, t.heap = H → s.WarmedH t.vm → zQc D cl kA k r0 ad0 A args s (.returned o) t := by
    intro o ho t ht hW
    exact ⟨⟨T, hT, _, _, _, j1, t1, t2, t3, by rw [ho, t8], by rw [ht]; exact t4, t5⟩, hR.2.2.2.2.2.1.F ht⟩
  show W _ _ _ _ _ _ _ _ _ _ _ _ _ _ _ (F0 m pc ls (S.2.2.2.1.map (zcv r ad)))
  unfold zrtok at h1
  split at h1
  · rename_i hst
    rw [hst] at post ⊢
    exact W.vret hx hb hrt (post none rfl) hR.2.2.2.2.2.1.2.2 hdg hlk
  · rename_i v hst
    rw [hst] at post ⊢
    exact W.iret hx hb hrt (post (some _) rfl) hR.2.2.2.2.2.1.2.2 hdg hlk
  · rename_i v hst
    rw [hst] at post ⊢
    split at h1
    · rename_i i hr
      simp only [Bool.and_eq_true] at h1
      have b := zrng_ok hR.1 hr
      exact W.zret hx hb hrt (znar_bool (k := zev r v) (by have := zle_ok h1.1; omega) (by have := zle_ok h1.2; omega)).1 (post (some _) rfl) hR.2.2.2.2.2.1.2.2 hdg hlk
    · cases h1
  · rename_i v hst
    rw [hst] at post ⊢
    exact W.lret hx hb hrt (post (some _) rfl) hR.2.2.2.2.2.1.2.2 hdg hlk
  · cases h1
theorem zspr_mem {v : zV} {S : zS} {r : Nat → Int} (hE : zokE r S.1) {j : zI} (h1 : j.1 ≤ zev r v) (h2 : zev r v ≤ j.2) : ∀ (is : List zI), j ∈ is → ∃ E, zse S (E, S.2.1) S.2.2.2.1 ∈ zspr S v is ∧ zokE r E
  | [], h => by cases h
  | i :: is, h => by
    rcases List.mem_cons.mp h with e | e
    · subst e
      obtain ⟨E, e1, o1⟩ := zref_ok (v := v) hE h1 h2
      refine ⟨E, ?_, o1⟩
      unfold zspr
      rw [e1]
      exact List.mem_append_left _ List.mem_cons_self
    · obtain ⟨E, m1, o1⟩ := zspr_mem (v := v) hE h1 h2 is e
      refine ⟨E, ?_, o1⟩
      unfold zspr
      exact List.mem_append_right _ m1
theorem zspl_ok {G : zGT} {K : Nat} {pins : List Nat} {H0 : Heap} {S : zS} {pc : Nat} {Ss : List zS} (h : zspl sp S pc = some Ss) (hgo : ∀ S' ∈ Ss, zGo G D cl kA A H0 nL K pins r0 ad0 N pc S') : zGo G D cl kA A H0 nL K pins r0 ad0 N pc S := by
  unfold zspl at h
  split at h
  · cases h
    exact hgo S List.mem_cons_self
  · rename_i pl is hlk
    split at h
    · rename_i v hv
      split at h
      · rename_i b hr
        cases hz : zcov b is with
        | false => rw [hz] at h; cases h
        | true =>
          rw [hz] at h
          cases h
          intro r ad ph H locs ls hJ hR hN
          have b1 := zrng_ok hR.1 hr
          obtain ⟨i, m, i1, i2⟩ := zcov_ok is b hz b1.1 b1.2
          obtain ⟨E, m1, o1⟩ := zspr_mem (v := v) hR.1 i1 i2 is m
          exact hgo _ m1 r ad ph H locs ls hJ ⟨o1, hR.2⟩ hN
      · cases h
    · cases h
theorem zrun_ok (hcx : zCx X p l e R s m args below meth c cc D cl kA A nL Ts own tb pr rt) (hbl : ∀ b ∈ bl, ∀ N', (dec = true → N' < N) → zGo (zGW p l e R s m args below meth c 0 0 (MQ below (zQc D cl kA k r0 ad0 A) args s 0 0 A)) D cl kA A s.heap nL k.1 k.2.1 r0 ad0 N' b.1 b.2) : ∀ (f n : Nat) (S : zS) (pc : Nat), zrun tb sp pr nL rt k.1 k.2.1 k.2.2.2 bl dec f n S pc = true → zGo (zGW p l e R s m args below meth c 0 0 (MQ below (zQc D cl kA k r0 ad0 A) args s 0 0 A)) D cl kA A s.heap nL k.1 k.2.1 r0 ad0 N pc S := by
  intro f
  induction f with
  | zero => intro n S pc h; cases h
  | succ f ih =>
    intro n S pc h
    have hpr := hcx.2.2.2.2.2.2.2.2.2.2.2.2.2.2.2.2.2.2
    unfold zrun at h
    split at h
    · cases h
    · rename_i ins len hl
      have hdg := hpr pc ins len hl
      split at h
      · cases h
      rename_i Ss hSs
      refine zspl_ok hSs (fun S' hS' => ?_)
      have h := List.all_eq_true.mp h S' hS'
      cases hz : zisret ins with
      | true =>
        rw [hz] at h
        simp only [cond, Bool.and_eq_true] at h
        rw [Nat.eq_of_beq_eq_true h.1.1] at hdg
        exact zret_ok hcx hdg h.1.2 h.2
      | false =>
        rw [hz] at h
        dsimp only [cond] at h
        split at h
        · cases h
        · rename_i L hL
          refine zstep_ok hcx hdg (fun i hi => ?_) hL (fun x hx => ?_)
          · unfold znx at hi
            split at hi
            · rename_i i' ln hl'
              cases hq : Nat.beq ln (zlen i') with
              | false => rw [hq] at hi; cases hi
              | true =>
                rw [hq] at hi
                cases hi
                rw [← Nat.eq_of_beq_eq_true hq]
                exact hpr _ _ _ hl'
            · cases hi
          · have q := List.all_eq_true.mp h x hx
            cases hc : bl.any (fun b => Nat.beq b.1 x.1) with
            | false =>
              rw [hc] at q
              exact ih (n + 1000) x.2 x.1 q
            | true =>
              rw [hc] at q
              obtain ⟨b, hb, hq⟩ := List.any_eq_true.mp q
              simp only [Bool.and_eq_true] at hq
              obtain ⟨q1, -, q2, q3⟩ := hq
              intro r ad ph H locs ls hJ hR hN
              obtain ⟨j1, j2, j3⟩ := zent_ok q2 hJ hR
              have hlt : dec = true → zenc (fun s => zev r (zth k.1 (zmS k.2.1 x.2 b.2).1 s)) b.2.2.2.2.2.2 < N := fun hd => by
                rw [hd] at q3
                have q3 : zlex x.2.1 x.2.2.1 x.2.2.2.2.2.2 (b.2.2.2.2.2.2.map (ztR (zth k.1 (zmS k.2.1 x.2 b.2).1))) = true := q3
                have w := zlex_ok hR.1 hR.2.1 _ _ q3
                rw [zenc_t, hN] at w
                exact w
              have g := hbl b hb _ hlt _ _ _ H locs ls j1 j2 rfl
              rw [Nat.eq_of_beq_eq_true q1] at g
              show zGW p l e R s m args below meth c 0 0 _ x.1 H locs ls (x.2.2.2.2.1.map (zcv r ad))
              rw [j3]
              exact g
theorem zblocks_ok (hcx : zCx X p l e R s m args below meth c cc D cl kA A nL Ts own tb pr rt) {f n : Nat} (hb : bl.all (fun b => zrun tb sp pr nL rt k.1 k.2.1 k.2.2.2 bl true f n b.2 b.1) = true) : ∀ (N : Nat), ∀ b ∈ bl, zGo (zGW p l e R s m args below meth c 0 0 (MQ below (zQc D cl kA k r0 ad0 A) args s 0 0 A)) D cl kA A s.heap nL k.1 k.2.1 r0 ad0 N b.1 b.2 := by
  intro N
  induction N using Nat.strongRecOn with
  | ind N ih =>
    intro b hbm
    exact zrun_ok (dec := true) hcx (fun b' hb' N' hN' => ih N' (hN' rfl) b' hb') f n b.2 b.1 (List.all_eq_true.mp hb b hbm)
end ZRN
def zargs : Nat → List zA → List (Nat × zA)
  | _, [] => []
  | i, a :: as => (i, a) :: zargs (bif Nat.beq (zcat a) 2 then i + 2 else i + 1) as
theorem zargs_ok (r : Nat → Int) (ad : Nat → Nat) : ∀ (as : List zA) (i : Nat), lv_args i (as.map (zcv r ad)) = (zargs i as).map (fun x => (x.1, zcv r ad x.2))
  | [], _ => rfl
  | a :: as, i => by
    show (i, zcv r ad a) :: lv_args (if (zcv r ad a).category = 2 then i + 2 else i + 1) (as.map (zcv r ad)) = (i, zcv r ad a) :: (zargs (bif Nat.beq (zcat a) 2 then i + 2 else i + 1) as).map (fun x => (x.1, zcv r ad x.2))
    rw [zcat_ok]
    cases hb : Nat.beq (zcat a) 2 with
    | true =>
      rw [if_pos (Nat.eq_of_beq_eq_true hb), zargs_ok r ad as]
      rfl
    | false =>
      rw [if_neg (fun q => by rw [q] at hb; cases hb), zargs_ok r ad as]
      rfl
def zst0 (k : zK) : zS := (k.2.2.1.1, k.2.2.1.2.1, zargs 0 k.2.2.1.2.2.2.1, [], k.2.2.1.2.2.2.2.1, [])
/-- the whole check of a method -/
def zcheck (tb : zTb) (sp : zSp) (pr : List (Nat × Instr × Nat)) (nL rt : Nat) (k : zK) (bl : List (Nat × zS)) (f n : Nat) : Bool :=
  Nat.ble ((k.2.2.1.2.2.2.1.map zcat).sum) nL && zrun tb sp pr nL rt k.1 k.2.1 k.2.2.2 bl false f n (zst0 k) 0 && bl.all (fun b => zrun tb sp pr nL rt k.1 k.2.1 k.2.2.2 bl true f n b.2 b.1)
theorem zsl_len (r : Nat → Int) (ad : Nat → Nat) : ∀ (as : List zA), (lg_sl (as.map (zcv r ad))).length = (as.map zcat).sum
  | [] => rfl
  | a :: as => by
    have ih := zsl_len r ad as
    unfold lg_sl at ih ⊢
    rw [List.map_cons, List.flatMap_cons, List.length_append, ih, List.map_cons, List.sum_cons, zcat_ok]
    congr 1
    rcases a with (v | v) | (_ | v) <;> rfl
end
section
/-- what is known of the calls of a method, whoever runs it -/
def zCk (X : zXT) (cl : List vw_C) (l : Launch) (rm : Room) (cc : ByteArray) (nL : Nat) (ws : List Cond) (own : String) (ins : Nat → Instr) (calls : List (Nat × zK)) : Prop :=
  ∀ q ∈ calls, ∀ (p : Program) (e : Env) (s : State) (m : MethodId) (args : Array Value) (below : List Frame) (meth : Method) (c : Code) (A : Nat → Prop), CallFix p m c cc nL s args ws own → X A s s.heap → zCal X cl p l e rm s m args below meth c cc nL (ins q.1) q.2
set_option maxHeartbeats 4000000 in
theorem zmeth {X : zXT} (hX : zXok X) {cl : List vw_C} {l : Launch} {y : MethodName} {ws ws' : List Cond} {rm : Room} {k : zK} {cc : ByteArray} {nL rt f n : Nat} {own : String} {tb : zTb} {pr : List (Nat × Instr × Nat)} {bl : List (Nat × zS)} {sp : zSp} (hy : plainName y.cls = true) (hw : ws = Cond.code y cc nL (zrty rt) :: ws') (how : y.cls = own) (hroom : 1 ≤ rm.frames ∧ 64 ≤ rm.locals)
    (hfl : ∀ x ci k tag, zlk tb.1 x = some (ci, k, tag) → zFld ws own cl x ci k tag) (hco : ∀ k z, zlk tb.2.1 k = some z → Cond.constant own k (Int32.ofInt z) ∈ ws) (hlc : ∀ k z, zlk tb.2.2.1 k = some z → Cond.constantLong own k (Int64.ofInt z) ∈ ws)
    (hvc : zCk X cl l rm cc nL ws own Instr.invokevirtual tb.2.2.2.1) (hsc : zCk X cl l rm cc nL ws own Instr.invokestatic tb.2.2.2.2.1) (hmm : ∀ x t, zlk tb.2.2.2.2.2 x = some t → zMM ws own x t) (hpr : ∀ pc ins len, zlk pr pc = some (ins, len) → decode cc pc = .ok (ins, len))
    (hck : zcheck tb sp pr nL rt k bl f n = true) : zMet X cl l y ws rm k := by
  intro D kA r ad ph sz hE hZ hW
  refine Met.ofW (cc := cc) (maxL := nL) (ret := zrty rt) hy hw ?_
  intro p e s m args below meth c s₁ B hml hv
  obtain ⟨rfl, hsz, hP, hK, hD0, hx0⟩ := hv
  have hts := atoms_spec (ws := ws) B.pre
  have hown : s.vm.findClass own = some m.cls := by
    rw [← how]
    exact findClass_of_methodNamed B.named
  subst hsz
  have hD := hD0.self (sz := s.heap.size)
  simp only [zcheck, Bool.and_eq_true] at hck
  obtain ⟨⟨c1, c2⟩, c3⟩ := hck
  have hfix : CallFix p m c cc nL s (k.2.2.1.2.2.2.1.map (zcv r ad)).toArray ws own := ⟨B.exec, B.bytes, hml, hown, hts⟩
  have hcx : zCx X p l e rm s m (k.2.2.1.2.2.2.1.map (zcv r ad)).toArray below meth c cc D cl kA (va_A (zws kA r ad ph k.2.2.1.2.2.2.2.1) s.heap.size) nL ws own tb pr rt := ⟨hX, hx0, fun q h => Or.inr h, hK, B.exec, B.bytes, hml, hown, hts, B.notSynchronized, B.returns, hroom, hfl, hco, hlc, fun q hq => hvc q hq p e s m _ below meth c _ hfix hx0, fun q hq => hsc q hq p e s m _ below meth c _ hfix hx0, hmm, hpr⟩
  have hl := lv_entry (k.2.2.1.2.2.2.1.map (zcv r ad)) (n := nL) (by rw [zsl_len]; exact Nat.le_of_ble_eq_true c1)
  rw [zargs_ok] at hl
  rw [lg_entry_eq]
  exact zrun_ok (k := k) (r0 := r) (ad0 := ad) (N := 0) (dec := false) hcx (fun b hb N' _ => zblocks_ok hcx c3 N' b hb) f n (zst0 k) 0 c2 r ad ph s.heap [] _ ⟨fun _ _ => rfl, fun _ _ => rfl⟩ ⟨hE, hZ, hW, hP, hD, va_S.rf, hl⟩ rfl
theorem zcheck_of {tb : zTb} {sp : zSp} {pr : List (Nat × Instr × Nat)} {nL rt : Nat} {k : zK} {bl : List (Nat × zS)} {f n : Nat} (h1 : Nat.ble ((k.2.2.1.2.2.2.1.map zcat).sum) nL = true) (h2 : zrun tb sp pr nL rt k.1 k.2.1 k.2.2.2 bl false f n (zst0 k) 0 = true) (h3 : ∀ b ∈ bl, zrun tb sp pr nL rt k.1 k.2.1 k.2.2.2 bl true f n b.2 b.1 = true) : zcheck tb sp pr nL rt k bl f n = true := by
  unfold zcheck
  rw [h1, h2, List.all_eq_true.mpr h3]
  rfl
end
section
abbrev vwCl : List vw_C := [(RX0, TX0, 2), (RX1, TX1, 13), (RX2, TX2, 3), (RX3, TX3, 2), (RX4, TX4, 18), (RX5, TX5, 5), (RX6, TX6, 3), (RX7, TX7, 9), (RX8, TX8, 33)]
def zi (s : Nat) (o : Int) : zA := .inl (.inl (s, o))
def zl (s : Nat) (o : Int) : zA := .inl (.inr (s, o))
def zr (i : Nat) : zA := .inr (some i)
def zfs (w : zW) (q k : Nat) (a : zA) : zW := match w[q]? with
  | some (i, .inl (ci, fs)) => w.set q (i, .inl (ci, fs.set k a))
  | _ => w
def zgs (w : zW) (q k : Nat) (g : zI ⊕ zV) : zW := match w[q]? with
  | some (i, .inr (.inl (kd, n, gs, mm))) => w.set q (i, .inr (.inl (kd, n, gs.set k ((gs.getD k (0, .inl (0, 0))).1, g), mm)))
  | _ => w
def zms (w : zW) (q : Nat) (mm : zM) : zW := match w[q]? with
  | some (i, .inr (.inl (kd, n, gs, _))) => w.set q (i, .inr (.inl (kd, n, gs, mm)))
  | _ => w
theorem zpr_all {cc : ByteArray} {pr : List (Nat × Instr × Nat)} (h : pr.all (fun x => decide (decode cc x.1 = .ok x.2)) = true) : ∀ pc ins len, zlk pr pc = some (ins, len) → decode cc pc = .ok (ins, len) := fun pc ins len hl => of_decide_eq_true (List.all_eq_true.mp h (pc, ins, len) (zlk_mem hl))
theorem zfl_all {Ts : List Cond} {own : String} {cl : List vw_C} {fl : List (Nat × Nat × Nat × Nat)} (h : ∀ q ∈ fl, zFld Ts own cl q.1 q.2.1 q.2.2.1 q.2.2.2) : ∀ x ci k tag, zlk fl x = some (ci, k, tag) → zFld Ts own cl x ci k tag := fun x ci k tag hl => h (x, ci, k, tag) (zlk_mem hl)
theorem zco_all {Ts : List Cond} {own : String} {fl : List (Nat × Int)} (h : ∀ q ∈ fl, Cond.constant own q.1 (Int32.ofInt q.2) ∈ Ts) : ∀ k z, zlk fl k = some z → Cond.constant own k (Int32.ofInt z) ∈ Ts := fun k z hl => h (k, z) (zlk_mem hl)
theorem zlc_all {Ts : List Cond} {own : String} {fl : List (Nat × Int)} (h : ∀ q ∈ fl, Cond.constantLong own q.1 (Int64.ofInt q.2) ∈ Ts) : ∀ k z, zlk fl k = some z → Cond.constantLong own k (Int64.ofInt z) ∈ Ts := fun k z hl => h (k, z) (zlk_mem hl)
theorem zmm_all {Ts : List Cond} {own : String} {fl : List (Nat × Nat)} (h : ∀ q ∈ fl, zMM Ts own q.1 q.2) : ∀ x t, zlk fl x = some t → zMM Ts own x t := fun k z hl => h (k, z) (zlk_mem hl)
/-- the links to private members of nest mates -/
def znst : List (String × Nat × MethodName × String) := [(RX0, 25, yX7_numbersOf, RX7), (RX0, 64, yX7_bit, RX7), (RX0, 67, yX7_withBit, RX7), (RX1, 177, yX7_isDepth, RX7), (RX1, 195, yX7_bit, RX7), (RX1, 198, yX7_withBit, RX7), (RX1, 210, yX7_within, RX7), (RX2, 26, yX7_within, RX7), (RX4, 54, yX7_within, RX7), (RX4, 126, yX7_bit, RX7), (RX4, 142, yX7_doneAt, RX7), (RX4, 160, yX7_withBit, RX7)]
def zXn (X : zXT) : Prop := ∀ (A : Nat → Prop) (U : State) (H : Heap), X A U H → ∀ (a : String) (i : Nat) (y : MethodName) (h : String), (a, i, y, h) ∈ znst → va_Nw (.methodLinkNest a i y h) U
def ztagb (tag : Nat) (ty : FieldType) (fin : Bool) : Bool := match tag, ty with
  | 0, .int => !fin
  | 1, .boolean => !fin
  | 2, .object _ => !fin
  | 3, _ => true
  | _, _ => false
theorem ztagb_ok {tag : Nat} {ty : FieldType} {fin : Bool} (h : ztagb tag ty fin = true) : ztag tag ty fin := by
  unfold ztagb at h
  split at h
  · exact ⟨by cases fin <;> simp_all, rfl⟩
  · exact ⟨by cases fin <;> simp_all, rfl⟩
  · exact ⟨by cases fin <;> simp_all, _, rfl⟩
  · trivial
  · cases h
theorem zfl_X0 {Ts : List Cond} {own : String} {x k tag : Nat} (h1 : ∀ w ∈ wsX00, w ∈ Ts) (h2 : Cond.fieldLink own x (TX0 k).1 (TX0 k).2.1 (TX0 k).2.2.1 ∈ Ts) (h3 : k < 2) (h4 : ztagb tag (tyX0 k) (TX0 k).2.2.2 = true) : zFld Ts own vwCl x 0 k tag := ⟨RX0, TX0, 2, tyX0, rfl, h3, h1, tyX0_ok, nmX0, h2, ztagb_ok h4⟩
theorem zfl_X1 {Ts : List Cond} {own : String} {x k tag : Nat} (h1 : ∀ w ∈ wsX10, w ∈ Ts) (h2 : Cond.fieldLink own x (TX1 k).1 (TX1 k).2.1 (TX1 k).2.2.1 ∈ Ts) (h3 : k < 13) (h4 : ztagb tag (tyX1 k) (TX1 k).2.2.2 = true) : zFld Ts own vwCl x 1 k tag := ⟨RX1, TX1, 13, tyX1, rfl, h3, h1, tyX1_ok, nmX1, h2, ztagb_ok h4⟩
theorem zfl_X2 {Ts : List Cond} {own : String} {x k tag : Nat} (h1 : ∀ w ∈ wsX20, w ∈ Ts) (h2 : Cond.fieldLink own x (TX2 k).1 (TX2 k).2.1 (TX2 k).2.2.1 ∈ Ts) (h3 : k < 3) (h4 : ztagb tag (tyX2 k) (TX2 k).2.2.2 = true) : zFld Ts own vwCl x 2 k tag := ⟨RX2, TX2, 3, tyX2, rfl, h3, h1, tyX2_ok, nmX2, h2, ztagb_ok h4⟩
theorem zfl_X3 {Ts : List Cond} {own : String} {x k tag : Nat} (h1 : ∀ w ∈ wsX30, w ∈ Ts) (h2 : Cond.fieldLink own x (TX3 k).1 (TX3 k).2.1 (TX3 k).2.2.1 ∈ Ts) (h3 : k < 2) (h4 : ztagb tag (tyX3 k) (TX3 k).2.2.2 = true) : zFld Ts own vwCl x 3 k tag := ⟨RX3, TX3, 2, tyX3, rfl, h3, h1, tyX3_ok, nmX3, h2, ztagb_ok h4⟩
theorem zfl_X4 {Ts : List Cond} {own : String} {x k tag : Nat} (h1 : ∀ w ∈ wsX40, w ∈ Ts) (h2 : Cond.fieldLink own x (TX4 k).1 (TX4 k).2.1 (TX4 k).2.2.1 ∈ Ts) (h3 : k < 18) (h4 : ztagb tag (tyX4 k) (TX4 k).2.2.2 = true) : zFld Ts own vwCl x 4 k tag := ⟨RX4, TX4, 18, tyX4, rfl, h3, h1, tyX4_ok, nmX4, h2, ztagb_ok h4⟩
theorem zfl_X5 {Ts : List Cond} {own : String} {x k tag : Nat} (h1 : ∀ w ∈ wsX50, w ∈ Ts) (h2 : Cond.fieldLink own x (TX5 k).1 (TX5 k).2.1 (TX5 k).2.2.1 ∈ Ts) (h3 : k < 5) (h4 : ztagb tag (tyX5 k) (TX5 k).2.2.2 = true) : zFld Ts own vwCl x 5 k tag := ⟨RX5, TX5, 5, tyX5, rfl, h3, h1, tyX5_ok, nmX5, h2, ztagb_ok h4⟩
theorem zfl_X6 {Ts : List Cond} {own : String} {x k tag : Nat} (h1 : ∀ w ∈ wsX60, w ∈ Ts) (h2 : Cond.fieldLink own x (TX6 k).1 (TX6 k).2.1 (TX6 k).2.2.1 ∈ Ts) (h3 : k < 3) (h4 : ztagb tag (tyX6 k) (TX6 k).2.2.2 = true) : zFld Ts own vwCl x 6 k tag := ⟨RX6, TX6, 3, tyX6, rfl, h3, h1, tyX6_ok, nmX6, h2, ztagb_ok h4⟩
theorem zfl_X7 {Ts : List Cond} {own : String} {x k tag : Nat} (h1 : ∀ w ∈ wsX70, w ∈ Ts) (h2 : Cond.fieldLink own x (TX7 k).1 (TX7 k).2.1 (TX7 k).2.2.1 ∈ Ts) (h3 : k < 9) (h4 : ztagb tag (tyX7 k) (TX7 k).2.2.2 = true) : zFld Ts own vwCl x 7 k tag := ⟨RX7, TX7, 9, tyX7, rfl, h3, h1, tyX7_ok, nmX7, h2, ztagb_ok h4⟩
theorem zfl_X8 {Ts : List Cond} {own : String} {x k tag : Nat} (h1 : ∀ w ∈ wsX80, w ∈ Ts) (h2 : Cond.fieldLink own x (TX8 k).1 (TX8 k).2.1 (TX8 k).2.2.1 ∈ Ts) (h3 : k < 33) (h4 : ztagb tag (tyX8 k) (TX8 k).2.2.2 = true) : zFld Ts own vwCl x 8 k tag := ⟨RX8, TX8, 33, tyX8, rfl, h3, h1, tyX8_ok, nmX8, h2, ztagb_ok h4⟩
end
