abbrev zK : Type := Nat × List Nat × zS × List zS
def ztX (th : Nat → zV) : zI ⊕ zV → zI ⊕ zV
  | .inl i => .inl i
  | .inr v => .inr (ztv th v)
def ztC (th : Nat → zV) (ka : Nat → Nat) : zC → zC
  | .inl (ci, fs) => .inl (ci, fs.map (ztA th ka))
  | .inr (.inl (kd, n, gs, mm)) => .inr (.inl (kd, n, gs.map (fun g => (g.1, ztX th g.2)), mm.map (fun x => (ztv th x.1, ztv th x.2))))
  | .inr (.inr (kd, is)) => .inr (.inr (kd, is.map ka))
def zrefA : zA → List Nat
  | .inr (some i) => [i]
  | _ => []
def zrefC : zC → List Nat
  | .inl (_, fs) => fs.flatMap zrefA
  | .inr (.inl _) => []
  | .inr (.inr (_, is)) => is
def zmem (i : Nat) : List Nat → Bool
  | [] => false
  | j :: js => Nat.beq j i || zmem i js
theorem zmem_ok {i : Nat} : ∀ {l : List Nat}, zmem i l = true ↔ i ∈ l
  | [] => by simp [zmem]
  | j :: js => by
    simp only [zmem, Bool.or_eq_true, zmem_ok (l := js), List.mem_cons]
    constructor
    · rintro (h | h)
      · exact Or.inl (Nat.eq_of_beq_eq_true h).symm
      · exact Or.inr h
    · rintro (h | h)
      · exact Or.inl (by rw [h]; exact Nat.beq_refl j)
      · exact Or.inr h
section ZAF
variable {r r' : Nat → Int} {ad ad' : Nat → Nat} {th : Nat → zV} {ka : Nat → Nat}
theorem ztA_to (hr : ∀ s, zev r (th s) = r' s) {a : zA} (ha : ∀ j ∈ zrefA a, ad (ka j) = ad' j) : zcv r ad (ztA th ka a) = zcv r' ad' a := by
  have e : (fun s => zev r (th s)) = r' := funext hr
  rcases a with (v | v) | (_ | i)
  · rw [ztA_ok, e]; rfl
  · rw [ztA_ok, e]; rfl
  · rfl
  · show Value.ref (ad (ka i)) = Value.ref (ad' i)
    rw [ha i List.mem_cons_self]
theorem ztC_to (hr : ∀ s, zev r (th s) = r' s) (kA : Nat → ClassId) (f : Nat → Int) {x : zC} (hx : ∀ j ∈ zrefC x, ad (ka j) = ad' j) : zce kA r ad f (ztC th ka x) = zce kA r' ad' f x := by
  rcases x with ⟨ci, fs⟩ | ⟨kd, n, gs⟩ | ⟨kd, is⟩
  · show Sum.inr (ci, (fs.map (ztA th ka)).map (zcv r ad)) = Sum.inr (ci, fs.map (zcv r' ad'))
    rw [List.map_map]
    congr 2
    exact List.map_congr_left (fun a ha => ztA_to hr (fun j hj => hx j (List.mem_flatMap.mpr ⟨a, ha, hj⟩)))
  · rfl
  · have e : (fun j : Nat => ((is.map ka)[j]?).map ad) = (fun j : Nat => (is[j]?).map ad') := by
      funext j
      rw [List.getElem?_map, Option.map_map]
      cases hj : is[j]? with
      | none => rfl
      | some i =>
        show some (ad (ka i)) = some (ad' i)
        rw [hx i (List.mem_of_getElem? hj)]
    show Sum.inl (kA kd, (is.map ka).length, _) = Sum.inl (kA kd, is.length, _)
    rw [List.length_map, e]
theorem ztG_to (hr : ∀ s, zev r (th s) = r' s) (f : Nat → Int) : ∀ (gs : List zG) (o : Nat), zokG r' f o gs → zokG r f o (gs.map (fun g => (g.1, ztX th g.2)))
  | [], _, _ => trivial
  | g :: gs, o, h => by
    refine ⟨fun j h1 h2 => ?_, ztG_to hr f gs (o + g.1) h.2⟩
    have q := h.1 j h1 h2
    obtain ⟨k, x⟩ := g
    rcases x with i | v
    · exact q
    · show f j = zev r (ztv th v)
      have e : (fun s => zev r (th s)) = r' := funext hr
      rw [ztv_ok, e]
      exact q
theorem ztCk_to (hr : ∀ s, zev r (th s) = r' s) (f : Nat → Int) {x : zC} (h : zokC r' f x) : zokC r f (ztC th ka x) := by
  rcases x with ⟨ci, fs⟩ | ⟨kd, n, gs, mm⟩ | ⟨kd, is⟩
  · trivial
  · refine ⟨ztG_to hr f gs 0 h.1, fun x hx => ?_⟩
    obtain ⟨y, hy, rfl⟩ := List.mem_map.mp hx
    have e : (fun s => zev r (th s)) = r' := funext hr
    dsimp only
    rw [ztv_ok, ztv_ok, e]
    exact h.2 y hy
  · trivial
end ZAF
def zinv : List (Nat × Nat) → Nat → Option Nat
  | [], _ => none
  | x :: xs, i => bif Nat.beq x.2 i then some x.1 else zinv xs i
theorem zinv_none {i : Nat} : ∀ {l : List (Nat × Nat)}, i ∉ l.map (·.2) → zinv l i = none
  | [], _ => rfl
  | x :: xs, h => by
    unfold zinv
    cases hb : Nat.beq x.2 i with
    | true => exact absurd (by rw [List.map_cons]; exact List.mem_cons.mpr (Or.inl (Nat.eq_of_beq_eq_true hb).symm)) h
    | false => exact zinv_none (fun q => h (List.mem_cons_of_mem _ q))
theorem zinv_some {f : Nat → Nat} {j : Nat} : ∀ {l : List Nat}, va_nd (l.map f) = true → j ∈ l → zinv (l.map (fun x => (x, f x))) (f j) = some j
  | [], _, h => by cases h
  | x :: xs, hn, h => by
    simp only [List.map_cons, va_nd, Bool.and_eq_true, decide_eq_true_eq] at hn
    unfold zinv
    rw [List.map_cons]
    dsimp only
    rcases List.mem_cons.mp h with e | e
    · subst e
      rw [Nat.beq_refl]
      rfl
    · cases hb : Nat.beq (f x) (f j) with
      | true => exact absurd (by rw [Nat.eq_of_beq_eq_true hb]; exact List.mem_map.mpr ⟨j, e, rfl⟩) hn.1
      | false => exact zinv_some hn.2 e
/-- bounds that come back: old symbols are narrowed, new ones are added -/
def zmE (kK n : Nat) (th : Nat → zV) : zE → zE → Option zE
  | E, [] => some E
  | E, x :: xs => bif Nat.blt x.1 kK then (match zref E (th x.1) x.2.1 x.2.2 with
    | some E' => zmE kK n th E' xs
    | none => none) else zmE kK n th (((n + (x.1 - kK)), x.2) :: E) xs
theorem zmE_ok {r r' : Nat → Int} {kK n : Nat} {th : Nat → zV} (hr : ∀ s, zev r (th s) = r' s) (hn : ∀ s, kK ≤ s → r (n + (s - kK)) = r' s) : ∀ (xs E : zE), zokE r E → (∀ x ∈ xs, x.2.1 ≤ r' x.1 ∧ r' x.1 ≤ x.2.2) → ∃ E', zmE kK n th E xs = some E' ∧ zokE r E'
  | [], E, h, _ => ⟨E, rfl, h⟩
  | x :: xs, E, h, hx => by
    have q := hx x List.mem_cons_self
    unfold zmE
    cases hb : Nat.blt x.1 kK with
    | true =>
      obtain ⟨E1, e1, o1⟩ := zref_ok (v := th x.1) (lo := x.2.1) (hi := x.2.2) h (by rw [hr]; exact q.1) (by rw [hr]; exact q.2)
      rw [e1]
      exact zmE_ok hr hn xs E1 o1 (fun y hy => hx y (List.mem_cons_of_mem _ hy))
    | false =>
      have hk : kK ≤ x.1 := by
        have : ¬ x.1 < kK := fun z => by rw [show Nat.blt x.1 kK = true from Nat.ble_eq.mpr z] at hb; cases hb
        omega
      refine zmE_ok hr hn xs _ ⟨h.1, fun y hy => ?_⟩ (fun y hy => hx y (List.mem_cons_of_mem _ hy))
      rcases List.mem_cons.mp hy with e | e
      · subst e
        dsimp only
        rw [hn _ hk]
        exact q
      · exact h.2 y e
def zmZc (Z : zZ) (v1 v2 : zV) (d : Int) : zZ := bif Nat.beq v1.1 0 || Nat.beq v2.1 0 then [] else Z.filterMap (fun z => bif Nat.beq z.2.1 v1.1 then some (z.1, v2.1, z.2.2 + (d + v2.2 - v1.2)) else none)
theorem zmZc_ok {r : Nat → Int} {Z : zZ} {v1 v2 : zV} {d : Int} (hZ : zokZ r Z) (h : zev r v1 - zev r v2 ≤ d) : zokZ r (zmZc Z v1 v2 d) := by
  intro x hx
  unfold zmZc at hx
  cases hb : Nat.beq v1.1 0 || Nat.beq v2.1 0 with
  | true => rw [hb] at hx; cases hx
  | false =>
    rw [hb] at hx
    obtain ⟨z, hz, q⟩ := List.mem_filterMap.mp hx
    cases hc : Nat.beq z.2.1 v1.1 with
    | false => rw [hc] at q; cases q
    | true =>
      rw [hc] at q
      have e := Nat.eq_of_beq_eq_true hc
      have q : (z.1, v2.1, z.2.2 + (d + v2.2 - v1.2)) = x := Option.some.inj q
      subst q
      have a := hZ z hz
      rw [e] at a
      unfold zev at h
      dsimp only
      omega
/-- differences that come back: they narrow bounds too; none where they cannot be -/
def zmZ (th : Nat → zV) : zE × zZ → zZ → Option (zE × zZ)
  | q, [] => some q
  | q, x :: xs => match zlekS q.1 q.2 (th x.1) (th x.2.1) (-x.2.2) with
    | none => none
    | some q' => zmZ th (q'.1, q'.2 ++ zmZc q.2 (th x.1) (th x.2.1) x.2.2) xs
theorem zmZ_ok {r r' : Nat → Int} {th : Nat → zV} (hr : ∀ s, zev r (th s) = r' s) : ∀ (xs : zZ) (q : zE × zZ), zokE r q.1 → zokZ r q.2 → zokZ r' xs → ∃ q', zmZ th q xs = some q' ∧ zokE r q'.1 ∧ zokZ r q'.2
  | [], q, h1, h2, _ => ⟨q, rfl, h1, h2⟩
  | x :: xs, q, h1, h2, hx => by
    have hd := hx x List.mem_cons_self
    obtain ⟨q1, e1, o1, o2⟩ := zlekS_ok (v1 := th x.1) (v2 := th x.2.1) (k := -x.2.2) h1 h2 (by rw [hr, hr]; omega)
    unfold zmZ
    rw [e1]
    refine zmZ_ok hr xs _ o1 (fun y hy => ?_) (fun y hy => hx y (List.mem_cons_of_mem _ hy))
    rcases List.mem_append.mp hy with h | h
    · exact o2 y h
    · exact zmZc_ok h2 (by rw [hr, hr]; exact hd) y h
def zths (kK n : Nat) (L : List (Nat × zV)) (s : Nat) : zV := bif Nat.blt s kK then zth 1 L s else (n + (s - kK), 0)
def zrest (w : zW) (is : List Nat) : List Nat := (List.range w.length).filter (fun i => !zmem i is)
def zchk (K : Nat) (pins : List Nat) (n : Nat) (S : zS) (st : List zA) (k : zK) (T : zS) (L : List (Nat × zV)) (M : List (Nat × Nat)) (is : List Nat) : Bool :=
  let ids := T.2.2.2.2.1.map (·.1)
  let kis := ids.map (zka M)
  let un := (ids.filter (fun j => !zmem j k.2.1)).map (zka M)
  let wr := (zrest S.2.2.2.2.1 is).filterMap (fun i => S.2.2.2.2.1[i]?)
  zfr n K (zst S st) && Nat.ble 1 k.1 && L.all (fun x => Nat.blt x.2.1 n) && va_nd kis
  && T.2.2.2.2.1.all (fun x => (zrefC x.2).all (fun j => zmem j ids || zmem j k.2.1))
  && T.2.2.2.1.all (fun a => (zrefA a).all (fun j => zmem j ids || zmem j k.2.1))
  && k.2.1.all (fun j => zmem j ids || !zmem (zka M j) kis)
  && st.all (fun a => (zrefA a).all (fun i => !zmem i un))
  && S.2.2.1.all (fun x => (zrefA x.2).all (fun i => !zmem i un))
  && wr.all (fun x => (zrefC x.2).all (fun i => !zmem i un) && !zmem x.1 kis)
  && pins.all (fun i => !zmem i un)
  && Nat.ble T.2.2.2.1.length 1 && va_nd (zrest S.2.2.2.2.1 is)
def zaft (n : Nat) (S : zS) (st : List zA) (k : zK) (T : zS) (L : List (Nat × zV)) (M : List (Nat × Nat)) (is : List Nat) : Option zS :=
  match zmE k.1 n (zths k.1 n L) S.1 T.1 with
  | none => none
  | some E' => match zmZ (zths k.1 n L) (E', S.2.1) T.2.1 with
    | none => none
    | some q => some (q.1, q.2, S.2.2.1, T.2.2.2.1.map (ztA (zths k.1 n L) (zka M)) ++ st, (zrest S.2.2.2.2.1 is).filterMap (fun i => S.2.2.2.2.1[i]?) ++ T.2.2.2.2.1.map (fun x => (zka M x.1, ztC (zths k.1 n L) (zka M) x.2)), S.2.2.2.2.2)
