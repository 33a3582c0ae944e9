def ztR (th : Nat → zV) (q : zR) : zR := bif q.1 then (true, ((th q.2.1).1, q.2.2 - (th q.2.1).2)) else (false, ztv th q.2)
theorem ztR_ok (r : Nat → Int) (th : Nat → zV) (q : zR) : zrv r (ztR th q) = zrv (fun s => zev r (th s)) q := by
  obtain ⟨b, v⟩ := q
  cases b with
  | true =>
    show v.2 - (th v.1).2 - r (th v.1).1 = v.2 - zev r (th v.1)
    unfold zev
    omega
  | false => exact ztv_ok r th v
def zrle (E : zE) (Z : zZ) (t q : zR) (k : Int) : Bool := match t.1, q.1 with
  | false, false => zzle E Z t.2 q.2 (-k)
  | true, true => zzle E Z (q.2.1, -q.2.2) (t.2.1, -t.2.2) (-k)
  | _, _ => false
theorem zrle_ok {r : Nat → Int} {E : zE} {Z : zZ} (hE : zokE r E) (hZ : zokZ r Z) {t q : zR} {k : Int} (h : zrle E Z t q k = true) : zrv r t + k ≤ zrv r q := by
  obtain ⟨b, v⟩ := t
  obtain ⟨d, u⟩ := q
  cases b <;> cases d
  · have a := zzle_ok hE hZ h
    show r v.1 + v.2 + k ≤ r u.1 + u.2
    unfold zev at a
    dsimp only at a
    omega
  · cases h
  · cases h
  · have a := zzle_ok hE hZ h
    show v.2 - r v.1 + k ≤ u.2 - r u.1
    unfold zev at a
    dsimp only at a
    omega
def zrrg (E : zE) (q : zR) : Option zI := bif q.1 then (match zrng E (q.2.1, 0) with
  | some i => some (q.2.2 - i.2, q.2.2 - i.1)
  | none => none) else zrng E q.2
theorem zrrg_ok {r : Nat → Int} {E : zE} (hE : zokE r E) {q : zR} {i : zI} (h : zrrg E q = some i) : i.1 ≤ zrv r q ∧ zrv r q ≤ i.2 := by
  obtain ⟨b, v⟩ := q
  cases b with
  | true =>
    simp only [zrrg, cond] at h
    cases hr : zrng E (v.1, 0) with
    | none => rw [hr] at h; cases h
    | some j =>
      rw [hr] at h
      have e : (v.2 - j.2, v.2 - j.1) = i := Option.some.inj h
      subst e
      have a := zrng_ok hE hr
      unfold zev at a
      dsimp only at a
      show v.2 - j.2 ≤ v.2 - r v.1 ∧ v.2 - r v.1 ≤ v.2 - j.1
      omega
  | false => exact zrng_ok hE h
def zrin (E : zE) (q : zR) : Bool := match zrrg E q with
  | some i => zle 0 i.1 && zle i.2 18446744073709551615
  | none => false
theorem zrin_ok {r : Nat → Int} {E : zE} (hE : zokE r E) {q : zR} (h : zrin E q = true) : 0 ≤ zrv r q ∧ zrv r q < 18446744073709551616 := by
  unfold zrin at h
  cases hr : zrrg E q with
  | none => rw [hr] at h; cases h
  | some i =>
    rw [hr] at h
    simp only [Bool.and_eq_true] at h
    have a := zle_ok h.1
    have b := zle_ok h.2
    have c := zrrg_ok hE hr
    omega
def zlex (E : zE) (Z : zZ) : List zR → List zR → Bool
  | q :: qs, t :: ts => (zrle E Z t q 1 && zrin E t && ts.all (zrin E) && Nat.beq qs.length ts.length) || (zrle E Z t q 0 && Nat.beq qs.length ts.length && zlex E Z qs ts)
  | _, _ => false
theorem zenc_lt {r : Nat → Int} {E : zE} (hE : zokE r E) : ∀ (ts : List zR), ts.all (zrin E) = true → zenc r ts < 2 ^ (64 * ts.length)
  | [], _ => by simp [zenc]
  | t :: ts, h => by
    simp only [List.all_cons, Bool.and_eq_true] at h
    have a := zenc_lt hE ts h.2
    have b := zrin_ok hE h.1
    have e : 2 ^ (64 * (t :: ts).length) = 18446744073709551616 * 2 ^ (64 * ts.length) := by
      rw [List.length_cons, Nat.mul_add, Nat.pow_add, Nat.mul_comm]
    rw [e]
    show (zrv r t).toNat * 2 ^ (64 * ts.length) + zenc r ts < _
    have c : (zrv r t).toNat + 1 ≤ 18446744073709551616 := by omega
    have d := Nat.mul_le_mul_right (2 ^ (64 * ts.length)) c
    rw [Nat.add_mul] at d
    omega
theorem zlex_ok {r : Nat → Int} {E : zE} {Z : zZ} (hE : zokE r E) (hZ : zokZ r Z) : ∀ (qs ts : List zR), zlex E Z qs ts = true → zenc r ts < zenc r qs
  | [], _, h => by cases h
  | _ :: _, [], h => by cases h
  | q :: qs, t :: ts, h => by
    simp only [zlex, Bool.or_eq_true] at h
    show (zrv r t).toNat * 2 ^ (64 * ts.length) + zenc r ts < (zrv r q).toNat * 2 ^ (64 * qs.length) + zenc r qs
    rcases h with h | h
    · simp only [Bool.and_eq_true] at h
      have a := zrle_ok hE hZ h.1.1.1
      have b := zrin_ok hE h.1.1.2
      have c := zenc_lt hE ts h.1.2
      have l := Nat.eq_of_beq_eq_true h.2
      rw [l]
      have d : (zrv r t).toNat + 1 ≤ (zrv r q).toNat := by omega
      have e := Nat.mul_le_mul_right (2 ^ (64 * ts.length)) d
      rw [Nat.add_mul] at e
      omega
    · simp only [Bool.and_eq_true] at h
      have a := zrle_ok hE hZ h.1.1
      have l := Nat.eq_of_beq_eq_true h.1.2
      have i := zlex_ok hE hZ qs ts h.2
      rw [l]
      have d : (zrv r t).toNat ≤ (zrv r q).toNat := by omega
      have e := Nat.mul_le_mul_right (2 ^ (64 * ts.length)) d
      omega
theorem zenc_t (r : Nat → Int) (th : Nat → zV) : ∀ (qs : List zR), zenc r (qs.map (ztR th)) = zenc (fun s => zev r (th s)) qs
  | [] => rfl
  | q :: qs => by
    show (zrv r (ztR th q)).toNat * 2 ^ (64 * (qs.map (ztR th)).length) + zenc r (qs.map (ztR th)) = (zrv _ q).toNat * 2 ^ (64 * qs.length) + zenc _ qs
    rw [ztR_ok, zenc_t r th qs, List.length_map]
def zlk {α : Type} : List (Nat × α) → Nat → Option α
  | [], _ => none
  | e :: es, s => bif Nat.beq e.1 s then some e.2 else zlk es s
def zth (K : Nat) (L : List (Nat × zV)) (s : Nat) : zV := bif Nat.blt s K then (s, 0) else (zlk L s).getD (0, 0)
def zka (M : List (Nat × Nat)) (i : Nat) : Nat := (zlk M i).getD i
def zJ (K : Nat) (pins : List Nat) (r0 : Nat → Int) (ad0 : Nat → Nat) (r : Nat → Int) (ad : Nat → Nat) : Prop := (∀ i, i < K → r i = r0 i) ∧ ∀ i ∈ pins, ad i = ad0 i
def zent (K : Nat) (pins : List Nat) (S T : zS) (L : List (Nat × zV)) (M : List (Nat × Nat)) (is : List Nat) : Bool :=
  Nat.blt 0 K && (T.2.2.1.all (fun x => decide (zlk S.2.2.1 x.1 = some (ztA (zth K L) (zka M) x.2)))
  && (decide (T.2.2.2.1.map (ztA (zth K L) (zka M)) = S.2.2.2.1)
  && (T.1.all (fun x => match zrng S.1 (zth K L x.1) with
    | some i => zle x.2.1 i.1 && zle i.2 x.2.2
    | none => false)
  && (T.2.1.all (fun z => zzle S.1 S.2.1 (zth K L z.1) (zth K L z.2.1) z.2.2)
  && (zWle S.1 (zth K L) (zka M) S.2.2.2.2.1 is T.2.2.2.2.1 && (va_nd is
  && pins.all (fun i => Nat.beq (zka M i) i)))))))
theorem zlk_mem {α : Type} {i : Nat} {a : α} : ∀ {l : List (Nat × α)}, zlk l i = some a → (i, a) ∈ l
  | [], h => by cases h
  | e :: es, h => by
    unfold zlk at h
    cases hb : Nat.beq e.1 i with
    | true =>
      rw [hb] at h
      have h1 := Nat.eq_of_beq_eq_true hb
      have h2 : e.2 = a := Option.some.inj h
      have : (i, a) = e := by rw [← h1, ← h2]
      rw [this]
      exact List.mem_cons_self
    | false =>
      rw [hb] at h
      exact List.mem_cons_of_mem _ (zlk_mem h)
theorem zlv_sub {ls : Array Slot} {nL : Nat} {l l' : List (Nat × Value)} (h : lv_has ls nL l) (hs : ∀ q ∈ l', q ∈ l) : lv_has ls nL l' := ⟨h.1, h.2.1, fun q hq => h.2.2 q (hs q hq)⟩
theorem zent_ok {K : Nat} {pins : List Nat} {S T : zS} {L : List (Nat × zV)} {M : List (Nat × Nat)} {is : List Nat} (h : zent K pins S T L M is = true) {D : va_G} {cl : List vw_C} {kA : Nat → ClassId} {A : Nat → Prop} {H0 : Heap} {nL : Nat} {r r0 : Nat → Int} {ad ad0 : Nat → Nat} {ph : Nat → Nat → Int} {H : Heap} {locs : List Loc} {ls : Array Slot} (hJ : zJ K pins r0 ad0 r ad) (hR : zRel D cl kA A H0 nL S r ad ph H locs ls) :
    zJ K pins r0 ad0 (fun s => zev r (zth K L s)) (fun i => ad (zka M i)) ∧ zRel D cl kA A H0 nL T (fun s => zev r (zth K L s)) (fun i => ad (zka M i)) (fun i => ph (zka M i)) H locs ls ∧ S.2.2.2.1.map (zcv r ad) = T.2.2.2.1.map (zcv (fun s => zev r (zth K L s)) (fun i => ad (zka M i))) := by
  simp only [zent, Bool.and_eq_true] at h
  obtain ⟨h0, h3, h4, h1, h2, h5, h6, h7⟩ := h
  obtain ⟨hE, hZ, hW, hP, hD, hS, hl⟩ := hR
  have rig : ∀ s, s < K → zth K L s = (s, 0) := fun s hs => by
    unfold zth
    have e : Nat.blt s K = true := Nat.ble_eq.mpr hs
    rw [e]
    rfl
  obtain ⟨w1, w2⟩ := zWle_ok hE (zth K L) (zka M) kA ad ph hW is _ h5
  refine ⟨⟨fun i hi => ?_, fun i hi => ?_⟩, ⟨⟨?_, fun x hx => ?_⟩, fun z hz => ?_, w2, ?_, hD.sub is h6 w1, hS, ?_⟩, ?_⟩
  · show zev r (zth K L i) = r0 i
    rw [rig i hi]
    have := hJ.1 i hi
    unfold zev
    dsimp only
    omega
  · show ad (zka M i) = ad0 i
    rw [Nat.eq_of_beq_eq_true (List.all_eq_true.mp h7 i hi)]
    exact hJ.2 i hi
  · show zev r (zth K L 0) = 0
    rw [rig 0 (zblt h0)]
    have := hE.1
    unfold zev
    dsimp only
    omega
  · have q := List.all_eq_true.mp h1 x hx
    cases hr : zrng S.1 (zth K L x.1) with
    | none => rw [hr] at q; cases q
    | some i =>
      rw [hr] at q
      simp only [Bool.and_eq_true] at q
      have a := zle_ok q.1
      have b := zle_ok q.2
      have c := zrng_ok hE hr
      show x.2.1 ≤ zev r (zth K L x.1) ∧ zev r (zth K L x.1) ≤ x.2.2
      omega
  · exact zzle_ok hE hZ (List.all_eq_true.mp h2 z hz)
  · intro k q hk
    have e : (is.map (fun i => (zws kA r ad ph S.2.2.2.2.1)[i]?))[k]? = some (some q) := by rw [w1, List.getElem?_map, hk]; rfl
    rw [List.getElem?_map] at e
    cases hi : is[k]? with
    | none => rw [hi] at e; cases e
    | some i =>
      rw [hi] at e
      exact hP i q (Option.some.inj e)
  · refine zlv_sub hl (fun q hq => ?_)
    obtain ⟨x, hx, rfl⟩ := List.mem_map.mp hq
    have e : zlk S.2.2.1 x.1 = some (ztA (zth K L) (zka M) x.2) := of_decide_eq_true (List.all_eq_true.mp h3 x hx)
    refine List.mem_map.mpr ⟨_, zlk_mem e, ?_⟩
    show (x.1, zcv r ad (ztA (zth K L) (zka M) x.2)) = _
    rw [ztA_ok]
  · have e : T.2.2.2.1.map (ztA (zth K L) (zka M)) = S.2.2.2.1 := of_decide_eq_true h4
    rw [← e, List.map_map]
    exact List.map_congr_left (fun a _ => ztA_ok r ad _ _ a)
