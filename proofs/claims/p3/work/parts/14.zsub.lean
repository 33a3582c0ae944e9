def zbA (n : Nat) : zA → Bool
  | .inl (.inl v) => Nat.blt v.1 n
  | .inl (.inr v) => Nat.blt v.1 n
  | .inr _ => true
def zbX (n : Nat) : zI ⊕ zV → Bool
  | .inl _ => true
  | .inr v => Nat.blt v.1 n
def zbC (n : Nat) : zC → Bool
  | .inl (_, fs) => fs.all (zbA n)
  | .inr (.inl (_, _, gs, mm)) => gs.all (fun g => zbX n g.2) && mm.all (fun x => Nat.blt x.1.1 n && Nat.blt x.2.1 n)
  | .inr (.inr _) => true
def zbS (n : Nat) (S : zS) : Bool := S.1.all (fun x => Nat.blt x.1 n) && S.2.1.all (fun x => Nat.blt x.1 n && Nat.blt x.2.1 n) && S.2.2.1.all (fun x => zbA n x.2) && S.2.2.2.1.all (zbA n) && S.2.2.2.2.1.all (fun x => zbC n x.2) && S.2.2.2.2.2.all (fun q => Nat.blt q.2.1 n)
theorem zblt {a b : Nat} (h : Nat.blt a b = true) : a < b := Nat.le_of_ble_eq_true h
theorem zbA_eq {n : Nat} {r r' : Nat → Int} (hag : ∀ i, i < n → r' i = r i) (ad : Nat → Nat) {a : zA} (h : zbA n a = true) : zcv r' ad a = zcv r ad a := by
  rcases a with (v | v) | v
  · show Value.int (Int32.ofInt (r' v.1 + v.2)) = Value.int (Int32.ofInt (r v.1 + v.2))
    rw [hag _ (zblt h)]
  · show Value.long (Int64.ofInt (r' v.1 + v.2)) = Value.long (Int64.ofInt (r v.1 + v.2))
    rw [hag _ (zblt h)]
  · rcases v with _ | v <;> rfl
theorem zbG_eq {n : Nat} {r r' : Nat → Int} (hag : ∀ i, i < n → r' i = r i) (f : Nat → Int) : ∀ (gs : List zG) (o : Nat), gs.all (fun g => zbX n g.2) = true → zokG r f o gs → zokG r' f o gs
  | [], _, _, _ => trivial
  | g :: gs, o, hb, h => by
    simp only [List.all_cons, Bool.and_eq_true] at hb
    refine ⟨fun j h1 h2 => ?_, zbG_eq hag f gs (o + g.1) hb.2 h.2⟩
    have q := h.1 j h1 h2
    obtain ⟨m, x⟩ := g
    rcases x with x | v
    · exact q
    · have hv : v.1 < n := zblt hb.1
      show f j = r' v.1 + v.2
      rw [hag _ hv]
      exact q
theorem zbM_eq {n : Nat} {r r' : Nat → Int} (hag : ∀ i, i < n → r' i = r i) (f : Nat → Int) {mm : zM} (hb : mm.all (fun x => Nat.blt x.1.1 n && Nat.blt x.2.1 n) = true) (h : zokM r f mm) : zokM r' f mm := by
  intro x hx
  have q := List.all_eq_true.mp hb x hx
  simp only [Bool.and_eq_true] at q
  have e := h x hx
  unfold zev at e ⊢
  rw [hag _ (zblt q.1), hag _ (zblt q.2)]
  exact e
theorem zbC_eq {n : Nat} {r r' : Nat → Int} (hag : ∀ i, i < n → r' i = r i) (kA : Nat → ClassId) (ad : Nat → Nat) (f : Nat → Int) {x : zC} (h : zbC n x = true) : zce kA r' ad f x = zce kA r ad f x := by
  rcases x with ⟨ci, fs⟩ | ⟨kd, m, gs⟩ | ⟨kd, is⟩
  · show Sum.inr (ci, fs.map (zcv r' ad)) = Sum.inr (ci, fs.map (zcv r ad))
    have e : fs.map (zcv r' ad) = fs.map (zcv r ad) := List.map_congr_left (fun a ha => zbA_eq hag ad (List.all_eq_true.mp h a ha))
    rw [e]
  · rfl
  · rfl
theorem zbC_ok {n : Nat} {r r' : Nat → Int} (hag : ∀ i, i < n → r' i = r i) (f : Nat → Int) {x : zC} (h : zbC n x = true) (hk : zokC r f x) : zokC r' f x := by
  rcases x with ⟨ci, fs⟩ | ⟨kd, m, gs, mm⟩ | ⟨kd, is⟩
  · trivial
  · simp only [zbC, Bool.and_eq_true] at h
    exact ⟨zbG_eq hag f gs 0 h.1 hk.1, zbM_eq hag f h.2 hk.2⟩
  · trivial
def zRel (D : va_G) (cl : List vw_C) (kA : Nat → ClassId) (A : Nat → Prop) (H0 : Heap) (nL : Nat) (S : zS) (r : Nat → Int) (ad : Nat → Nat) (ph : Nat → Nat → Int) (H : Heap) (locs : List Loc) (ls : Array Slot) : Prop :=
  zokE r S.1 ∧ zokZ r S.2.1 ∧ zokW r ph S.2.2.2.2.1 ∧ va_P D cl (zws kA r ad ph S.2.2.2.2.1) H ∧ va_D A (zws kA r ad ph S.2.2.2.2.1) ∧ va_S A H0 H locs ∧ lv_has ls nL (S.2.2.1.map (fun x => (x.1, zcv r ad x.2)))
theorem zbW_eq {n : Nat} {r r' : Nat → Int} (hag : ∀ i, i < n → r' i = r i) (kA : Nat → ClassId) (ad : Nat → Nat) (ph : Nat → Nat → Int) {w : zW} (h : w.all (fun x => zbC n x.2) = true) : zws kA r' ad ph w = zws kA r ad ph w :=
  List.map_congr_left (fun x hx => by rw [zbC_eq hag kA ad (ph x.1) (List.all_eq_true.mp h x hx)])
theorem zbR_eq {n : Nat} {r r' : Nat → Int} (hag : ∀ i, i < n → r' i = r i) : ∀ (qs : List zR), qs.all (fun q => Nat.blt q.2.1 n) = true → zenc r' qs = zenc r qs
  | [], _ => rfl
  | q :: qs, h => by
    simp only [List.all_cons, Bool.and_eq_true] at h
    have e : zrv r' q = zrv r q := by
      unfold zrv
      rw [hag _ (zblt h.1)]
    show (zrv r' q).toNat * 2 ^ (64 * qs.length) + zenc r' qs = (zrv r q).toNat * 2 ^ (64 * qs.length) + zenc r qs
    rw [e, zbR_eq hag qs h.2]
theorem zbS_ok {n : Nat} {r r' : Nat → Int} (hn : 0 < n) (hag : ∀ i, i < n → r' i = r i) {D : va_G} {cl : List vw_C} {kA : Nat → ClassId} {A : Nat → Prop} {H0 : Heap} {nL : Nat} {S : zS} {ad : Nat → Nat} {ph : Nat → Nat → Int} {H : Heap} {locs : List Loc} {ls : Array Slot} (hb : zbS n S = true) (h : zRel D cl kA A H0 nL S r ad ph H locs ls) : zRel D cl kA A H0 nL S r' ad ph H locs ls ∧ S.2.2.2.1.map (zcv r' ad) = S.2.2.2.1.map (zcv r ad) ∧ zenc r' S.2.2.2.2.2 = zenc r S.2.2.2.2.2 := by
  simp only [zbS, Bool.and_eq_true] at hb
  obtain ⟨⟨⟨⟨⟨b1, b2⟩, b3⟩, b4⟩, b5⟩, b6⟩ := hb
  obtain ⟨hE, hZ, hW, hP, hD, hS, hl⟩ := h
  have eW := zbW_eq hag kA ad ph b5
  refine ⟨⟨⟨by rw [hag 0 hn]; exact hE.1, fun x hx => ?_⟩, fun x hx => ?_, fun x hx => zbC_ok hag (ph x.1) (List.all_eq_true.mp b5 x hx) (hW x hx), by rw [eW]; exact hP, by rw [eW]; exact hD, hS, ?_⟩, List.map_congr_left (fun a ha => zbA_eq hag ad (List.all_eq_true.mp b4 a ha)), zbR_eq hag _ b6⟩
  · rw [hag _ (zblt (List.all_eq_true.mp b1 x hx))]
    exact hE.2 x hx
  · have q := List.all_eq_true.mp b2 x hx
    simp only [Bool.and_eq_true] at q
    rw [hag _ (zblt q.1), hag _ (zblt q.2)]
    exact hZ x hx
  · have e : S.2.2.1.map (fun x => (x.1, zcv r' ad x.2)) = S.2.2.1.map (fun x => (x.1, zcv r ad x.2)) := List.map_congr_left (fun x hx => by rw [zbA_eq hag ad (List.all_eq_true.mp b3 x hx)])
    rw [e]
    exact hl
def ztv (th : Nat → zV) (v : zV) : zV := ((th v.1).1, (th v.1).2 + v.2)
theorem ztv_ok (r : Nat → Int) (th : Nat → zV) (v : zV) : zev r (ztv th v) = zev (fun s => zev r (th s)) v := by
  unfold zev ztv
  dsimp only
  omega
def ztA (th : Nat → zV) (ka : Nat → Nat) : zA → zA
  | .inl (.inl v) => .inl (.inl (ztv th v))
  | .inl (.inr v) => .inl (.inr (ztv th v))
  | .inr (some i) => .inr (some (ka i))
  | .inr none => .inr none
theorem ztA_ok (r : Nat → Int) (ad : Nat → Nat) (th : Nat → zV) (ka : Nat → Nat) (a : zA) : zcv r ad (ztA th ka a) = zcv (fun s => zev r (th s)) (fun i => ad (ka i)) a := by
  rcases a with (v | v) | (_ | i)
  · show Value.int (Int32.ofInt (zev r (ztv th v))) = _
    rw [ztv_ok]; rfl
  · show Value.long (Int64.ofInt (zev r (ztv th v))) = _
    rw [ztv_ok]; rfl
  · rfl
  · rfl
def zxle (E : zE) (th : Nat → zV) : zI ⊕ zV → zI ⊕ zV → Bool
  | .inl i, .inl j => zle i.1 j.1 && zle j.2 i.2
  | .inl i, .inr v => match zrng E v with
    | some j => zle i.1 j.1 && zle j.2 i.2
    | none => false
  | .inr v, .inr u => Nat.beq (ztv th v).1 u.1 && decide ((ztv th v).2 = u.2)
  | .inr _, .inl _ => false
def zgle (E : zE) (th : Nat → zV) : List zG → List zG → Bool
  | [], [] => true
  | g :: gs, g' :: gs' => Nat.beq g.1 g'.1 && zxle E th g.2 g'.2 && zgle E th gs gs'
  | _, _ => false
theorem zxle_ok {r : Nat → Int} {E : zE} (hE : zokE r E) (th : Nat → zV) {x y : zI ⊕ zV} {z : Int} (h : zxle E th x y = true) (hy : zokX r z y) : zokX (fun s => zev r (th s)) z x := by
  rcases x with i | v <;> rcases y with j | u
  · simp only [zxle, Bool.and_eq_true] at h
    have a := zle_ok h.1
    have b := zle_ok h.2
    have c : j.1 ≤ z ∧ z ≤ j.2 := hy
    show i.1 ≤ z ∧ z ≤ i.2
    omega
  · simp only [zxle] at h
    cases hr : zrng E u with
    | none => rw [hr] at h; cases h
    | some j =>
      rw [hr] at h
      simp only [Bool.and_eq_true] at h
      have a := zle_ok h.1
      have b := zle_ok h.2
      have c := zrng_ok hE hr
      have d : z = zev r u := hy
      show i.1 ≤ z ∧ z ≤ i.2
      omega
  · cases h
  · simp only [zxle, Bool.and_eq_true] at h
    have a := Nat.eq_of_beq_eq_true h.1
    have b : (ztv th v).2 = u.2 := of_decide_eq_true h.2
    have d : z = zev r u := hy
    show z = zev (fun s => zev r (th s)) v
    rw [← ztv_ok, d]
    unfold zev
    rw [a, b]
theorem zgle_ok {r : Nat → Int} {E : zE} (hE : zokE r E) (th : Nat → zV) (f : Nat → Int) : ∀ (gs gs' : List zG) (o : Nat), zgle E th gs gs' = true → zokG r f o gs' → zokG (fun s => zev r (th s)) f o gs
  | [], [], _, _, _ => trivial
  | g :: gs, g' :: gs', o, h, hk => by
    simp only [zgle, Bool.and_eq_true] at h
    have e := Nat.eq_of_beq_eq_true h.1.1
    refine ⟨fun j h1 h2 => zxle_ok hE th h.1.2 (hk.1 j h1 (by rw [← e]; exact h2)), ?_⟩
    rw [e]
    exact zgle_ok hE th f gs gs' (o + g'.1) h.2 hk.2
  | [], g' :: gs', _, h, _ => by cases h
  | g :: gs, [], _, h, _ => by cases h
def zmle (th : Nat → zV) (t s : zM) : Bool := t.all (fun x => s.any (fun y => Nat.beq (ztv th x.1).1 y.1.1 && decide ((ztv th x.1).2 = y.1.2) && Nat.beq (ztv th x.2).1 y.2.1 && decide ((ztv th x.2).2 = y.2.2)))
theorem zmle_ok {r : Nat → Int} (th : Nat → zV) (f : Nat → Int) {t s : zM} (h : zmle th t s = true) (hs : zokM r f s) : zokM (fun s => zev r (th s)) f t := by
  intro x hx
  obtain ⟨y, hy, q⟩ := List.any_eq_true.mp (List.all_eq_true.mp h x hx)
  simp only [Bool.and_eq_true] at q
  have a := Nat.eq_of_beq_eq_true q.1.1.1
  have b : (ztv th x.1).2 = y.1.2 := of_decide_eq_true q.1.1.2
  have c := Nat.eq_of_beq_eq_true q.1.2
  have d : (ztv th x.2).2 = y.2.2 := of_decide_eq_true q.2
  have e1 : zev r (ztv th x.1) = zev r y.1 := by unfold zev; rw [a, b]
  have e2 : zev r (ztv th x.2) = zev r y.2 := by unfold zev; rw [c, d]
  rw [← ztv_ok, ← ztv_ok, e1, e2]
  exact hs y hy
def zCle (E : zE) (th : Nat → zV) (ka : Nat → Nat) : zC → zC → Bool
  | .inl (ci, fs), .inl (ci', fs') => Nat.beq ci ci' && decide (fs.map (ztA th ka) = fs')
  | .inr (.inl (kd, n, gs, mm)), .inr (.inl (kd', n', gs', mm')) => Nat.beq kd kd' && Nat.beq n n' && zgle E th gs gs' && zmle th mm mm'
  | .inr (.inr (kd, is)), .inr (.inr (kd', is')) => Nat.beq kd kd' && decide (is.map ka = is')
  | _, _ => false
theorem zCle_ok {r : Nat → Int} {E : zE} (hE : zokE r E) (th : Nat → zV) (ka : Nat → Nat) (kA : Nat → ClassId) (ad : Nat → Nat) (f : Nat → Int) {x y : zC} (h : zCle E th ka x y = true) (hy : zokC r f y) : zce kA (fun s => zev r (th s)) (fun i => ad (ka i)) f x = zce kA r ad f y ∧ zokC (fun s => zev r (th s)) f x := by
  rcases x with ⟨ci, fs⟩ | ⟨kd, n, gs, mm⟩ | ⟨kd, is⟩ <;> rcases y with ⟨ci', fs'⟩ | ⟨kd', n', gs', mm'⟩ | ⟨kd', is'⟩ <;> try (cases h; done)
  · simp only [zCle, Bool.and_eq_true] at h
    have a := Nat.eq_of_beq_eq_true h.1
    have b : fs.map (ztA th ka) = fs' := of_decide_eq_true h.2
    subst a; subst b
    refine ⟨?_, trivial⟩
    show Sum.inr (ci, fs.map _) = Sum.inr (ci, (fs.map (ztA th ka)).map (zcv r ad))
    rw [List.map_map]
    congr 2
    exact List.map_congr_left (fun a _ => (ztA_ok r ad th ka a).symm)
  · simp only [zCle, Bool.and_eq_true] at h
    have a := Nat.eq_of_beq_eq_true h.1.1.1
    have b := Nat.eq_of_beq_eq_true h.1.1.2
    subst a; subst b
    exact ⟨rfl, zgle_ok hE th f gs gs' 0 h.1.2 hy.1, zmle_ok th f h.2 hy.2⟩
  · simp only [zCle, Bool.and_eq_true] at h
    have a := Nat.eq_of_beq_eq_true h.1
    have b : is.map ka = is' := of_decide_eq_true h.2
    subst a; subst b
    refine ⟨?_, trivial⟩
    show Sum.inl (kA kd, is.length, _) = Sum.inl (kA kd, (is.map ka).length, _)
    have e : (fun j : Nat => (is[j]?).map (fun i => ad (ka i))) = (fun j : Nat => ((is.map ka)[j]?).map ad) := by
      funext j
      rw [List.getElem?_map, Option.map_map]
      rfl
    rw [List.length_map, e]
def zWle (E : zE) (th : Nat → zV) (ka : Nat → Nat) (w : zW) : List Nat → zW → Bool
  | [], [] => true
  | i :: is, x :: tw => (match w[i]? with
    | some y => Nat.beq y.1 (ka x.1) && zCle E th ka x.2 y.2
    | none => false) && zWle E th ka w is tw
  | _, _ => false
theorem zWle_ok {r : Nat → Int} {E : zE} (hE : zokE r E) (th : Nat → zV) (ka : Nat → Nat) (kA : Nat → ClassId) (ad : Nat → Nat) (ph : Nat → Nat → Int) {w : zW} (hw : zokW r ph w) : ∀ (is : List Nat) (tw : zW), zWle E th ka w is tw = true →
    is.map (fun i => (zws kA r ad ph w)[i]?) = (zws kA (fun s => zev r (th s)) (fun i => ad (ka i)) (fun i => ph (ka i)) tw).map some ∧ zokW (fun s => zev r (th s)) (fun i => ph (ka i)) tw
  | [], [], _ => ⟨rfl, fun x hx => by cases hx⟩
  | i :: is, x :: tw, h => by
    simp only [zWle, Bool.and_eq_true] at h
    obtain ⟨h1, h2⟩ := h
    cases hg : w[i]? with
    | none => rw [hg] at h1; cases h1
    | some y =>
      rw [hg] at h1
      simp only [Bool.and_eq_true] at h1
      have a := Nat.eq_of_beq_eq_true h1.1
      have m := List.mem_of_getElem? hg
      have q := zCle_ok hE th ka kA ad (ph y.1) h1.2 (hw y m)
      obtain ⟨i1, i2⟩ := zWle_ok hE th ka kA ad ph hw is tw h2
      refine ⟨?_, fun z hz => ?_⟩
      · rw [List.map_cons, i1]
        show _ = some _ :: _
        congr 1
        show (w.map _)[i]? = _
        rw [List.getElem?_map, hg]
        show some (ad y.1, zce kA r ad (ph y.1) y.2) = some (ad (ka x.1), zce kA _ _ (ph (ka x.1)) x.2)
        rw [← a, ← q.1]
      · rcases List.mem_cons.mp hz with e | e
        · subst e
          show zokC _ (ph (ka z.1)) z.2
          rw [← a]
          exact q.2
        · exact i2 z e
  | [], x :: tw, h => by cases h
  | i :: is, [], h => by cases h
def zzle (E : zE) (Z : zZ) (v1 v2 : zV) (c : Int) : Bool :=
  (Nat.beq v1.1 v2.1 && zle (v1.2 - v2.2) c) || Z.any (fun z => Nat.beq z.1 v1.1 && Nat.beq z.2.1 v2.1 && zle (z.2.2 + v1.2 - v2.2) c) || (match zrng E v1, zrng E v2 with
    | some i, some j => zle (i.2 - j.1) c
    | _, _ => false)
theorem zzle_ok {r : Nat → Int} {E : zE} {Z : zZ} (hE : zokE r E) (hZ : zokZ r Z) {v1 v2 : zV} {c : Int} (h : zzle E Z v1 v2 c = true) : zev r v1 - zev r v2 ≤ c := by
  simp only [zzle, Bool.or_eq_true] at h
  rcases h with (h | h) | h
  · simp only [Bool.and_eq_true] at h
    have a := Nat.eq_of_beq_eq_true h.1
    have b := zle_ok h.2
    unfold zev
    rw [a]
    omega
  · obtain ⟨z, hz, q⟩ := List.any_eq_true.mp h
    simp only [Bool.and_eq_true] at q
    have a := Nat.eq_of_beq_eq_true q.1.1
    have b := Nat.eq_of_beq_eq_true q.1.2
    have d := zle_ok q.2
    have e := hZ z hz
    rw [a, b] at e
    unfold zev
    omega
  · cases h1 : zrng E v1 with
    | none => rw [h1] at h; cases h
    | some i =>
      cases h2 : zrng E v2 with
      | none => rw [h1, h2] at h; cases h
      | some j =>
        rw [h1, h2] at h
        have a := zrng_ok hE h1
        have b := zrng_ok hE h2
        have d := zle_ok h
        omega
