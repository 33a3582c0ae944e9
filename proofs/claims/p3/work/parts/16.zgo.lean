abbrev ztys (kA : Nat → ClassId) : List (ClassId × FieldType) := [(kA 0, .int), (kA 1, .boolean), (kA 2, .object "VowTerrace$Terrace"), (kA 3, .object "VowTerrace$Sheet")]
abbrev zGT : Type := Nat → Heap → List Loc → Array Slot → List Value → Prop
abbrev zGW (p : Program) (l : Launch) (e : Env) (R : Room) (s : State) (m : MethodId) (args : Array Value) (below : List Frame) (meth : Method) (c : Code) (cells slots : Nat) (Q : State → Prop) : zGT := fun pc H locs ls st => W p l e R s m args below meth c H locs cells slots Q (F0 m pc ls st)
def zGo (G : zGT) (D : va_G) (cl : List vw_C) (kA : Nat → ClassId) (A : Nat → Prop) (H0 : Heap) (nL K : Nat) (pins : List Nat) (r0 : Nat → Int) (ad0 : Nat → Nat) (N : Nat) (pc : Nat) (S : zS) : Prop :=
  ∀ (r : Nat → Int) (ad : Nat → Nat) (ph : Nat → Nat → Int) (H : Heap) (locs : List Loc) (ls : Array Slot), zJ K pins r0 ad0 r ad → zRel D cl kA A H0 nL S r ad ph H locs ls → zenc r S.2.2.2.2.2 = N → G pc H locs ls (S.2.2.2.1.map (zcv r ad))
def zst (S : zS) (st : List zA) : zS := (S.1, S.2.1, S.2.2.1, st, S.2.2.2.2.1, S.2.2.2.2.2)
def zsl (S : zS) (lo : List (Nat × zA)) (st : List zA) : zS := (S.1, S.2.1, lo, st, S.2.2.2.2.1, S.2.2.2.2.2)
def zse (S : zS) (q : zE × zZ) (st : List zA) : zS := (q.1, q.2, S.2.2.1, st, S.2.2.2.2.1, S.2.2.2.2.2)
def zsw (S : zS) (w : zW) (st : List zA) : zS := (S.1, S.2.1, S.2.2.1, st, w, S.2.2.2.2.2)
def zputI (n : Nat) (S : zS) (st : List zA) : zV ⊕ zI → zS
  | .inl v => zst S (.inl (.inl v) :: st)
  | .inr i => ((n, i) :: S.1, S.2.1, S.2.2.1, .inl (.inl (n, 0)) :: st, S.2.2.2.2.1, S.2.2.2.2.2)
def zputL (n : Nat) (S : zS) (st : List zA) : zV ⊕ zI → zS
  | .inl v => zst S (.inl (.inr v) :: st)
  | .inr i => ((n, i) :: S.1, S.2.1, S.2.2.1, .inl (.inr (n, 0)) :: st, S.2.2.2.2.1, S.2.2.2.2.2)
def zfr (n K : Nat) (S : zS) : Bool := Nat.ble 1 K && Nat.ble K n && zbS n S
section ZGO
variable {G : zGT} {D : va_G} {cl : List vw_C} {kA : Nat → ClassId} {A : Nat → Prop} {H0 : Heap} {nL K : Nat} {pins : List Nat} {r0 : Nat → Int} {ad0 : Nat → Nat} {N : Nat} {pc : Nat} {S : zS}
theorem zfresh {n : Nat} {st : List zA} (hf : zfr n K (zst S st) = true) {r : Nat → Int} {ad : Nat → Nat} {ph : Nat → Nat → Int} {H : Heap} {locs : List Loc} {ls : Array Slot} (hJ : zJ K pins r0 ad0 r ad) (hR : zRel D cl kA A H0 nL S r ad ph H locs ls) (hN : zenc r S.2.2.2.2.2 = N) (z : Int) :
    let r' : Nat → Int := fun i => if i = n then z else r i
    zJ K pins r0 ad0 r' ad ∧ zRel D cl kA A H0 nL S r' ad ph H locs ls ∧ st.map (zcv r' ad) = st.map (zcv r ad) ∧ zenc r' S.2.2.2.2.2 = N ∧ r' n = z := by
  intro r'
  simp only [zfr, Bool.and_eq_true] at hf
  have k1 := Nat.le_of_ble_eq_true hf.1.1
  have k2 := Nat.le_of_ble_eq_true hf.1.2
  have hag : ∀ i, i < n → r' i = r i := fun i hi => if_neg (by omega)
  have q := zbS_ok (S := zst S st) (by omega) hag hf.2 hR
  exact ⟨⟨fun i hi => by rw [hag i (by omega)]; exact hJ.1 i hi, hJ.2⟩, q.1, q.2.1, q.2.2.trans hN, if_pos rfl⟩
theorem zputI_go {n : Nat} {st : List zA} {q : zV ⊕ zI} (hf : zfr n K (zst S st) = true) (hgo : zGo G D cl kA A H0 nL K pins r0 ad0 N pc (zputI n S st q)) {r : Nat → Int} {ad : Nat → Nat} {ph : Nat → Nat → Int} {H : Heap} {locs : List Loc} {ls : Array Slot} (hJ : zJ K pins r0 ad0 r ad) (hR : zRel D cl kA A H0 nL S r ad ph H locs ls) (hN : zenc r S.2.2.2.2.2 = N) {z : Int32} (hz : zresI r z q) : G pc H locs ls (.int z :: st.map (zcv r ad)) := by
  rcases q with v | i
  · have e : z = Int32.ofInt (zev r v) := hz
    rw [e]
    exact hgo r ad ph H locs ls hJ hR hN
  · obtain ⟨h1, h2, h3, h4, h5⟩ := zfresh hf hJ hR hN z.toInt
    have g := hgo _ ad ph H locs ls h1 ⟨⟨h2.1.1, fun x hx => by
      rcases List.mem_cons.mp hx with e | e
      · subst e
        dsimp only
        rw [if_pos rfl]
        exact hz
      · exact h2.1.2 x e⟩, h2.2⟩ h4
    have e2 : (zputI n S st (.inr i)).2.2.2.1.map (zcv (fun i => if i = n then z.toInt else r i) ad) = .int z :: st.map (zcv r ad) := by
      show Value.int (Int32.ofInt (zev _ (n, 0))) :: st.map _ = _
      rw [h3]
      congr 2
      unfold zev
      dsimp only
      rw [if_pos rfl, Int.add_zero, Int32.ofInt_toInt]
    rw [e2] at g
    exact g
theorem zputL_go {n : Nat} {st : List zA} {q : zV ⊕ zI} (hf : zfr n K (zst S st) = true) (hgo : zGo G D cl kA A H0 nL K pins r0 ad0 N pc (zputL n S st q)) {r : Nat → Int} {ad : Nat → Nat} {ph : Nat → Nat → Int} {H : Heap} {locs : List Loc} {ls : Array Slot} (hJ : zJ K pins r0 ad0 r ad) (hR : zRel D cl kA A H0 nL S r ad ph H locs ls) (hN : zenc r S.2.2.2.2.2 = N) {z : Int64} (hz : zresL r z q) : G pc H locs ls (.long z :: st.map (zcv r ad)) := by
  rcases q with v | i
  · have e : z = Int64.ofInt (zev r v) := hz
    rw [e]
    exact hgo r ad ph H locs ls hJ hR hN
  · obtain ⟨h1, h2, h3, h4, h5⟩ := zfresh hf hJ hR hN z.toInt
    have g := hgo _ ad ph H locs ls h1 ⟨⟨h2.1.1, fun x hx => by
      rcases List.mem_cons.mp hx with e | e
      · subst e
        dsimp only
        rw [if_pos rfl]
        exact hz
      · exact h2.1.2 x e⟩, h2.2⟩ h4
    have e2 : (zputL n S st (.inr i)).2.2.2.1.map (zcv (fun i => if i = n then z.toInt else r i) ad) = .long z :: st.map (zcv r ad) := by
      show Value.long (Int64.ofInt (zev _ (n, 0))) :: st.map _ = _
      rw [h3]
      congr 2
      unfold zev
      dsimp only
      rw [if_pos rfl, Int.add_zero, Int64.ofInt_toInt]
    rw [e2] at g
    exact g
theorem zlocal {i : Nat} {a : zA} (hl : zlk S.2.2.1 i = some a) {r : Nat → Int} {ad : Nat → Nat} {ph : Nat → Nat → Int} {H : Heap} {locs : List Loc} {ls : Array Slot} (hR : zRel D cl kA A H0 nL S r ad ph H locs ls) : ls[i]? = some (.val (zcv r ad a)) :=
  hR.2.2.2.2.2.2.2.2 (i, zcv r ad a) (List.mem_map.mpr ⟨_, zlk_mem hl, rfl⟩)
end ZGO
def zset1 (lo : List (Nat × zA)) (i : Nat) (a : zA) : List (Nat × zA) := (i, a) :: lo.filter (fun q => !(q.1 == i) && !(q.1 + 1 == i && zcat q.2 == 2))
def zset2 (lo : List (Nat × zA)) (i : Nat) (a : zA) : List (Nat × zA) := (i, a) :: lo.filter (fun q => !(q.1 == i) && (!(q.1 == i + 1) && !(q.1 + 1 == i && zcat q.2 == 2)))
theorem zset1_ok (r : Nat → Int) (ad : Nat → Nat) (lo : List (Nat × zA)) (i : Nat) (a : zA) : (i, zcv r ad a) :: (lo.map (fun x => (x.1, zcv r ad x.2))).filter (fun q => !(q.1 == i) && !(q.1 + 1 == i && q.2.category == 2)) = (zset1 lo i a).map (fun x => (x.1, zcv r ad x.2)) := by
  unfold zset1
  rw [List.map_cons, List.filter_map]
  congr 2
  apply List.filter_congr
  intro x _
  show (!(x.1 == i) && !(x.1 + 1 == i && (zcv r ad x.2).category == 2)) = _
  rw [zcat_ok]
theorem zset2_ok (r : Nat → Int) (ad : Nat → Nat) (lo : List (Nat × zA)) (i : Nat) (a : zA) : (i, zcv r ad a) :: (lo.map (fun x => (x.1, zcv r ad x.2))).filter (fun q => !(q.1 == i) && (!(q.1 == i + 1) && !(q.1 + 1 == i && q.2.category == 2))) = (zset2 lo i a).map (fun x => (x.1, zcv r ad x.2)) := by
  unfold zset2
  rw [List.map_cons, List.filter_map]
  congr 2
  apply List.filter_congr
  intro x _
  show (!(x.1 == i) && (!(x.1 == i + 1) && !(x.1 + 1 == i && (zcv r ad x.2).category == 2))) = _
  rw [zcat_ok]
