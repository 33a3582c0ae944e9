theorem yfs_set {ct : yCt} {ad : Nat → Nat} {σ σ' : yS} {i ci k : Nat} {t : Option yH} {v : Value} (hk : (ct.1 ci)[k]? = some t) (hv : yfv ad σ' i k t = v) (hne : ∀ j, j ≠ k → ∀ t, yfv ad σ' i j t = yfv ad σ i j t) : (ct.1 ci).mapIdx (fun k t => yfv ad σ' i k t) = ((ct.1 ci).mapIdx (fun k t => yfv ad σ i k t)).set k v := by
  apply List.ext_getElem?
  intro j
  by_cases hj : k = j
  · subst hj
    have hlt : k < ((ct.1 ci).mapIdx (fun k t => yfv ad σ i k t)).length := by
      rw [List.length_mapIdx]
      exact (List.getElem?_eq_some_iff.mp hk).1
    rw [List.getElem?_set_self hlt, List.getElem?_mapIdx, hk]
    exact congrArg some hv
  · rw [List.getElem?_set_ne hj, List.getElem?_mapIdx, List.getElem?_mapIdx]
    cases (ct.1 ci)[j]? with
    | none => rfl
    | some t => exact congrArg some (hne j (Ne.symm hj) t)
theorem ytab_at {pc : Nat} {v : Int} {d : Nat} : ∀ (os : List Int) (k : Int) (j : Nat) (o : Int), os[j]? = some o → v = k + j → ytab pc v d k os = ((pc : Int) + o).toNat
  | [], _, j, o, h, _ => by simp at h
  | a :: os, k, 0, o, h, hv => by
    simp only [List.getElem?_cons_zero, Option.some.injEq] at h
    subst h
    unfold ytab
    have e : (zle v k && zle k v) = true := by
      rw [Bool.and_eq_true]
      exact ⟨decide_eq_true (by omega), decide_eq_true (by omega)⟩
    rw [e]
    rfl
  | a :: os, k, j + 1, o, h, hv => by
    rw [List.getElem?_cons_succ] at h
    unfold ytab
    have e : (zle v k && zle k v) = false := by
      rw [Bool.and_eq_false_iff]
      exact Or.inl (decide_eq_false (by omega))
    rw [e]
    exact ytab_at os (k + 1) j o h (by omega)
theorem ytab_out {pc : Nat} {v : Int} {d : Nat} : ∀ (os : List Int) (k : Int), v < k ∨ k + os.length ≤ v → ytab pc v d k os = d
  | [], _, _ => rfl
  | a :: os, k, hv => by
    unfold ytab
    rw [List.length_cons] at hv
    have e : (zle v k && zle k v) = false := by
      rw [Bool.and_eq_false_iff]
      rcases hv with h | h
      · exact Or.inr (decide_eq_false (by omega))
      · exact Or.inl (decide_eq_false (by omega))
    rw [e]
    exact ytab_out os (k + 1) (by omega)
theorem ylks_at {pc : Nat} {v d : Int} : ∀ (ps : List (Int × Int)), ylks pc v ((pc : Int) + d).toNat ps = ((pc : Int) + Op.lookupswitch.offset ps d v).toNat
  | [] => rfl
  | (a, o) :: ps => by
    rw [Op.lookupswitch.offset_cons]
    unfold ylks
    dsimp only
    by_cases h : a = v
    · have e : (zle v a && zle a v) = true := by
        rw [Bool.and_eq_true]
        exact ⟨decide_eq_true (by omega), decide_eq_true (by omega)⟩
      rw [if_pos h, e]
      rfl
    · have e : (zle v a && zle a v) = false := by
        cases hb : zle v a && zle a v with
        | false => rfl
        | true =>
          rw [Bool.and_eq_true] at hb
          exact absurd (Int.le_antisymm (zle_ok hb.2) (zle_ok hb.1)) h
      rw [if_neg h, e]
      exact ylks_at ps
theorem ylks_ge {pc : Nat} {v d : Int} (hd : 0 ≤ (pc : Int) + d) : ∀ (ps : List (Int × Int)), ps.all (fun x => zle 0 ((pc : Int) + x.2)) = true → 0 ≤ (pc : Int) + Op.lookupswitch.offset ps d v
  | [], _ => hd
  | (a, o) :: ps, h => by
    rw [List.all_cons, Bool.and_eq_true] at h
    rw [Op.lookupswitch.offset_cons]
    by_cases q : a = v
    · rw [if_pos q]
      exact zle_ok h.1
    · rw [if_neg q]
      exact ylks_ge hd ps h.2
theorem ymx_ok {a b : Int} (ha : yI a) (hb : yI b) : (if Int32.ofInt a < Int32.ofInt b then Int32.ofInt b else Int32.ofInt a) = Int32.ofInt (ymx a b) ∧ yI (ymx a b) := by
  have lt := zq_lt ha.1 ha.2 hb.1 hb.2
  by_cases h : a < b
  · have e : zle (a + 1) b = true := decide_eq_true (by omega)
    rw [if_pos (lt.mpr h)]
    unfold ymx
    rw [e]
    exact ⟨rfl, hb⟩
  · have e : zle (a + 1) b = false := decide_eq_false (by omega)
    rw [if_neg (fun z => h (lt.mp z))]
    unfold ymx
    rw [e]
    exact ⟨rfl, ha⟩
theorem ymn_ok {a b : Int} (ha : yI a) (hb : yI b) : (if Int32.ofInt b < Int32.ofInt a then Int32.ofInt b else Int32.ofInt a) = Int32.ofInt (ymn a b) ∧ yI (ymn a b) := by
  have lt := zq_lt hb.1 hb.2 ha.1 ha.2
  by_cases h : b < a
  · have e : zle (b + 1) a = true := decide_eq_true (by omega)
    rw [if_pos (lt.mpr h)]
    unfold ymn
    rw [e]
    exact ⟨rfl, hb⟩
  · have e : zle (b + 1) a = false := decide_eq_false (by omega)
    rw [if_neg (fun z => h (lt.mp z))]
    unfold ymn
    rw [e]
    exact ⟨rfl, ha⟩
theorem ycats {st : List yV} (h : Nat.ble ((st.map ycat).sum) 8 = true) (ad : Nat → Nat) : ((st.map (ycv ad)).map fun v => v.category).sum ≤ 8 := by
  rw [List.map_map, show ((fun v : Value => v.category) ∘ ycv ad) = ycat from funext (ycat_ok ad)]
  exact Nat.le_of_ble_eq_true h
section YSD
variable {p : Program} {l : Launch} {e : Env} {R : Room} {s : State} {m : MethodId} {args : Array Value} {below : List Frame} {meth : Method} {c : Code} {cells slots : Nat} {Q : State → Prop} {cc : ByteArray} {D : va_G} {cl : List vw_C} {ct : yCt} {kA : Nat → ClassId} {A : Nat → Prop} {H0 : Heap} {nL : Nat} {sh : List yH} {ad : Nat → Nat} {C C' : yC} {ins : Instr} {r : yT}
set_option maxHeartbeats 4000000 in
theorem ystepD_ok (hx : p.tables.exec = Jvm.exec) (hb : c.code = cc) (hK : va_K D cl (ztys kA) s) {own : String} {Ts : List Cond} (hown : s.vm.findClass own = some m.cls) (hts : ∀ w ∈ Ts, w.before args s = true) {flds : List (Nat × Nat × Nat × Nat)} (hfl : ∀ x ci k tag, zlk flds x = some (ci, k, tag) → zFld Ts own cl x ci k tag)
    (hdg : decode cc C.1 = .ok (ins, zlen ins)) (h : ystepD ct flds C ins = some r) (hc : ynext r = some C') (hgo : yGo (zGW p l e R s m args below meth c cells slots Q) D cl ct kA A H0 nL sh ad C') : yGo (zGW p l e R s m args below meth c cells slots Q) D cl ct kA A H0 nL sh ad C := by
  unfold ystepD at h
  split at h
  · rename_i x
    intro H locs ls hR
    have hk := hR.2.2.1
    split at h
    · rename_i y st hst
      rw [hst] at hk
      have hsh : sh[y.2]? = some y.1 := hk _ List.mem_cons_self
      have hst' : ∀ z ∈ st, yokV sh z := fun z hz => hk z (List.mem_cons_of_mem _ hz)
      split at h
      · rename_i ci' ci k tag hy hlk
        cases hz : Nat.beq ci' ci with
        | false => rw [hz] at h; cases h
        | true =>
          rw [hz] at h
          have ec := Nat.eq_of_beq_eq_true hz
          subst ec
          rw [hy] at hsh
          dsimp only [cond] at h
          obtain ⟨C0, T, nF, ty0, f1, f2, f3, f4, f5, f6, f7⟩ := hfl x _ k tag hlk
          have hget := yws_get (ct := ct) (kA := kA) (ad := ad) (σ := C.2.2.2) hsh
          show W _ _ _ _ _ _ _ _ _ _ _ _ _ _ _ (F0 m C.1 ls (C.2.2.1.map (ycv ad)))
          rw [hst]
          split at h
          · rename_i hct
            obtain rfl := yone_inv h hc
            exact va_get hx hb hts f3 hown hK hR.2.2.2.1 y.2 hget f1 k f2 (hts _ f6) (fun _ h => h) (v := .int (Int32.ofInt (C.2.2.2.1 y.2 k))) (by rw [List.getElem?_mapIdx, hct]; rfl) hdg (hgo H locs ls (hR.st (List.forall_mem_cons.mpr ⟨hR.1.1 _ _, hst'⟩)))
          · rename_i hh hct
            obtain rfl := yone_inv h hc
            have efx : (ct.2 ci' y.2 k).getD (C.2.2.2.2 y.2 k) = C.2.2.2.2 y.2 k := by
              cases hfx : ct.2 ci' y.2 k with
              | none => rfl
              | some j => exact (hR.1.2.2.2 _ _ _ _ hsh hfx).symm
            rw [efx] at hgo
            exact va_get hx hb hts f3 hown hK hR.2.2.2.1 y.2 hget f1 k f2 (hts _ f6) (fun _ h => h) (v := .ref (ad (C.2.2.2.2 y.2 k))) (by rw [List.getElem?_mapIdx, hct]; rfl) hdg (hgo H locs ls (hR.st (List.forall_mem_cons.mpr ⟨hR.1.2.1 _ _ _ _ hsh hct, hst'⟩)))
          · cases h
      · cases h
    · cases h
  · rename_i x
    intro H locs ls hR
    have hk := hR.2.2.1
    split at h
    · rename_i a y st hst
      rw [hst] at hk
      have hsh : sh[y.2]? = some y.1 := hk _ (List.mem_cons_of_mem _ List.mem_cons_self)
      have ha0 := hk a List.mem_cons_self
      have hst' : ∀ z ∈ st, yokV sh z := fun z hz => hk z (List.mem_cons_of_mem _ (List.mem_cons_of_mem _ hz))
      split at h
      · rename_i ci' ci k tag hy hlk
        cases hz : Nat.beq ci' ci with
        | false => rw [hz] at h; cases h
        | true =>
          rw [hz] at h
          have ec := Nat.eq_of_beq_eq_true hz
          subst ec
          rw [hy] at hsh
          dsimp only [cond] at h
          obtain ⟨C0, T, nF, ty0, f1, f2, f3, f4, f5, f6, f7⟩ := hfl x _ k tag hlk
          have hget := yws_get (ct := ct) (kA := kA) (ad := ad) (σ := C.2.2.2) hsh
          show W _ _ _ _ _ _ _ _ _ _ _ _ _ _ _ (F0 m C.1 ls (C.2.2.1.map (ycv ad)))
          rw [hst]
          split at h
          · rename_i z hct
            obtain rfl := yone_inv h hc
            have t1 : (T k).2.2.2 = false := f7.1
            have t2 : ty0 k = .int := f7.2
            have ews := yws_set (ct := ct) (kA := kA) (ad := ad) (σ := C.2.2.2) (σ' := yw C.2.2.2 y.2 k z) hsh (fun a ha k => if_neg (fun z => ha z.2)) (fun a ha k => rfl)
            have ef := yfs_set (ad := ad) (σ := C.2.2.2) (σ' := yw C.2.2.2 y.2 k z) (i := y.2) (v := .int (Int32.ofInt z)) hct (by
              show Value.int (Int32.ofInt (if k = k ∧ y.2 = y.2 then z else C.2.2.2.1 y.2 k)) = _
              rw [if_pos ⟨rfl, rfl⟩]) (fun j hj t => by
              cases t with
              | none =>
                show Value.int (Int32.ofInt (if j = k ∧ y.2 = y.2 then z else C.2.2.2.1 y.2 j)) = _
                rw [if_neg (fun q => hj q.1)]
                rfl
              | some _ => rfl)
            have ew : yce ct kA ad (yw C.2.2.2 y.2 k z) y.2 (.inl ci') = .inr (ci', ((ct.1 ci').mapIdx (fun k t => yfv ad C.2.2.2 y.2 k t)).set k (.int (Int32.ofInt z))) := by
              show Sum.inr (ci', (ct.1 ci').mapIdx (fun k_1 t => yfv ad (yw C.2.2.2 y.2 k z) y.2 k_1 t)) = _
              rw [ef]
            rw [ew] at ews
            refine va_put hx hb hts f3 ty0 f4 f5 hown hK hR.2.2.2.1 hR.2.2.2.2.1 hR.2.2.2.2.2.1 y.2 hget f1 k f2 (hts _ f6) (fun _ h => h) t1 (f4 k f2) (by rw [t2]; rfl) (by rw [t2]; rfl) (by rw [List.length_mapIdx]; exact (List.getElem?_eq_some_iff.mp hct).1) hdg (fun H1 locs1 hP1 hD1 hS1 => ?_)
            exact hgo H1 locs1 ls ⟨yokS_w hR.1 _ _ ha0, hR.2.1, hst', (show va_P D cl (yws ct kA ad sh (yw C.2.2.2 y.2 k z)) H1 by rw [ews]; exact hP1), (show va_D A (yws ct kA ad sh (yw C.2.2.2 y.2 k z)) by rw [ews]; exact hD1), hS1, hR.2.2.2.2.2.2⟩
          · rename_i z hct
            obtain ⟨hg1, rfl⟩ := yg_inv h hc
            have hu := yb1_ok hg1
            have t1 : (T k).2.2.2 = false := f7.1
            have t2 : ty0 k = .boolean := f7.2
            have nb := znar_bool (k := z) hu.1 hu.2
            have ews := yws_set (ct := ct) (kA := kA) (ad := ad) (σ := C.2.2.2) (σ' := yw C.2.2.2 y.2 k z) hsh (fun a ha k => if_neg (fun z => ha z.2)) (fun a ha k => rfl)
            have ef := yfs_set (ad := ad) (σ := C.2.2.2) (σ' := yw C.2.2.2 y.2 k z) (i := y.2) (v := .int (Int32.ofInt z)) hct (by
              show Value.int (Int32.ofInt (if k = k ∧ y.2 = y.2 then z else C.2.2.2.1 y.2 k)) = _
              rw [if_pos ⟨rfl, rfl⟩]) (fun j hj t => by
              cases t with
              | none =>
                show Value.int (Int32.ofInt (if j = k ∧ y.2 = y.2 then z else C.2.2.2.1 y.2 j)) = _
                rw [if_neg (fun q => hj q.1)]
                rfl
              | some _ => rfl)
            have ew : yce ct kA ad (yw C.2.2.2 y.2 k z) y.2 (.inl ci') = .inr (ci', ((ct.1 ci').mapIdx (fun k t => yfv ad C.2.2.2 y.2 k t)).set k (.int (Int32.ofInt z))) := by
              show Sum.inr (ci', (ct.1 ci').mapIdx (fun k_1 t => yfv ad (yw C.2.2.2 y.2 k z) y.2 k_1 t)) = _
              rw [ef]
            rw [ew] at ews
            refine va_put hx hb hts f3 ty0 f4 f5 hown hK hR.2.2.2.1 hR.2.2.2.2.1 hR.2.2.2.2.2.1 y.2 hget f1 k f2 (hts _ f6) (fun _ h => h) t1 (f4 k f2) (by rw [t2]; exact nb.1) (by rw [t2]; exact nb.2) (by rw [List.length_mapIdx]; exact (List.getElem?_eq_some_iff.mp hct).1) hdg (fun H1 locs1 hP1 hD1 hS1 => ?_)
            exact hgo H1 locs1 ls ⟨yokS_w hR.1 _ _ ha0, hR.2.1, hst', (show va_P D cl (yws ct kA ad sh (yw C.2.2.2 y.2 k z)) H1 by rw [ews]; exact hP1), (show va_D A (yws ct kA ad sh (yw C.2.2.2 y.2 k z)) by rw [ews]; exact hD1), hS1, hR.2.2.2.2.2.2⟩
          · rename_i v hh hct
            cases hq : yHeq v.1 hh && (ct.2 ci' y.2 k).isNone with
            | false => rw [hq] at h; cases h
            | true =>
              rw [hq] at h
              obtain rfl := yone_inv h hc
              rw [Bool.and_eq_true] at hq
              have eh := yHeq_ok hq.1
              have hfn : ct.2 ci' y.2 k = none := Option.isNone_iff_eq_none.mp hq.2
              have hv0 : sh[v.2]? = some hh := by rw [← eh]; exact ha0
              have t1 : (T k).2.2.2 = false := f7.1
              obtain ⟨CC, t2⟩ : ∃ CC, ty0 k = .object CC := f7.2
              have ews := yws_set (ct := ct) (kA := kA) (ad := ad) (σ := C.2.2.2) (σ' := yq C.2.2.2 y.2 k v.2) hsh (fun a ha k => rfl) (fun a ha k => if_neg (fun z => ha z.2))
              have ef := yfs_set (ad := ad) (σ := C.2.2.2) (σ' := yq C.2.2.2 y.2 k v.2) (i := y.2) (v := .ref (ad v.2)) hct (by
                show Value.ref (ad (if k = k ∧ y.2 = y.2 then v.2 else C.2.2.2.2 y.2 k)) = _
                rw [if_pos ⟨rfl, rfl⟩]) (fun j hj t => by
                cases t with
                | none => rfl
                | some _ =>
                  show Value.ref (ad (if j = k ∧ y.2 = y.2 then v.2 else C.2.2.2.2 y.2 j)) = _
                  rw [if_neg (fun q => hj q.1)]
                  rfl)
              have ew : yce ct kA ad (yq C.2.2.2 y.2 k v.2) y.2 (.inl ci') = .inr (ci', ((ct.1 ci').mapIdx (fun k t => yfv ad C.2.2.2 y.2 k t)).set k (.ref (ad v.2))) := by
                show Sum.inr (ci', (ct.1 ci').mapIdx (fun k_1 t => yfv ad (yq C.2.2.2 y.2 k v.2) y.2 k_1 t)) = _
                rw [ef]
              rw [ew] at ews
              refine va_put hx hb hts f3 ty0 f4 f5 hown hK hR.2.2.2.1 hR.2.2.2.2.1 hR.2.2.2.2.2.1 y.2 hget f1 k f2 (hts _ f6) (fun _ h => h) t1 (f4 k f2) (by rw [t2]; rfl) (by rw [t2]; rfl) (by rw [List.length_mapIdx]; exact (List.getElem?_eq_some_iff.mp hct).1) hdg (fun H1 locs1 hP1 hD1 hS1 => ?_)
              exact hgo H1 locs1 ls ⟨yokS_q hR.1 hsh hct hfn hv0, hR.2.1, hst', (show va_P D cl (yws ct kA ad sh (yq C.2.2.2 y.2 k v.2)) H1 by rw [ews]; exact hP1), (show va_D A (yws ct kA ad sh (yq C.2.2.2 y.2 k v.2)) by rw [ews]; exact hD1), hS1, hR.2.2.2.2.2.2⟩
          · cases h
      · cases h
    · cases h
  · exact yald_ok hx hb hK (Or.inl ⟨rfl, hdg⟩) h hc hgo
  · exact yald_ok hx hb hK (Or.inr ⟨rfl, hdg⟩) h hc hgo
  · exact yast_ok hx hb hK (Or.inl ⟨rfl, hdg⟩) h hc hgo
  · exact yast_ok hx hb hK (Or.inr ⟨rfl, hdg⟩) h hc hgo
  · intro H locs ls hR
    have hk := hR.2.2.1
    split at h
    · rename_i v x st hst
      rw [hst] at hk
      have hsh : sh[x.2]? = some x.1 := hk _ (List.mem_cons_of_mem _ List.mem_cons_self)
      have hst' : ∀ z ∈ st, yokV sh z := fun z hz => hk z (List.mem_cons_of_mem _ (List.mem_cons_of_mem _ hz))
      split at h
      · rename_i q hq
        rw [hq] at hsh
        cases hz : (Nat.beq q.1 2 || Nat.beq q.1 3) && Nat.ble q.2 2000000 with
        | false => rw [hz] at h; cases h
        | true =>
          rw [hz] at h
          simp only [Bool.and_eq_true, Bool.or_eq_true] at hz
          obtain ⟨g1, rfl⟩ := yg_inv h hc
          obtain ⟨i1, i2⟩ := yin_ok g1
          have y5 := Nat.le_of_ble_eq_true hz.2
          obtain ⟨j1, j2⟩ := zq_idx (k := v) (m := q.2) i1 i2 y5
          have hget := yws_get (ct := ct) (kA := kA) (ad := ad) (σ := C.2.2.2) hsh
          have h2 : 2 ≤ q.1 := by
            rcases hz.1 with z | z <;> have := Nat.eq_of_beq_eq_true z <;> omega
          have hel : sh[C.2.2.2.2 x.2 v.toNat]? = some (yek q.1) := hR.1.2.2.1 x.2 q.1 q.2 v.toNat hsh h2 (by omega)
          have g : W p l e R s m args below meth c H locs cells slots Q (F0 m (C.1 + 1) ls (.ref (ad (C.2.2.2.2 x.2 v.toNat)) :: st.map (ycv ad))) := hgo H locs ls (hR.st (List.forall_mem_cons.mpr ⟨hel, hst'⟩))
          have ew : yce ct kA ad C.2.2.2 x.2 (.inr q) = .inl (kA q.1, q.2, .inr (.inr (.inr (.inr (fun j => some (ad (C.2.2.2.2 x.2 j))))))) := by
            unfold yce
            dsimp only
            have e1 : Nat.ble q.1 1 = false := by
              cases hb : Nat.ble q.1 1 with
              | false => rfl
              | true => have := Nat.le_of_ble_eq_true hb; omega
            rw [e1]
            rfl
          rw [ew] at hget
          show W _ _ _ _ _ _ _ _ _ _ _ _ _ _ _ (F0 m C.1 ls (C.2.2.1.map (ycv ad)))
          rw [hst]
          rcases hz.1 with z1 | z1
          · rw [Nat.eq_of_beq_eq_true z1] at hget
            refine va_aldq (C := "VowTerrace$Terrace") hx hb hK hR.2.2.2.1 x.2 2 hget rfl j1 hdg ?_
            rw [j2]
            exact g
          · rw [Nat.eq_of_beq_eq_true z1] at hget
            refine va_aldq (C := "VowTerrace$Sheet") hx hb hK hR.2.2.2.1 x.2 3 hget rfl j1 hdg ?_
            rw [j2]
            exact g
      · cases h
    · cases h
  · cases h
theorem ystepS_ok (hx : p.tables.exec = Jvm.exec) (hb : c.code = cc) {len : Nat} (hdg : decode cc C.1 = .ok (ins, len)) (h : ystepS C ins = some r) (hc : ynext r = some C') (hgo : yGo (zGW p l e R s m args below meth c cells slots Q) D cl ct kA A H0 nL sh ad C') : yGo (zGW p l e R s m args below meth c cells slots Q) D cl ct kA A H0 nL sh ad C := by
  intro H locs ls hR
  have hk := hR.2.2.1
  unfold ystepS at h
  split at h
  · rename_i d lo hi offs
    split at h
    · rename_i v st hst
      rw [hst] at hk
      have hv : yI v := hk _ List.mem_cons_self
      have hst' : ∀ z ∈ st, yokV sh z := fun z hz => hk z (List.mem_cons_of_mem _ hz)
      cases hz : zle 0 ((C.1 : Int) + d) && offs.toList.all (fun o => zle 0 ((C.1 : Int) + o)) && decide (hi - lo + 1 = (offs.toList.length : Int)) with
      | false => rw [hz] at h; cases h
      | true =>
        rw [hz] at h
        simp only [Bool.and_eq_true] at hz
        obtain ⟨⟨z2, z3⟩, z4⟩ := hz
        obtain rfl := yone_inv h hc
        have ev := zq_of hv.1 hv.2
        have y2 := zle_ok z2
        have y4 : hi - lo + 1 = (offs.toList.length : Int) := of_decide_eq_true z4
        have g := hgo H locs ls (hR.st hst')
        show W _ _ _ _ _ _ _ _ _ _ _ _ _ _ _ (F0 m C.1 ls (C.2.2.1.map (ycv ad)))
        rw [hst]
        have g : W p l e R s m args below meth c H locs cells slots Q (F0 m (ytab C.1 v ((C.1 : Int) + d).toNat lo offs.toList) ls (st.map (ycv ad))) := g
        by_cases c1 : v < lo ∨ hi < v
        · rw [ytab_out _ _ (by omega)] at g
          exact lv_tableOut (tgt := ((C.1 : Int) + d).toNat) hx hb hdg (by rw [ev]; exact c1) (by omega) g
        · have hlt : (v - lo).toNat < offs.toList.length := by omega
          have hget : offs.toList[(v - lo).toNat]? = some offs.toList[(v - lo).toNat] := List.getElem?_eq_getElem hlt
          have y3 := zle_ok (List.all_eq_true.mp z3 _ (List.mem_of_getElem? hget))
          rw [ytab_at _ _ _ _ hget (by omega)] at g
          exact lv_tableIn (tgt := ((C.1 : Int) + offs.toList[(v - lo).toNat]).toNat) hx hb hdg (by rw [ev]; omega) (by rw [ev]; omega) (by rw [ev, ← Array.getElem?_toList]; exact hget) (by omega) g
    · cases h
  · rename_i d ps
    split at h
    · rename_i v st hst
      rw [hst] at hk
      have hv : yI v := hk _ List.mem_cons_self
      have hst' : ∀ z ∈ st, yokV sh z := fun z hz => hk z (List.mem_cons_of_mem _ hz)
      cases hz : zle 0 ((C.1 : Int) + d) && ps.toList.all (fun x => zle 0 ((C.1 : Int) + x.2)) && (ps.toList.zip (ps.toList.drop 1)).all (fun (a, next) => a.1 < next.1) with
      | false => rw [hz] at h; cases h
      | true =>
        rw [hz] at h
        simp only [Bool.and_eq_true] at hz
        obtain ⟨⟨z2, z3⟩, z4⟩ := hz
        obtain rfl := yone_inv h hc
        have ev := zq_of hv.1 hv.2
        have g := hgo H locs ls (hR.st hst')
        have g : W p l e R s m args below meth c H locs cells slots Q (F0 m (ylks C.1 v ((C.1 : Int) + d).toNat ps.toList) ls (st.map (ycv ad))) := g
        rw [ylks_at] at g
        have hge := ylks_ge (v := v) (zle_ok z2) ps.toList z3
        show W _ _ _ _ _ _ _ _ _ _ _ _ _ _ _ (F0 m C.1 ls (C.2.2.1.map (ycv ad)))
        rw [hst]
        exact lv_lookup (off := Op.lookupswitch.offset ps.toList d v) (tgt := ((C.1 : Int) + Op.lookupswitch.offset ps.toList d v).toNat) hx hb hdg z4 (by rw [ev]) (by omega) g
    · cases h
  · cases h
set_option maxHeartbeats 4000000 in
theorem ystepM_ok (hx : p.tables.exec = Jvm.exec) (hb : c.code = cc) (hml : c.maxLocals = nL) (hK : va_K D cl (ztys kA) s) {own : String} {Ts : List Cond} (hown : s.vm.findClass own = some m.cls) (hts : ∀ w ∈ Ts, w.before args s = true) (hroom : 1 ≤ R.frames ∧ 64 ≤ R.locals) {mm : List (Nat × Nat)} (hmm : ∀ x t, zlk mm x = some t → zMM Ts own x t) {x : Nat}
    (hdg : decode cc C.1 = .ok (.invokestatic x, 3)) (h : ystepM mm C x = some r) (hc : ynext r = some C') (hgo : yGo (zGW p l e R s m args below meth c 0 0 Q) D cl ct kA A H0 nL sh ad C') : yGo (zGW p l e R s m args below meth c 0 0 Q) D cl ct kA A H0 nL sh ad C := by
  intro H locs ls hR
  have hls : c.maxLocals = ls.size := hml.trans hR.2.2.2.2.2.2.1.symm
  have hk := hR.2.2.1
  unfold ystepM at h
  split at h
  · rename_i b a st hmx hst
    rw [hst] at hk
    cases hz : Nat.ble ((st.map ycat).sum) 8 with
    | false => rw [hz] at h; cases h
    | true =>
      rw [hz] at h
      obtain rfl := yone_inv h hc
      obtain ⟨m1, m2, m3, m4⟩ := hmm x 0 hmx
      have hcat := ycats hz ad
      obtain ⟨q1, q2⟩ := ymx_ok (hk _ (List.mem_cons_of_mem _ List.mem_cons_self) : yI a) (hk _ List.mem_cons_self : yI b)
      show W _ _ _ _ _ _ _ _ _ _ _ _ _ _ _ (F0 m C.1 ls (C.2.2.1.map (ycv ad)))
      rw [hst]
      refine va_mmax hx hb hls hown (hts _ m1) (hts _ m2) (hts _ m3) (hts _ m4) hroom.1 (by omega) (Nat.zero_le _) (Nat.zero_le _) hdg ?_
      rw [q1]
      exact hgo H locs ls (hR.st (List.forall_mem_cons.mpr ⟨q2, fun z hz => hk z (List.mem_cons_of_mem _ (List.mem_cons_of_mem _ hz))⟩))
  · rename_i b a st hmx hst
    rw [hst] at hk
    cases hz : Nat.ble ((st.map ycat).sum) 8 with
    | false => rw [hz] at h; cases h
    | true =>
      rw [hz] at h
      obtain rfl := yone_inv h hc
      obtain ⟨m1, m2, m3, m4⟩ := hmm x 1 hmx
      have hcat := ycats hz ad
      obtain ⟨q1, q2⟩ := ymn_ok (hk _ (List.mem_cons_of_mem _ List.mem_cons_self) : yI a) (hk _ List.mem_cons_self : yI b)
      show W _ _ _ _ _ _ _ _ _ _ _ _ _ _ _ (F0 m C.1 ls (C.2.2.1.map (ycv ad)))
      rw [hst]
      refine va_mmin hx hb hls hown (hts _ m1) (hts _ m2) (hts _ m3) (hts _ m4) hroom.1 (by omega) (Nat.zero_le _) (Nat.zero_le _) hdg ?_
      rw [q1]
      exact hgo H locs ls (hR.st (List.forall_mem_cons.mpr ⟨q2, fun z hz => hk z (List.mem_cons_of_mem _ (List.mem_cons_of_mem _ hz))⟩))
  · rename_i vn vd x1 vs x0 st hmx hst
    rw [hst] at hk
    have hs1 : sh[x1.2]? = some x1.1 := hk _ (List.mem_cons_of_mem _ (List.mem_cons_of_mem _ List.mem_cons_self))
    have hs0 : sh[x0.2]? = some x0.1 := hk _ (List.mem_cons_of_mem _ (List.mem_cons_of_mem _ (List.mem_cons_of_mem _ (List.mem_cons_of_mem _ List.mem_cons_self))))
    have hst' : ∀ z ∈ st, yokV sh z := fun z hz => hk z (List.mem_cons_of_mem _ (List.mem_cons_of_mem _ (List.mem_cons_of_mem _ (List.mem_cons_of_mem _ (List.mem_cons_of_mem _ hz)))))
    split at h
    · rename_i q0 q1 e0 e1
      rw [e0] at hs0
      rw [e1] at hs1
      cases hz : Nat.beq q0.1 0 && Nat.beq q1.1 0 && Nat.ble q0.2 2000000 && Nat.ble q1.2 2000000 && Nat.ble ((st.map ycat).sum) 8 with
      | false => rw [hz] at h; cases h
      | true =>
        rw [hz] at h
        simp only [Bool.and_eq_true] at hz
        obtain ⟨⟨⟨⟨z1, z2⟩, z3⟩, z4⟩, z5⟩ := hz
        obtain ⟨hg, rfl⟩ := yg_inv h hc
        simp only [Bool.and_eq_true] at hg
        obtain ⟨⟨⟨⟨w1, w2⟩, w3⟩, w4⟩, w5⟩ := hg
        have y1 := zle_ok w1
        have y2 := zle_ok w2
        have y3 := zle_ok w3
        have y4 := zle_ok w4
        have y5 := zle_ok w5
        have y6 := Nat.le_of_ble_eq_true z3
        have y7 := Nat.le_of_ble_eq_true z4
        have k0 := Nat.eq_of_beq_eq_true z1
        have k1 := Nat.eq_of_beq_eq_true z2
        have en := zq_of (z := vn) (by omega) (by omega)
        have ed := zq_of (z := vd) (by omega) (by omega)
        have es := zq_of (z := vs) (by omega) (by omega)
        have nonneg : ∀ {z : Int}, 0 ≤ z → (Int32.ofInt z).toInt = z → ¬ Int32.ofInt z < 0 := fun h1 h2 q => by
          rw [Int32.lt_iff_toInt_lt, h2] at q
          have : (0 : Int32).toInt = 0 := by decide +kernel
          omega
        have cn : (Int32.ofInt vn).toNatClampNeg = vn.toNat := by show (Int32.ofInt vn).toInt.toNat = _; rw [en]
        have cd : (Int32.ofInt vd).toNatClampNeg = vd.toNat := by show (Int32.ofInt vd).toInt.toNat = _; rw [ed]
        have cs : (Int32.ofInt vs).toNatClampNeg = vs.toNat := by show (Int32.ofInt vs).toInt.toNat = _; rw [es]
        obtain ⟨m1, m2, m3, m4⟩ := hmm x 2 hmx
        have hcat := ycats z5 ad
        have hget0 := yws_get (ct := ct) (kA := kA) (ad := ad) (σ := C.2.2.2) hs0
        have hget1 := yws_get (ct := ct) (kA := kA) (ad := ad) (σ := C.2.2.2) hs1
        have ew0 : yce ct kA ad C.2.2.2 x0.2 (.inr q0) = .inl (kA 0, q0.2, .inl (fun j => Int32.ofInt (C.2.2.2.1 x0.2 j))) := by
          unfold yce
          dsimp only
          rw [k0]
          rfl
        have ew1 : yce ct kA ad C.2.2.2 x1.2 (.inr q1) = .inl (kA 0, q1.2, .inl (fun j => Int32.ofInt (C.2.2.2.1 x1.2 j))) := by
          unfold yce
          dsimp only
          rw [k1]
          rfl
        rw [ew0] at hget0
        rw [ew1] at hget1
        have ews := yws_set (ct := ct) (kA := kA) (ad := ad) (σ := C.2.2.2) (σ' := ycp C.2.2.2 x0.2 x1.2 vs.toNat vd.toNat vn.toNat) hs1 (fun a ha k => if_neg (fun z => ha z.1)) (fun a ha k => rfl)
        have ew : yce ct kA ad (ycp C.2.2.2 x0.2 x1.2 vs.toNat vd.toNat vn.toNat) x1.2 (.inr q1) = .inl (kA 0, q1.2, .inl (va_cpy (fun j => Int32.ofInt (C.2.2.2.1 x0.2 j)) (fun j => Int32.ofInt (C.2.2.2.1 x1.2 j)) vs.toNat vd.toNat vn.toNat)) := by
          have ef : (fun j => Int32.ofInt ((ycp C.2.2.2 x0.2 x1.2 vs.toNat vd.toNat vn.toNat).1 x1.2 j)) = va_cpy (fun j => Int32.ofInt (C.2.2.2.1 x0.2 j)) (fun j => Int32.ofInt (C.2.2.2.1 x1.2 j)) vs.toNat vd.toNat vn.toNat := by
            funext j
            show Int32.ofInt (if x1.2 = x1.2 ∧ vd.toNat ≤ j ∧ j < vd.toNat + vn.toNat then C.2.2.2.1 x0.2 (vs.toNat + (j - vd.toNat)) else C.2.2.2.1 x1.2 j) = _
            unfold va_cpy
            by_cases hj : vd.toNat ≤ j ∧ j < vd.toNat + vn.toNat
            · rw [if_pos ⟨rfl, hj⟩, if_pos hj]
            · rw [if_neg (fun z => hj z.2), if_neg hj]
          unfold yce
          dsimp only
          rw [k1, ef]
          rfl
        rw [ew] at ews
        show W _ _ _ _ _ _ _ _ _ _ _ _ _ _ _ (F0 m C.1 ls (C.2.2.1.map (ycv ad)))
        rw [hst]
        refine va_copyi (ty := .int) hx hb hls hown (hts _ m1) (hts _ m2) (hts _ m3) (hts _ m4) hK hR.2.2.2.1 hR.2.2.2.2.1 hR.2.2.2.2.2.1 x0.2 x1.2 0 0 hget0 hget1 rfl rfl rfl (nonneg y3 es) (nonneg y2 ed) (nonneg y1 en) (by rw [cs, cn]; omega) (by rw [cd, cn]; omega) (fun _ _ => rfl) hroom.1 (by
          have e7 : nativeFrameWords "java/lang/System" "arraycopy" 5 = 7 := by decide +kernel
          rw [e7]
          omega) hdg (fun H1 locs1 hP1 hD1 hS1 => ?_)
        rw [cs, cd, cn, ← ews] at hP1 hD1
        exact hgo H1 locs1 ls ⟨yokS_cp hR.1 _ _ _ _ _, hR.2.1, hst', hP1, hD1, hS1, hR.2.2.2.2.2.2⟩
    · cases h
  · cases h
end YSD
