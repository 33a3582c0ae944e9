theorem ynz_ok {b : Int} (h : ynz b = true) : b < 0 ∨ 0 < b := by
  simp only [ynz, Bool.or_eq_true] at h
  rcases h with h | h
  · have := zle_ok h; omega
  · have := zle_ok h; omega
theorem yin_ok {v : Int} {n : Nat} (h : yin v n = true) : 0 ≤ v ∧ v + 1 ≤ n := by
  simp only [yin, Bool.and_eq_true] at h
  exact ⟨zle_ok h.1, zle_ok h.2⟩
theorem yb1_ok {v : Int} (h : yb1 v = true) : 0 ≤ v ∧ v ≤ 1 := by
  simp only [yb1, Bool.and_eq_true] at h
  exact ⟨zle_ok h.1, zle_ok h.2⟩
section YSB
variable {p : Program} {l : Launch} {e : Env} {R : Room} {s : State} {m : MethodId} {args : Array Value} {below : List Frame} {meth : Method} {c : Code} {cells slots : Nat} {Q : State → Prop} {cc : ByteArray} {D : va_G} {cl : List vw_C} {ct : yCt} {kA : Nat → ClassId} {A : Nat → Prop} {H0 : Heap} {nL : Nat} {sh : List yH} {ad : Nat → Nat} {C C' : yC} {ins : Instr} {r : yT}
theorem ybi_W {pc : Nat} {ls : Array Slot} {H : Heap} {locs : List Loc} {rest : List Value} (hx : p.tables.exec = Jvm.exec) (hb : c.code = cc) (hdg : decode cc pc = .ok (ins, 1)) {a b : Int} {q : Bool × Int} (h : ybi ins a b = some q) (hq : q.1 = true) (hbI : yI b)
    (k : yI q.2 → W p l e R s m args below meth c H locs cells slots Q (F0 m (pc + 1) ls (.int (Int32.ofInt q.2) :: rest))) : W p l e R s m args below meth c H locs cells slots Q (F0 m pc ls (.int (Int32.ofInt b) :: .int (Int32.ofInt a) :: rest)) := by
  have key : ∀ z : Int32, W p l e R s m args below meth c H locs cells slots Q (F0 m (pc + 1) ls (.int (Int32.ofInt z.toInt) :: rest)) → W p l e R s m args below meth c H locs cells slots Q (F0 m (pc + 1) ls (.int z :: rest)) := fun z hz => by
    rw [Int32.ofInt_toInt] at hz
    exact hz
  unfold ybi at h
  split at h
  · cases h; exact lv_iadd hx hb hdg (key _ (k (y32_I _)))
  · cases h; exact lv_isub hx hb hdg (key _ (k (y32_I _)))
  · cases h; exact lv_imul hx hb hdg (key _ (k (y32_I _)))
  · cases h; exact lv_iand hx hb hdg (key _ (k (y32_I _)))
  · cases h; exact lv_ior hx hb hdg (key _ (k (y32_I _)))
  · cases h; exact lv_ixor hx hb hdg (key _ (k (y32_I _)))
  · cases h; exact lv_ishl hx hb hdg (key _ (k (y32_I _)))
  · cases h; exact lv_ishr hx hb hdg (key _ (k (y32_I _)))
  · cases h; exact lv_iushr hx hb hdg rfl (key _ (k (y32_I _)))
  · cases h; exact lv_idiv hx hb hdg (zq_ne hbI.1 hbI.2 (ynz_ok hq)) (key _ (k (y32_I _)))
  · cases h; exact lv_irem hx hb hdg (zq_ne hbI.1 hbI.2 (ynz_ok hq)) (key _ (k (y32_I _)))
  · cases h
theorem ybiL_W {pc : Nat} {ls : Array Slot} {H : Heap} {locs : List Loc} {rest : List Value} (hx : p.tables.exec = Jvm.exec) (hb : c.code = cc) (hdg : decode cc pc = .ok (ins, 1)) {a b : Int} {q : Bool × Int} (h : ybiL ins a b = some q) (hq : q.1 = true) (hbI : yL b)
    (k : yL q.2 → W p l e R s m args below meth c H locs cells slots Q (F0 m (pc + 1) ls (.long (Int64.ofInt q.2) :: rest))) : W p l e R s m args below meth c H locs cells slots Q (F0 m pc ls (.long (Int64.ofInt b) :: .long (Int64.ofInt a) :: rest)) := by
  have key : ∀ z : Int64, W p l e R s m args below meth c H locs cells slots Q (F0 m (pc + 1) ls (.long (Int64.ofInt z.toInt) :: rest)) → W p l e R s m args below meth c H locs cells slots Q (F0 m (pc + 1) ls (.long z :: rest)) := fun z hz => by
    rw [Int64.ofInt_toInt] at hz
    exact hz
  unfold ybiL at h
  split at h
  · cases h; exact lv_ladd hx hb hdg (key _ (k (y64_L _)))
  · cases h; exact lv_lmul hx hb hdg (key _ (k (y64_L _)))
  · cases h; exact lv_ldiv hx hb hdg (zq_neL hbI.1 hbI.2 (ynz_ok hq)) (key _ (k (y64_L _)))
  · cases h; exact lv_lrem hx hb hdg (zq_neL hbI.1 hbI.2 (ynz_ok hq)) (key _ (k (y64_L _)))
  · cases h
theorem ystepB_ok (hx : p.tables.exec = Jvm.exec) (hb : c.code = cc) (hdg : decode cc C.1 = .ok (ins, 1)) (h : ystepB C ins = some r) (hc : ynext r = some C') (hgo : yGo (zGW p l e R s m args below meth c cells slots Q) D cl ct kA A H0 nL sh ad C') : yGo (zGW p l e R s m args below meth c cells slots Q) D cl ct kA A H0 nL sh ad C := by
  intro H locs ls hR
  have hk := hR.2.2.1
  unfold ystepB at h
  split at h
  · rename_i b a st hst
    rw [hst] at hk
    split at h
    · rename_i g z hq
      obtain ⟨g1, rfl⟩ := yg_inv h hc
      show W _ _ _ _ _ _ _ _ _ _ _ _ _ _ _ (F0 m C.1 ls (C.2.2.1.map (ycv ad)))
      rw [hst]
      exact ybi_W (q := (g, z)) hx hb hdg hq g1 (hk _ List.mem_cons_self) (fun hz => hgo H locs ls (hR.st (List.forall_mem_cons.mpr ⟨hz, fun x hx => hk x (List.mem_cons_of_mem _ (List.mem_cons_of_mem _ hx))⟩)))
    · cases h
  · rename_i b a st hst
    rw [hst] at hk
    split at h
    · rename_i g z hq
      obtain ⟨g1, rfl⟩ := yg_inv h hc
      show W _ _ _ _ _ _ _ _ _ _ _ _ _ _ _ (F0 m C.1 ls (C.2.2.1.map (ycv ad)))
      rw [hst]
      exact ybiL_W (q := (g, z)) hx hb hdg hq g1 (hk _ List.mem_cons_self) (fun hz => hgo H locs ls (hR.st (List.forall_mem_cons.mpr ⟨hz, fun x hx => hk x (List.mem_cons_of_mem _ (List.mem_cons_of_mem _ hx))⟩)))
    · cases h
  · cases h
theorem ystepU_ok (hx : p.tables.exec = Jvm.exec) (hb : c.code = cc) (hdg : decode cc C.1 = .ok (ins, 1)) (h : ystepU C ins = some r) (hc : ynext r = some C') (hgo : yGo (zGW p l e R s m args below meth c cells slots Q) D cl ct kA A H0 nL sh ad C') : yGo (zGW p l e R s m args below meth c cells slots Q) D cl ct kA A H0 nL sh ad C := by
  intro H locs ls hR
  have hk := hR.2.2.1
  unfold ystepU at h
  split at h
  · rename_i a st hst
    rw [hst] at hk
    have key : ∀ z : Int32, W p l e R s m args below meth c H locs cells slots Q (F0 m (C.1 + 1) ls (.int (Int32.ofInt z.toInt) :: st.map (ycv ad))) → W p l e R s m args below meth c H locs cells slots Q (F0 m (C.1 + 1) ls (.int z :: st.map (ycv ad))) := fun z hz => by
      rw [Int32.ofInt_toInt] at hz
      exact hz
    split at h
    · rename_i z hq
      obtain rfl := yone_inv h hc
      have g : yI z → W p l e R s m args below meth c H locs cells slots Q (F0 m (C.1 + 1) ls (.int (Int32.ofInt z) :: st.map (ycv ad))) := fun hz => hgo H locs ls (hR.st (List.forall_mem_cons.mpr ⟨hz, fun x hx => hk x (List.mem_cons_of_mem _ hx)⟩))
      show W _ _ _ _ _ _ _ _ _ _ _ _ _ _ _ (F0 m C.1 ls (C.2.2.1.map (ycv ad)))
      rw [hst]
      unfold yun at hq
      split at hq
      · cases hq; exact lv_ineg hx hb hdg (key _ (g (y32_I _)))
      · cases hq; exact lv_i2b hx hb hdg rfl (key _ (g (y32_I _)))
      · cases hq; exact lv_i2s hx hb hdg rfl (key _ (g (y32_I _)))
      · cases hq
    · cases h
  · cases h
theorem ystepC_ok (hx : p.tables.exec = Jvm.exec) (hb : c.code = cc) {nxt : Option Instr} (hdg : decode cc C.1 = .ok (ins, zlen ins)) (hnx : ∀ i, nxt = some i → decode cc (C.1 + 1) = .ok (i, zlen i)) (h : ystepC C ins nxt = some r) (hc : ynext r = some C') (hgo : yGo (zGW p l e R s m args below meth c cells slots Q) D cl ct kA A H0 nL sh ad C') : yGo (zGW p l e R s m args below meth c cells slots Q) D cl ct kA A H0 nL sh ad C := by
  intro H locs ls hR
  have hk := hR.2.2.1
  unfold ystepC at h
  split at h
  · rename_i cd o
    split at h
    · rename_i b a st hst
      rw [hst] at hk
      cases hz : zle 0 ((C.1 : Int) + o) with
      | false => rw [hz] at h; cases h
      | true =>
        rw [hz] at h
        obtain ⟨k1, k2⟩ := yb_inv h hc
        have q := zle_ok hz
        have hbI : yI b := hk _ List.mem_cons_self
        have haI : yI a := hk _ (List.mem_cons_of_mem _ List.mem_cons_self)
        have hst' : ∀ x ∈ st, yokV sh x := fun x hx => hk x (List.mem_cons_of_mem _ (List.mem_cons_of_mem _ hx))
        show W _ _ _ _ _ _ _ _ _ _ _ _ _ _ _ (F0 m C.1 ls (C.2.2.1.map (ycv ad)))
        rw [hst]
        refine zicmp_W (tgt := ((C.1 : Int) + o).toNat) hx hb hdg (by omega) haI.1 haI.2 hbI.1 hbI.2 (fun hcd => ?_) (fun hcd => ?_)
        · obtain rfl := k1 (ycP_t hcd)
          exact hgo H locs ls (hR.st hst')
        · obtain rfl := k2 (ycP_f hcd)
          exact hgo H locs ls (hR.st hst')
    · cases h
  · rename_i cd o
    split at h
    · rename_i a st hst
      rw [hst] at hk
      cases hz : zle 0 ((C.1 : Int) + o) with
      | false => rw [hz] at h; cases h
      | true =>
        rw [hz] at h
        obtain ⟨k1, k2⟩ := yb_inv h hc
        have q := zle_ok hz
        have haI : yI a := hk _ List.mem_cons_self
        have hst' : ∀ x ∈ st, yokV sh x := fun x hx => hk x (List.mem_cons_of_mem _ hx)
        show W _ _ _ _ _ _ _ _ _ _ _ _ _ _ _ (F0 m C.1 ls (C.2.2.1.map (ycv ad)))
        rw [hst]
        refine zif_W (tgt := ((C.1 : Int) + o).toNat) hx hb hdg (by omega) haI.1 haI.2 (fun hcd => ?_) (fun hcd => ?_)
        · obtain rfl := k1 (ycP_t hcd)
          exact hgo H locs ls (hR.st hst')
        · obtain rfl := k2 (ycP_f hcd)
          exact hgo H locs ls (hR.st hst')
    · cases h
  · split at h
    · rename_i cd o
      split at h
      · rename_i b a st hst
        rw [hst] at hk
        cases hz : zle 0 (((C.1 + 1 : Nat) : Int) + o) with
        | false => rw [hz] at h; cases h
        | true =>
          rw [hz] at h
          obtain ⟨k1, k2⟩ := yb_inv h hc
          have q := zle_ok hz
          have hbI : yL b := hk _ List.mem_cons_self
          have haI : yL a := hk _ (List.mem_cons_of_mem _ List.mem_cons_self)
          have hst' : ∀ x ∈ st, yokV sh x := fun x hx => hk x (List.mem_cons_of_mem _ (List.mem_cons_of_mem _ hx))
          show W _ _ _ _ _ _ _ _ _ _ _ _ _ _ _ (F0 m C.1 ls (C.2.2.1.map (ycv ad)))
          rw [hst]
          refine W.lcmp hx hb hdg ?_
          obtain ⟨k, hk0, kk1, kk2, k3⟩ := zlg_cmp (Int64.ofInt a) (Int64.ofInt b)
          rw [zq_ofL haI.1 haI.2, zq_ofL hbI.1 hbI.2] at k3
          rw [hk0]
          refine zif_W (tgt := (((C.1 + 1 : Nat) : Int) + o).toNat) hx hb (hnx _ rfl) (by omega) (by omega) (by omega) (fun hcd => ?_) (fun hcd => ?_)
          · obtain rfl := k1 (ycP_t ((k3 cd).mp hcd))
            exact hgo H locs ls (hR.st hst')
          · obtain rfl := k2 (ycP_f (fun z => hcd ((k3 cd).mpr z)))
            exact hgo H locs ls (hR.st hst')
      · cases h
    · cases h
  · cases h
theorem yald_ok (hx : p.tables.exec = Jvm.exec) (hb : c.code = cc) (hK : va_K D cl (ztys kA) s) {kd : Nat} (hkd : (kd = 0 ∧ decode cc C.1 = .ok (.iaload, 1)) ∨ (kd = 1 ∧ decode cc C.1 = .ok (.baload, 1))) (h : yald kd C = some r) (hc : ynext r = some C') (hgo : yGo (zGW p l e R s m args below meth c cells slots Q) D cl ct kA A H0 nL sh ad C') : yGo (zGW p l e R s m args below meth c cells slots Q) D cl ct kA A H0 nL sh ad C := by
  intro H locs ls hR
  have hk := hR.2.2.1
  unfold yald at h
  split at h
  · rename_i v x st hst
    rw [hst] at hk
    split at h
    · rename_i q hq
      cases hz : Nat.beq q.1 kd && Nat.ble q.2 2000000 with
      | false => rw [hz] at h; cases h
      | true =>
        rw [hz] at h
        simp only [Bool.and_eq_true] at hz
        obtain ⟨g1, rfl⟩ := yg_inv h hc
        obtain ⟨i1, i2⟩ := yin_ok g1
        have y5 := Nat.le_of_ble_eq_true hz.2
        have ek := Nat.eq_of_beq_eq_true hz.1
        obtain ⟨j1, j2⟩ := zq_idx (k := v) (m := q.2) i1 i2 y5
        have hsh : sh[x.2]? = some x.1 := hk _ (List.mem_cons_of_mem _ List.mem_cons_self)
        rw [hq] at hsh
        have hget := yws_get (ct := ct) (kA := kA) (ad := ad) (σ := C.2.2.2) hsh
        have g : W p l e R s m args below meth c H locs cells slots Q (F0 m (C.1 + 1) ls (.int (Int32.ofInt (C.2.2.2.1 x.2 v.toNat)) :: st.map (ycv ad))) := hgo H locs ls (hR.st (List.forall_mem_cons.mpr ⟨hR.1.1 _ _, fun y hy => hk y (List.mem_cons_of_mem _ (List.mem_cons_of_mem _ hy))⟩))
        show W _ _ _ _ _ _ _ _ _ _ _ _ _ _ _ (F0 m C.1 ls (C.2.2.1.map (ycv ad)))
        rw [hst]
        rcases hkd with ⟨rfl, hdg⟩ | ⟨rfl, hdg⟩
        · have ew : yce ct kA ad C.2.2.2 x.2 (.inr q) = .inl (kA 0, q.2, .inl (fun j => Int32.ofInt (C.2.2.2.1 x.2 j))) := by
            unfold yce
            dsimp only
            rw [ek]
            rfl
          rw [ew] at hget
          refine va_iald hx hb hK hR.2.2.2.1 x.2 0 hget rfl j1 hdg ?_
          rw [j2]
          exact g
        · have ew : yce ct kA ad C.2.2.2 x.2 (.inr q) = .inl (kA 1, q.2, .inl (fun j => Int32.ofInt (C.2.2.2.1 x.2 j))) := by
            unfold yce
            dsimp only
            rw [ek]
            rfl
          rw [ew] at hget
          refine va_zald hx hb hK hR.2.2.2.1 x.2 1 hget rfl j1 hdg ?_
          rw [j2]
          exact g
    · cases h
  · cases h
theorem yast_ok (hx : p.tables.exec = Jvm.exec) (hb : c.code = cc) (hK : va_K D cl (ztys kA) s) {kd : Nat} (hkd : (kd = 0 ∧ decode cc C.1 = .ok (.iastore, 1)) ∨ (kd = 1 ∧ decode cc C.1 = .ok (.bastore, 1))) (h : yast kd C = some r) (hc : ynext r = some C') (hgo : yGo (zGW p l e R s m args below meth c cells slots Q) D cl ct kA A H0 nL sh ad C') : yGo (zGW p l e R s m args below meth c cells slots Q) D cl ct kA A H0 nL sh ad C := by
  intro H locs ls hR
  have hk := hR.2.2.1
  unfold yast at h
  split at h
  · rename_i u v x st hst
    rw [hst] at hk
    split at h
    · rename_i q hq
      cases hz : Nat.beq q.1 kd && Nat.ble q.2 2000000 with
      | false => rw [hz] at h; cases h
      | true =>
        rw [hz] at h
        simp only [Bool.and_eq_true] at hz
        obtain ⟨g1, rfl⟩ := yg_inv h hc
        have gy : yin v q.2 = true ∧ (kd = 0 ∨ yb1 u = true) := by
          cases hk0 : Nat.beq kd 0 with
          | true =>
            rw [hk0] at g1
            exact ⟨g1, Or.inl (Nat.eq_of_beq_eq_true hk0)⟩
          | false =>
            rw [hk0] at g1
            have g1 : (yin v q.2 && yb1 u) = true := g1
            rw [Bool.and_eq_true] at g1
            exact ⟨g1.1, Or.inr g1.2⟩
        obtain ⟨i1, i2⟩ := yin_ok gy.1
        have y5 := Nat.le_of_ble_eq_true hz.2
        have ek := Nat.eq_of_beq_eq_true hz.1
        obtain ⟨j1, j2⟩ := zq_idx (k := v) (m := q.2) i1 i2 y5
        have hsh : sh[x.2]? = some x.1 := hk _ (List.mem_cons_of_mem _ (List.mem_cons_of_mem _ List.mem_cons_self))
        have huI : yI u := hk _ List.mem_cons_self
        rw [hq] at hsh
        have hget := yws_get (ct := ct) (kA := kA) (ad := ad) (σ := C.2.2.2) hsh
        have ews := yws_set (ct := ct) (kA := kA) (ad := ad) (σ := C.2.2.2) (σ' := yw C.2.2.2 x.2 v.toNat u) hsh (fun a ha k => if_neg (fun z => ha z.2)) (fun a ha k => rfl)
        have fin : ∀ (H1 : Heap) (locs1 : List Loc), va_P D cl (yws ct kA ad sh (yw C.2.2.2 x.2 v.toNat u)) H1 → va_D A (yws ct kA ad sh (yw C.2.2.2 x.2 v.toNat u)) → va_S A H0 H1 locs1 → W p l e R s m args below meth c H1 locs1 cells slots Q (F0 m (C.1 + 1) ls (st.map (ycv ad))) := fun H1 locs1 hP1 hD1 hS1 => hgo H1 locs1 ls ⟨yokS_w hR.1 _ _ huI, hR.2.1, fun y hy => hk y (List.mem_cons_of_mem _ (List.mem_cons_of_mem _ (List.mem_cons_of_mem _ hy))), hP1, hD1, hS1, hR.2.2.2.2.2.2⟩
        have eu : (fun j => Int32.ofInt ((yw C.2.2.2 x.2 v.toNat u).1 x.2 j)) = upd (fun j => Int32.ofInt (C.2.2.2.1 x.2 j)) v.toNat (Int32.ofInt u) := by
          funext j
          show Int32.ofInt (if j = v.toNat ∧ x.2 = x.2 then u else C.2.2.2.1 x.2 j) = upd (fun j => Int32.ofInt (C.2.2.2.1 x.2 j)) v.toNat (Int32.ofInt u) j
          unfold upd
          by_cases hj : j = v.toNat
          · rw [if_pos ⟨hj, rfl⟩, if_pos hj]
          · rw [if_neg (fun z => hj z.1), if_neg hj]
        show W _ _ _ _ _ _ _ _ _ _ _ _ _ _ _ (F0 m C.1 ls (C.2.2.1.map (ycv ad)))
        rw [hst]
        rcases hkd with ⟨rfl, hdg⟩ | ⟨rfl, hdg⟩
        · have ew : yce ct kA ad C.2.2.2 x.2 (.inr q) = .inl (kA 0, q.2, .inl (fun j => Int32.ofInt (C.2.2.2.1 x.2 j))) := by
            unfold yce
            dsimp only
            rw [ek]
            rfl
          have ew2 : yce ct kA ad (yw C.2.2.2 x.2 v.toNat u) x.2 (.inr q) = .inl (kA 0, q.2, .inl (upd (fun j => Int32.ofInt (C.2.2.2.1 x.2 j)) v.toNat (Int32.ofInt u))) := by
            unfold yce
            dsimp only
            rw [ek, eu]
            rfl
          rw [ew] at hget
          rw [ew2] at ews
          refine va_iast hx hb hK hR.2.2.2.1 hR.2.2.2.2.1 hR.2.2.2.2.2.1 x.2 0 hget rfl j1 hdg (fun H1 locs1 hP1 hD1 hS1 => ?_)
          rw [j2, ← ews] at hP1 hD1
          exact fin H1 locs1 hP1 hD1 hS1
        · have ew : yce ct kA ad C.2.2.2 x.2 (.inr q) = .inl (kA 1, q.2, .inl (fun j => Int32.ofInt (C.2.2.2.1 x.2 j))) := by
            unfold yce
            dsimp only
            rw [ek]
            rfl
          have ew2 : yce ct kA ad (yw C.2.2.2 x.2 v.toNat u) x.2 (.inr q) = .inl (kA 1, q.2, .inl (upd (fun j => Int32.ofInt (C.2.2.2.1 x.2 j)) v.toNat (Int32.ofInt u))) := by
            unfold yce
            dsimp only
            rw [ek, eu]
            rfl
          rw [ew] at hget
          rw [ew2] at ews
          have hu : 0 ≤ u ∧ u ≤ 1 := by
            rcases gy.2 with z | z
            · cases z
            · exact yb1_ok z
          have en : vp_nar .boolean (Int32.ofInt u) = Int32.ofInt u := by
            unfold vp_nar
            rw [(znar_bool (k := u) hu.1 hu.2).1]
          refine va_zast hx hb hK hR.2.2.2.1 hR.2.2.2.2.1 hR.2.2.2.2.2.1 x.2 1 hget rfl j1 hdg (fun H1 locs1 hP1 hD1 hS1 => ?_)
          rw [j2, en, ← ews] at hP1 hD1
          exact fin H1 locs1 hP1 hD1 hS1
    · cases h
  · cases h
end YSB
