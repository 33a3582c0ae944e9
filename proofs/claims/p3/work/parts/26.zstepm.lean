section ZSM
variable {p : Program} {l : Launch} {e : Env} {R : Room} {s : State} {m : MethodId} {args : Array Value} {below : List Frame} {meth : Method} {c : Code} {Q : State → Prop} {cc : ByteArray} {D : va_G} {cl : List vw_C} {kA : Nat → ClassId} {A : Nat → Prop} {H0 : Heap} {nL K : Nat} {pins : List Nat} {r0 : Nat → Int} {ad0 : Nat → Nat} {N pc n : Nat} {S : zS} {ins : Instr} {L : List (Nat × zS)}
theorem zcats {st : List zA} (h : Nat.ble ((st.map zcat).sum) 8 = true) (r : Nat → Int) (ad : Nat → Nat) : ((st.map (zcv r ad)).map fun v => v.category).sum ≤ 8 := by
  rw [List.map_map, show ((fun v : Value => v.category) ∘ zcv r ad) = zcat from funext (zcat_ok r ad)]
  exact Nat.le_of_ble_eq_true h
set_option maxHeartbeats 4000000 in
theorem zstepM_ok (hx : p.tables.exec = Jvm.exec) (hb : c.code = cc) (hml : c.maxLocals = nL) (hK : va_K D cl (ztys kA) s) {own : String} {Ts : List Cond} (hown : s.vm.findClass own = some m.cls) (hts : ∀ w ∈ Ts, w.before args s = true) (hroom : 1 ≤ R.frames ∧ 64 ≤ R.locals) {mm : List (Nat × Nat)} (hmm : ∀ x t, zlk mm x = some t → zMM Ts own x t) {x : Nat}
    (hdg : decode cc pc = .ok (.invokestatic x, 3)) (h : zstepM mm K n S pc x = some L) (hgo : ∀ x ∈ L, zGo (zGW p l e R s m args below meth c 0 0 Q) D cl kA A H0 nL K pins r0 ad0 N x.1 x.2) : zGo (zGW p l e R s m args below meth c 0 0 Q) D cl kA A H0 nL K pins r0 ad0 N pc S := by
  intro r ad ph H locs ls hJ hR hN
  have hls : c.maxLocals = ls.size := hml.trans hR.2.2.2.2.2.2.1.symm
  unfold zstepM at h
  split at h
  · rename_i v2 v1 st hmx hst
    split at h
    · rename_i i j hi hj
      cases hz : zint i && zint j && Nat.ble ((st.map zcat).sum) 8 && zfr n K (zst S st) with
      | false => rw [hz] at h; cases h
      | true =>
        rw [hz] at h
        simp only [Bool.and_eq_true] at hz
        obtain ⟨⟨⟨z1, z2⟩, z3⟩, z4⟩ := hz
        cases h
        have bi := zrng_ok hR.1 hi
        have bj := zrng_ok hR.1 hj
        have ci := zint_ok z1 bi.1 bi.2
        have cj := zint_ok z2 bj.1 bj.2
        obtain ⟨m1, m2, m3, m4⟩ := hmm x 0 hmx
        have hcat := zcats z3 r ad
        show W _ _ _ _ _ _ _ _ _ _ _ _ _ _ _ (F0 m pc ls (S.2.2.2.1.map (zcv r ad)))
        rw [hst]
        refine va_mmax hx hb hls hown (hts _ m1) (hts _ m2) (hts _ m3) (hts _ m4) hroom.1 (by omega) (Nat.zero_le _) (Nat.zero_le _) hdg ?_
        refine zputI_go z4 (hgo _ List.mem_cons_self) hJ hR hN ?_
        have lt := zq_lt ci.1 ci.2 cj.1 cj.2
        by_cases hc : Int32.ofInt (zev r v1) < Int32.ofInt (zev r v2)
        · have q := lt.mp hc
          rw [if_pos hc]
          show _ ≤ _ ∧ _ ≤ _
          rw [zq_of cj.1 cj.2]
          exact ⟨zmax_le (by omega) bj.1, le_zmax_r bj.2⟩
        · have q : ¬ zev r v1 < zev r v2 := fun z => hc (lt.mpr z)
          rw [if_neg hc]
          show _ ≤ _ ∧ _ ≤ _
          rw [zq_of ci.1 ci.2]
          exact ⟨zmax_le bi.1 (by omega), le_zmax_l bi.2⟩
    · cases h
  · rename_i v2 v1 st hmx hst
    split at h
    · rename_i i j hi hj
      cases hz : zint i && zint j && Nat.ble ((st.map zcat).sum) 8 && zfr n K (zst S st) with
      | false => rw [hz] at h; cases h
      | true =>
        rw [hz] at h
        simp only [Bool.and_eq_true] at hz
        obtain ⟨⟨⟨z1, z2⟩, z3⟩, z4⟩ := hz
        cases h
        have bi := zrng_ok hR.1 hi
        have bj := zrng_ok hR.1 hj
        have ci := zint_ok z1 bi.1 bi.2
        have cj := zint_ok z2 bj.1 bj.2
        obtain ⟨m1, m2, m3, m4⟩ := hmm x 1 hmx
        have hcat := zcats z3 r ad
        show W _ _ _ _ _ _ _ _ _ _ _ _ _ _ _ (F0 m pc ls (S.2.2.2.1.map (zcv r ad)))
        rw [hst]
        refine va_mmin hx hb hls hown (hts _ m1) (hts _ m2) (hts _ m3) (hts _ m4) hroom.1 (by omega) (Nat.zero_le _) (Nat.zero_le _) hdg ?_
        refine zputI_go z4 (hgo _ List.mem_cons_self) hJ hR hN ?_
        have lt := zq_lt cj.1 cj.2 ci.1 ci.2
        by_cases hc : Int32.ofInt (zev r v2) < Int32.ofInt (zev r v1)
        · have q := lt.mp hc
          rw [if_pos hc]
          show _ ≤ _ ∧ _ ≤ _
          rw [zq_of cj.1 cj.2]
          exact ⟨zmin_r bj.1, zmin_le (by omega) bj.2⟩
        · have q : ¬ zev r v2 < zev r v1 := fun z => hc (lt.mpr z)
          rw [if_neg hc]
          show _ ≤ _ ∧ _ ≤ _
          rw [zq_of ci.1 ci.2]
          exact ⟨zmin_l bi.1, zmin_le bi.2 (by omega)⟩
    · cases h
  · rename_i vn vd i1 vs i0 st hmx hst
    split at h
    · rename_i bn bd bs q0 n0 gs0 mm0 q1 n1 gs1 mm1 hn hd hs hc0 hc1
      cases hz : zle 0 bn.1 && zle 0 bd.1 && zle 0 bs.1 && zle (bs.2 + bn.2) (n0 : Int) && zle (bd.2 + bn.2) (n1 : Int) && Nat.ble n0 2000000 && Nat.ble n1 2000000 && Nat.beq n0 (zlenG gs0) && Nat.ble ((st.map zcat).sum) 8 with
      | false => rw [hz] at h; cases h
      | true =>
        rw [hz] at h
        simp only [Bool.and_eq_true] at hz
        obtain ⟨⟨⟨⟨⟨⟨⟨⟨z1, z2⟩, z3⟩, z4⟩, z5⟩, z6⟩, z7⟩, z8⟩, z9⟩ := hz
        dsimp only [cond] at h
        split at h
        · rename_i i hrd
          split at h
          · rename_i gs' hwm
            cases h
            have y1 := zle_ok z1
            have y2 := zle_ok z2
            have y3 := zle_ok z3
            have y4 := zle_ok z4
            have y5 := zle_ok z5
            have y6 := Nat.le_of_ble_eq_true z6
            have y7 := Nat.le_of_ble_eq_true z7
            have y8 := Nat.eq_of_beq_eq_true z8
            have rn := zrng_ok hR.1 hn
            have rd := zrng_ok hR.1 hd
            have rs := zrng_ok hR.1 hs
            have en := zq_of (z := zev r vn) (by omega) (by omega)
            have ed := zq_of (z := zev r vd) (by omega) (by omega)
            have es := zq_of (z := zev r vs) (by omega) (by omega)
            have nonneg : ∀ {z : Int}, 0 ≤ z → (Int32.ofInt z).toInt = z → ¬ Int32.ofInt z < 0 := fun h1 h2 q => by
              rw [Int32.lt_iff_toInt_lt, h2] at q
              have : (0 : Int32).toInt = 0 := by decide +kernel
              omega
            have cn : (Int32.ofInt (zev r vn)).toNatClampNeg = (zev r vn).toNat := by show (Int32.ofInt (zev r vn)).toInt.toNat = _; rw [en]
            have cd : (Int32.ofInt (zev r vd)).toNatClampNeg = (zev r vd).toNat := by show (Int32.ofInt (zev r vd)).toInt.toNat = _; rw [ed]
            have cs : (Int32.ofInt (zev r vs)).toNatClampNeg = (zev r vs).toNat := by show (Int32.ofInt (zev r vs)).toInt.toNat = _; rw [es]
            have g0 := zcell_ok hc0
            have g1 := zcell_ok hc1
            have ok0 : zokG r (ph i0) 0 gs0 := (hR.2.2.1 _ (List.mem_of_getElem? g0)).1
            have ok1 : zokG r (ph i1) 0 gs1 := (hR.2.2.1 _ (List.mem_of_getElem? g1)).1
            obtain ⟨m1, m2, m3, m4⟩ := hmm x 2 hmx
            have hcat := zcats z9 r ad
            obtain ⟨f', hf'⟩ : ∃ f' : Nat → Int, f' = fun k => if (zev r vd).toNat ≤ k ∧ k < (zev r vd).toNat + (zev r vn).toNat then ph i0 ((zev r vs).toNat + (k - (zev r vd).toNat)) else ph i1 k := ⟨_, rfl⟩
            have hok' : zokG r f' 0 gs' := by
              refine zwm_ok hR.1 (f := ph i1) (f' := f') (fun j h1 h2 => ?_) (fun j hj => ?_) gs1 0 gs' ok1 hwm
              · by_cases hc : (zev r vd).toNat ≤ j ∧ j < (zev r vd).toNat + (zev r vn).toNat
                · right
                  rw [hf']
                  dsimp only
                  rw [if_pos hc]
                  obtain ⟨i', e', b1, b2⟩ := zrd_ok hR.1 gs0 0 _ ok0 hrd ((zev r vs).toNat + (j - (zev r vd).toNat)) (by omega) (by omega) (by omega) (by omega)
                  cases e'
                  exact ⟨b1, b2⟩
                · left
                  rw [hf']
                  exact if_neg hc
              · rw [hf']
                exact if_neg (by omega)
            obtain ⟨ph', hph'⟩ : ∃ ph' : Nat → Nat → Int, ph' = fun y => if y = i1 then f' else ph y := ⟨_, rfl⟩
            have hp1 : ∀ y, y ≠ i1 → ph' y = ph y := fun y hy => by rw [hph']; exact if_neg hy
            have hp2 : ph' i1 = f' := by rw [hph']; exact if_pos rfl
            have ews := zws_set (x' := .inr (.inl (0, n1, gs', []))) hR.2.2.2.2.1 g1 hp1
            have ef : zce kA r ad (ph' i1) (.inr (.inl (0, n1, gs', []))) = .inl (kA 0, n1, .inl (va_cpy (fun j => Int32.ofInt (ph i0 j)) (fun j => Int32.ofInt (ph i1 j)) (zev r vs).toNat (zev r vd).toNat (zev r vn).toNat)) := by
              rw [hp2, hf']
              show Sum.inl (kA 0, n1, Sum.inl _) = _
              congr 4
              funext j
              unfold va_cpy
              dsimp only
              split <;> rfl
            have hwok := zokW_set (x' := .inr (.inl (0, n1, gs', []))) hR.2.2.2.2.1 g1 hp1 hR.2.2.1 ⟨by rw [hp2]; exact hok', fun x hx => by cases hx⟩
            rw [ef] at ews
            show W _ _ _ _ _ _ _ _ _ _ _ _ _ _ _ (F0 m pc ls (S.2.2.2.1.map (zcv r ad)))
            rw [hst]
            refine va_copyi (ty := .int) hx hb hls hown (hts _ m1) (hts _ m2) (hts _ m3) (hts _ m4) hK hR.2.2.2.1 hR.2.2.2.2.1 hR.2.2.2.2.2.1 q0 q1 0 0 (zws_get kA r ad ph g0) (zws_get kA r ad ph g1) rfl rfl rfl (nonneg (by omega) es) (nonneg (by omega) ed) (nonneg (by omega) en) (by rw [cs, cn]; omega) (by rw [cd, cn]; omega) (fun _ _ => rfl) hroom.1 (by
              have e7 : nativeFrameWords "java/lang/System" "arraycopy" 5 = 7 := by decide +kernel
              rw [e7]
              omega) hdg (fun H1 locs1 hP1 hD1 hS1 => ?_)
            rw [cs, cd, cn, ← ews] at hP1 hD1
            exact hgo _ List.mem_cons_self r ad ph' H1 locs1 ls hJ ⟨hR.1, hR.2.1, hwok, hP1, hD1, hS1, hR.2.2.2.2.2.2⟩ hN
          · cases h
        · cases h
    · cases h
  · cases h
end ZSM
def ztab (S : zS) (st : List zA) (v : zV) (pc : Nat) : Int → List Int → List (Nat × zS)
  | _, [] => []
  | k, o :: os => (match zeqS S.1 S.2.1 v (0, k) with
    | none => []
    | some q => [(((pc : Int) + o).toNat, zse S q st)]) ++ ztab S st v pc (k + 1) os
def ztsw (S : zS) (pc : Nat) (d lo hi : Int) (offs : List Int) : Option (List (Nat × zS)) := match S.2.2.2.1 with
  | .inl (.inl v) :: st => match zrng S.1 v with
    | some i => bif zint i && zle 0 ((pc : Int) + d) && offs.all (fun o => zle 0 ((pc : Int) + o)) && decide (hi - lo + 1 = (offs.length : Int)) then some ((match zlekS S.1 S.2.1 v (0, lo) 1 with
      | none => []
      | some q => [(((pc : Int) + d).toNat, zse S q st)]) ++ (match zlekS S.1 S.2.1 (0, hi) v 1 with
      | none => []
      | some q => [(((pc : Int) + d).toNat, zse S q st)]) ++ ztab S st v pc lo offs) else none
    | none => none
  | _ => none
def zlks (S : zS) (st : List zA) (v : zV) (pc : Nat) : List (Int × Int) → List (Nat × zS)
  | [] => []
  | x :: xs => (match zeqS S.1 S.2.1 v (0, x.1) with
    | none => []
    | some q => [(((pc : Int) + x.2).toNat, zse S q st)]) ++ zlks S st v pc xs
def zlsw (S : zS) (pc : Nat) (d : Int) (ps : List (Int × Int)) : Option (List (Nat × zS)) := match S.2.2.2.1 with
  | .inl (.inl v) :: st => match zrng S.1 v with
    | some i => bif zint i && zle 0 ((pc : Int) + d) && ps.all (fun x => zle 0 ((pc : Int) + x.2)) && (ps.zip (ps.drop 1)).all (fun (a, next) => a.1 < next.1) then some ((((pc : Int) + d).toNat, zst S st) :: zlks S st v pc ps) else none
    | none => none
  | _ => none
section ZSW
variable {p : Program} {l : Launch} {e : Env} {R : Room} {s : State} {m : MethodId} {args : Array Value} {below : List Frame} {meth : Method} {c : Code} {Q : State → Prop} {cc : ByteArray} {D : va_G} {cl : List vw_C} {kA : Nat → ClassId} {A : Nat → Prop} {H0 : Heap} {nL K : Nat} {pins : List Nat} {r0 : Nat → Int} {ad0 : Nat → Nat} {N pc n : Nat} {S : zS} {L : List (Nat × zS)}
theorem ztab_mem {st : List zA} {v : zV} {r : Nat → Int} (hE : zokE r S.1) (hZ : zokZ r S.2.1) : ∀ (os : List Int) (k : Int) (j : Nat) (o : Int), os[j]? = some o → zev r v = k + j → ∃ q, (((pc : Int) + o).toNat, zse S q st) ∈ ztab S st v pc k os ∧ zokE r q.1 ∧ zokZ r q.2
  | [], _, j, i, h, _ => by simp at h
  | a :: is, k, 0, i, h, hv => by
    simp only [List.getElem?_cons_zero, Option.some.injEq] at h
    subst h
    obtain ⟨q, e1, o1, o2⟩ := zeqS_ok (v1 := v) (v2 := (0, k)) hE hZ (by rw [zconst hE.1]; omega)
    refine ⟨q, ?_, o1, o2⟩
    unfold ztab
    rw [e1]
    exact List.mem_append_left _ List.mem_cons_self
  | a :: is, k, j + 1, i, h, hv => by
    rw [List.getElem?_cons_succ] at h
    obtain ⟨q, m1, o1, o2⟩ := ztab_mem (st := st) (v := v) hE hZ is (k + 1) j i h (by omega)
    refine ⟨q, ?_, o1, o2⟩
    unfold ztab
    exact List.mem_append_right _ m1
theorem ztsw_ok (hx : p.tables.exec = Jvm.exec) (hb : c.code = cc) {d lo hi : Int} {offs : Array Int} {len : Nat} (hdg : decode cc pc = .ok (.tableswitch d lo hi offs, len)) (h : ztsw S pc d lo hi offs.toList = some L) (hgo : ∀ x ∈ L, zGo (zGW p l e R s m args below meth c 0 0 Q) D cl kA A H0 nL K pins r0 ad0 N x.1 x.2) : zGo (zGW p l e R s m args below meth c 0 0 Q) D cl kA A H0 nL K pins r0 ad0 N pc S := by
  intro r ad ph H locs ls hJ hR hN
  unfold ztsw at h
  split at h
  · rename_i v st hst
    split at h
    · rename_i i hri
      cases hz : zint i && zle 0 ((pc : Int) + d) && offs.toList.all (fun o => zle 0 ((pc : Int) + o)) && decide (hi - lo + 1 = (offs.toList.length : Int)) with
      | false => rw [hz] at h; cases h
      | true =>
        rw [hz] at h
        simp only [Bool.and_eq_true] at hz
        obtain ⟨⟨⟨z1, z2⟩, z3⟩, z4⟩ := hz
        cases h
        have b := zrng_ok hR.1 hri
        have ci := zint_ok z1 b.1 b.2
        have ev := zq_of ci.1 ci.2
        have y2 := zle_ok z2
        have y4 : hi - lo + 1 = (offs.toList.length : Int) := of_decide_eq_true z4
        show W _ _ _ _ _ _ _ _ _ _ _ _ _ _ _ (F0 m pc ls (S.2.2.2.1.map (zcv r ad)))
        rw [hst]
        by_cases c1 : zev r v < lo
        · obtain ⟨q, e1, o1, o2⟩ := zlekS_ok (v1 := v) (v2 := (0, lo)) (k := 1) hR.1 hR.2.1 (by rw [zconst hR.1.1]; omega)
          exact lv_tableOut (tgt := ((pc : Int) + d).toNat) hx hb hdg (by rw [ev]; exact Or.inl c1) (by omega) (hgo (((pc : Int) + d).toNat, zse S q st) (by rw [e1]; exact List.mem_append_left _ (List.mem_append_left _ List.mem_cons_self)) r ad ph H locs ls hJ ⟨o1, o2, hR.2.2⟩ hN)
        · by_cases c2 : hi < zev r v
          · obtain ⟨q, e1, o1, o2⟩ := zlekS_ok (v1 := (0, hi)) (v2 := v) (k := 1) hR.1 hR.2.1 (by rw [zconst hR.1.1]; omega)
            exact lv_tableOut (tgt := ((pc : Int) + d).toNat) hx hb hdg (by rw [ev]; exact Or.inr c2) (by omega) (hgo (((pc : Int) + d).toNat, zse S q st) (by rw [e1]; exact List.mem_append_left _ (List.mem_append_right _ List.mem_cons_self)) r ad ph H locs ls hJ ⟨o1, o2, hR.2.2⟩ hN)
          · have hlt : (zev r v - lo).toNat < offs.toList.length := by omega
            have hget : offs.toList[(zev r v - lo).toNat]? = some offs.toList[(zev r v - lo).toNat] := List.getElem?_eq_getElem hlt
            have y3 := zle_ok (List.all_eq_true.mp z3 _ (List.mem_of_getElem? hget))
            obtain ⟨q, m1, o1, o2⟩ := ztab_mem (st := st) (v := v) (pc := pc) hR.1 hR.2.1 offs.toList lo (zev r v - lo).toNat _ hget (by omega)
            exact lv_tableIn (tgt := ((pc : Int) + offs.toList[(zev r v - lo).toNat]).toNat) hx hb hdg (by rw [ev]; exact c1) (by rw [ev]; exact c2) (by rw [ev, ← Array.getElem?_toList]; exact hget) (by omega) (hgo _ (List.mem_append_right _ m1) r ad ph H locs ls hJ ⟨o1, o2, hR.2.2⟩ hN)
    · cases h
  · cases h
theorem zlks_mem {st : List zA} {v : zV} {r : Nat → Int} (hE : zokE r S.1) (hZ : zokZ r S.2.1) (d : Int) : ∀ (ps : List (Int × Int)), Op.lookupswitch.offset ps d (zev r v) = d ∨ ∃ x ∈ ps, Op.lookupswitch.offset ps d (zev r v) = x.2 ∧ ∃ q, (((pc : Int) + x.2).toNat, zse S q st) ∈ zlks S st v pc ps ∧ zokE r q.1 ∧ zokZ r q.2
  | [] => Or.inl rfl
  | (a, o) :: ps => by
    rw [Op.lookupswitch.offset_cons]
    by_cases h : a = zev r v
    · rw [if_pos h]
      obtain ⟨q, e1, o1, o2⟩ := zeqS_ok (v1 := v) (v2 := (0, a)) hE hZ (by rw [zconst hE.1]; exact h.symm)
      refine Or.inr ⟨(a, o), List.mem_cons_self, rfl, q, ?_, o1, o2⟩
      unfold zlks
      rw [e1]
      exact List.mem_append_left _ List.mem_cons_self
    · rw [if_neg h]
      rcases zlks_mem (st := st) (v := v) hE hZ d ps with q | ⟨x, hx, e1, q, m1, o1, o2⟩
      · exact Or.inl q
      · refine Or.inr ⟨x, List.mem_cons_of_mem _ hx, e1, q, ?_, o1, o2⟩
        unfold zlks
        exact List.mem_append_right _ m1
theorem zlsw_ok (hx : p.tables.exec = Jvm.exec) (hb : c.code = cc) {d : Int} {ps : Array (Int × Int)} {len : Nat} (hdg : decode cc pc = .ok (.lookupswitch d ps, len)) (h : zlsw S pc d ps.toList = some L) (hgo : ∀ x ∈ L, zGo (zGW p l e R s m args below meth c 0 0 Q) D cl kA A H0 nL K pins r0 ad0 N x.1 x.2) : zGo (zGW p l e R s m args below meth c 0 0 Q) D cl kA A H0 nL K pins r0 ad0 N pc S := by
  intro r ad ph H locs ls hJ hR hN
  unfold zlsw at h
  split at h
  · rename_i v st hst
    split at h
    · rename_i i hi
      cases hz : zint i && zle 0 ((pc : Int) + d) && ps.toList.all (fun x => zle 0 ((pc : Int) + x.2)) && (ps.toList.zip (ps.toList.drop 1)).all (fun (a, next) => a.1 < next.1) with
      | false => rw [hz] at h; cases h
      | true =>
        rw [hz] at h
        simp only [Bool.and_eq_true] at hz
        obtain ⟨⟨⟨z1, z2⟩, z3⟩, z4⟩ := hz
        cases h
        have b := zrng_ok hR.1 hi
        have ci := zint_ok z1 b.1 b.2
        have ev := zq_of ci.1 ci.2
        have y2 := zle_ok z2
        show W _ _ _ _ _ _ _ _ _ _ _ _ _ _ _ (F0 m pc ls (S.2.2.2.1.map (zcv r ad)))
        rw [hst]
        rcases zlks_mem (st := st) (v := v) (pc := pc) hR.1 hR.2.1 d ps.toList with q | ⟨x, hx1, e1, q, m1, o1, o2⟩
        · exact lv_lookup (off := d) (tgt := ((pc : Int) + d).toNat) hx hb hdg z4 (by rw [ev]; exact q) (by omega) (hgo _ List.mem_cons_self r ad ph H locs ls hJ hR hN)
        · have y3 := zle_ok (List.all_eq_true.mp z3 x hx1)
          exact lv_lookup (off := x.2) (tgt := ((pc : Int) + x.2).toNat) hx hb hdg z4 (by rw [ev]; exact e1) (by omega) (hgo _ (List.mem_cons_of_mem _ m1) r ad ph H locs ls hJ ⟨o1, o2, hR.2.2⟩ hN)
    · cases h
  · cases h
end ZSW
