def zcell (w : zW) (i : Nat) : Option (Nat × zC) := match zpos w i with
  | some q => match w[q]? with
    | some y => bif Nat.beq y.1 i then some (q, y.2) else none
    | none => none
  | none => none
theorem zcell_ok {w : zW} {i q : Nat} {x : zC} (h : zcell w i = some (q, x)) : w[q]? = some (i, x) := by
  unfold zcell at h
  split at h
  · rename_i k hk
    split at h
    · rename_i y hy
      cases hb : Nat.beq y.1 i with
      | false => rw [hb] at h; cases h
      | true =>
        rw [hb] at h
        cases h
        rw [hy, ← Nat.eq_of_beq_eq_true hb]
    · cases h
  · cases h
def zmlk (v : zV) : zM → Option zV
  | [] => none
  | x :: xs => bif Nat.beq x.1.1 v.1 && zle x.1.2 v.2 && zle v.2 x.1.2 then some x.2 else zmlk v xs
theorem zmlk_ok {r : Nat → Int} {f : Nat → Int} {v u : zV} : ∀ {mm : zM}, zokM r f mm → zmlk v mm = some u → f (zev r v).toNat = zev r u
  | [], _, h => by cases h
  | x :: xs, hk, h => by
    unfold zmlk at h
    cases hb : Nat.beq x.1.1 v.1 && zle x.1.2 v.2 && zle v.2 x.1.2 with
    | true =>
      rw [hb] at h
      cases h
      simp only [Bool.and_eq_true] at hb
      have a := Nat.eq_of_beq_eq_true hb.1.1
      have b := zle_ok hb.1.2
      have c := zle_ok hb.2
      have e : zev r v = zev r x.1 := by unfold zev; rw [a]; omega
      rw [e]
      exact hk x List.mem_cons_self
    | false =>
      rw [hb] at h
      exact zmlk_ok (fun y hy => hk y (List.mem_cons_of_mem _ hy)) h
def zald (kd K n : Nat) (S : zS) (pc : Nat) : Option (List (Nat × zS)) := match S.2.2.2.1 with
  | .inl (.inl v) :: .inr (some i) :: st => match zcell S.2.2.2.2.1 i, zrng S.1 v with
    | some (q0, .inr (.inl (kd', m, gs, mm))), some b => bif Nat.beq kd' kd && zle 0 b.1 && zle (b.2 + 1) (m : Int) && Nat.beq m (zlenG gs) && Nat.ble m 2000000 && zfr n K (zst S st) then (match zmlk v mm with
      | some u => some [(pc + 1, zst S (.inl (.inl u) :: st))]
      | none => match zrq S.1 b gs with
        | some (.inl u) => some [(pc + 1, zputI n S st (.inl u))]
        | some (.inr bi) => bif Nat.beq m 160 && Nat.blt 0 v.1 && Nat.blt v.1 n then some [(pc + 1, zputI n (zsw S (S.2.2.2.2.1.set q0 (i, .inr (.inl (kd', m, gs, (v, (n, 0)) :: mm)))) st) st (.inr bi))] else some [(pc + 1, zputI n S st (.inr bi))]
        | none => none) else none
    | _, _ => none
  | _ => none
def zast (kd : Nat) (S : zS) (pc : Nat) : Option (List (Nat × zS)) := match S.2.2.2.1 with
  | .inl (.inl u) :: .inl (.inl v) :: .inr (some i) :: st => match zcell S.2.2.2.2.1 i, zrng S.1 v, zrng S.1 u with
    | some (q, .inr (.inl (kd', m, gs, _))), some b, some d => bif Nat.beq kd' kd && zle 0 b.1 && zle (b.2 + 1) (m : Int) && Nat.ble m 2000000 && (Nat.beq kd 0 || (zle 0 d.1 && zle d.2 1)) then (match zwr S.1 b.1 b.2 u d 0 gs with
      | some gs' => some [(pc + 1, zsw S (S.2.2.2.2.1.set q (i, .inr (.inl (kd', m, gs', [])))) st)]
      | none => none) else none
    | _, _, _ => none
  | _ => none
def zaal (S : zS) (st : List zA) (v : zV) (pc : Nat) : Int → List Nat → List (Nat × zS)
  | _, [] => []
  | k, i :: is => (match zeqS S.1 S.2.1 v (0, k) with
    | none => []
    | some q => [(pc, zse S q (.inr (some i) :: st))]) ++ zaal S st v pc (k + 1) is
def zstepD (flds : List (Nat × Nat × Nat × Nat)) (K n : Nat) (S : zS) (pc : Nat) (ins : Instr) : Option (List (Nat × zS)) := match ins with
  | .getfield x => match S.2.2.2.1 with
    | .inr (some i) :: st => match zlk flds x, zcell S.2.2.2.2.1 i with
      | some (ci, k, _), some (_, .inl (ci', fs)) => bif Nat.beq ci' ci then (match fs[k]? with
        | some a => some [(pc + 3, zst S (a :: st))]
        | none => none) else none
      | _, _ => none
    | _ => none
  | .putfield x => match S.2.2.2.1 with
    | a :: .inr (some i) :: st => match zlk flds x, zcell S.2.2.2.2.1 i with
      | some (ci, k, tag), some (q, .inl (ci', fs)) => bif Nat.beq ci' ci && ztok S.1 tag a && Nat.blt k fs.length then some [(pc + 3, zsw S (S.2.2.2.2.1.set q (i, .inl (ci', fs.set k a))) st)] else none
      | _, _ => none
    | _ => none
  | .iaload => zald 0 K n S pc
  | .baload => zald 1 K n S pc
  | .iastore => zast 0 S pc
  | .bastore => zast 1 S pc
  | .aaload => match S.2.2.2.1 with
    | .inl (.inl v) :: .inr (some i) :: st => match zcell S.2.2.2.2.1 i, zrng S.1 v with
      | some (_, .inr (.inr (kd, is))), some b => bif (Nat.beq kd 2 || Nat.beq kd 3) && zle 0 b.1 && zle (b.2 + 1) (is.length : Int) && Nat.ble is.length 2000000 then some (zaal S st v (pc + 1) 0 is) else none
      | _, _ => none
    | _ => none
  | .arraylength => match S.2.2.2.1 with
    | .inr (some i) :: st => match zcell S.2.2.2.2.1 i with
      | some (_, .inr (.inl (kd, m, _, _))) => bif (Nat.beq kd 0 || Nat.beq kd 1) && Nat.ble m 2000000 then some [(pc + 1, zst S (.inl (.inl (0, (m : Int))) :: st))] else none
      | some (_, .inr (.inr (kd, is))) => bif (Nat.beq kd 2 || Nat.beq kd 3) && Nat.ble is.length 2000000 then some [(pc + 1, zst S (.inl (.inl (0, (is.length : Int))) :: st))] else none
      | _ => none
    | _ => none
  | _ => none
theorem zq_idx {k : Int} {m : Nat} (h1 : 0 ≤ k) (h2 : k + 1 ≤ m) (hm : m ≤ 2000000) : vp_in (Int32.ofInt k) m ∧ (Int32.ofInt k).toNatClampNeg = k.toNat := by
  have e := zq_of (z := k) (by omega) (by omega)
  exact ⟨vp_in_iff.mpr (by rw [e]; omega), by show (Int32.ofInt k).toInt.toNat = _; rw [e]⟩
section ZSG
variable {p : Program} {l : Launch} {e : Env} {R : Room} {s : State} {m : MethodId} {args : Array Value} {below : List Frame} {meth : Method} {c : Code} {cells slots : Nat} {Q : State → Prop} {cc : ByteArray} {D : va_G} {cl : List vw_C} {kA : Nat → ClassId} {A : Nat → Prop} {H0 : Heap} {nL K : Nat} {pins : List Nat} {r0 : Nat → Int} {ad0 : Nat → Nat} {N pc n : Nat} {S : zS} {ins : Instr} {L : List (Nat × zS)}
theorem zald_ok (hx : p.tables.exec = Jvm.exec) (hb : c.code = cc) (hK : va_K D cl (ztys kA) s) {kd : Nat} (hkd : (kd = 0 ∧ decode cc pc = .ok (.iaload, 1)) ∨ (kd = 1 ∧ decode cc pc = .ok (.baload, 1))) (h : zald kd K n S pc = some L) (hgo : ∀ x ∈ L, zGo (zGW p l e R s m args below meth c cells slots Q) D cl kA A H0 nL K pins r0 ad0 N x.1 x.2) : zGo (zGW p l e R s m args below meth c cells slots Q) D cl kA A H0 nL K pins r0 ad0 N pc S := by
  intro r ad ph H locs ls hJ hR hN
  unfold zald at h
  split at h
  · rename_i v i st hst
    split at h
    · rename_i q kd' k gs mm b hcell hr
      cases hz : Nat.beq kd' kd && zle 0 b.1 && zle (b.2 + 1) (k : Int) && Nat.beq k (zlenG gs) && Nat.ble k 2000000 && zfr n K (zst S st) with
      | false => rw [hz] at h; cases h
      | true =>
        rw [hz] at h
        simp only [Bool.and_eq_true] at hz
        obtain ⟨⟨⟨⟨⟨z1, z2⟩, z3⟩, z4⟩, z5⟩, z6⟩ := hz
        have hc := zcell_ok hcell
        have hb2 := zrng_ok hR.1 hr
        have y2 := zle_ok z2
        have y3 := zle_ok z3
        have y4 := Nat.eq_of_beq_eq_true z4
        have y5 := Nat.le_of_ble_eq_true z5
        have ek := Nat.eq_of_beq_eq_true z1
        subst ek
        obtain ⟨g1, g2⟩ := zq_idx (k := zev r v) (m := k) (by omega) (by omega) y5
        have hok : zokC r (ph i) (.inr (.inl (kd', k, gs, mm))) := hR.2.2.1 _ (List.mem_of_getElem? hc)
        have hget := zws_get kA r ad ph hc
        have fin : W p l e R s m args below meth c H locs cells slots Q (F0 m (pc + 1) ls (.int (Int32.ofInt (ph i (zev r v).toNat)) :: st.map (zcv r ad))) := by
          dsimp only [cond] at h
          split at h
          · rename_i u hu
            cases h
            have e := zmlk_ok hok.2 hu
            rw [e]
            exact hgo _ List.mem_cons_self r ad ph H locs ls hJ hR hN
          · split at h
            · rename_i u hq
              cases h
              exact zputI_go z6 (hgo _ List.mem_cons_self) hJ hR hN (zrq_ok hR.1 hok.1 hq (j := (zev r v).toNat) (by omega) (by omega) (by omega))
            · rename_i bi hq
              have hres := zrq_ok hR.1 hok.1 hq (j := (zev r v).toNat) (by omega) (by omega) (by omega)
              cases hm : Nat.beq k 160 && Nat.blt 0 v.1 && Nat.blt v.1 n with
              | false =>
                rw [hm] at h
                cases h
                exact zputI_go z6 (hgo _ List.mem_cons_self) hJ hR hN hres
              | true =>
                rw [hm] at h
                cases h
                simp only [Bool.and_eq_true] at hm
                have hv := zblt hm.2
                have hfi := zrq_in hR.1 hok.1 hq (j := (zev r v).toNat) (by omega) (by omega) (by omega)
                obtain ⟨h1, h2, h3, h4, h5⟩ := zfresh z6 hJ hR hN (ph i (zev r v).toNat)
                have ev : zev (fun i_1 => if i_1 = n then ph i (zev r v).toNat else r i_1) v = zev r v := by
                  show (if v.1 = n then ph i (zev r v).toNat else r v.1) + v.2 = r v.1 + v.2
                  rw [if_neg (by omega)]
                have en : zev (fun i_1 => if i_1 = n then ph i (zev r v).toNat else r i_1) (n, 0) = ph i (zev r v).toNat := by
                  show (if n = n then ph i (zev r v).toNat else r n) + (0 : Int) = ph i (zev r v).toNat
                  rw [if_pos rfl]
                  exact Int.add_zero _
                have hok2 : zokC (fun i_1 => if i_1 = n then ph i (zev r v).toNat else r i_1) (ph i) (.inr (.inl (kd', k, gs, mm))) := h2.2.2.1 _ (List.mem_of_getElem? hc)
                have ews := zws_set (ph' := ph) (x' := .inr (.inl (kd', k, gs, (v, (n, 0)) :: mm))) h2.2.2.2.2.1 hc (fun _ _ => rfl)
                have eself : (zws kA (fun i_1 => if i_1 = n then ph i (zev r v).toNat else r i_1) ad ph S.2.2.2.2.1).set q (ad i, zce kA (fun i_1 => if i_1 = n then ph i (zev r v).toNat else r i_1) ad (ph i) (.inr (.inl (kd', k, gs, (v, (n, 0)) :: mm)))) = zws kA (fun i_1 => if i_1 = n then ph i (zev r v).toNat else r i_1) ad ph S.2.2.2.2.1 := by
                  have hg := zws_get kA (fun i_1 => if i_1 = n then ph i (zev r v).toNat else r i_1) ad ph hc
                  apply List.ext_getElem?
                  intro j
                  by_cases hj : q = j
                  · subst hj
                    rw [List.getElem?_set_self (List.getElem?_eq_some_iff.mp hg).1, hg]
                    rfl
                  · rw [List.getElem?_set_ne hj]
                rw [eself] at ews
                have hwok := zokW_set (ph' := ph) (x' := .inr (.inl (kd', k, gs, (v, (n, 0)) :: mm))) h2.2.2.2.2.1 hc (fun _ _ => rfl) h2.2.2.1 ⟨hok2.1, fun x hx => by
                  rcases List.mem_cons.mp hx with e | e
                  · subst e
                    dsimp only
                    rw [ev, en]
                  · exact hok2.2 x e⟩
                have g := hgo _ List.mem_cons_self _ ad ph H locs ls h1 ⟨⟨h2.1.1, fun x hx => by
                  rcases List.mem_cons.mp hx with e | e
                  · subst e
                    dsimp only
                    rw [if_pos rfl]
                    exact hfi
                  · exact h2.1.2 x e⟩, h2.2.1, hwok, by rw [show (zputI n (zsw S (S.2.2.2.2.1.set q (i, .inr (.inl (kd', k, gs, (v, (n, 0)) :: mm)))) st) st (.inr bi)).2.2.2.2.1 = S.2.2.2.2.1.set q (i, .inr (.inl (kd', k, gs, (v, (n, 0)) :: mm))) from rfl, ews]; exact h2.2.2.2.1, by rw [show (zputI n (zsw S (S.2.2.2.2.1.set q (i, .inr (.inl (kd', k, gs, (v, (n, 0)) :: mm)))) st) st (.inr bi)).2.2.2.2.1 = S.2.2.2.2.1.set q (i, .inr (.inl (kd', k, gs, (v, (n, 0)) :: mm))) from rfl, ews]; exact h2.2.2.2.2.1, h2.2.2.2.2.2⟩ h4
                have e2 : (zputI n (zsw S (S.2.2.2.2.1.set q (i, .inr (.inl (kd', k, gs, (v, (n, 0)) :: mm)))) st) st (.inr bi)).2.2.2.1.map (zcv (fun i_1 => if i_1 = n then ph i (zev r v).toNat else r i_1) ad) = .int (Int32.ofInt (ph i (zev r v).toNat)) :: st.map (zcv r ad) := by
                  show Value.int (Int32.ofInt (zev _ (n, 0))) :: st.map _ = _
                  rw [h3, en]
                have g : W p l e R s m args below meth c H locs cells slots Q (F0 m (pc + 1) ls ((zputI n (zsw S (S.2.2.2.2.1.set q (i, .inr (.inl (kd', k, gs, (v, (n, 0)) :: mm)))) st) st (.inr bi)).2.2.2.1.map (zcv (fun i_1 => if i_1 = n then ph i (zev r v).toNat else r i_1) ad))) := g
                rw [e2] at g
                exact g
            · cases h
        show W _ _ _ _ _ _ _ _ _ _ _ _ _ _ _ (F0 m pc ls (S.2.2.2.1.map (zcv r ad)))
        rw [hst]
        rcases hkd with ⟨rfl, hdg⟩ | ⟨rfl, hdg⟩
        · refine va_iald hx hb hK hR.2.2.2.1 q 0 hget rfl g1 hdg ?_
          rw [g2]
          exact fin
        · refine va_zald hx hb hK hR.2.2.2.1 q 1 hget rfl g1 hdg ?_
          rw [g2]
          exact fin
    · cases h
  · cases h
theorem zast_ok (hx : p.tables.exec = Jvm.exec) (hb : c.code = cc) (hK : va_K D cl (ztys kA) s) {kd : Nat} (hkd : (kd = 0 ∧ decode cc pc = .ok (.iastore, 1)) ∨ (kd = 1 ∧ decode cc pc = .ok (.bastore, 1))) (h : zast kd S pc = some L) (hgo : ∀ x ∈ L, zGo (zGW p l e R s m args below meth c cells slots Q) D cl kA A H0 nL K pins r0 ad0 N x.1 x.2) : zGo (zGW p l e R s m args below meth c cells slots Q) D cl kA A H0 nL K pins r0 ad0 N pc S := by
  intro r ad ph H locs ls hJ hR hN
  unfold zast at h
  split at h
  · rename_i u v i st hst
    split at h
    · rename_i q kd' k gs mm0 b d hcell hr hu
      cases hz : Nat.beq kd' kd && zle 0 b.1 && zle (b.2 + 1) (k : Int) && Nat.ble k 2000000 && (Nat.beq kd 0 || (zle 0 d.1 && zle d.2 1)) with
      | false => rw [hz] at h; cases h
      | true =>
        rw [hz] at h
        simp only [Bool.and_eq_true] at hz
        obtain ⟨⟨⟨⟨z1, z2⟩, z3⟩, z5⟩, z6⟩ := hz
        dsimp only [cond] at h
        split at h
        · rename_i gs' hq
          cases h
          have hc := zcell_ok hcell
          have hb2 := zrng_ok hR.1 hr
          have hb3 := zrng_ok hR.1 hu
          have y2 := zle_ok z2
          have y3 := zle_ok z3
          have y5 := Nat.le_of_ble_eq_true z5
          have ek := Nat.eq_of_beq_eq_true z1
          subst ek
          obtain ⟨g1, g2⟩ := zq_idx (k := zev r v) (m := k) (by omega) (by omega) y5
          have hok : zokC r (ph i) (.inr (.inl (kd', k, gs, mm0))) := hR.2.2.1 _ (List.mem_of_getElem? hc)
          have hwr := (zwr_ok hR.1 (x := (zev r v).toNat) (by omega) (by omega) hb3 gs 0 gs' hok.1 hq).1
          have hget := zws_get kA r ad ph hc
          obtain ⟨ph', hph'⟩ : ∃ ph' : Nat → Nat → Int, ph' = fun x => if x = i then (fun j => if j = (zev r v).toNat then zev r u else ph i j) else ph x := ⟨_, rfl⟩
          have hp1 : ∀ x, x ≠ i → ph' x = ph x := fun x hx => by rw [hph']; exact if_neg hx
          have hp2 : ph' i = fun j => if j = (zev r v).toNat then zev r u else ph i j := by rw [hph']; exact if_pos rfl
          have ews := zws_set (x' := .inr (.inl (kd', k, gs', []))) hR.2.2.2.2.1 hc hp1
          have ef : zce kA r ad (ph' i) (.inr (.inl (kd', k, gs', []))) = .inl (kA kd', k, .inl (upd (fun j => Int32.ofInt (ph i j)) (zev r v).toNat (Int32.ofInt (zev r u)))) := by
            rw [hp2]
            show Sum.inl (kA kd', k, Sum.inl _) = _
            congr 4
            funext j
            unfold upd
            dsimp only
            split <;> rfl
          have hwok := zokW_set (x' := .inr (.inl (kd', k, gs', []))) hR.2.2.2.2.1 hc hp1 hR.2.2.1 ⟨by rw [hp2]; exact hwr, fun x hx => by cases hx⟩
          rw [ef] at ews
          show W _ _ _ _ _ _ _ _ _ _ _ _ _ _ _ (F0 m pc ls (S.2.2.2.1.map (zcv r ad)))
          rw [hst]
          rcases hkd with ⟨rfl, hdg⟩ | ⟨rfl, hdg⟩
          · refine va_iast hx hb hK hR.2.2.2.1 hR.2.2.2.2.1 hR.2.2.2.2.2.1 q 0 hget rfl g1 hdg (fun H1 locs1 hP1 hD1 hS1 => ?_)
            rw [g2, ← ews] at hP1 hD1
            exact hgo _ List.mem_cons_self r ad ph' H1 locs1 ls hJ ⟨hR.1, hR.2.1, hwok, hP1, hD1, hS1, hR.2.2.2.2.2.2⟩ hN
          · refine va_zast hx hb hK hR.2.2.2.1 hR.2.2.2.2.1 hR.2.2.2.2.2.1 q 1 hget rfl g1 hdg (fun H1 locs1 hP1 hD1 hS1 => ?_)
            have en : vp_nar .boolean (Int32.ofInt (zev r u)) = Int32.ofInt (zev r u) := by
              have hz6 : (zle 0 d.1 && zle d.2 1) = true := z6
              simp only [Bool.and_eq_true] at hz6
              have b1 := zle_ok hz6.1
              have b2 := zle_ok hz6.2
              unfold vp_nar
              rw [(znar_bool (k := zev r u) (by omega) (by omega)).1]
            rw [g2, en, ← ews] at hP1 hD1
            exact hgo _ List.mem_cons_self r ad ph' H1 locs1 ls hJ ⟨hR.1, hR.2.1, hwok, hP1, hD1, hS1, hR.2.2.2.2.2.2⟩ hN
        · cases h
    · cases h
  · cases h
theorem zaal_mem {st : List zA} {v : zV} {pc' : Nat} {r : Nat → Int} (hE : zokE r S.1) (hZ : zokZ r S.2.1) : ∀ (is : List Nat) (k : Int) (j i : Nat), is[j]? = some i → zev r v = k + j → ∃ q, (pc', zse S q (.inr (some i) :: st)) ∈ zaal S st v pc' k is ∧ zokE r q.1 ∧ zokZ r q.2
  | [], _, j, i, h, _ => by simp at h
  | a :: is, k, 0, i, h, hv => by
    simp only [List.getElem?_cons_zero, Option.some.injEq] at h
    subst h
    obtain ⟨q, e1, o1, o2⟩ := zeqS_ok (v1 := v) (v2 := (0, k)) hE hZ (by rw [zconst hE.1]; omega)
    refine ⟨q, ?_, o1, o2⟩
    unfold zaal
    rw [e1]
    exact List.mem_append_left _ List.mem_cons_self
  | a :: is, k, j + 1, i, h, hv => by
    rw [List.getElem?_cons_succ] at h
    obtain ⟨q, m1, o1, o2⟩ := zaal_mem (st := st) (v := v) (pc' := pc') hE hZ is (k + 1) j i h (by omega)
    refine ⟨q, ?_, o1, o2⟩
    unfold zaal
    exact List.mem_append_right _ m1
theorem zstepD_ok (hx : p.tables.exec = Jvm.exec) (hb : c.code = cc) (hK : va_K D cl (ztys kA) s) {own : String} {Ts : List Cond} (hown : s.vm.findClass own = some m.cls) (hts : ∀ w ∈ Ts, w.before args s = true) {flds : List (Nat × Nat × Nat × Nat)} (hfl : ∀ x ci k tag, zlk flds x = some (ci, k, tag) → zFld Ts own cl x ci k tag)
    (hdg : decode cc pc = .ok (ins, zlen ins)) (h : zstepD flds K n S pc ins = some L) (hgo : ∀ x ∈ L, zGo (zGW p l e R s m args below meth c cells slots Q) D cl kA A H0 nL K pins r0 ad0 N x.1 x.2) : zGo (zGW p l e R s m args below meth c cells slots Q) D cl kA A H0 nL K pins r0 ad0 N pc S := by
  unfold zstepD at h
  split at h
  · rename_i x
    intro r ad ph H locs ls hJ hR hN
    split at h
    · rename_i i st hst
      split at h
      · rename_i ci k tag q ci' fs hlk hcell
        cases hz : Nat.beq ci' ci with
        | false => rw [hz] at h; cases h
        | true =>
          rw [hz] at h
          have ec := Nat.eq_of_beq_eq_true hz
          subst ec
          dsimp only [cond] at h
          split at h
          · rename_i a ha
            cases h
            obtain ⟨C, T, nF, ty0, f1, f2, f3, f4, f5, f6, f7⟩ := hfl x _ k tag hlk
            have hget := zws_get kA r ad ph (zcell_ok hcell)
            show W _ _ _ _ _ _ _ _ _ _ _ _ _ _ _ (F0 m pc ls (S.2.2.2.1.map (zcv r ad)))
            rw [hst]
            exact va_get hx hb hts f3 hown hK hR.2.2.2.1 q hget f1 k f2 (hts _ f6) (fun _ h => h) (by rw [List.getElem?_map, ha]; rfl) hdg (hgo _ List.mem_cons_self r ad ph H locs ls hJ hR hN)
          · cases h
      · cases h
    · cases h
  · rename_i x
    intro r ad ph H locs ls hJ hR hN
    split at h
    · rename_i a i st hst
      split at h
      · rename_i ci k tag q ci' fs hlk hcell
        cases hz : Nat.beq ci' ci && ztok S.1 tag a && Nat.blt k fs.length with
        | false => rw [hz] at h; cases h
        | true =>
          rw [hz] at h
          simp only [Bool.and_eq_true] at hz
          obtain ⟨⟨z1, z2⟩, z3⟩ := hz
          have ec := Nat.eq_of_beq_eq_true z1
          subst ec
          cases h
          obtain ⟨C, T, nF, ty0, f1, f2, f3, f4, f5, f6, f7⟩ := hfl x _ k tag hlk
          obtain ⟨t1, t2, t3⟩ := ztok_ok hR.1 z2 f7 ad
          have hc := zcell_ok hcell
          have hget := zws_get kA r ad ph hc
          have ews := zws_set (ph' := ph) (x' := .inl (ci', fs.set k a)) hR.2.2.2.2.1 hc (fun _ _ => rfl)
          have ef : zce kA r ad (ph i) (.inl (ci', fs.set k a)) = .inr (ci', (fs.map (zcv r ad)).set k (zcv r ad a)) := by
            show Sum.inr (ci', (fs.set k a).map (zcv r ad)) = _
            rw [List.map_set]
          rw [ef] at ews
          have hwok := zokW_set (x' := .inl (ci', fs.set k a)) hR.2.2.2.2.1 hc (fun _ _ => rfl) hR.2.2.1 trivial
          show W _ _ _ _ _ _ _ _ _ _ _ _ _ _ _ (F0 m pc ls (S.2.2.2.1.map (zcv r ad)))
          rw [hst]
          refine va_put hx hb hts f3 ty0 f4 f5 hown hK hR.2.2.2.1 hR.2.2.2.2.1 hR.2.2.2.2.2.1 q hget f1 k f2 (hts _ f6) (fun _ h => h) t1 (f4 k f2) t2 t3 (by rw [List.length_map]; exact zblt z3) hdg (fun H1 locs1 hP1 hD1 hS1 => ?_)
          rw [← ews] at hP1 hD1
          exact hgo _ List.mem_cons_self r ad ph H1 locs1 ls hJ ⟨hR.1, hR.2.1, hwok, hP1, hD1, hS1, hR.2.2.2.2.2.2⟩ hN
      · cases h
    · cases h
  · exact zald_ok hx hb hK (Or.inl ⟨rfl, hdg⟩) h hgo
  · exact zald_ok hx hb hK (Or.inr ⟨rfl, hdg⟩) h hgo
  · exact zast_ok hx hb hK (Or.inl ⟨rfl, hdg⟩) h hgo
  · exact zast_ok hx hb hK (Or.inr ⟨rfl, hdg⟩) h hgo
  · intro r ad ph H locs ls hJ hR hN
    split at h
    · rename_i v i st hst
      split at h
      · rename_i q kd is b hcell hr
        cases hz : (Nat.beq kd 2 || Nat.beq kd 3) && zle 0 b.1 && zle (b.2 + 1) (is.length : Int) && Nat.ble is.length 2000000 with
        | false => rw [hz] at h; cases h
        | true =>
          rw [hz] at h
          simp only [Bool.and_eq_true, Bool.or_eq_true] at hz
          obtain ⟨⟨⟨z1, z2⟩, z3⟩, z4⟩ := hz
          cases h
          have hb2 := zrng_ok hR.1 hr
          have y2 := zle_ok z2
          have y3 := zle_ok z3
          have y5 := Nat.le_of_ble_eq_true z4
          obtain ⟨g1, g2⟩ := zq_idx (k := zev r v) (m := is.length) (by omega) (by omega) y5
          have hget := zws_get kA r ad ph (zcell_ok hcell)
          have hlt : (zev r v).toNat < is.length := by omega
          obtain ⟨qq, m1, o1, o2⟩ := zaal_mem (st := st) (v := v) (pc' := pc + 1) hR.1 hR.2.1 is 0 (zev r v).toNat is[(zev r v).toNat] (List.getElem?_eq_getElem hlt) (by omega)
          have g := hgo _ m1 r ad ph H locs ls hJ ⟨o1, o2, hR.2.2⟩ hN
          have eqv : (is[(zev r v).toNat]?).map ad = some (ad is[(zev r v).toNat]) := by rw [List.getElem?_eq_getElem hlt]; rfl
          show W _ _ _ _ _ _ _ _ _ _ _ _ _ _ _ (F0 m pc ls (S.2.2.2.1.map (zcv r ad)))
          rw [hst]
          rcases z1 with z1 | z1
          · have ek := Nat.eq_of_beq_eq_true z1
            subst ek
            refine va_aldq (C := "VowTerrace$Terrace") hx hb hK hR.2.2.2.1 q 2 hget rfl g1 hdg ?_
            rw [g2, eqv]
            exact g
          · have ek := Nat.eq_of_beq_eq_true z1
            subst ek
            refine va_aldq (C := "VowTerrace$Sheet") hx hb hK hR.2.2.2.1 q 3 hget rfl g1 hdg ?_
            rw [g2, eqv]
            exact g
      · cases h
    · cases h
  · intro r ad ph H locs ls hJ hR hN
    split at h
    · rename_i i st hst
      split at h
      · rename_i q kd k gs mm0 hcell
        cases hz : (Nat.beq kd 0 || Nat.beq kd 1) && Nat.ble k 2000000 with
        | false => rw [hz] at h; cases h
        | true =>
          rw [hz] at h
          simp only [Bool.and_eq_true, Bool.or_eq_true] at hz
          cases h
          have hget := zws_get kA r ad ph (zcell_ok hcell)
          have g := hgo _ List.mem_cons_self r ad ph H locs ls hJ hR hN
          rw [show (zst S (.inl (.inl (0, (k : Int))) :: st)).2.2.2.1.map (zcv r ad) = .int (Int32.ofNat k) :: st.map (zcv r ad) by show Value.int (Int32.ofInt (zev r (0, (k : Int)))) :: _ = _; rw [zconst hR.1.1]; rfl] at g
          show W _ _ _ _ _ _ _ _ _ _ _ _ _ _ _ (F0 m pc ls (S.2.2.2.1.map (zcv r ad)))
          rw [hst]
          rcases hz.1 with z1 | z1
          · have ek := Nat.eq_of_beq_eq_true z1
            subst ek
            exact va_alen hx hb hK hR.2.2.2.1 q 0 hget (ty := .int) rfl rfl hdg g
          · have ek := Nat.eq_of_beq_eq_true z1
            subst ek
            exact va_alen hx hb hK hR.2.2.2.1 q 1 hget (ty := .boolean) rfl rfl hdg g
      · rename_i q kd is hcell
        cases hz : (Nat.beq kd 2 || Nat.beq kd 3) && Nat.ble is.length 2000000 with
        | false => rw [hz] at h; cases h
        | true =>
          rw [hz] at h
          simp only [Bool.and_eq_true, Bool.or_eq_true] at hz
          cases h
          have hget := zws_get kA r ad ph (zcell_ok hcell)
          have g := hgo _ List.mem_cons_self r ad ph H locs ls hJ hR hN
          rw [show (zst S (.inl (.inl (0, (is.length : Int))) :: st)).2.2.2.1.map (zcv r ad) = .int (Int32.ofNat is.length) :: st.map (zcv r ad) by show Value.int (Int32.ofInt (zev r (0, (is.length : Int)))) :: _ = _; rw [zconst hR.1.1]; rfl] at g
          show W _ _ _ _ _ _ _ _ _ _ _ _ _ _ _ (F0 m pc ls (S.2.2.2.1.map (zcv r ad)))
          rw [hst]
          rcases hz.1 with z1 | z1
          · have ek := Nat.eq_of_beq_eq_true z1
            subst ek
            exact va_alen hx hb hK hR.2.2.2.1 q 2 hget (ty := .object "VowTerrace$Terrace") rfl rfl hdg g
          · have ek := Nat.eq_of_beq_eq_true z1
            subst ek
            exact va_alen hx hb hK hR.2.2.2.1 q 3 hget (ty := .object "VowTerrace$Sheet") rfl rfl hdg g
      · cases h
    · cases h
  · cases h
end ZSG
