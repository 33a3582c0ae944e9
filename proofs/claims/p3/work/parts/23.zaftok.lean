theorem zcv_both {n : Nat} {r r' : Nat → Int} {ad ad' : Nat → Nat} (hag : ∀ i, i < n → r' i = r i) {a : zA} (hb : zbA n a = true) (ha : ∀ i ∈ zrefA a, ad' i = ad i) : zcv r' ad' a = zcv r ad a := by
  rcases a with (v | v) | (_ | i)
  · exact zbA_eq (a := .inl (.inl v)) hag ad hb
  · exact zbA_eq (a := .inl (.inr v)) hag ad hb
  · rfl
  · show Value.ref (ad' i) = Value.ref (ad i)
    rw [ha i List.mem_cons_self]
theorem zce_both {n : Nat} {r r' : Nat → Int} {ad ad' : Nat → Nat} (hag : ∀ i, i < n → r' i = r i) (kA : Nat → ClassId) (f : Nat → Int) {x : zC} (hb : zbC n x = true) (ha : ∀ i ∈ zrefC x, ad' i = ad i) : zce kA r' ad' f x = zce kA r ad f x := by
  rcases x with ⟨ci, fs⟩ | ⟨kd, k, gs⟩ | ⟨kd, is⟩
  · show Sum.inr (ci, fs.map (zcv r' ad')) = Sum.inr (ci, fs.map (zcv r ad))
    have e : fs.map (zcv r' ad') = fs.map (zcv r ad) := List.map_congr_left (fun a h => zcv_both hag (List.all_eq_true.mp hb a h) (fun i hi => ha i (List.mem_flatMap.mpr ⟨a, h, hi⟩)))
    rw [e]
  · rfl
  · have e : (fun j : Nat => (is[j]?).map ad') = (fun j : Nat => (is[j]?).map ad) := by
      funext j
      cases hj : is[j]? with
      | none => rfl
      | some i =>
        show some (ad' i) = some (ad i)
        rw [ha i (List.mem_of_getElem? hj)]
    show Sum.inl (kA kd, is.length, _) = Sum.inl (kA kd, is.length, _)
    rw [e]
theorem zth_lt {n : Nat} {L : List (Nat × zV)} (hn : 0 < n) (hL : L.all (fun x => Nat.blt x.2.1 n) = true) (s : Nat) : (zth 1 L s).1 < n := by
  unfold zth
  cases hb : Nat.blt s 1 with
  | true =>
    have := zblt hb
    show s < n
    omega
  | false =>
    dsimp only [cond]
    cases hl : zlk L s with
    | none => exact hn
    | some v => exact zblt (List.all_eq_true.mp hL _ (zlk_mem hl))
set_option maxHeartbeats 4000000 in
theorem zaft_ok {K : Nat} {pins : List Nat} {n : Nat} {S : zS} {st as : List zA} {k : zK} {T : zS} {L : List (Nat × zV)} {M : List (Nat × Nat)} {is : List Nat} (hc : zchk K pins n S st k T L M is = true) (he : zent 1 [] (zsl S [] as) k.2.2.1 L M is = true)
    {D : va_G} {cl : List vw_C} {kA : Nat → ClassId} {A : Nat → Prop} {H0 : Heap} {nL : Nat} {r r0 r' : Nat → Int} {ad ad0 ad' : Nat → Nat} {ph ph' : Nat → Nat → Int} {H H1 : Heap} {locs locs1 : List Loc} {ls : Array Slot} {N : Nat} (hJ : zJ K pins r0 ad0 r ad) (hR : zRel D cl kA A H0 nL S r ad ph H locs ls) (hN : zenc r S.2.2.2.2.2 = N)
    (hJ' : zJ k.1 k.2.1 (fun s => zev r (zth 1 L s)) (fun i => ad (zka M i)) r' ad') (hE' : zokE r' T.1) (hZ' : zokZ r' T.2.1) (hW' : zokW r' ph' T.2.2.2.2.1) (hP' : va_P D cl (zws kA r' ad' ph' T.2.2.2.2.1) H1)
    (hD' : va_D (va_A (zws kA (fun s => zev r (zth 1 L s)) (fun i => ad (zka M i)) (fun i => ph (zka M i)) k.2.2.1.2.2.2.2.1) H.size) (zws kA r' ad' ph' T.2.2.2.2.1))
    (hk : ∀ q : Nat, q < H.size → ¬ va_A (zws kA (fun s => zev r (zth 1 L s)) (fun i => ad (zka M i)) (fun i => ph (zka M i)) k.2.2.1.2.2.2.2.1) H.size q → H1[q]? = H[q]?) (hF : ∀ q, va_A (zws kA (fun s => zev r (zth 1 L s)) (fun i => ad (zka M i)) (fun i => ph (zka M i)) k.2.2.1.2.2.2.2.1) H.size q → A q) (hS1 : va_S A H0 H1 locs1) :
    ∃ (S' : zS) (r2 : Nat → Int) (ad2 : Nat → Nat) (ph2 : Nat → Nat → Int), zaft n S st k T L M is = some S' ∧ zJ K pins r0 ad0 r2 ad2 ∧ zRel D cl kA A H0 nL S' r2 ad2 ph2 H1 locs1 ls ∧ zenc r2 S'.2.2.2.2.2 = N ∧ S'.2.2.2.1.map (zcv r2 ad2) = T.2.2.2.1.map (zcv r' ad') ++ st.map (zcv r ad) := by
  simp only [zchk, Bool.and_eq_true] at hc
  obtain ⟨⟨⟨⟨⟨⟨⟨⟨⟨⟨⟨⟨c1, c1b⟩, c2⟩, c3⟩, c4⟩, c5⟩, c6⟩, c7⟩, c8⟩, c9⟩, c10⟩, c11⟩, c12⟩ := hc
  simp only [zent, Bool.and_eq_true] at he
  obtain ⟨-, -, -, -, -, h5, -, -⟩ := he
  obtain ⟨hE, hZ, hW, hP, hD, hS, hl⟩ := hR
  simp only [zfr, Bool.and_eq_true] at c1
  have k1 := Nat.le_of_ble_eq_true c1.1.1
  have k2 := Nat.le_of_ble_eq_true c1.1.2
  have k3 := Nat.le_of_ble_eq_true c1b
  have hb := c1.2
  have hb' := hb
  simp only [zbS, Bool.and_eq_true] at hb'
  obtain ⟨⟨⟨⟨⟨b1, b2⟩, b3⟩, b4⟩, b5⟩, b6⟩ := hb'
  have hn0 : 0 < n := by omega
  obtain ⟨w1, -⟩ := zWle_ok (w := S.2.2.2.2.1) hE (zth 1 L) (zka M) kA ad ph hW is _ h5
  obtain ⟨ids, hids⟩ : ∃ ids, ids = T.2.2.2.2.1.map (·.1) := ⟨_, rfl⟩
  obtain ⟨un, hun⟩ : ∃ un, un = (ids.filter (fun j => !zmem j k.2.1)).map (zka M) := ⟨_, rfl⟩
  rw [← hids] at c3 c4 c5 c6 c7 c8 c9 c10
  rw [← hun] at c7 c8 c9 c10
  obtain ⟨r2, hr2⟩ : ∃ r2 : Nat → Int, r2 = fun s => if s < n then r s else r' (k.1 + (s - n)) := ⟨_, rfl⟩
  obtain ⟨ad2, had2⟩ : ∃ ad2 : Nat → Nat, ad2 = fun i => match zinv (ids.map (fun x => (x, zka M x))) i with
    | some j => ad' j
    | none => ad i := ⟨_, rfl⟩
  obtain ⟨ph2, hph2⟩ : ∃ ph2 : Nat → Nat → Int, ph2 = fun i => match zinv (ids.map (fun x => (x, zka M x))) i with
    | some j => ph' j
    | none => ph i := ⟨_, rfl⟩
  have hag : ∀ i, i < n → r2 i = r i := fun i hi => by rw [hr2]; exact if_pos hi
  have hnew : ∀ s, k.1 ≤ s → r2 (n + (s - k.1)) = r' s := fun s hs => by
    rw [hr2]
    show (if n + (s - k.1) < n then _ else _) = _
    rw [if_neg (by omega)]
    congr 1
    omega
  have hr : ∀ s, zev r2 (zths k.1 n L s) = r' s := fun s => by
    unfold zths
    cases hs : Nat.blt s k.1 with
    | true =>
      show r2 (zth 1 L s).1 + (zth 1 L s).2 = r' s
      rw [hag _ (zth_lt hn0 c2 s)]
      exact (hJ'.1 s (zblt hs)).symm
    | false =>
      have hk' : k.1 ≤ s := by
        have : ¬ s < k.1 := fun z => by rw [show Nat.blt s k.1 = true from Nat.ble_eq.mpr z] at hs; cases hs
        omega
      show r2 (n + (s - k.1)) + 0 = r' s
      rw [hnew s hk', Int.add_zero]
  have kmap : (ids.map (fun x => (x, zka M x))).map (·.2) = ids.map (zka M) := by rw [List.map_map]; rfl
  have fA : ∀ j, j ∈ ids → ad2 (zka M j) = ad' j := fun j hj => by rw [had2]; dsimp only; rw [zinv_some c3 hj]
  have fB : ∀ i, i ∉ ids.map (zka M) → ad2 i = ad i := fun i hi => by rw [had2]; dsimp only; rw [zinv_none (by rw [kmap]; exact hi)]
  have pA : ∀ j, j ∈ ids → ph2 (zka M j) = ph' j := fun j hj => by rw [hph2]; dsimp only; rw [zinv_some c3 hj]
  have pB : ∀ i, i ∉ ids.map (zka M) → ph2 i = ph i := fun i hi => by rw [hph2]; dsimp only; rw [zinv_none (by rw [kmap]; exact hi)]
  have nz : ∀ {i : Nat} {l : List Nat}, (!zmem i l) = true → i ∉ l := fun h q => by rw [zmem_ok.mpr q] at h; cases h
  have fC : ∀ j, (zmem j ids || zmem j k.2.1) = true → ad2 (zka M j) = ad' j := fun j hj => by
    by_cases hi : j ∈ ids
    · exact fA j hi
    · have hp : j ∈ k.2.1 := by
        simp only [Bool.or_eq_true] at hj
        rcases hj with q | q
        · exact absurd (zmem_ok.mp q) hi
        · exact zmem_ok.mp q
      have q := List.all_eq_true.mp c6 j hp
      simp only [Bool.or_eq_true] at q
      rcases q with q | q
      · exact absurd (zmem_ok.mp q) hi
      · rw [fB _ (nz q)]
        exact (hJ'.2 j hp).symm
  have fD : ∀ i, i ∉ un → ad2 i = ad i := fun i hi => by
    by_cases hk2 : i ∈ ids.map (zka M)
    · obtain ⟨j, hj, rfl⟩ := List.mem_map.mp hk2
      by_cases hp : j ∈ k.2.1
      · rw [fA j hj]
        exact hJ'.2 j hp
      · exact absurd (by rw [hun]; exact List.mem_map.mpr ⟨j, List.mem_filter.mpr ⟨hj, by cases hz : zmem j k.2.1 with
          | true => exact absurd (zmem_ok.mp hz) hp
          | false => rfl⟩, rfl⟩) hi
    · exact fB i hk2
  have hzE : zokE r2 S.1 := ⟨by rw [hag 0 hn0]; exact hE.1, fun x hx => by rw [hag _ (zblt (List.all_eq_true.mp b1 x hx))]; exact hE.2 x hx⟩
  have hzZ : zokZ r2 S.2.1 := fun x hx => by
    have q := List.all_eq_true.mp b2 x hx
    simp only [Bool.and_eq_true] at q
    rw [hag _ (zblt q.1), hag _ (zblt q.2)]
    exact hZ x hx
  obtain ⟨E2, e2, oE2⟩ := zmE_ok hr hnew T.1 S.1 hzE hE'.2
  obtain ⟨qz, eqz, oE, oZ⟩ := zmZ_ok hr T.2.1 (E2, S.2.1) oE2 hzZ hZ'
  obtain ⟨wa, hwa⟩ : ∃ wa, wa = (zrest S.2.2.2.2.1 is).filterMap (fun i => S.2.2.2.2.1[i]?) := ⟨_, rfl⟩
  rw [← hwa] at c9
  have wamem : ∀ x ∈ wa, x ∈ S.2.2.2.2.1 := fun x hx => by
    rw [hwa] at hx
    obtain ⟨i, -, hi⟩ := List.mem_filterMap.mp hx
    exact List.mem_of_getElem? hi
  have hRm : (zrest S.2.2.2.2.1 is).map (fun i => (zws kA r ad ph S.2.2.2.2.1)[i]?) = (zws kA r ad ph wa).map some := by
    rw [hwa]
    have key : ∀ (js : List Nat), (∀ j ∈ js, j < S.2.2.2.2.1.length) → js.map (fun i => (zws kA r ad ph S.2.2.2.2.1)[i]?) = (zws kA r ad ph (js.filterMap (fun i => S.2.2.2.2.1[i]?))).map some := by
      intro js
      induction js with
      | nil => intro _; rfl
      | cons j js ih =>
        intro hj
        have hlt := hj j List.mem_cons_self
        have hg : S.2.2.2.2.1[j]? = some S.2.2.2.2.1[j] := List.getElem?_eq_getElem hlt
        rw [List.filterMap_cons_some hg, List.map_cons, ih (fun x hx => hj x (List.mem_cons_of_mem _ hx))]
        show _ :: _ = some _ :: _
        congr 1
        exact zws_get kA r ad ph (q := j) (i := S.2.2.2.2.1[j].1) (x := S.2.2.2.2.1[j].2) hg
    exact key _ (fun j hj => List.mem_range.mp (List.mem_filter.mp hj).1)
  obtain ⟨hPj, hDj⟩ := va_join (wr := zws kA r ad ph wa) hP hD is (zrest S.2.2.2.2.1 is) w1 hRm c12 (fun i hi => nz (List.mem_filter.mp hi).2) hk hF hP' hD'
  have eW : zws kA r2 ad2 ph2 (wa ++ T.2.2.2.2.1.map (fun x => (zka M x.1, ztC (zths k.1 n L) (zka M) x.2))) = zws kA r ad ph wa ++ zws kA r' ad' ph' T.2.2.2.2.1 := by
    unfold zws
    rw [List.map_append, List.map_map]
    congr 1
    · refine List.map_congr_left (fun x hx => ?_)
      have q := List.all_eq_true.mp c9 x hx
      simp only [Bool.and_eq_true] at q
      have q2 : x.1 ∉ ids.map (zka M) := nz q.2
      have e1 : ad2 x.1 = ad x.1 := fB _ q2
      have e3 : ph2 x.1 = ph x.1 := pB _ q2
      rw [e1, e3, zce_both hag kA (ph x.1) (List.all_eq_true.mp b5 x (wamem x hx)) (fun i hi => fD i (nz (List.all_eq_true.mp q.1 i hi)))]
    · refine List.map_congr_left (fun x hx => ?_)
      have hj : x.1 ∈ ids := by rw [hids]; exact List.mem_map.mpr ⟨x, hx, rfl⟩
      show (ad2 (zka M x.1), zce kA r2 ad2 (ph2 (zka M x.1)) (ztC (zths k.1 n L) (zka M) x.2)) = (ad' x.1, zce kA r' ad' (ph' x.1) x.2)
      rw [fA _ hj, pA _ hj, ztC_to hr kA (ph' x.1) (fun j hj2 => fC j (List.all_eq_true.mp (List.all_eq_true.mp c4 x hx) j hj2))]
  refine ⟨(qz.1, qz.2, S.2.2.1, T.2.2.2.1.map (ztA (zths k.1 n L) (zka M)) ++ st, wa ++ T.2.2.2.2.1.map (fun x => (zka M x.1, ztC (zths k.1 n L) (zka M) x.2)), S.2.2.2.2.2), r2, ad2, ph2, ?_, ⟨fun i hi => ?_, fun i hi => ?_⟩, ⟨oE, oZ, fun x hx => ?_, ?_, ?_, hS1, ?_⟩, ?_, ?_⟩
  · unfold zaft
    rw [e2]
    dsimp only
    rw [eqz, ← hwa]
  · rw [hag i (by omega)]
    exact hJ.1 i hi
  · rw [fD i (nz (List.all_eq_true.mp c10 i hi))]
    exact hJ.2 i hi
  · rcases List.mem_append.mp hx with h | h
    · have q := List.all_eq_true.mp c9 x h
      simp only [Bool.and_eq_true] at q
      rw [pB _ (nz q.2)]
      exact zbC_ok hag (ph x.1) (List.all_eq_true.mp b5 x (wamem x h)) (hW x (wamem x h))
    · obtain ⟨y, hy, rfl⟩ := List.mem_map.mp h
      have hj : y.1 ∈ ids := by rw [hids]; exact List.mem_map.mpr ⟨y, hy, rfl⟩
      show zokC r2 (ph2 (zka M y.1)) (ztC (zths k.1 n L) (zka M) y.2)
      rw [pA _ hj]
      exact ztCk_to hr (ph' y.1) (hW' y hy)
  · show va_P D cl (zws kA r2 ad2 ph2 _) H1
    rw [eW]
    exact hPj
  · show va_D A (zws kA r2 ad2 ph2 _)
    rw [eW]
    exact hDj
  · have e : S.2.2.1.map (fun x => (x.1, zcv r2 ad2 x.2)) = S.2.2.1.map (fun x => (x.1, zcv r ad x.2)) := List.map_congr_left (fun x hx => by rw [zcv_both hag (List.all_eq_true.mp b3 x hx) (fun i hi => fD i (nz (List.all_eq_true.mp (List.all_eq_true.mp c8 x hx) i hi)))])
    show lv_has ls nL (S.2.2.1.map (fun x => (x.1, zcv r2 ad2 x.2)))
    rw [e]
    exact hl
  · show zenc r2 S.2.2.2.2.2 = N
    exact (zbR_eq hag S.2.2.2.2.2 b6).trans hN
  · show (T.2.2.2.1.map (ztA (zths k.1 n L) (zka M)) ++ st).map (zcv r2 ad2) = _
    rw [List.map_append, List.map_map]
    congr 1
    · exact List.map_congr_left (fun a ha => ztA_to hr (fun j hj => fC j (List.all_eq_true.mp (List.all_eq_true.mp c5 a ha) j hj)))
    · exact List.map_congr_left (fun a ha => zcv_both hag (List.all_eq_true.mp b4 a ha) (fun i hi => fD i (nz (List.all_eq_true.mp (List.all_eq_true.mp c7 a ha) i hi))))
