def zlen : Instr → Nat
  | .bipush _ | .ldc _ | .iload _ | .lload _ | .aload _ | .istore _ | .lstore _ | .astore _ => 2
  | .sipush _ | .ldc_w _ | .ldc2_w _ | .iinc _ _ | .goto _ | .ifCond _ _ | .if_icmp _ _ | .getfield _ | .putfield _ | .invokevirtual _ | .invokestatic _ | .invokespecial _ => 3
  | _ => 1
section ZSB
variable {p : Program} {l : Launch} {e : Env} {R : Room} {s : State} {m : MethodId} {args : Array Value} {below : List Frame} {meth : Method} {c : Code} {cells slots : Nat} {Q : State → Prop} {cc : ByteArray} {D : va_G} {cl : List vw_C} {kA : Nat → ClassId} {A : Nat → Prop} {H0 : Heap} {nL K : Nat} {pins : List Nat} {r0 : Nat → Int} {ad0 : Nat → Nat} {N pc n : Nat} {S : zS} {ins : Instr} {L : List (Nat × zS)}
theorem zld_go {pc' i t : Nat} (h : zld S pc' i t = some L) (hgo : ∀ x ∈ L, zGo (zGW p l e R s m args below meth c cells slots Q) D cl kA A H0 nL K pins r0 ad0 N x.1 x.2) {r : Nat → Int} {ad : Nat → Nat} {ph : Nat → Nat → Int} {H : Heap} {locs : List Loc} {ls : Array Slot} (hJ : zJ K pins r0 ad0 r ad) (hR : zRel D cl kA A H0 nL S r ad ph H locs ls) (hN : zenc r S.2.2.2.2.2 = N) :
    ∃ v : Value, ls[i]? = some (.val v) ∧ W p l e R s m args below meth c H locs cells slots Q (F0 m pc' ls (v :: S.2.2.2.1.map (zcv r ad))) ∧ (t = 0 → ∃ x, v = .int x) ∧ (t = 1 → ∃ x, v = .long x) ∧ (t = 2 → ∃ x, v = .ref x) := by
  unfold zld at h
  split at h
  · rename_i v hl
    cases h
    exact ⟨_, zlocal hl hR, hgo _ List.mem_cons_self r ad ph H locs ls hJ hR hN, fun _ => ⟨_, rfl⟩, (fun q => by cases q), (fun q => by cases q)⟩
  · rename_i v hl
    cases h
    exact ⟨_, zlocal hl hR, hgo _ List.mem_cons_self r ad ph H locs ls hJ hR hN, (fun q => by cases q), fun _ => ⟨_, rfl⟩, (fun q => by cases q)⟩
  · rename_i v hl
    cases h
    exact ⟨_, zlocal hl hR, hgo _ List.mem_cons_self r ad ph H locs ls hJ hR hN, (fun q => by cases q), (fun q => by cases q), fun _ => ⟨_, rfl⟩⟩
  · cases h
theorem zso_go {pc' i t : Nat} (h : zso nL S pc' i t = some L) (hgo : ∀ x ∈ L, zGo (zGW p l e R s m args below meth c cells slots Q) D cl kA A H0 nL K pins r0 ad0 N x.1 x.2) {r : Nat → Int} {ad : Nat → Nat} {ph : Nat → Nat → Int} {H : Heap} {locs : List Loc} {ls : Array Slot} (hJ : zJ K pins r0 ad0 r ad) (hR : zRel D cl kA A H0 nL S r ad ph H locs ls) (hN : zenc r S.2.2.2.2.2 = N) :
    ∃ (v : Value) (st : List zA), S.2.2.2.1.map (zcv r ad) = v :: st.map (zcv r ad) ∧
      (t = 0 → (∃ x, v = .int x) ∧ i < nL ∧ ∀ ls' : Array Slot, lv_has ls' nL ((i, v) :: (S.2.2.1.map (fun x => (x.1, zcv r ad x.2))).filter (fun q => !(q.1 == i) && !(q.1 + 1 == i && q.2.category == 2))) → W p l e R s m args below meth c H locs cells slots Q (F0 m pc' ls' (st.map (zcv r ad)))) ∧
      (t = 1 → (∃ x, v = .long x) ∧ i + 1 < nL ∧ ∀ ls' : Array Slot, lv_has ls' nL ((i, v) :: (S.2.2.1.map (fun x => (x.1, zcv r ad x.2))).filter (fun q => !(q.1 == i) && (!(q.1 == i + 1) && !(q.1 + 1 == i && q.2.category == 2)))) → W p l e R s m args below meth c H locs cells slots Q (F0 m pc' ls' (st.map (zcv r ad)))) ∧
      (t = 2 → (∃ x, v = .ref x) ∧ i < nL ∧ ∀ ls' : Array Slot, lv_has ls' nL ((i, v) :: (S.2.2.1.map (fun x => (x.1, zcv r ad x.2))).filter (fun q => !(q.1 == i) && !(q.1 + 1 == i && q.2.category == 2))) → W p l e R s m args below meth c H locs cells slots Q (F0 m pc' ls' (st.map (zcv r ad)))) := by
  obtain ⟨hE, hZ, hW, hP, hD, hS, hl⟩ := hR
  unfold zso at h
  split at h
  · rename_i v st hst
    cases hz : Nat.blt i nL with
    | false => rw [hz] at h; cases h
    | true =>
      rw [hz] at h
      cases h
      refine ⟨zcv r ad (.inl (.inl v)), st, by rw [hst]; rfl, fun _ => ⟨⟨_, rfl⟩, zblt hz, fun ls' hl' => ?_⟩, (fun q => by cases q), (fun q => by cases q)⟩
      exact hgo _ List.mem_cons_self r ad ph H locs ls' hJ ⟨hE, hZ, hW, hP, hD, hS, Eq.mp (congrArg (lv_has ls' nL) (zset1_ok r ad S.2.2.1 i _)) hl'⟩ hN
  · rename_i v st hst
    cases hz : Nat.blt (i + 1) nL with
    | false => rw [hz] at h; cases h
    | true =>
      rw [hz] at h
      cases h
      refine ⟨zcv r ad (.inl (.inr v)), st, by rw [hst]; rfl, (fun q => by cases q), fun _ => ⟨⟨_, rfl⟩, zblt hz, fun ls' hl' => ?_⟩, (fun q => by cases q)⟩
      exact hgo _ List.mem_cons_self r ad ph H locs ls' hJ ⟨hE, hZ, hW, hP, hD, hS, Eq.mp (congrArg (lv_has ls' nL) (zset2_ok r ad S.2.2.1 i _)) hl'⟩ hN
  · rename_i v st hst
    cases hz : Nat.blt i nL with
    | false => rw [hz] at h; cases h
    | true =>
      rw [hz] at h
      cases h
      refine ⟨zcv r ad (.inr (some v)), st, by rw [hst]; rfl, (fun q => by cases q), (fun q => by cases q), fun _ => ⟨⟨_, rfl⟩, zblt hz, fun ls' hl' => ?_⟩⟩
      exact hgo _ List.mem_cons_self r ad ph H locs ls' hJ ⟨hE, hZ, hW, hP, hD, hS, Eq.mp (congrArg (lv_has ls' nL) (zset1_ok r ad S.2.2.1 i _)) hl'⟩ hN
  · cases h
theorem zconst {r : Nat → Int} (h0 : r 0 = 0) (k : Int) : zev r (0, k) = k := by
  unfold zev
  dsimp only
  rw [h0]
  omega
set_option maxHeartbeats 4000000 in
theorem zstepA_ok (hx : p.tables.exec = Jvm.exec) (hb : c.code = cc) {own : String} {Ts : List Cond} (hown : s.vm.findClass own = some m.cls) (hts : ∀ w ∈ Ts, w.before args s = true) {cons lcons : List (Nat × Int)} (hcons : ∀ k z, zlk cons k = some z → Cond.constant own k (Int32.ofInt z) ∈ Ts) (hlc : ∀ k z, zlk lcons k = some z → Cond.constantLong own k (Int64.ofInt z) ∈ Ts)
    (hdg : decode cc pc = .ok (ins, zlen ins)) (h : zstepA cons lcons nL K n S pc ins = some L) (hgo : ∀ x ∈ L, zGo (zGW p l e R s m args below meth c cells slots Q) D cl kA A H0 nL K pins r0 ad0 N x.1 x.2) : zGo (zGW p l e R s m args below meth c cells slots Q) D cl kA A H0 nL K pins r0 ad0 N pc S := by
  intro r ad ph H locs ls hJ hR hN
  have h0 := hR.1.1
  unfold zstepA at h
  split at h
  · rename_i k
    cases h
    refine lv_iconst hx hb hdg rfl ?_
    have g := hgo _ List.mem_cons_self r ad ph H locs ls hJ hR hN
    rw [show (zst S (.inl (.inl (0, k)) :: S.2.2.2.1)).2.2.2.1.map (zcv r ad) = .int (Int32.ofInt k) :: S.2.2.2.1.map (zcv r ad) by show Value.int (Int32.ofInt (zev r (0, k))) :: _ = _; rw [zconst h0]] at g
    exact g
  · rename_i k
    cases hz : zle (-128) k && zle k 127 with
    | false => rw [hz] at h; cases h
    | true =>
      rw [hz] at h
      cases h
      simp only [Bool.and_eq_true] at hz
      refine lv_bipush hx hb hdg (zq_i8 (zle_ok hz.1) (zle_ok hz.2)) ?_
      have g := hgo _ List.mem_cons_self r ad ph H locs ls hJ hR hN
      rw [show (zst S (.inl (.inl (0, k)) :: S.2.2.2.1)).2.2.2.1.map (zcv r ad) = .int (Int32.ofInt k) :: S.2.2.2.1.map (zcv r ad) by show Value.int (Int32.ofInt (zev r (0, k))) :: _ = _; rw [zconst h0]] at g
      exact g
  · rename_i k
    cases hz : zle (-32768) k && zle k 32767 with
    | false => rw [hz] at h; cases h
    | true =>
      rw [hz] at h
      cases h
      simp only [Bool.and_eq_true] at hz
      refine lv_sipush hx hb hdg (zq_i16 (zle_ok hz.1) (zle_ok hz.2)) ?_
      have g := hgo _ List.mem_cons_self r ad ph H locs ls hJ hR hN
      rw [show (zst S (.inl (.inl (0, k)) :: S.2.2.2.1)).2.2.2.1.map (zcv r ad) = .int (Int32.ofInt k) :: S.2.2.2.1.map (zcv r ad) by show Value.int (Int32.ofInt (zev r (0, k))) :: _ = _; rw [zconst h0]] at g
      exact g
  · rename_i k
    cases h
    refine lv_lconst hx hb hdg rfl ?_
    have g := hgo _ List.mem_cons_self r ad ph H locs ls hJ hR hN
    rw [show (zst S (.inl (.inr (0, (k.val : Int))) :: S.2.2.2.1)).2.2.2.1.map (zcv r ad) = .long (Int64.ofNat k.val) :: S.2.2.2.1.map (zcv r ad) by show Value.long (Int64.ofInt (zev r (0, (k.val : Int)))) :: _ = _; rw [zconst h0]; rfl] at g
    exact g
  · rename_i k
    split at h
    · rename_i z hz
      cases h
      refine lv_ldc hx hb hown (hts _ (hcons k z hz)) hdg ?_
      have g := hgo _ List.mem_cons_self r ad ph H locs ls hJ hR hN
      rw [show (zst S (.inl (.inl (0, z)) :: S.2.2.2.1)).2.2.2.1.map (zcv r ad) = .int (Int32.ofInt z) :: S.2.2.2.1.map (zcv r ad) by show Value.int (Int32.ofInt (zev r (0, z))) :: _ = _; rw [zconst h0]] at g
      exact g
    · cases h
  · rename_i k
    split at h
    · rename_i z hz
      cases h
      refine lv_ldcw hx hb hown (hts _ (hcons k z hz)) hdg ?_
      have g := hgo _ List.mem_cons_self r ad ph H locs ls hJ hR hN
      rw [show (zst S (.inl (.inl (0, z)) :: S.2.2.2.1)).2.2.2.1.map (zcv r ad) = .int (Int32.ofInt z) :: S.2.2.2.1.map (zcv r ad) by show Value.int (Int32.ofInt (zev r (0, z))) :: _ = _; rw [zconst h0]] at g
      exact g
    · cases h
  · rename_i k
    split at h
    · rename_i z hz
      cases h
      refine lv_ldc2 hx hb hown (hts _ (hlc k z hz)) hdg ?_
      have g := hgo _ List.mem_cons_self r ad ph H locs ls hJ hR hN
      rw [show (zst S (.inl (.inr (0, z)) :: S.2.2.2.1)).2.2.2.1.map (zcv r ad) = .long (Int64.ofInt z) :: S.2.2.2.1.map (zcv r ad) by show Value.long (Int64.ofInt (zev r (0, z))) :: _ = _; rw [zconst h0]] at g
      exact g
    · cases h
  · obtain ⟨v, g1, g2, g3, -, -⟩ := zld_go h hgo hJ hR hN
    obtain ⟨x, rfl⟩ := g3 rfl
    exact lv_iload hx hb hdg g1 g2
  · obtain ⟨v, g1, g2, g3, -, -⟩ := zld_go h hgo hJ hR hN
    obtain ⟨x, rfl⟩ := g3 rfl
    exact lv_iload_n hx hb hdg rfl g1 g2
  · obtain ⟨v, g1, g2, -, g3, -⟩ := zld_go h hgo hJ hR hN
    obtain ⟨x, rfl⟩ := g3 rfl
    exact lv_lload hx hb hdg g1 g2
  · obtain ⟨v, g1, g2, -, g3, -⟩ := zld_go h hgo hJ hR hN
    obtain ⟨x, rfl⟩ := g3 rfl
    exact lv_lload_n hx hb hdg rfl g1 g2
  · obtain ⟨v, g1, g2, -, -, g3⟩ := zld_go h hgo hJ hR hN
    obtain ⟨x, rfl⟩ := g3 rfl
    exact lv_aload hx hb hdg g1 g2
  · obtain ⟨v, g1, g2, -, -, g3⟩ := zld_go h hgo hJ hR hN
    obtain ⟨x, rfl⟩ := g3 rfl
    exact lv_aload_n hx hb hdg rfl g1 g2
  · obtain ⟨v, st, g1, g2, -, -⟩ := zso_go h hgo hJ hR hN
    obtain ⟨⟨x, rfl⟩, hi, g3⟩ := g2 rfl
    show W _ _ _ _ _ _ _ _ _ _ _ _ _ _ _ (F0 m pc ls (S.2.2.2.1.map (zcv r ad)))
    rw [g1]
    exact lv_istore hx hb hdg hR.2.2.2.2.2.2 hi rfl g3
  · obtain ⟨v, st, g1, g2, -, -⟩ := zso_go h hgo hJ hR hN
    obtain ⟨⟨x, rfl⟩, hi, g3⟩ := g2 rfl
    show W _ _ _ _ _ _ _ _ _ _ _ _ _ _ _ (F0 m pc ls (S.2.2.2.1.map (zcv r ad)))
    rw [g1]
    exact lv_istore_n hx hb hdg rfl hR.2.2.2.2.2.2 hi rfl g3
  · obtain ⟨v, st, g1, -, g2, -⟩ := zso_go h hgo hJ hR hN
    obtain ⟨⟨x, rfl⟩, hi, g3⟩ := g2 rfl
    show W _ _ _ _ _ _ _ _ _ _ _ _ _ _ _ (F0 m pc ls (S.2.2.2.1.map (zcv r ad)))
    rw [g1]
    exact lv_lstore hx hb hdg hR.2.2.2.2.2.2 hi rfl g3
  · obtain ⟨v, st, g1, -, g2, -⟩ := zso_go h hgo hJ hR hN
    obtain ⟨⟨x, rfl⟩, hi, g3⟩ := g2 rfl
    show W _ _ _ _ _ _ _ _ _ _ _ _ _ _ _ (F0 m pc ls (S.2.2.2.1.map (zcv r ad)))
    rw [g1]
    exact lv_lstore_n hx hb hdg rfl hR.2.2.2.2.2.2 hi rfl g3
  · obtain ⟨v, st, g1, -, -, g2⟩ := zso_go h hgo hJ hR hN
    obtain ⟨⟨x, rfl⟩, hi, g3⟩ := g2 rfl
    show W _ _ _ _ _ _ _ _ _ _ _ _ _ _ _ (F0 m pc ls (S.2.2.2.1.map (zcv r ad)))
    rw [g1]
    exact lv_astore hx hb hdg hR.2.2.2.2.2.2 hi rfl g3
  · obtain ⟨v, st, g1, -, -, g2⟩ := zso_go h hgo hJ hR hN
    obtain ⟨⟨x, rfl⟩, hi, g3⟩ := g2 rfl
    show W _ _ _ _ _ _ _ _ _ _ _ _ _ _ _ (F0 m pc ls (S.2.2.2.1.map (zcv r ad)))
    rw [g1]
    exact lv_astore_n hx hb hdg rfl hR.2.2.2.2.2.2 hi rfl g3
  · rename_i o
    cases hz : zle 0 ((pc : Int) + o) with
    | false => rw [hz] at h; cases h
    | true =>
      rw [hz] at h
      cases h
      have q := zle_ok hz
      exact lv_goto (tgt := ((pc : Int) + o).toNat) hx hb hdg (by omega) (hgo _ List.mem_cons_self r ad ph H locs ls hJ hR hN)
  · split at h
    · rename_i a st hst
      cases hz : Nat.beq (zcat a) 1 with
      | false => rw [hz] at h; cases h
      | true =>
        rw [hz] at h
        cases h
        show W _ _ _ _ _ _ _ _ _ _ _ _ _ _ _ (F0 m pc ls (S.2.2.2.1.map (zcv r ad)))
        rw [hst]
        exact lv_dup hx hb hdg (by rw [zcat_ok]; exact Nat.eq_of_beq_eq_true hz) (hgo _ List.mem_cons_self r ad ph H locs ls hJ hR hN)
    · cases h
  · split at h
    · rename_i a b st hst
      cases hz : Nat.beq (zcat a) 1 && Nat.beq (zcat b) 1 with
      | false => rw [hz] at h; cases h
      | true =>
        rw [hz] at h
        cases h
        simp only [Bool.and_eq_true] at hz
        show W _ _ _ _ _ _ _ _ _ _ _ _ _ _ _ (F0 m pc ls (S.2.2.2.1.map (zcv r ad)))
        rw [hst]
        exact lv_dup2_11 hx hb hdg (by rw [zcat_ok]; exact Nat.eq_of_beq_eq_true hz.1) (by rw [zcat_ok]; exact Nat.eq_of_beq_eq_true hz.2) (hgo _ List.mem_cons_self r ad ph H locs ls hJ hR hN)
    · cases h
  · split at h
    · rename_i a st hst
      cases hz : Nat.beq (zcat a) 1 with
      | false => rw [hz] at h; cases h
      | true =>
        rw [hz] at h
        cases h
        show W _ _ _ _ _ _ _ _ _ _ _ _ _ _ _ (F0 m pc ls (S.2.2.2.1.map (zcv r ad)))
        rw [hst]
        exact lv_pop hx hb hdg (by rw [zcat_ok]; exact Nat.eq_of_beq_eq_true hz) (hgo _ List.mem_cons_self r ad ph H locs ls hJ hR hN)
    · cases h
  · split at h
    · rename_i a st hst
      cases hz : Nat.beq (zcat a) 2 with
      | false => rw [hz] at h; cases h
      | true =>
        rw [hz] at h
        cases h
        show W _ _ _ _ _ _ _ _ _ _ _ _ _ _ _ (F0 m pc ls (S.2.2.2.1.map (zcv r ad)))
        rw [hst]
        exact lv_pop2_2 hx hb hdg (by rw [zcat_ok]; exact Nat.eq_of_beq_eq_true hz) (hgo _ List.mem_cons_self r ad ph H locs ls hJ hR hN)
    · cases h
  · split at h
    · rename_i v st hst
      split at h
      · rename_i i hr
        cases hz : zint i with
        | false => rw [hz] at h; cases h
        | true =>
          rw [hz] at h
          cases h
          have b := zrng_ok hR.1 hr
          have q := zint_ok hz b.1 b.2
          show W _ _ _ _ _ _ _ _ _ _ _ _ _ _ _ (F0 m pc ls (S.2.2.2.1.map (zcv r ad)))
          rw [hst]
          exact lv_i2l hx hb hdg (zq_i2l q.1 q.2) (hgo _ List.mem_cons_self r ad ph H locs ls hJ hR hN)
      · cases h
    · cases h
  · split at h
    · rename_i v st hst
      split at h
      · rename_i i hr
        cases hz : zint i with
        | false => rw [hz] at h; cases h
        | true =>
          rw [hz] at h
          cases h
          have b := zrng_ok hR.1 hr
          have q := zint_ok hz b.1 b.2
          show W _ _ _ _ _ _ _ _ _ _ _ _ _ _ _ (F0 m pc ls (S.2.2.2.1.map (zcv r ad)))
          rw [hst]
          exact lv_l2i hx hb hdg (zq_l2i q.1 q.2) (hgo _ List.mem_cons_self r ad ph H locs ls hJ hR hN)
      · cases h
    · cases h
  · rename_i i k
    split at h
    · rename_i v hl
      split at h
      · rename_i b hr
        cases hz : zint b && zint (k, k) && Nat.blt i nL && zfr n K S with
        | false => rw [hz] at h; cases h
        | true =>
          rw [hz] at h
          simp only [Bool.and_eq_true] at hz
          have hB := zrng_ok hR.1 hr
          have q := zadd_ok (i := b) (j := (k, k)) (v1 := v) (v2 := (0, k)) h0 hB ⟨by rw [zconst h0]; exact Int.le_refl _, by rw [zconst h0]; exact Int.le_refl _⟩ hz.1.1.1 hz.1.1.2
          rw [zconst h0] at q
          obtain ⟨kk, hkk⟩ := List.getElem?_of_mem (List.mem_map.mpr ⟨_, zlk_mem hl, rfl⟩ : (i, zcv r ad (.inl (.inl v))) ∈ S.2.2.1.map (fun x => (x.1, zcv r ad x.2)))
          dsimp only [cond] at h
          split at h
          · rename_i u hu
            cases h
            rw [hu] at q
            have q : Int32.ofInt (zev r v) + Int32.ofInt k = Int32.ofInt (zev r u) := q
            refine lv_iinc (k := kk) hx hb hdg hR.2.2.2.2.2.2 hkk q (zblt hz.1.2) rfl (fun ls' hl' => ?_)
            exact hgo _ List.mem_cons_self r ad ph H locs ls' hJ ⟨hR.1, hR.2.1, hR.2.2.1, hR.2.2.2.1, hR.2.2.2.2.1, hR.2.2.2.2.2.1, Eq.mp (congrArg (lv_has ls' nL) (zset1_ok r ad S.2.2.1 i _)) hl'⟩ hN
          · rename_i w hw
            cases h
            rw [hw] at q
            obtain ⟨h1, h2, h3, h4, h5⟩ := zfresh (st := S.2.2.2.1) hz.2 hJ hR hN (Int32.ofInt (zev r v) + Int32.ofInt k).toInt
            refine lv_iinc (k := kk) hx hb hdg hR.2.2.2.2.2.2 hkk rfl (zblt hz.1.2) rfl (fun ls' hl' => ?_)
            have g := hgo _ List.mem_cons_self _ ad ph H locs ls' h1 ⟨⟨h2.1.1, fun x hx => by
              rcases List.mem_cons.mp hx with e | e
              · subst e
                dsimp only
                rw [if_pos rfl]
                exact q
              · exact h2.1.2 x e⟩, h2.2.1, h2.2.2.1, h2.2.2.2.1, h2.2.2.2.2.1, h2.2.2.2.2.2.1, by
                rw [← zset1_ok]
                have e1 : S.2.2.1.map (fun x => (x.1, zcv (fun i => if i = n then (Int32.ofInt (zev r v) + Int32.ofInt k).toInt else r i) ad x.2)) = S.2.2.1.map (fun x => (x.1, zcv r ad x.2)) := by
                  have hf := hz.2
                  simp only [zfr, zbS, Bool.and_eq_true] at hf
                  exact List.map_congr_left (fun x hx => by rw [zbA_eq (n := n) (fun i hi => if_neg (by omega)) ad (List.all_eq_true.mp hf.2.1.1.1.2 x hx)])
                rw [e1]
                have e2 : zcv (fun i => if i = n then (Int32.ofInt (zev r v) + Int32.ofInt k).toInt else r i) ad (.inl (.inl (n, 0))) = .int (Int32.ofInt (zev r v) + Int32.ofInt k) := by
                  show Value.int (Int32.ofInt (zev _ (n, 0))) = _
                  unfold zev
                  dsimp only
                  rw [if_pos rfl, Int.add_zero, Int32.ofInt_toInt]
                rw [e2]
                exact hl'⟩ h4
            have e3 : S.2.2.2.1.map (zcv (fun i => if i = n then (Int32.ofInt (zev r v) + Int32.ofInt k).toInt else r i) ad) = S.2.2.2.1.map (zcv r ad) := h3
            show W _ _ _ _ _ _ _ _ _ _ _ _ _ _ _ (F0 m (pc + 3) ls' (S.2.2.2.1.map (zcv r ad)))
            rw [← e3]
            exact g
      · cases h
    · cases h
  · cases h
end ZSB
