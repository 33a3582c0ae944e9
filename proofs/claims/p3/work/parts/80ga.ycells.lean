noncomputable def y7p : List Nat := [0, 43, 44, 45, 46, 47, 48, 49, 50, 93, 94, 95, 96, 97, 98, 99, 100, 1, 2, 3, 4, 5, 6, 7, 8, 9, 10, 11, 12, 13, 14, 15, 16, 17, 18, 19, 20, 21, 22, 23, 24, 25, 26, 27, 28, 29, 30, 31, 32, 33, 34, 35, 36, 37, 38, 39, 40, 41, 42, 51, 52, 53, 54, 55, 56, 57, 58, 59, 60, 61, 62, 63, 64, 65, 66, 67, 68, 69, 70, 71, 72, 73, 74, 75, 76, 77, 78, 79, 80, 81, 82, 83, 84, 85, 86, 87, 88, 89, 90, 91, 92]
noncomputable def y7pi (i : Nat) : Nat := y7p.getD i 0
section Y7C
variable {D : va_G} {kA : Nat → ClassId} {f : Nat → Nat} {H : Heap} {A : Nat → Prop}
/-- a cell of the old way's start against the flat one -/
noncomputable def y7cb (k : Nat) : yH → zC → Bool
  | .inl ci, .inl (cj, fs) => Nat.beq ci cj && Nat.beq fs.length (yct.1 ci).length && (List.range fs.length).all (fun q => match fs[q]?, (yct.1 ci)[q]? with
    | some (.inl (.inl v)), some none => decide (y7S.1 k q = v.2)
    | some (.inr (some i)), some (some _) => Nat.beq i (y7pi (y7S.2 k q))
    | _, _ => false)
  | .inr y, .inr (.inl (kd, n, _)) => Nat.beq y.1 kd && Nat.beq y.2 n && Nat.ble y.1 1 && !(Nat.beq k 17 || Nat.beq k 38 || Nat.beq k 59 || Nat.beq k 80 || Nat.beq k 9 || Nat.beq k 11 || Nat.beq k 13 || Nat.beq k 15)
  | .inr y, .inr (.inr (kd, is)) => Nat.beq y.1 kd && Nat.beq y.2 is.length && !(Nat.ble y.1 1) && (List.range is.length).all (fun j => match is[j]? with
    | some i => Nat.beq i (y7pi (y7S.2 k j))
    | none => false)
  | _, _ => false
theorem y7_z {k : Nat} (h : (!(Nat.beq k 17 || Nat.beq k 38 || Nat.beq k 59 || Nat.beq k 80 || Nat.beq k 9 || Nat.beq k 11 || Nat.beq k 13 || Nat.beq k 15)) = true) (j : Nat) : y7S.1 k j = 0 := by
  unfold y7S
  dsimp only
  generalize Nat.beq k 17 = a at h ⊢
  generalize Nat.beq k 38 = b at h ⊢
  generalize Nat.beq k 59 = c at h ⊢
  generalize Nat.beq k 80 = d at h ⊢
  generalize Nat.beq k 9 = e at h ⊢
  generalize Nat.beq k 11 = e1 at h ⊢
  generalize Nat.beq k 13 = e2 at h ⊢
  generalize Nat.beq k 15 = e3 at h ⊢
  cases a <;> cases b <;> cases c <;> cases d <;> cases e <;> cases e1 <;> cases e2 <;> cases e3 <;> first | rfl | cases h
theorem yarr_c {cA : ClassId} {n : Nat} {f g : Nat → Value} (h : ∀ j, j < n → f j = g j) : arrV cA n f = arrV cA n g := by
  unfold arrV
  have e : (fun j : Fin n => f j.val) = (fun j : Fin n => g j.val) := funext fun j => h _ j.isLt
  rw [e]
theorem y7_c {k : Nat} {h : yH} {x : zC} (hc : y7cb k h x = true) (a : Nat) (j : Nat) (hv : va_at D vwCl (a, zce kA zz0 f (zp0 j) x) H) : va_at D vwCl (a, yce yct kA (fun i => f (y7pi i)) y7S k h) H := by
  cases h with
  | inl ci =>
    cases x with
    | inl o =>
      obtain ⟨cj, fs⟩ := o
      unfold y7cb at hc
      simp only [Bool.and_eq_true] at hc
      obtain ⟨⟨h1, h2⟩, h3⟩ := hc
      have h1 := Nat.eq_of_beq_eq_true h1
      have h2 := Nat.eq_of_beq_eq_true h2
      subst h1
      have e : fs.map (zcv zz0 f) = (yct.1 ci).mapIdx (fun q t => yfv (fun i => f (y7pi i)) y7S k q t) := by
        refine List.ext_getElem? (fun q => ?_)
        rw [List.getElem?_map, List.getElem?_mapIdx]
        by_cases hq : q < fs.length
        · have w := List.all_eq_true.mp h3 q (List.mem_range.mpr hq)
          rw [List.getElem?_eq_getElem hq, List.getElem?_eq_getElem (by omega : q < (yct.1 ci).length)] at w ⊢
          generalize fs[q] = u at w ⊢
          generalize (yct.1 ci)[q]'(by omega) = t at w ⊢
          cases u with
          | inl u =>
            cases u with
            | inl v =>
              cases t with
              | none =>
                have w := of_decide_eq_true w
                show some (Value.int (Int32.ofInt (0 + v.2))) = some (Value.int (Int32.ofInt (y7S.1 k q)))
                rw [w, Int.zero_add]
              | some t => cases w
            | inr v =>
              cases t with
              | none => cases w
              | some t => cases w
          | inr u =>
            cases u with
            | none =>
              cases t with
              | none => cases w
              | some t => cases w
            | some i =>
              cases t with
              | none => cases w
              | some t =>
                have w := Nat.eq_of_beq_eq_true w
                show some (Value.ref (f i)) = some (Value.ref (f (y7pi (y7S.2 k q))))
                rw [w]
        · rw [List.getElem?_eq_none (by omega), List.getElem?_eq_none (by omega)]
          rfl
      have hv : va_at D vwCl (a, .inr (ci, fs.map (zcv zz0 f))) H := hv
      rw [e] at hv
      exact hv
    | inr x =>
      cases x with
      | inl x => cases hc
      | inr x => cases hc
  | inr y =>
    cases x with
    | inl o => cases hc
    | inr x =>
      cases x with
      | inl o =>
        obtain ⟨kd, n, o⟩ := o
        unfold y7cb at hc
        simp only [Bool.and_eq_true] at hc
        obtain ⟨⟨⟨h1, h2⟩, h3⟩, h4⟩ := hc
        have h1 := Nat.eq_of_beq_eq_true h1
        have h2 := Nat.eq_of_beq_eq_true h2
        have z := y7_z h4
        subst h1
        subst h2
        have hv : va_at D vwCl (a, .inl (kA y.1, y.2, .inl (fun _ => Int32.ofInt 0))) H := hv
        unfold yce
        dsimp only
        rw [h3, cond_true]
        have e : (fun q => Int32.ofInt (y7S.1 k q)) = (fun _ => Int32.ofInt 0) := funext fun q => by rw [z q]
        rw [e]
        exact hv
      | inr o =>
        obtain ⟨kd, is⟩ := o
        unfold y7cb at hc
        simp only [Bool.and_eq_true] at hc
        obtain ⟨⟨⟨h1, h2⟩, h3⟩, h4⟩ := hc
        have h1 := Nat.eq_of_beq_eq_true h1
        have h2 := Nat.eq_of_beq_eq_true h2
        subst h1
        have h3 : Nat.ble y.1 1 = false := by
          cases e : Nat.ble y.1 1 with
          | false => rfl
          | true => rw [e] at h3; cases h3
        unfold yce
        dsimp only
        rw [h3, cond_false, h2]
        have hv : H[a]? = some (arrV (kA y.1) is.length (fun j => va_rf ((is[j]?).map f))) := hv
        show H[a]? = some (arrV (kA y.1) is.length (fun j => va_rf (some (f (y7pi (y7S.2 k j))))))
        rw [hv]
        refine congrArg some (yarr_c (fun j hj => ?_))
        have w := List.all_eq_true.mp h4 j (List.mem_range.mpr hj)
        rw [List.getElem?_eq_getElem hj] at w ⊢
        have w := Nat.eq_of_beq_eq_true w
        show va_rf (some (f is[j])) = _
        rw [w]
noncomputable def y7ca : Bool := (List.range 101).all (fun k => match ysh7[k]?, wI_X7[y7pi k]? with
  | some h, some (j, x) => Nat.beq j (y7pi k) && y7cb k h x
  | _, _ => false)
set_option maxRecDepth 100000 in
theorem y7ca_ok : y7ca = true := by decide +kernel
theorem y7_P (h : va_P D vwCl (zws kA zz0 f zp0 wI_X7) H) : va_P D vwCl (yws yct kA (fun i => f (y7pi i)) ysh7 y7S) H := fun k q hk => by
  have hl : k < 101 := by
    have a := (List.getElem?_eq_some_iff.mp hk).1
    have b : (yws yct kA (fun i => f (y7pi i)) ysh7 y7S).length = 101 := by
      unfold yws
      rw [List.length_mapIdx]; rfl
    omega
  have w := List.all_eq_true.mp y7ca_ok k (List.mem_range.mpr hl)
  cases e1 : ysh7[k]? with
  | none => rw [e1] at w; cases w
  | some t =>
    cases e2 : wI_X7[y7pi k]? with
    | none => rw [e1, e2] at w; cases w
    | some jx =>
      obtain ⟨j, x⟩ := jx
      rw [e1, e2] at w
      have w := Bool.and_eq_true_iff.mp w
      have w1 := Nat.eq_of_beq_eq_true w.1
      subst w1
      rw [yws_get e1] at hk
      have hk := Option.some.inj hk
      rw [← hk]
      exact y7_c w.2 _ _ (h _ _ (zws_get kA zz0 f zp0 e2))
theorem y7_w : ∀ k : Fin 101, (wI_X7[k.val]?).map Prod.fst = some k.val := by decide +kernel
theorem y7_l : ∀ k : Fin 101, y7pi k.val < 101 := by decide +kernel
noncomputable def y7q : List Nat := [0, 17, 18, 19, 20, 21, 22, 23, 24, 25, 26, 27, 28, 29, 30, 31, 32, 33, 34, 35, 36, 37, 38, 39, 40, 41, 42, 43, 44, 45, 46, 47, 48, 49, 50, 51, 52, 53, 54, 55, 56, 57, 58, 1, 2, 3, 4, 5, 6, 7, 8, 59, 60, 61, 62, 63, 64, 65, 66, 67, 68, 69, 70, 71, 72, 73, 74, 75, 76, 77, 78, 79, 80, 81, 82, 83, 84, 85, 86, 87, 88, 89, 90, 91, 92, 93, 94, 95, 96, 97, 98, 99, 100, 9, 10, 11, 12, 13, 14, 15, 16]
theorem y7_jq : ∀ i : Fin 101, y7q.getD (y7pi i.val) 0 = i.val := by decide +kernel
theorem y7_j (i j : Fin 101) (h : y7pi i.val = y7pi j.val) : i = j := by
  have a := y7_jq i
  have b := y7_jq j
  rw [h] at a
  exact Fin.ext (a.symm.trans b)
theorem y7_ad {k : Nat} (hk : k < 101) : ∃ e, (zws kA zz0 f zp0 wI_X7)[y7pi k]? = some (f (y7pi k), e) := by
  have q := y7_w ⟨y7pi k, y7_l ⟨k, hk⟩⟩
  dsimp only at q
  cases e : wI_X7[y7pi k]? with
  | none => rw [e] at q; cases q
  | some x =>
    rw [e] at q
    have q : x.1 = y7pi k := Option.some.inj q
    have w := zws_get kA zz0 f zp0 (w := wI_X7) (q := y7pi k) (i := x.1) (x := x.2) e
    rw [q] at w
    exact ⟨_, w⟩
theorem y7_D (h : va_D A (zws kA zz0 f zp0 wI_X7)) : va_D A (yws yct kA (fun i => f (y7pi i)) ysh7 y7S) := by
  have hl : ∀ {k : Nat} {q : Nat × va_E}, (yws yct kA (fun i => f (y7pi i)) ysh7 y7S)[k]? = some q → k < 101 ∧ q.1 = f (y7pi k) := fun {k q} hk => by
    have a := (List.getElem?_eq_some_iff.mp hk).1
    have b : (yws yct kA (fun i => f (y7pi i)) ysh7 y7S).length = ysh7.length := by
      unfold yws
      rw [List.length_mapIdx]
    have c : k < ysh7.length := by omega
    have d := yws_get (ct := yct) (kA := kA) (ad := fun i => f (y7pi i)) (σ := y7S) (List.getElem?_eq_getElem c)
    rw [d] at hk
    have hk := Option.some.inj hk
    exact ⟨c, by rw [← hk]⟩
  refine ⟨fun i j p q hi hj e => ?_, fun k q hk => ?_⟩
  · obtain ⟨i1, i2⟩ := hl hi
    obtain ⟨j1, j2⟩ := hl hj
    obtain ⟨x, hx⟩ := y7_ad (kA := kA) (f := f) i1
    obtain ⟨y, hy⟩ := y7_ad (kA := kA) (f := f) j1
    have w := h.1 _ _ _ _ hx hy (by rw [← i2, ← j2]; exact e)
    have z := y7_j ⟨i, i1⟩ ⟨j, j1⟩ w
    exact congrArg Fin.val z
  · obtain ⟨i1, i2⟩ := hl hk
    obtain ⟨x, hx⟩ := y7_ad (kA := kA) (f := f) i1
    rw [i2]
    exact h.2 _ _ hx
end Y7C
