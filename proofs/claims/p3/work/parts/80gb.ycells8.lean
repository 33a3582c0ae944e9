/-- all numbers 0 -/
noncomputable def zok0 (w : zW) : Bool := w.all (fun x => match x.2 with
  | .inr (.inl (_, _, gs, mm)) => gs.all (fun g => match g.2 with
    | .inl i => zle i.1 0 && zle 0 i.2
    | .inr v => decide (v.2 = 0)) && mm.isEmpty
  | _ => true)
theorem zok0_g : ∀ (gs : List zG) (o : Nat), gs.all (fun g => match g.2 with
    | .inl i => zle i.1 0 && zle 0 i.2
    | .inr v => decide (v.2 = 0)) = true → zokG zz0 (fun _ => 0) o gs
  | [], _, _ => trivial
  | g :: gs, o, h => by
    simp only [List.all_cons, Bool.and_eq_true] at h
    refine ⟨fun j _ _ => ?_, zok0_g gs _ h.2⟩
    have h1 := h.1
    obtain ⟨n, i | v⟩ := g
    · simp only [Bool.and_eq_true] at h1
      exact ⟨zle_ok h1.1, zle_ok h1.2⟩
    · have : v.2 = 0 := of_decide_eq_true h1
      show (0 : Int) = zev zz0 v
      unfold zev
      rw [this]
      rfl
theorem zok0_w {w : zW} (h : zok0 w = true) : zokW zz0 zp0 w := by
  intro x hx
  have q := List.all_eq_true.mp h x hx
  obtain ⟨i, c⟩ := x
  rcases c with c | (c | c)
  · trivial
  · obtain ⟨a, b, gs, mm⟩ := c
    simp only [Bool.and_eq_true] at q
    have e : mm = [] := List.isEmpty_iff.mp q.2
    subst e
    exact ⟨zok0_g gs 0 q.1, fun x hx => by cases hx⟩
  · trivial
noncomputable def zw8 : zW := [(0, .inl (8, [zr 1, zr 2, zr 3, zi 0 0, zi 0 0, zi 0 0, zr 4, zr 5, zi 0 0, zi 0 0, zi 0 0, zi 0 0, zr 6, zr 7, zi 0 0, zi 0 0, zr 8, zi 0 0, zi 0 0, zi 0 0, zi 0 0, zi 0 0, zi 0 0, zi 0 0, zr 9, zi 0 0, zi 0 0, zr 10, zr 11, zr 12, zr 13, zr 14, zi 0 0])),
  (1, .inr (.inl (0, 393, [(393, .inl ((-2147483648), 2147483647))], []))),
  (2, .inr (.inl (0, 131, [(131, .inl ((-2147483648), 2147483647))], []))),
  (3, .inr (.inl (1, 2, [(2, .inl ((-2147483648), 2147483647))], []))),
  (4, .inr (.inl (0, 5, [(5, .inl ((-2147483648), 2147483647))], []))),
  (5, .inr (.inl (0, 131, [(131, .inl ((-2147483648), 2147483647))], []))),
  (6, .inr (.inl (0, 5, [(5, .inl ((-2147483648), 2147483647))], []))),
  (7, .inr (.inl (0, 3, [(3, .inl ((-2147483648), 2147483647))], []))),
  (8, .inr (.inl (0, 160, [(160, .inl ((-2147483648), 2147483647))], []))),
  (9, .inr (.inl (0, 40, [(40, .inl ((-2147483648), 2147483647))], []))),
  (10, .inr (.inl (0, 700, [(700, .inl ((-2147483648), 2147483647))], []))),
  (11, .inr (.inl (0, 11216, [(11216, .inl ((-2147483648), 2147483647))], []))),
  (12, .inr (.inl (0, 4, [(4, .inl ((-2147483648), 2147483647))], []))),
  (13, .inr (.inl (0, 4, [(4, .inl ((-2147483648), 2147483647))], []))),
  (14, .inr (.inl (0, 160, [(160, .inl ((-2147483648), 2147483647))], [])))]
/-- the reference's start -/
def y8T (τ : yS) : Prop := τ.1 0 17 = 0 ∧ τ.1 0 22 = 0 ∧ τ.1 0 3 = 3 ∧ τ.1 0 4 = 0 ∧ τ.1 0 5 = 0 ∧ (∀ j : Nat, j < 131 → τ.1 1 j = 0) ∧ τ.1 3 0 = 0 ∧ τ.1 3 1 = 0 ∧ ∀ k : Nat, k < 4 → τ.1 12 k = -4
theorem zok0_8 : zok0 zw8 = true := by decide +kernel
/-- worlds with the same addresses are apart alike -/
theorem yva_D {A : Nat → Prop} {u v : va_W} (e : u.map Prod.fst = v.map Prod.fst) (h : va_D A u) : va_D A v := by
  have key : ∀ (i : Nat) (q : Nat × va_E), v[i]? = some q → ∃ q' : Nat × va_E, u[i]? = some q' ∧ q'.1 = q.1 := fun i q hq => by
    have a : (v.map Prod.fst)[i]? = some q.1 := by rw [List.getElem?_map, hq]; rfl
    rw [← e, List.getElem?_map] at a
    cases w : u[i]? with
    | none => rw [w] at a; cases a
    | some q' =>
      rw [w] at a
      exact ⟨q', rfl, Option.some.inj a⟩
  refine ⟨fun i j p q hi hj he => ?_, fun k q hk => ?_⟩
  · obtain ⟨p', p1, p2⟩ := key i p hi
    obtain ⟨q', q1, q2⟩ := key j q hj
    exact h.1 i j p' q' p1 q1 (by rw [p2, q2]; exact he)
  · obtain ⟨q', q1, q2⟩ := key k q hk
    rw [← q2]
    exact h.2 k q' q1
/-- a cell of the reference's start -/
noncomputable def y8cb (k : Nat) : yH → zC → Bool
  | .inl ci, .inl (cj, fs) => Nat.beq k 0 && Nat.beq ci cj && Nat.beq fs.length (yct.1 ci).length && (List.range fs.length).all (fun q => match fs[q]?, (yct.1 ci)[q]? with
    | some (.inl (.inl v)), some none => decide (v.2 = 0)
    | some (.inr (some i)), some (some _) => Nat.beq i (yrf ysh8 [] k q)
    | _, _ => false)
  | .inr y, .inr (.inl (kd, n, _)) => !(Nat.beq k 0) && Nat.beq y.1 kd && Nat.beq y.2 n && Nat.ble y.1 1
  | _, _ => false
section Y8C
variable {D : va_G} {kA : Nat → ClassId} {f : Nat → Nat} {H : Heap} {A : Nat → Prop} {ph : Nat → Nat → Int}
theorem y8_c {k : Nat} {h : yH} {x : zC} (hc : y8cb k h x = true) (a : Nat) (hv : va_at D vwCl (a, zce kA zz0 f (ph k) x) H) : va_at D vwCl (a, yce yct kA f (y8S ph) k h) H := by
  cases h with
  | inl ci =>
    cases x with
    | inl o =>
      obtain ⟨cj, fs⟩ := o
      unfold y8cb at hc
      simp only [Bool.and_eq_true] at hc
      obtain ⟨⟨⟨h0, h1⟩, h2⟩, h3⟩ := hc
      have h1 := Nat.eq_of_beq_eq_true h1
      have h2 := Nat.eq_of_beq_eq_true h2
      subst h1
      have e : fs.map (zcv zz0 f) = (yct.1 ci).mapIdx (fun q t => yfv f (y8S ph) k q t) := by
        refine List.ext_getElem? (fun q => ?_)
        rw [List.getElem?_map, List.getElem?_mapIdx]
        by_cases hq : q < fs.length
        · have w := List.all_eq_true.mp h3 q (List.mem_range.mpr hq)
          rw [List.getElem?_eq_getElem hq, List.getElem?_eq_getElem (by omega : q < (yct.1 ci).length)] at w ⊢
          generalize fs[q] = u at w ⊢
          generalize (yct.1 ci)[q]'(by omega) = t at w ⊢
          cases u with
          | inl u =>
            cases u with
            | inl v =>
              cases t with
              | none =>
                have w := of_decide_eq_true w
                show some (Value.int (Int32.ofInt (0 + v.2))) = some (Value.int (Int32.ofInt (bif Nat.beq k 0 then 0 else ph k q)))
                rw [w, h0]
                rfl
              | some t => cases w
            | inr v =>
              cases t with
              | none => cases w
              | some t => cases w
          | inr u =>
            cases u with
            | none =>
              cases t with
              | none => cases w
              | some t => cases w
            | some i =>
              cases t with
              | none => cases w
              | some t =>
                have w := Nat.eq_of_beq_eq_true w
                show some (Value.ref (f i)) = some (Value.ref (f (yrf ysh8 [] k q)))
                rw [w]
        · rw [List.getElem?_eq_none (by omega), List.getElem?_eq_none (by omega)]
          rfl
      have hv : va_at D vwCl (a, .inr (ci, fs.map (zcv zz0 f))) H := hv
      rw [e] at hv
      exact hv
    | inr x =>
      cases x with
      | inl x => cases hc
      | inr x => cases hc
  | inr y =>
    cases x with
    | inl o => cases hc
    | inr x =>
      cases x with
      | inl o =>
        obtain ⟨kd, n, o⟩ := o
        unfold y8cb at hc
        simp only [Bool.and_eq_true] at hc
        obtain ⟨⟨⟨h0, h1⟩, h2⟩, h3⟩ := hc
        have h1 := Nat.eq_of_beq_eq_true h1
        have h2 := Nat.eq_of_beq_eq_true h2
        have h0 : Nat.beq k 0 = false := by
          cases e : Nat.beq k 0 with
          | false => rfl
          | true => rw [e] at h0; cases h0
        subst h1
        subst h2
        have hv : va_at D vwCl (a, .inl (kA y.1, y.2, .inl (fun j => Int32.ofInt (ph k j)))) H := hv
        unfold yce
        dsimp only
        rw [h3, cond_true]
        have e : (fun q => Int32.ofInt ((y8S ph).1 k q)) = (fun q => Int32.ofInt (ph k q)) := funext fun q => by
          show Int32.ofInt (bif Nat.beq k 0 then 0 else ph k q) = _
          rw [h0]
          rfl
        rw [e]
        exact hv
      | inr o => cases hc
noncomputable def y8ca : Bool := (List.range 15).all (fun k => match ysh8[k]?, zw8[k]? with
  | some h, some (j, x) => Nat.beq j k && y8cb k h x
  | _, _ => false)
set_option maxRecDepth 100000 in
theorem y8ca_ok : y8ca = true := by decide +kernel
theorem y8_P (h : va_P D vwCl (zws kA zz0 f ph zw8) H) : va_P D vwCl (yws yct kA f ysh8 (y8S ph)) H := fun k q hk => by
  have hl : k < 15 := by
    have a := (List.getElem?_eq_some_iff.mp hk).1
    have b : (yws yct kA f ysh8 (y8S ph)).length = 15 := by
      unfold yws
      rw [List.length_mapIdx]; rfl
    omega
  have w := List.all_eq_true.mp y8ca_ok k (List.mem_range.mpr hl)
  cases e1 : ysh8[k]? with
  | none => rw [e1] at w; cases w
  | some t =>
    cases e2 : zw8[k]? with
    | none => rw [e1, e2] at w; cases w
    | some jx =>
      obtain ⟨j, x⟩ := jx
      rw [e1, e2] at w
      have w := Bool.and_eq_true_iff.mp w
      have w1 := Nat.eq_of_beq_eq_true w.1
      subst w1
      rw [yws_get e1] at hk
      have hk := Option.some.inj hk
      rw [← hk]
      exact y8_c w.2 _ (h _ _ (zws_get kA zz0 f ph e2))
theorem y8_D (h : va_D A (zws kA zz0 f ph zw8)) : va_D A (yws yct kA f ysh8 (y8S ph)) := by
  refine yva_D ?_ h
  rw [show (zws kA zz0 f ph zw8).map Prod.fst = zw8.map (fun x => f x.1) by unfold zws; rw [List.map_map]; rfl, show (yws yct kA f ysh8 (y8S ph)).map Prod.fst = ysh8.mapIdx (fun i _ => f i) from List.ext_getElem? (fun i => by unfold yws; rw [List.getElem?_map, List.getElem?_mapIdx, List.getElem?_mapIdx]; cases ysh8[i]? <;> rfl)]
  rfl
end Y8C
