noncomputable def ysh7 : List yH := [.inl 7, .inr (2, 2), .inl 1, .inl 3, .inr (0, 160), .inl 0, .inr (1, 16), .inr (0, 16), .inr (3, 4), .inl 2, .inr (0, 40), .inl 2, .inr (0, 40), .inl 2, .inr (0, 40), .inl 2, .inr (0, 40), .inl 4, .inr (0, 5), .inr (0, 7), .inr (0, 7), .inr (0, 7), .inr (0, 7), .inr (0, 7), .inr (0, 35), .inl 5, .inr (0, 10), .inr (0, 10), .inr (0, 10), .inr (0, 10), .inl 5, .inr (0, 10), .inr (0, 10), .inr (0, 10), .inr (0, 10), .inl 6, .inr (0, 4), .inr (0, 4), .inl 4, .inr (0, 5), .inr (0, 7), .inr (0, 7), .inr (0, 7), .inr (0, 7), .inr (0, 7), .inr (0, 35), .inl 5, .inr (0, 10), .inr (0, 10), .inr (0, 10), .inr (0, 10), .inl 5, .inr (0, 10), .inr (0, 10), .inr (0, 10), .inr (0, 10), .inl 6, .inr (0, 4), .inr (0, 4), .inl 4, .inr (0, 5), .inr (0, 7), .inr (0, 7), .inr (0, 7), .inr (0, 7), .inr (0, 7), .inr (0, 35), .inl 5, .inr (0, 10), .inr (0, 10), .inr (0, 10), .inr (0, 10), .inl 5, .inr (0, 10), .inr (0, 10), .inr (0, 10), .inr (0, 10), .inl 6, .inr (0, 4), .inr (0, 4), .inl 4, .inr (0, 5), .inr (0, 7), .inr (0, 7), .inr (0, 7), .inr (0, 7), .inr (0, 7), .inr (0, 35), .inl 5, .inr (0, 10), .inr (0, 10), .inr (0, 10), .inr (0, 10), .inl 5, .inr (0, 10), .inr (0, 10), .inr (0, 10), .inr (0, 10), .inl 6, .inr (0, 4), .inr (0, 4)]
noncomputable def ysh8 : List yH := [.inl 8, .inr (0, 393), .inr (0, 131), .inr (1, 2), .inr (0, 5), .inr (0, 131), .inr (0, 5), .inr (0, 3), .inr (0, 160), .inr (0, 40), .inr (0, 700), .inr (0, 11216), .inr (0, 4), .inr (0, 4), .inr (0, 160)]
theorem ysh7_R : yshR ysh7 := ⟨rfl, rfl, rfl⟩
/-- references: those that never change by the table, the others by the list -/
noncomputable def yrf (sh : List yH) (o : List (Nat × Nat)) (i k : Nat) : Nat := match sh[i]? with
  | some (.inl ci) => (match yfx ci i k with
    | some j => j
    | none => (zlk o (100 * i + k)).getD 0)
  | _ => (zlk o (100 * i + k)).getD 0
noncomputable def y7o : List (Nat × Nat) := [(100, 59), (101, 80), (800, 9), (801, 11), (802, 13), (803, 15), (1711, 25), (1712, 30), (3811, 46), (3812, 51), (5911, 67), (5912, 72), (8011, 88), (8012, 93)]
noncomputable def y7S : yS := (fun i k => bif Nat.beq i 17 || Nat.beq i 38 || Nat.beq i 59 || Nat.beq i 80 then (bif Nat.beq k 0 then 3 else 0) else bif Nat.beq i 9 || Nat.beq i 11 || Nat.beq i 13 || Nat.beq i 15 then (bif Nat.beq k 0 then -1 else 0) else 0, yrf ysh7 y7o)
noncomputable def y8S (ph : Nat → Nat → Int) : yS := (fun i k => bif Nat.beq i 0 then 0 else ph i k, yrf ysh8 [])
noncomputable def yokB (sh : List yH) (g : Nat → Nat → Nat) : Bool := (List.range sh.length).all (fun i => match sh[i]? with
  | some (.inl ci) => (List.range (yct.1 ci).length).all (fun k => match (yct.1 ci)[k]? with
    | some (some h) => (match sh[g i k]? with
      | some h' => yHeq h' h
      | none => false)
    | _ => true)
  | some (.inr x) => bif Nat.ble 2 x.1 then (List.range x.2).all (fun j => match sh[g i j]? with
      | some h' => yHeq h' (yek x.1)
      | none => false) else true
  | none => true)
theorem yokS_B {sh : List yH} {o : List (Nat × Nat)} {g : Nat → Nat → Int} (h1 : ∀ i k, yI (g i k)) (hb : yokB sh (yrf sh o) = true) : yokS yct sh (g, yrf sh o) := by
  have hi : ∀ {i : Nat} {h : yH}, sh[i]? = some h → i ∈ List.range sh.length := fun h => List.mem_range.mpr (List.getElem?_eq_some_iff.mp h).1
  refine ⟨h1, fun i ci k h a b => ?_, fun i kd n j a b c => ?_, fun i ci k j a b => ?_⟩
  · have q := List.all_eq_true.mp hb i (hi a)
    simp only [a] at q
    have q2 := List.all_eq_true.mp q k (List.mem_range.mpr (List.getElem?_eq_some_iff.mp b).1)
    simp only [b] at q2
    show sh[yrf sh o i k]? = some h
    cases e : sh[yrf sh o i k]? with
    | none => rw [e] at q2; cases q2
    | some h' => rw [e] at q2; rw [yHeq_ok q2]
  · have q := List.all_eq_true.mp hb i (hi a)
    simp only [a] at q
    rw [show Nat.ble 2 kd = true from Nat.ble_eq_true_of_le b, cond_true] at q
    have q2 := List.all_eq_true.mp q j (List.mem_range.mpr c)
    show sh[yrf sh o i j]? = some (yek kd)
    cases e : sh[yrf sh o i j]? with
    | none => rw [e] at q2; cases q2
    | some h' => rw [e] at q2; rw [yHeq_ok q2]
  · show yrf sh o i k = j
    have b : yfx ci i k = some j := b
    unfold yrf
    simp only [a, b]
set_option maxRecDepth 100000 in
theorem y7_B : yokB ysh7 (yrf ysh7 y7o) = true := by decide +kernel
set_option maxRecDepth 100000 in
theorem y8_B : yokB ysh8 (yrf ysh8 []) = true := by decide +kernel
theorem y7S_n (i k : Nat) : y7S.1 i k = 0 ∨ y7S.1 i k = 3 ∨ y7S.1 i k = -1 := by
  unfold y7S
  dsimp only
  cases (Nat.beq i 17 || Nat.beq i 38 || Nat.beq i 59 || Nat.beq i 80) <;> cases (Nat.beq i 9 || Nat.beq i 11 || Nat.beq i 13 || Nat.beq i 15) <;> cases Nat.beq k 0 <;> simp
theorem y7S_ok : yokS yct ysh7 y7S := yokS_B (fun i k => by
  have q := y7S_n i k
  unfold yI
  show -2147483648 ≤ y7S.1 i k ∧ y7S.1 i k ≤ 2147483647
  omega) y7_B
