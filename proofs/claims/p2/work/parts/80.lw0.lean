/-- what is fixed while the law runs -/
def zLc (p : Program) (s : State) (m : MethodId) (c : Code) (b L : Nat) (xs : Nat → Int32) (D : va_G) (kA : Nat → ClassId) : Prop :=
  p.tables.exec = Jvm.exec ∧ c.code = code ∧ c.maxLocals = 4 ∧ s.vm.findClass RL = some m.cls ∧ (∀ w ∈ wsL_law, w.before #[Value.ref b] s = true) ∧ va_X b L xs s s.heap ∧ b < s.heap.size ∧ va_K D vwCl (ztys kA) s ∧ zX (fun q => s.heap.size ≤ q) s s.heap ∧ L ≤ 320
/-- both worlds keep their bounds -/
def zLi (s : State) (b : Nat) (D : va_G) (kA : Nat → ClassId) (x y : Nat) (i : Int) (u v : va_W) (H : Heap) (locs : List Loc) (ls : Array Slot) : Prop :=
  ∃ r7 r8 : Nat → Int, zInR I_V kA x r7 u ∧ zInR I_M kA y r8 v ∧ zokP r7 r8 zWP ∧ va_P D vwCl (u ++ v) H ∧ va_D (fun q => s.heap.size ≤ q) (u ++ v) ∧ va_S (fun q => s.heap.size ≤ q) s.heap H locs ∧ lv_has ls 4 [(3, .int (Int32.ofInt i)), (2, .ref y), (1, .ref x), (0, .ref b)]
def zbsR : List zI → List Int32 → Prop
  | [], _ => True
  | _ :: _, [] => False
  | b :: bs, v :: vs => (b.1 ≤ v.toInt ∧ v.toInt ≤ b.2) ∧ zbsR bs vs
theorem zbsR_ok : ∀ {bs : List zI} {vs : List Int32}, zbsR bs vs → ∀ (j : Nat) (b : zI), bs[j]? = some b → b.1 ≤ (vs.getD j 0).toInt ∧ (vs.getD j 0).toInt ≤ b.2
  | [], _, _, j, b, h => by simp at h
  | _ :: _, [], q, _, _, _ => absurd q id
  | b0 :: bs, v :: vs, q, 0, b, h => by
    simp only [List.getElem?_cons_zero, Option.some.injEq] at h
    subst h
    exact q.1
  | b0 :: bs, v :: vs, q, j + 1, b, h => by
    rw [List.getElem?_cons_succ] at h
    exact zbsR_ok q.2 j b h
/-- all ends answer an int (0), a long (1) -/
def zst1 (g : Nat) (k : zK) : Bool := k.2.2.2.all (fun T => match g, T.2.2.2.1 with
  | 0, [.inl (.inl _)] => true
  | 1, [.inl (.inr _)] => true
  | _, _ => false)
theorem zst1_i {k : zK} (h : zst1 0 k = true) {T : zS} (hT : T ∈ k.2.2.2) (r : Nat → Int) (ad : Nat → Nat) (rest : List Value) : ∃ z : Int32, (T.2.2.2.1.map (zcv r ad)).head?.toList ++ rest = .int z :: rest := by
  have q := List.all_eq_true.mp h T hT
  split at q
  · rename_i v hst
    rw [hst]
    exact ⟨_, rfl⟩
  · rename_i h0 _
    cases h0
  · cases q
theorem zst1_l {k : zK} (h : zst1 1 k = true) {T : zS} (hT : T ∈ k.2.2.2) (r : Nat → Int) (ad : Nat → Nat) (rest : List Value) : ∃ z : Int64, (T.2.2.2.1.map (zcv r ad)).head?.toList ++ rest = .long z :: rest := by
  have q := List.all_eq_true.mp h T hT
  split at q
  · rename_i h0 _
    cases h0
  · rename_i v hst
    rw [hst]
    exact ⟨_, rfl⟩
  · cases q
/-- two methods answer alike: their ends' bounds of the arguments are apart, or the answers are one number -/
def zdis (K1 K2 n : Nat) (E1 E2 : zE) : Bool := (List.range n).any (fun j => E1.any (fun a => Nat.beq a.1 (K1 + j) && E2.any (fun b => Nat.beq b.1 (K2 + j) && (zle (a.2.2 + 1) b.2.1 || zle (b.2.2 + 1) a.2.1))))
def zsame (T1 T2 : zS) : Bool := match T1.2.2.2.1, T2.2.2.2.1 with
  | [.inl (.inl a)], [.inl (.inl b)] => Nat.beq a.1 0 && Nat.beq b.1 0 && zle a.2 b.2 && zle b.2 a.2
  | _, _ => false
def zagree (K1 K2 n : Nat) (k1 k2 : zK) : Bool := k1.2.2.2.all (fun T1 => k2.2.2.2.all (fun T2 => zsame T1 T2 || zdis K1 K2 n T1.1 T2.1))
theorem zagree_ok {K1 K2 n : Nat} {k1 k2 : zK} (h : zagree K1 K2 n k1 k2 = true) {T1 T2 : zS} (h1 : T1 ∈ k1.2.2.2) (h2 : T2 ∈ k2.2.2.2) {r1 r2 : Nat → Int} {ad1 ad2 : Nat → Nat} (e1 : zokE r1 T1.1) (e2 : zokE r2 T2.1) {g : Nat → Int} (a1 : ∀ j, j < n → r1 (K1 + j) = g j) (a2 : ∀ j, j < n → r2 (K2 + j) = g j) : ∃ z : Int, T1.2.2.2.1.map (zcv r1 ad1) = [.int (Int32.ofInt z)] ∧ T2.2.2.2.1.map (zcv r2 ad2) = [.int (Int32.ofInt z)] := by
  have q := List.all_eq_true.mp (List.all_eq_true.mp h T1 h1) T2 h2
  rw [Bool.or_eq_true] at q
  rcases q with q | q
  · unfold zsame at q
    split at q
    · rename_i a b s1 s2
      simp only [Bool.and_eq_true] at q
      have i1 := Nat.eq_of_beq_eq_true q.1.1.1
      have i2 := Nat.eq_of_beq_eq_true q.1.1.2
      have i3 := zle_ok q.1.2
      have i4 := zle_ok q.2
      refine ⟨a.2, ?_, ?_⟩
      · rw [s1]
        show [Value.int (Int32.ofInt (r1 a.1 + a.2))] = _
        rw [i1, e1.1, Int.zero_add]
      · rw [s2]
        show [Value.int (Int32.ofInt (r2 b.1 + b.2))] = _
        rw [i2, e2.1, Int.zero_add, Int.le_antisymm i3 i4]
    · cases q
  · exfalso
    obtain ⟨j, hj, q⟩ := List.any_eq_true.mp q
    have hj := List.mem_range.mp hj
    obtain ⟨a, ha, q⟩ := List.any_eq_true.mp q
    rw [Bool.and_eq_true] at q
    obtain ⟨qa, q⟩ := q
    obtain ⟨b, hb, q⟩ := List.any_eq_true.mp q
    rw [Bool.and_eq_true, Bool.or_eq_true] at q
    obtain ⟨qb, q⟩ := q
    have x1 := e1.2 a ha
    have x2 := e2.2 b hb
    rw [Nat.eq_of_beq_eq_true qa, a1 j hj] at x1
    rw [Nat.eq_of_beq_eq_true qb, a2 j hj] at x2
    rcases q with q | q <;> have := zle_ok q <;> omega
section ZLS
variable {p : Program} {l : Launch} {e : Env} {R : Room} {s : State} {m : MethodId} {args : Array Value} {below : List Frame} {meth : Method} {c : Code} {cells slots : Nat} {Q : State → Prop} {cc : ByteArray} {pc : Nat} {ls : Array Slot} {H H0 : Heap} {locs : List Loc} {rest : List Value} {A : Nat → Prop}
theorem zl_ld (hx : p.tables.exec = Jvm.exec) (hb : c.code = cc) {b L : Nat} {xs : Nat → Int32} (hX : va_X b L xs s H0) (hbl : b < H0.size) (hbA : ¬ A b) (hS : va_S A H0 H locs) {x : Int} (h0 : 0 ≤ x) (h1 : x + 1 ≤ (L : Int)) (hL : L ≤ 320) (hdg : decode cc pc = .ok (.iaload, 1)) (k : W p l e R s m args below meth c H locs cells slots Q (F0 m (pc + 1) ls (.int (xs x.toNat) :: rest))) : W p l e R s m args below meth c H locs cells slots Q (F0 m pc ls (.int (Int32.ofInt x) :: .ref b :: rest)) := by
  obtain ⟨g1, g2⟩ := zq_idx (k := x) (m := L) h0 h1 (by omega)
  refine va_sld hx hb hX hbl hbA hS g1 hdg ?_
  rw [g2]
  exact k
theorem zl_bool (hx : p.tables.exec = Jvm.exec) (hb : c.code = cc) {x : Int32} (d0 : decode cc pc = .ok (.ifCond .eq 7, 3)) (d1 : decode cc (pc + 3) = .ok (.iconst 1, 1)) (d2 : decode cc (pc + 4) = .ok (.goto 4, 3)) (d3 : decode cc (pc + 7) = .ok (.iconst 0, 1)) (k : ∀ z : Int32, 0 ≤ z.toInt ∧ z.toInt ≤ 1 → W p l e R s m args below meth c H locs cells slots Q (F0 m (pc + 8) ls (.int z :: rest))) : W p l e R s m args below meth c H locs cells slots Q (F0 m pc ls (.int x :: rest)) := by
  refine lv_if_eq (tgt := pc + 7) hx hb d0 (by omega) (fun _ => ?_) (fun _ => ?_)
  · refine lv_iconst (v := 0) hx hb d3 (by decide) ?_
    exact k 0 (by decide)
  · refine lv_iconst (v := 1) hx hb d1 (by decide) ?_
    refine lv_goto (tgt := pc + 8) hx hb d2 (by omega) ?_
    exact k 1 (by decide)
end ZLS
