section
abbrev yH : Type := Nat ⊕ (Nat × Nat)
abbrev yV : Type := (Int ⊕ Int) ⊕ (yH × Nat)
abbrev yS : Type := (Nat → Nat → Int) × (Nat → Nat → Nat)
/-- the kinds of a class's fields; the references that never change -/
abbrev yCt : Type := (Nat → List (Option yH)) × (Nat → Nat → Nat → Option Nat)
abbrev yC : Type := Nat × List (Nat × yV) × List yV × yS
abbrev yR : Type := Option yV × yS
abbrev yF : Type := List yV → yS → Option yR
abbrev yT : Type := Bool × Option yC × Option yC
def ycv (ad : Nat → Nat) : yV → Value
  | .inl (.inl z) => .int (Int32.ofInt z)
  | .inl (.inr z) => .long (Int64.ofInt z)
  | .inr x => .ref (ad x.2)
def ycat : yV → Nat
  | .inl (.inr _) => 2
  | _ => 1
theorem ycat_ok (ad : Nat → Nat) (a : yV) : (ycv ad a).category = ycat a := by
  rcases a with (a | a) | a <;> rfl
def yHeq (a b : yH) : Bool := match a, b with
  | .inl i, .inl j => Nat.beq i j
  | .inr x, .inr y => Nat.beq x.1 y.1 && Nat.beq x.2 y.2
  | _, _ => false
theorem yHeq_ok {a b : yH} (h : yHeq a b = true) : a = b := by
  rcases a with i | ⟨i, n⟩ <;> rcases b with j | ⟨j, m⟩
  · exact congrArg Sum.inl (Nat.eq_of_beq_eq_true h)
  · cases h
  · cases h
  · have h : (Nat.beq i j && Nat.beq n m) = true := h
    rw [Bool.and_eq_true] at h
    rw [Nat.eq_of_beq_eq_true h.1, Nat.eq_of_beq_eq_true h.2]
/-- a number written, a reference written, a row copied -/
def yw (σ : yS) (i k : Nat) (z : Int) : yS := (fun a b => if b = k ∧ a = i then z else σ.1 a b, σ.2)
def yq (σ : yS) (i k j : Nat) : yS := (σ.1, fun a b => if b = k ∧ a = i then j else σ.2 a b)
def ycp (σ : yS) (i0 i1 s d n : Nat) : yS := (fun a b => if a = i1 ∧ d ≤ b ∧ b < d + n then σ.1 i0 (s + (b - d)) else σ.1 a b, σ.2)
def yfv (ad : Nat → Nat) (σ : yS) (i k : Nat) : Option yH → Value
  | none => .int (Int32.ofInt (σ.1 i k))
  | some _ => .ref (ad (σ.2 i k))
def yce (ct : yCt) (kA : Nat → ClassId) (ad : Nat → Nat) (σ : yS) (i : Nat) : yH → va_E
  | .inl ci => .inr (ci, (ct.1 ci).mapIdx (fun k t => yfv ad σ i k t))
  | .inr x => bif Nat.ble x.1 1 then .inl (kA x.1, x.2, .inl (fun j => Int32.ofInt (σ.1 i j))) else .inl (kA x.1, x.2, .inr (.inr (.inr (.inr (fun j => some (ad (σ.2 i j)))))))
def yws (ct : yCt) (kA : Nat → ClassId) (ad : Nat → Nat) (sh : List yH) (σ : yS) : va_W := sh.mapIdx (fun i h => (ad i, yce ct kA ad σ i h))
section YW
variable {ct : yCt} {kA : Nat → ClassId} {ad : Nat → Nat} {sh : List yH} {σ σ' : yS}
theorem yws_get {i : Nat} {h : yH} (hh : sh[i]? = some h) : (yws ct kA ad sh σ)[i]? = some (ad i, yce ct kA ad σ i h) := by
  unfold yws
  rw [List.getElem?_mapIdx, hh]
  rfl
theorem yce_congr {i : Nat} (h1 : ∀ k, σ'.1 i k = σ.1 i k) (h2 : ∀ k, σ'.2 i k = σ.2 i k) (h : yH) : yce ct kA ad σ' i h = yce ct kA ad σ i h := by
  have e1 : (fun k t => yfv ad σ' i k t) = (fun k t => yfv ad σ i k t) := by
    funext k t
    cases t with
    | none => show Value.int (Int32.ofInt (σ'.1 i k)) = Value.int (Int32.ofInt (σ.1 i k)); rw [h1]
    | some _ => show Value.ref (ad (σ'.2 i k)) = Value.ref (ad (σ.2 i k)); rw [h2]
  have e2 : (fun j => Int32.ofInt (σ'.1 i j)) = (fun j => Int32.ofInt (σ.1 i j)) := funext (fun j => by rw [h1])
  have e3 : (fun j => some (ad (σ'.2 i j))) = (fun j => some (ad (σ.2 i j))) := funext (fun j => by rw [h2])
  rcases h with ci | x
  · show Sum.inr (ci, (ct.1 ci).mapIdx (fun k t => yfv ad σ' i k t)) = Sum.inr (ci, (ct.1 ci).mapIdx (fun k t => yfv ad σ i k t))
    rw [e1]
  · unfold yce
    dsimp only
    rw [e2, e3]
theorem yws_set {i : Nat} {h : yH} (hh : sh[i]? = some h) (h1 : ∀ a, a ≠ i → ∀ k, σ'.1 a k = σ.1 a k) (h2 : ∀ a, a ≠ i → ∀ k, σ'.2 a k = σ.2 a k) : yws ct kA ad sh σ' = (yws ct kA ad sh σ).set i (ad i, yce ct kA ad σ' i h) := by
  apply List.ext_getElem?
  intro j
  by_cases hj : i = j
  · subst hj
    have hlt : i < (yws ct kA ad sh σ).length := (List.getElem?_eq_some_iff.mp (yws_get hh)).1
    rw [List.getElem?_set_self hlt]
    exact yws_get hh
  · rw [List.getElem?_set_ne hj]
    unfold yws
    rw [List.getElem?_mapIdx, List.getElem?_mapIdx]
    cases hs : sh[j]? with
    | none => rfl
    | some g =>
      show some (ad j, yce ct kA ad σ' j g) = some (ad j, yce ct kA ad σ j g)
      rw [yce_congr (h1 j (Ne.symm hj)) (h2 j (Ne.symm hj))]
end YW
def yI (z : Int) : Prop := -2147483648 ≤ z ∧ z ≤ 2147483647
def yL (z : Int) : Prop := -9223372036854775808 ≤ z ∧ z ≤ 9223372036854775807
def yokV (sh : List yH) : yV → Prop
  | .inl (.inl z) => yI z
  | .inl (.inr z) => yL z
  | .inr x => sh[x.2]? = some x.1
/-- what a row of references holds -/
def yek (kd : Nat) : yH := bif Nat.beq kd 2 then .inl 4 else .inl 2
def yokS (ct : yCt) (sh : List yH) (σ : yS) : Prop := (∀ i k, yI (σ.1 i k)) ∧ (∀ (i ci k : Nat) (h : yH), sh[i]? = some (.inl ci) → (ct.1 ci)[k]? = some (some h) → sh[σ.2 i k]? = some h) ∧ (∀ (i kd n j : Nat), sh[i]? = some (.inr (kd, n)) → 2 ≤ kd → j < n → sh[σ.2 i j]? = some (yek kd)) ∧ ∀ (i ci k j : Nat), sh[i]? = some (.inl ci) → ct.2 ci i k = some j → σ.2 i k = j
theorem yokS_w {ct : yCt} {sh : List yH} {σ : yS} (h : yokS ct sh σ) (i k : Nat) {z : Int} (hz : yI z) : yokS ct sh (yw σ i k z) := by
  refine ⟨fun a b => ?_, h.2⟩
  show yI (if b = k ∧ a = i then z else σ.1 a b)
  by_cases hc : b = k ∧ a = i
  · rw [if_pos hc]; exact hz
  · rw [if_neg hc]; exact h.1 a b
theorem yokS_q {ct : yCt} {sh : List yH} {σ : yS} (h : yokS ct sh σ) {i ci k j : Nat} {g : yH} (hi : sh[i]? = some (.inl ci)) (hk : (ct.1 ci)[k]? = some (some g)) (hn : ct.2 ci i k = none) (hj : sh[j]? = some g) : yokS ct sh (yq σ i k j) := by
  refine ⟨h.1, fun a c b g' ha hb => ?_, fun a kd n b ha h2 hb => ?_, fun a c b j' ha hb => ?_⟩
  · show sh[if b = k ∧ a = i then j else σ.2 a b]? = some g'
    by_cases hc : b = k ∧ a = i
    · rw [if_pos hc]
      obtain ⟨rfl, rfl⟩ := hc
      rw [hi] at ha
      cases ha
      rw [hk] at hb
      cases hb
      exact hj
    · rw [if_neg hc]; exact h.2.1 a c b g' ha hb
  · show sh[if b = k ∧ a = i then j else σ.2 a b]? = some (yek kd)
    by_cases hc : b = k ∧ a = i
    · obtain ⟨rfl, rfl⟩ := hc
      rw [hi] at ha
      cases ha
    · rw [if_neg hc]; exact h.2.2.1 a kd n b ha h2 hb
  · show (if b = k ∧ a = i then j else σ.2 a b) = j'
    by_cases hc : b = k ∧ a = i
    · obtain ⟨rfl, rfl⟩ := hc
      rw [hi] at ha
      cases ha
      rw [hn] at hb
      cases hb
    · rw [if_neg hc]; exact h.2.2.2 a c b j' ha hb
theorem yokS_cp {ct : yCt} {sh : List yH} {σ : yS} (h : yokS ct sh σ) (i0 i1 s d n : Nat) : yokS ct sh (ycp σ i0 i1 s d n) := by
  refine ⟨fun a b => ?_, h.2⟩
  show yI (if a = i1 ∧ d ≤ b ∧ b < d + n then σ.1 i0 (s + (b - d)) else σ.1 a b)
  by_cases hc : a = i1 ∧ d ≤ b ∧ b < d + n
  · rw [if_pos hc]; exact h.1 _ _
  · rw [if_neg hc]; exact h.1 a b
def yset1 (lo : List (Nat × yV)) (i : Nat) (a : yV) : List (Nat × yV) := (i, a) :: lo.filter (fun q => !(q.1 == i) && !(q.1 + 1 == i && ycat q.2 == 2))
def yset2 (lo : List (Nat × yV)) (i : Nat) (a : yV) : List (Nat × yV) := (i, a) :: lo.filter (fun q => !(q.1 == i) && (!(q.1 == i + 1) && !(q.1 + 1 == i && ycat q.2 == 2)))
theorem yset1_ok (ad : Nat → Nat) (lo : List (Nat × yV)) (i : Nat) (a : yV) : (i, ycv ad a) :: (lo.map (fun x => (x.1, ycv ad x.2))).filter (fun q => !(q.1 == i) && !(q.1 + 1 == i && q.2.category == 2)) = (yset1 lo i a).map (fun x => (x.1, ycv ad x.2)) := by
  unfold yset1
  rw [List.map_cons, List.filter_map]
  congr 2
  apply List.filter_congr
  intro x _
  show (!(x.1 == i) && !(x.1 + 1 == i && (ycv ad x.2).category == 2)) = _
  rw [ycat_ok]
theorem yset2_ok (ad : Nat → Nat) (lo : List (Nat × yV)) (i : Nat) (a : yV) : (i, ycv ad a) :: (lo.map (fun x => (x.1, ycv ad x.2))).filter (fun q => !(q.1 == i) && (!(q.1 == i + 1) && !(q.1 + 1 == i && q.2.category == 2))) = (yset2 lo i a).map (fun x => (x.1, ycv ad x.2)) := by
  unfold yset2
  rw [List.map_cons, List.filter_map]
  congr 2
  apply List.filter_congr
  intro x _
  show (!(x.1 == i) && (!(x.1 == i + 1) && !(x.1 + 1 == i && (ycv ad x.2).category == 2))) = _
  rw [ycat_ok]
theorem yset1_in {sh : List yH} {lo : List (Nat × yV)} {i : Nat} {a : yV} (h : ∀ x ∈ lo, yokV sh x.2) (ha : yokV sh a) : ∀ x ∈ yset1 lo i a, yokV sh x.2 := by
  intro x hx
  rcases List.mem_cons.mp hx with e | e
  · subst e; exact ha
  · exact h x (List.mem_filter.mp e).1
theorem yset2_in {sh : List yH} {lo : List (Nat × yV)} {i : Nat} {a : yV} (h : ∀ x ∈ lo, yokV sh x.2) (ha : yokV sh a) : ∀ x ∈ yset2 lo i a, yokV sh x.2 := by
  intro x hx
  rcases List.mem_cons.mp hx with e | e
  · subst e; exact ha
  · exact h x (List.mem_filter.mp e).1
def yRel (D : va_G) (cl : List vw_C) (ct : yCt) (kA : Nat → ClassId) (A : Nat → Prop) (H0 : Heap) (nL : Nat) (sh : List yH) (ad : Nat → Nat) (C : yC) (H : Heap) (locs : List Loc) (ls : Array Slot) : Prop :=
  yokS ct sh C.2.2.2 ∧ (∀ x ∈ C.2.1, yokV sh x.2) ∧ (∀ a ∈ C.2.2.1, yokV sh a) ∧ va_P D cl (yws ct kA ad sh C.2.2.2) H ∧ va_D A (yws ct kA ad sh C.2.2.2) ∧ va_S A H0 H locs ∧ lv_has ls nL (C.2.1.map (fun x => (x.1, ycv ad x.2)))
def yGo (G : zGT) (D : va_G) (cl : List vw_C) (ct : yCt) (kA : Nat → ClassId) (A : Nat → Prop) (H0 : Heap) (nL : Nat) (sh : List yH) (ad : Nat → Nat) (C : yC) : Prop :=
  ∀ (H : Heap) (locs : List Loc) (ls : Array Slot), yRel D cl ct kA A H0 nL sh ad C H locs ls → G C.1 H locs ls (C.2.2.1.map (ycv ad))
def yone (C : yC) : Option yT := some (true, some C, none)
def ynext (r : yT) : Option yC := bif r.1 then r.2.1 else r.2.2
/-- numbers of the machine, as whole numbers -/
def y32 (x : Int32) : Int := x.toInt
theorem y32_I (x : Int32) : yI x.toInt := zq_rng x
theorem y64_L (x : Int64) : yL x.toInt := zq_rngL x
def yad (a b : Int) : Int := (Int32.ofInt a + Int32.ofInt b).toInt
def ysu (a b : Int) : Int := (Int32.ofInt a - Int32.ofInt b).toInt
def ymu (a b : Int) : Int := (Int32.ofInt a * Int32.ofInt b).toInt
def yan (a b : Int) : Int := (Int32.ofInt a &&& Int32.ofInt b).toInt
def yor (a b : Int) : Int := (Int32.ofInt a ||| Int32.ofInt b).toInt
def yxo (a b : Int) : Int := (Int32.ofInt a ^^^ Int32.ofInt b).toInt
def ysl (a b : Int) : Int := (Int32.ofInt a <<< (Int32.ofInt b &&& 31)).toInt
def ysr (a b : Int) : Int := (Int32.ofInt a >>> (Int32.ofInt b &&& 31)).toInt
def yus (a b : Int) : Int := (((Int32.ofInt a).toUInt32 >>> ((Int32.ofInt b).toUInt32 &&& Int32.toUInt32 31)).toInt32).toInt
def ydv (a b : Int) : Int := (Int32.ofInt a / Int32.ofInt b).toInt
def yrm (a b : Int) : Int := (Int32.ofInt a - Int32.ofInt a / Int32.ofInt b * Int32.ofInt b).toInt
def yne (a : Int) : Int := (-Int32.ofInt a).toInt
def yi8 (a : Int) : Int := ((Int32.ofInt a).toInt8.toInt32).toInt
def yi16 (a : Int) : Int := ((Int32.ofInt a).toInt16.toInt32).toInt
def yadL (a b : Int) : Int := (Int64.ofInt a + Int64.ofInt b).toInt
def ymuL (a b : Int) : Int := (Int64.ofInt a * Int64.ofInt b).toInt
def ydvL (a b : Int) : Int := (Int64.ofInt a / Int64.ofInt b).toInt
def yrmL (a b : Int) : Int := (Int64.ofInt a - Int64.ofInt a / Int64.ofInt b * Int64.ofInt b).toInt
def ymx (a b : Int) : Int := bif zle (a + 1) b then b else a
def ymn (a b : Int) : Int := bif zle (b + 1) a then b else a
/-- not 0 -/
def ynz (b : Int) : Bool := zle b (-1) || zle 1 b
/-- a place of a row -/
def yin (v : Int) (n : Nat) : Bool := zle 0 v && zle (v + 1) (n : Int)
def yb1 (v : Int) : Bool := zle 0 v && zle v 1
/-- a comparison -/
def ycP (cd : Jvm.ClassFile.Cond) (a b : Int) : Bool := match cd with
  | .eq => zle a b && zle b a
  | .ne => !(zle a b && zle b a)
  | .lt => zle (a + 1) b
  | .ge => zle b a
  | .gt => zle (b + 1) a
  | .le => zle a b
theorem ycP_t {cd : Jvm.ClassFile.Cond} {a b : Int} (h : zcP cd a b) : ycP cd a b = true := by
  cases cd
  · have h : a = b := h
    subst h
    show (zle a a && zle a a) = true
    rw [show zle a a = true from decide_eq_true (Int.le_refl a)]
    rfl
  · have h : ¬ a = b := h
    show (!(zle a b && zle b a)) = true
    cases hb : zle a b && zle b a with
    | false => rfl
    | true =>
      rw [Bool.and_eq_true] at hb
      exact absurd (Int.le_antisymm (zle_ok hb.1) (zle_ok hb.2)) h
  · have h : a < b := h
    exact decide_eq_true (by omega)
  · have h : b ≤ a := h
    exact decide_eq_true h
  · have h : b < a := h
    exact decide_eq_true (by omega)
  · have h : a ≤ b := h
    exact decide_eq_true h
theorem ycP_f {cd : Jvm.ClassFile.Cond} {a b : Int} (h : ¬ zcP cd a b) : ycP cd a b = false := by
  cases hb : ycP cd a b with
  | false => rfl
  | true =>
    exfalso
    apply h
    cases cd
    · have hb : (zle a b && zle b a) = true := hb
      rw [Bool.and_eq_true] at hb
      exact Int.le_antisymm (zle_ok hb.1) (zle_ok hb.2)
    · intro q
      subst q
      have hb : (!(zle a a && zle a a)) = true := hb
      rw [show zle a a = true from decide_eq_true (Int.le_refl a)] at hb
      cases hb
    · have := zle_ok hb
      show a < b
      omega
    · exact zle_ok hb
    · have := zle_ok hb
      show b < a
      omega
    · exact zle_ok hb
end
section
def yld (C : yC) (pc i t : Nat) : Option yT := match zlk C.2.1 i, t with
  | some (.inl (.inl v)), 0 => yone (pc, C.2.1, .inl (.inl v) :: C.2.2.1, C.2.2.2)
  | some (.inl (.inr v)), 1 => yone (pc, C.2.1, .inl (.inr v) :: C.2.2.1, C.2.2.2)
  | some (.inr v), 2 => yone (pc, C.2.1, .inr v :: C.2.2.1, C.2.2.2)
  | _, _ => none
def yso (nL : Nat) (C : yC) (pc i t : Nat) : Option yT := match C.2.2.1, t with
  | .inl (.inl v) :: st, 0 => bif Nat.blt i nL then yone (pc, yset1 C.2.1 i (.inl (.inl v)), st, C.2.2.2) else none
  | .inl (.inr v) :: st, 1 => bif Nat.blt (i + 1) nL then yone (pc, yset2 C.2.1 i (.inl (.inr v)), st, C.2.2.2) else none
  | .inr v :: st, 2 => bif Nat.blt i nL then yone (pc, yset1 C.2.1 i (.inr v), st, C.2.2.2) else none
  | _, _ => none
def ystepA (cons lcons : List (Nat × Int)) (nL : Nat) (C : yC) (ins : Instr) : Option yT := match ins with
  | .iconst k => bif zint (k, k) then yone (C.1 + 1, C.2.1, .inl (.inl k) :: C.2.2.1, C.2.2.2) else none
  | .bipush k => bif zle (-128) k && zle k 127 then yone (C.1 + 2, C.2.1, .inl (.inl k) :: C.2.2.1, C.2.2.2) else none
  | .sipush k => bif zle (-32768) k && zle k 32767 then yone (C.1 + 3, C.2.1, .inl (.inl k) :: C.2.2.1, C.2.2.2) else none
  | .lconst k => bif zlng ((k.val : Int), (k.val : Int)) then yone (C.1 + 1, C.2.1, .inl (.inr (k.val : Int)) :: C.2.2.1, C.2.2.2) else none
  | .ldc k => match zlk cons k with
    | some z => bif zint (z, z) then yone (C.1 + 2, C.2.1, .inl (.inl z) :: C.2.2.1, C.2.2.2) else none
    | none => none
  | .ldc_w k => match zlk cons k with
    | some z => bif zint (z, z) then yone (C.1 + 3, C.2.1, .inl (.inl z) :: C.2.2.1, C.2.2.2) else none
    | none => none
  | .ldc2_w k => match zlk lcons k with
    | some z => bif zlng (z, z) then yone (C.1 + 3, C.2.1, .inl (.inr z) :: C.2.2.1, C.2.2.2) else none
    | none => none
  | .iload i => yld C (C.1 + 2) i 0
  | .iload_n i => yld C (C.1 + 1) i.val 0
  | .lload i => yld C (C.1 + 2) i 1
  | .lload_n i => yld C (C.1 + 1) i.val 1
  | .aload i => yld C (C.1 + 2) i 2
  | .aload_n i => yld C (C.1 + 1) i.val 2
  | .istore i => yso nL C (C.1 + 2) i 0
  | .istore_n i => yso nL C (C.1 + 1) i.val 0
  | .lstore i => yso nL C (C.1 + 2) i 1
  | .lstore_n i => yso nL C (C.1 + 1) i.val 1
  | .astore i => yso nL C (C.1 + 2) i 2
  | .astore_n i => yso nL C (C.1 + 1) i.val 2
  | .goto o => bif zle 0 ((C.1 : Int) + o) then yone (((C.1 : Int) + o).toNat, C.2.1, C.2.2.1, C.2.2.2) else none
  | .dup => match C.2.2.1 with
    | a :: st => bif Nat.beq (ycat a) 1 then yone (C.1 + 1, C.2.1, a :: a :: st, C.2.2.2) else none
    | _ => none
  | .dup2 => match C.2.2.1 with
    | a :: b :: st => bif Nat.beq (ycat a) 1 && Nat.beq (ycat b) 1 then yone (C.1 + 1, C.2.1, a :: b :: a :: b :: st, C.2.2.2) else none
    | _ => none
  | .pop => match C.2.2.1 with
    | a :: st => bif Nat.beq (ycat a) 1 then yone (C.1 + 1, C.2.1, st, C.2.2.2) else none
    | _ => none
  | .i2l => match C.2.2.1 with
    | .inl (.inl v) :: st => yone (C.1 + 1, C.2.1, .inl (.inr v) :: st, C.2.2.2)
    | _ => none
  | .iinc i k => match zlk C.2.1 i with
    | some (.inl (.inl v)) => bif Nat.blt i nL then yone (C.1 + 3, yset1 C.2.1 i (.inl (.inl (yad v k))), C.2.2.1, C.2.2.2) else none
    | _ => none
  | _ => none
def ybi (ins : Instr) (a b : Int) : Option (Bool × Int) := match ins with
  | .iadd => some (true, yad a b)
  | .isub => some (true, ysu a b)
  | .imul => some (true, ymu a b)
  | .iand => some (true, yan a b)
  | .ior => some (true, yor a b)
  | .ixor => some (true, yxo a b)
  | .ishl => some (true, ysl a b)
  | .ishr => some (true, ysr a b)
  | .iushr => some (true, yus a b)
  | .idiv => some (ynz b, ydv a b)
  | .irem => some (ynz b, yrm a b)
  | _ => none
def ybiL (ins : Instr) (a b : Int) : Option (Bool × Int) := match ins with
  | .ladd => some (true, yadL a b)
  | .lmul => some (true, ymuL a b)
  | .ldiv => some (ynz b, ydvL a b)
  | .lrem => some (ynz b, yrmL a b)
  | _ => none
def yun (ins : Instr) (a : Int) : Option Int := match ins with
  | .ineg => some (yne a)
  | .i2b => some (yi8 a)
  | .i2s => some (yi16 a)
  | _ => none
def ystepB (C : yC) (ins : Instr) : Option yT := match C.2.2.1 with
  | .inl (.inl b) :: .inl (.inl a) :: st => match ybi ins a b with
    | some (g, z) => some (g, some (C.1 + 1, C.2.1, .inl (.inl z) :: st, C.2.2.2), none)
    | none => none
  | .inl (.inr b) :: .inl (.inr a) :: st => match ybiL ins a b with
    | some (g, z) => some (g, some (C.1 + 1, C.2.1, .inl (.inr z) :: st, C.2.2.2), none)
    | none => none
  | _ => none
def ystepU (C : yC) (ins : Instr) : Option yT := match C.2.2.1 with
  | .inl (.inl a) :: st => match yun ins a with
    | some z => yone (C.1 + 1, C.2.1, .inl (.inl z) :: st, C.2.2.2)
    | none => none
  | _ => none
def ystepC (C : yC) (ins : Instr) (nxt : Option Instr) : Option yT := match ins with
  | .if_icmp cd o => match C.2.2.1 with
    | .inl (.inl b) :: .inl (.inl a) :: st => bif zle 0 ((C.1 : Int) + o) then some (ycP cd a b, some (((C.1 : Int) + o).toNat, C.2.1, st, C.2.2.2), some (C.1 + 3, C.2.1, st, C.2.2.2)) else none
    | _ => none
  | .ifCond cd o => match C.2.2.1 with
    | .inl (.inl a) :: st => bif zle 0 ((C.1 : Int) + o) then some (ycP cd a 0, some (((C.1 : Int) + o).toNat, C.2.1, st, C.2.2.2), some (C.1 + 3, C.2.1, st, C.2.2.2)) else none
    | _ => none
  | .lcmp => match nxt with
    | some (.ifCond cd o) => match C.2.2.1 with
      | .inl (.inr b) :: .inl (.inr a) :: st => bif zle 0 (((C.1 + 1 : Nat) : Int) + o) then some (ycP cd a b, some ((((C.1 + 1 : Nat) : Int) + o).toNat, C.2.1, st, C.2.2.2), some (C.1 + 4, C.2.1, st, C.2.2.2)) else none
      | _ => none
    | _ => none
  | _ => none
def yald (kd : Nat) (C : yC) : Option yT := match C.2.2.1 with
  | .inl (.inl v) :: .inr x :: st => match x.1 with
    | .inr q => bif Nat.beq q.1 kd && Nat.ble q.2 2000000 then some (yin v q.2, some (C.1 + 1, C.2.1, .inl (.inl (C.2.2.2.1 x.2 v.toNat)) :: st, C.2.2.2), none) else none
    | _ => none
  | _ => none
def yinb (v : Int) (n : Nat) (u : Int) : Bool := yin v n && yb1 u
def yast (kd : Nat) (C : yC) : Option yT := match C.2.2.1 with
  | .inl (.inl u) :: .inl (.inl v) :: .inr x :: st => match x.1 with
    | .inr q => bif Nat.beq q.1 kd && Nat.ble q.2 2000000 then some ((bif Nat.beq kd 0 then yin v q.2 else yinb v q.2 u), some (C.1 + 1, C.2.1, st, yw C.2.2.2 x.2 v.toNat u), none) else none
    | _ => none
  | _ => none
def ystepD (ct : yCt) (flds : List (Nat × Nat × Nat × Nat)) (C : yC) (ins : Instr) : Option yT := match ins with
  | .getfield x => match C.2.2.1 with
    | .inr y :: st => match y.1, zlk flds x with
      | .inl ci', some (ci, k, _) => bif Nat.beq ci' ci then (match (ct.1 ci)[k]? with
        | some none => yone (C.1 + 3, C.2.1, .inl (.inl (C.2.2.2.1 y.2 k)) :: st, C.2.2.2)
        | some (some h) => yone (C.1 + 3, C.2.1, .inr (h, (ct.2 ci y.2 k).getD (C.2.2.2.2 y.2 k)) :: st, C.2.2.2)
        | none => none) else none
      | _, _ => none
    | _ => none
  | .putfield x => match C.2.2.1 with
    | a :: .inr y :: st => match y.1, zlk flds x with
      | .inl ci', some (ci, k, tag) => bif Nat.beq ci' ci then (match tag, a, (ct.1 ci)[k]? with
        | 0, .inl (.inl z), some none => yone (C.1 + 3, C.2.1, st, yw C.2.2.2 y.2 k z)
        | 1, .inl (.inl z), some none => some (yb1 z, some (C.1 + 3, C.2.1, st, yw C.2.2.2 y.2 k z), none)
        | 2, .inr v, some (some h) => bif yHeq v.1 h && (ct.2 ci y.2 k).isNone then yone (C.1 + 3, C.2.1, st, yq C.2.2.2 y.2 k v.2) else none
        | _, _, _ => none) else none
      | _, _ => none
    | _ => none
  | .iaload => yald 0 C
  | .baload => yald 1 C
  | .iastore => yast 0 C
  | .bastore => yast 1 C
  | .aaload => match C.2.2.1 with
    | .inl (.inl v) :: .inr x :: st => match x.1 with
      | .inr q => bif (Nat.beq q.1 2 || Nat.beq q.1 3) && Nat.ble q.2 2000000 then some (yin v q.2, some (C.1 + 1, C.2.1, .inr (yek q.1, C.2.2.2.2 x.2 v.toNat) :: st, C.2.2.2), none) else none
      | _ => none
    | _ => none
  | _ => none
/-- where a switch goes -/
def ytab (pc : Nat) (v : Int) (d : Nat) : Int → List Int → Nat
  | _, [] => d
  | k, o :: os => bif zle v k && zle k v then ((pc : Int) + o).toNat else ytab pc v d (k + 1) os
def ylks (pc : Nat) (v : Int) (d : Nat) : List (Int × Int) → Nat
  | [] => d
  | x :: xs => bif zle v x.1 && zle x.1 v then ((pc : Int) + x.2).toNat else ylks pc v d xs
def ystepS (C : yC) (ins : Instr) : Option yT := match ins with
  | .tableswitch d lo hi offs => match C.2.2.1 with
    | .inl (.inl v) :: st => bif zle 0 ((C.1 : Int) + d) && offs.toList.all (fun o => zle 0 ((C.1 : Int) + o)) && decide (hi - lo + 1 = (offs.toList.length : Int)) then yone (ytab C.1 v ((C.1 : Int) + d).toNat lo offs.toList, C.2.1, st, C.2.2.2) else none
    | _ => none
  | .lookupswitch d ps => match C.2.2.1 with
    | .inl (.inl v) :: st => bif zle 0 ((C.1 : Int) + d) && ps.toList.all (fun x => zle 0 ((C.1 : Int) + x.2)) && (ps.toList.zip (ps.toList.drop 1)).all (fun (a, next) => a.1 < next.1) then yone (ylks C.1 v ((C.1 : Int) + d).toNat ps.toList, C.2.1, st, C.2.2.2) else none
    | _ => none
  | _ => none
def ystepM (mm : List (Nat × Nat)) (C : yC) (x : Nat) : Option yT := match zlk mm x, C.2.2.1 with
  | some 0, .inl (.inl b) :: .inl (.inl a) :: st => bif Nat.ble ((st.map ycat).sum) 8 then yone (C.1 + 3, C.2.1, .inl (.inl (ymx a b)) :: st, C.2.2.2) else none
  | some 1, .inl (.inl b) :: .inl (.inl a) :: st => bif Nat.ble ((st.map ycat).sum) 8 then yone (C.1 + 3, C.2.1, .inl (.inl (ymn a b)) :: st, C.2.2.2) else none
  | some 2, .inl (.inl vn) :: .inl (.inl vd) :: .inr x1 :: .inl (.inl vs) :: .inr x0 :: st => match x0.1, x1.1 with
    | .inr q0, .inr q1 => bif Nat.beq q0.1 0 && Nat.beq q1.1 0 && Nat.ble q0.2 2000000 && Nat.ble q1.2 2000000 && Nat.ble ((st.map ycat).sum) 8 then some (zle 0 vn && zle 0 vd && zle 0 vs && zle (vs + vn) (q0.2 : Int) && zle (vd + vn) (q1.2 : Int), some (C.1 + 3, C.2.1, st, ycp C.2.2.2 x0.2 x1.2 vs.toNat vd.toNat vn.toNat), none) else none
    | _, _ => none
  | _, _ => none
end
section
theorem yone_inv {X : yC} {r : yT} {C' : yC} (h : yone X = some r) (hc : ynext r = some C') : C' = X := by
  have h : (true, some X, none) = r := Option.some.inj h
  subst h
  exact (Option.some.inj hc).symm
theorem yg_inv {g : Bool} {X : yC} {r : yT} {C' : yC} (h : some (g, some X, none) = some r) (hc : ynext r = some C') : g = true ∧ C' = X := by
  have h : (g, some X, none) = r := Option.some.inj h
  subst h
  cases g with
  | true => exact ⟨rfl, (Option.some.inj hc).symm⟩
  | false =>
    have hc : (none : Option yC) = some C' := hc
    cases hc
theorem yb_inv {g : Bool} {X Y : yC} {r : yT} {C' : yC} (h : some (g, some X, some Y) = some r) (hc : ynext r = some C') : (g = true → C' = X) ∧ (g = false → C' = Y) := by
  have h : (g, some X, some Y) = r := Option.some.inj h
  subst h
  cases g with
  | true => exact ⟨fun _ => (Option.some.inj hc).symm, (fun q => by cases q)⟩
  | false => exact ⟨(fun q => by cases q), fun _ => (Option.some.inj hc).symm⟩
section YSA
variable {p : Program} {l : Launch} {e : Env} {R : Room} {s : State} {m : MethodId} {args : Array Value} {below : List Frame} {meth : Method} {c : Code} {cells slots : Nat} {Q : State → Prop} {cc : ByteArray} {D : va_G} {cl : List vw_C} {ct : yCt} {kA : Nat → ClassId} {A : Nat → Prop} {H0 : Heap} {nL : Nat} {sh : List yH} {ad : Nat → Nat} {C C' : yC} {ins : Instr} {r : yT}
theorem yRel.st {pc' : Nat} {st' : List yV} {H : Heap} {locs : List Loc} {ls : Array Slot} (hR : yRel D cl ct kA A H0 nL sh ad C H locs ls) (h : ∀ a ∈ st', yokV sh a) : yRel D cl ct kA A H0 nL sh ad (pc', C.2.1, st', C.2.2.2) H locs ls := ⟨hR.1, hR.2.1, h, hR.2.2.2⟩
theorem yRel.push {pc' : Nat} {a : yV} {H : Heap} {locs : List Loc} {ls : Array Slot} (hR : yRel D cl ct kA A H0 nL sh ad C H locs ls) (h : yokV sh a) : yRel D cl ct kA A H0 nL sh ad (pc', C.2.1, a :: C.2.2.1, C.2.2.2) H locs ls := hR.st (List.forall_mem_cons.mpr ⟨h, hR.2.2.1⟩)
theorem ylocal {i : Nat} {a : yV} (hl : zlk C.2.1 i = some a) {H : Heap} {locs : List Loc} {ls : Array Slot} (hR : yRel D cl ct kA A H0 nL sh ad C H locs ls) : ls[i]? = some (.val (ycv ad a)) :=
  hR.2.2.2.2.2.2.2.2 (i, ycv ad a) (List.mem_map.mpr ⟨_, zlk_mem hl, rfl⟩)
theorem yld_go {pc' i t : Nat} (h : yld C pc' i t = some r) (hc : ynext r = some C') (hgo : yGo (zGW p l e R s m args below meth c cells slots Q) D cl ct kA A H0 nL sh ad C') {H : Heap} {locs : List Loc} {ls : Array Slot} (hR : yRel D cl ct kA A H0 nL sh ad C H locs ls) :
    ∃ v : Value, ls[i]? = some (.val v) ∧ W p l e R s m args below meth c H locs cells slots Q (F0 m pc' ls (v :: C.2.2.1.map (ycv ad))) ∧ (t = 0 → ∃ x, v = .int x) ∧ (t = 1 → ∃ x, v = .long x) ∧ (t = 2 → ∃ x, v = .ref x) := by
  unfold yld at h
  split at h
  · rename_i v hl
    obtain rfl := yone_inv h hc
    exact ⟨_, ylocal hl hR, hgo H locs ls (hR.push (hR.2.1 _ (zlk_mem hl))), fun _ => ⟨_, rfl⟩, (fun q => by cases q), (fun q => by cases q)⟩
  · rename_i v hl
    obtain rfl := yone_inv h hc
    exact ⟨_, ylocal hl hR, hgo H locs ls (hR.push (hR.2.1 _ (zlk_mem hl))), (fun q => by cases q), fun _ => ⟨_, rfl⟩, (fun q => by cases q)⟩
  · rename_i v hl
    obtain rfl := yone_inv h hc
    exact ⟨_, ylocal hl hR, hgo H locs ls (hR.push (hR.2.1 _ (zlk_mem hl))), (fun q => by cases q), (fun q => by cases q), fun _ => ⟨_, rfl⟩⟩
  · cases h
theorem yso_go {pc' i t : Nat} (h : yso nL C pc' i t = some r) (hc : ynext r = some C') (hgo : yGo (zGW p l e R s m args below meth c cells slots Q) D cl ct kA A H0 nL sh ad C') {H : Heap} {locs : List Loc} {ls : Array Slot} (hR : yRel D cl ct kA A H0 nL sh ad C H locs ls) :
    ∃ (v : Value) (st : List yV), C.2.2.1.map (ycv ad) = v :: st.map (ycv ad) ∧
      (t = 0 → (∃ x, v = .int x) ∧ i < nL ∧ ∀ ls' : Array Slot, lv_has ls' nL ((i, v) :: (C.2.1.map (fun x => (x.1, ycv ad x.2))).filter (fun q => !(q.1 == i) && !(q.1 + 1 == i && q.2.category == 2))) → W p l e R s m args below meth c H locs cells slots Q (F0 m pc' ls' (st.map (ycv ad)))) ∧
      (t = 1 → (∃ x, v = .long x) ∧ i + 1 < nL ∧ ∀ ls' : Array Slot, lv_has ls' nL ((i, v) :: (C.2.1.map (fun x => (x.1, ycv ad x.2))).filter (fun q => !(q.1 == i) && (!(q.1 == i + 1) && !(q.1 + 1 == i && q.2.category == 2)))) → W p l e R s m args below meth c H locs cells slots Q (F0 m pc' ls' (st.map (ycv ad)))) ∧
      (t = 2 → (∃ x, v = .ref x) ∧ i < nL ∧ ∀ ls' : Array Slot, lv_has ls' nL ((i, v) :: (C.2.1.map (fun x => (x.1, ycv ad x.2))).filter (fun q => !(q.1 == i) && !(q.1 + 1 == i && q.2.category == 2))) → W p l e R s m args below meth c H locs cells slots Q (F0 m pc' ls' (st.map (ycv ad)))) := by
  obtain ⟨hS0, hlo, hstk, hP, hD, hS, hl⟩ := hR
  unfold yso at h
  split at h
  · rename_i v st hst
    cases hz : Nat.blt i nL with
    | false => rw [hz] at h; cases h
    | true =>
      rw [hz] at h
      obtain rfl := yone_inv h hc
      rw [hst] at hstk
      refine ⟨ycv ad (.inl (.inl v)), st, by rw [hst]; rfl, fun _ => ⟨⟨_, rfl⟩, zblt hz, fun ls' hl' => ?_⟩, (fun q => by cases q), (fun q => by cases q)⟩
      exact hgo H locs ls' ⟨hS0, yset1_in hlo (hstk _ List.mem_cons_self), fun a ha => hstk a (List.mem_cons_of_mem _ ha), hP, hD, hS, Eq.mp (congrArg (lv_has ls' nL) (yset1_ok ad C.2.1 i _)) hl'⟩
  · rename_i v st hst
    cases hz : Nat.blt (i + 1) nL with
    | false => rw [hz] at h; cases h
    | true =>
      rw [hz] at h
      obtain rfl := yone_inv h hc
      rw [hst] at hstk
      refine ⟨ycv ad (.inl (.inr v)), st, by rw [hst]; rfl, (fun q => by cases q), fun _ => ⟨⟨_, rfl⟩, zblt hz, fun ls' hl' => ?_⟩, (fun q => by cases q)⟩
      exact hgo H locs ls' ⟨hS0, yset2_in hlo (hstk _ List.mem_cons_self), fun a ha => hstk a (List.mem_cons_of_mem _ ha), hP, hD, hS, Eq.mp (congrArg (lv_has ls' nL) (yset2_ok ad C.2.1 i _)) hl'⟩
  · rename_i v st hst
    cases hz : Nat.blt i nL with
    | false => rw [hz] at h; cases h
    | true =>
      rw [hz] at h
      obtain rfl := yone_inv h hc
      rw [hst] at hstk
      refine ⟨ycv ad (.inr v), st, by rw [hst]; rfl, (fun q => by cases q), (fun q => by cases q), fun _ => ⟨⟨_, rfl⟩, zblt hz, fun ls' hl' => ?_⟩⟩
      exact hgo H locs ls' ⟨hS0, yset1_in hlo (hstk _ List.mem_cons_self), fun a ha => hstk a (List.mem_cons_of_mem _ ha), hP, hD, hS, Eq.mp (congrArg (lv_has ls' nL) (yset1_ok ad C.2.1 i _)) hl'⟩
  · cases h
theorem yint1 {k : Int} (h : zint (k, k) = true) : yI k := zint_ok h (Int.le_refl k) (Int.le_refl k)
theorem ylng1 {k : Int} (h : zlng (k, k) = true) : yL k := zlng_ok h (Int.le_refl k) (Int.le_refl k)
set_option maxHeartbeats 4000000 in
theorem ystepA_ok (hx : p.tables.exec = Jvm.exec) (hb : c.code = cc) {own : String} {Ts : List Cond} (hown : s.vm.findClass own = some m.cls) (hts : ∀ w ∈ Ts, w.before args s = true) {cons lcons : List (Nat × Int)} (hcons : ∀ k z, zlk cons k = some z → Cond.constant own k (Int32.ofInt z) ∈ Ts) (hlc : ∀ k z, zlk lcons k = some z → Cond.constantLong own k (Int64.ofInt z) ∈ Ts)
    (hdg : decode cc C.1 = .ok (ins, zlen ins)) (h : ystepA cons lcons nL C ins = some r) (hc : ynext r = some C') (hgo : yGo (zGW p l e R s m args below meth c cells slots Q) D cl ct kA A H0 nL sh ad C') : yGo (zGW p l e R s m args below meth c cells slots Q) D cl ct kA A H0 nL sh ad C := by
  intro H locs ls hR
  unfold ystepA at h
  split at h
  · rename_i k
    cases hz : zint (k, k) with
    | false => rw [hz] at h; cases h
    | true =>
      rw [hz] at h
      obtain rfl := yone_inv h hc
      exact lv_iconst hx hb hdg rfl (hgo H locs ls (hR.push (yint1 hz)))
  · rename_i k
    cases hz : zle (-128) k && zle k 127 with
    | false => rw [hz] at h; cases h
    | true =>
      rw [hz] at h
      obtain rfl := yone_inv h hc
      simp only [Bool.and_eq_true] at hz
      have q1 := zle_ok hz.1
      have q2 := zle_ok hz.2
      exact lv_bipush hx hb hdg (zq_i8 q1 q2) (hgo H locs ls (hR.push (show yI k from ⟨by omega, by omega⟩)))
  · rename_i k
    cases hz : zle (-32768) k && zle k 32767 with
    | false => rw [hz] at h; cases h
    | true =>
      rw [hz] at h
      obtain rfl := yone_inv h hc
      simp only [Bool.and_eq_true] at hz
      have q1 := zle_ok hz.1
      have q2 := zle_ok hz.2
      exact lv_sipush hx hb hdg (zq_i16 q1 q2) (hgo H locs ls (hR.push (show yI k from ⟨by omega, by omega⟩)))
  · rename_i k
    cases hz : zlng ((k.val : Int), (k.val : Int)) with
    | false => rw [hz] at h; cases h
    | true =>
      rw [hz] at h
      obtain rfl := yone_inv h hc
      exact lv_lconst hx hb hdg rfl (hgo H locs ls (hR.push (show yL (k.val : Int) from ylng1 hz)))
  · rename_i k
    split at h
    · rename_i z hk
      cases hz : zint (z, z) with
      | false => rw [hz] at h; cases h
      | true =>
        rw [hz] at h
        obtain rfl := yone_inv h hc
        exact lv_ldc hx hb hown (hts _ (hcons k z hk)) hdg (hgo H locs ls (hR.push (yint1 hz)))
    · cases h
  · rename_i k
    split at h
    · rename_i z hk
      cases hz : zint (z, z) with
      | false => rw [hz] at h; cases h
      | true =>
        rw [hz] at h
        obtain rfl := yone_inv h hc
        exact lv_ldcw hx hb hown (hts _ (hcons k z hk)) hdg (hgo H locs ls (hR.push (yint1 hz)))
    · cases h
  · rename_i k
    split at h
    · rename_i z hk
      cases hz : zlng (z, z) with
      | false => rw [hz] at h; cases h
      | true =>
        rw [hz] at h
        obtain rfl := yone_inv h hc
        exact lv_ldc2 hx hb hown (hts _ (hlc k z hk)) hdg (hgo H locs ls (hR.push (show yL z from ylng1 hz)))
    · cases h
  · obtain ⟨v, g1, g2, g3, -, -⟩ := yld_go h hc hgo hR
    obtain ⟨x, rfl⟩ := g3 rfl
    exact lv_iload hx hb hdg g1 g2
  · obtain ⟨v, g1, g2, g3, -, -⟩ := yld_go h hc hgo hR
    obtain ⟨x, rfl⟩ := g3 rfl
    exact lv_iload_n hx hb hdg rfl g1 g2
  · obtain ⟨v, g1, g2, -, g3, -⟩ := yld_go h hc hgo hR
    obtain ⟨x, rfl⟩ := g3 rfl
    exact lv_lload hx hb hdg g1 g2
  · obtain ⟨v, g1, g2, -, g3, -⟩ := yld_go h hc hgo hR
    obtain ⟨x, rfl⟩ := g3 rfl
    exact lv_lload_n hx hb hdg rfl g1 g2
  · obtain ⟨v, g1, g2, -, -, g3⟩ := yld_go h hc hgo hR
    obtain ⟨x, rfl⟩ := g3 rfl
    exact lv_aload hx hb hdg g1 g2
  · obtain ⟨v, g1, g2, -, -, g3⟩ := yld_go h hc hgo hR
    obtain ⟨x, rfl⟩ := g3 rfl
    exact lv_aload_n hx hb hdg rfl g1 g2
  · obtain ⟨v, st, g1, g2, -, -⟩ := yso_go h hc hgo hR
    obtain ⟨⟨x, rfl⟩, hi, g3⟩ := g2 rfl
    show W _ _ _ _ _ _ _ _ _ _ _ _ _ _ _ (F0 m C.1 ls (C.2.2.1.map (ycv ad)))
    rw [g1]
    exact lv_istore hx hb hdg hR.2.2.2.2.2.2 hi rfl g3
  · obtain ⟨v, st, g1, g2, -, -⟩ := yso_go h hc hgo hR
    obtain ⟨⟨x, rfl⟩, hi, g3⟩ := g2 rfl
    show W _ _ _ _ _ _ _ _ _ _ _ _ _ _ _ (F0 m C.1 ls (C.2.2.1.map (ycv ad)))
    rw [g1]
    exact lv_istore_n hx hb hdg rfl hR.2.2.2.2.2.2 hi rfl g3
  · obtain ⟨v, st, g1, -, g2, -⟩ := yso_go h hc hgo hR
    obtain ⟨⟨x, rfl⟩, hi, g3⟩ := g2 rfl
    show W _ _ _ _ _ _ _ _ _ _ _ _ _ _ _ (F0 m C.1 ls (C.2.2.1.map (ycv ad)))
    rw [g1]
    exact lv_lstore hx hb hdg hR.2.2.2.2.2.2 hi rfl g3
  · obtain ⟨v, st, g1, -, g2, -⟩ := yso_go h hc hgo hR
    obtain ⟨⟨x, rfl⟩, hi, g3⟩ := g2 rfl
    show W _ _ _ _ _ _ _ _ _ _ _ _ _ _ _ (F0 m C.1 ls (C.2.2.1.map (ycv ad)))
    rw [g1]
    exact lv_lstore_n hx hb hdg rfl hR.2.2.2.2.2.2 hi rfl g3
  · obtain ⟨v, st, g1, -, -, g2⟩ := yso_go h hc hgo hR
    obtain ⟨⟨x, rfl⟩, hi, g3⟩ := g2 rfl
    show W _ _ _ _ _ _ _ _ _ _ _ _ _ _ _ (F0 m C.1 ls (C.2.2.1.map (ycv ad)))
    rw [g1]
    exact lv_astore hx hb hdg hR.2.2.2.2.2.2 hi rfl g3
  · obtain ⟨v, st, g1, -, -, g2⟩ := yso_go h hc hgo hR
    obtain ⟨⟨x, rfl⟩, hi, g3⟩ := g2 rfl
    show W _ _ _ _ _ _ _ _ _ _ _ _ _ _ _ (F0 m C.1 ls (C.2.2.1.map (ycv ad)))
    rw [g1]
    exact lv_astore_n hx hb hdg rfl hR.2.2.2.2.2.2 hi rfl g3
  · rename_i o
    cases hz : zle 0 ((C.1 : Int) + o) with
    | false => rw [hz] at h; cases h
    | true =>
      rw [hz] at h
      obtain rfl := yone_inv h hc
      have q := zle_ok hz
      exact lv_goto (tgt := ((C.1 : Int) + o).toNat) hx hb hdg (by omega) (hgo H locs ls (hR.st hR.2.2.1))
  · split at h
    · rename_i a st hst
      cases hz : Nat.beq (ycat a) 1 with
      | false => rw [hz] at h; cases h
      | true =>
        rw [hz] at h
        obtain rfl := yone_inv h hc
        have hk := hR.2.2.1
        rw [hst] at hk
        have g := hgo H locs ls (hR.st (List.forall_mem_cons.mpr ⟨hk a List.mem_cons_self, hk⟩))
        show W _ _ _ _ _ _ _ _ _ _ _ _ _ _ _ (F0 m C.1 ls (C.2.2.1.map (ycv ad)))
        rw [hst]
        exact lv_dup hx hb hdg (by rw [ycat_ok]; exact Nat.eq_of_beq_eq_true hz) g
    · cases h
  · split at h
    · rename_i a b st hst
      cases hz : Nat.beq (ycat a) 1 && Nat.beq (ycat b) 1 with
      | false => rw [hz] at h; cases h
      | true =>
        rw [hz] at h
        obtain rfl := yone_inv h hc
        simp only [Bool.and_eq_true] at hz
        have hk := hR.2.2.1
        rw [hst] at hk
        have g := hgo H locs ls (hR.st (List.forall_mem_cons.mpr ⟨hk a List.mem_cons_self, List.forall_mem_cons.mpr ⟨hk b (List.mem_cons_of_mem _ List.mem_cons_self), hk⟩⟩))
        show W _ _ _ _ _ _ _ _ _ _ _ _ _ _ _ (F0 m C.1 ls (C.2.2.1.map (ycv ad)))
        rw [hst]
        exact lv_dup2_11 hx hb hdg (by rw [ycat_ok]; exact Nat.eq_of_beq_eq_true hz.1) (by rw [ycat_ok]; exact Nat.eq_of_beq_eq_true hz.2) g
    · cases h
  · split at h
    · rename_i a st hst
      cases hz : Nat.beq (ycat a) 1 with
      | false => rw [hz] at h; cases h
      | true =>
        rw [hz] at h
        obtain rfl := yone_inv h hc
        have hk := hR.2.2.1
        rw [hst] at hk
        have g := hgo H locs ls (hR.st (fun x hx => hk x (List.mem_cons_of_mem _ hx)))
        show W _ _ _ _ _ _ _ _ _ _ _ _ _ _ _ (F0 m C.1 ls (C.2.2.1.map (ycv ad)))
        rw [hst]
        exact lv_pop hx hb hdg (by rw [ycat_ok]; exact Nat.eq_of_beq_eq_true hz) g
    · cases h
  · split at h
    · rename_i v st hst
      obtain rfl := yone_inv h hc
      have hk := hR.2.2.1
      rw [hst] at hk
      have hv : yI v := hk _ List.mem_cons_self
      have g := hgo H locs ls (hR.st (List.forall_mem_cons.mpr ⟨(show yL v from ⟨by have := hv.1; omega, by have := hv.2; omega⟩), fun x hx => hk x (List.mem_cons_of_mem _ hx)⟩))
      show W _ _ _ _ _ _ _ _ _ _ _ _ _ _ _ (F0 m C.1 ls (C.2.2.1.map (ycv ad)))
      rw [hst]
      exact lv_i2l hx hb hdg (zq_i2l hv.1 hv.2) g
    · cases h
  · rename_i i k
    split at h
    · rename_i v hl
      cases hz : Nat.blt i nL with
      | false => rw [hz] at h; cases h
      | true =>
        rw [hz] at h
        obtain rfl := yone_inv h hc
        obtain ⟨kk, hkk⟩ := List.getElem?_of_mem (List.mem_map.mpr ⟨_, zlk_mem hl, rfl⟩ : (i, ycv ad (.inl (.inl v))) ∈ C.2.1.map (fun x => (x.1, ycv ad x.2)))
        refine lv_iinc (k := kk) hx hb hdg hR.2.2.2.2.2.2 hkk rfl (zblt hz) rfl (fun ls' hl' => ?_)
        refine hgo H locs ls' ⟨hR.1, yset1_in hR.2.1 (show yI (yad v k) from y32_I _), hR.2.2.1, hR.2.2.2.1, hR.2.2.2.2.1, hR.2.2.2.2.2.1, ?_⟩
        rw [← yset1_ok]
        have e2 : ycv ad (.inl (.inl (yad v k))) = .int (Int32.ofInt v + Int32.ofInt k) := by
          show Value.int (Int32.ofInt (Int32.ofInt v + Int32.ofInt k).toInt) = _
          rw [Int32.ofInt_toInt]
        rw [e2]
        exact hl'
    · cases h
  · cases h
end YSA
end
section
theorem ynz_ok {b : Int} (h : ynz b = true) : b < 0 ∨ 0 < b := by
  simp only [ynz, Bool.or_eq_true] at h
  rcases h with h | h
  · have := zle_ok h; omega
  · have := zle_ok h; omega
theorem yin_ok {v : Int} {n : Nat} (h : yin v n = true) : 0 ≤ v ∧ v + 1 ≤ n := by
  simp only [yin, Bool.and_eq_true] at h
  exact ⟨zle_ok h.1, zle_ok h.2⟩
theorem yb1_ok {v : Int} (h : yb1 v = true) : 0 ≤ v ∧ v ≤ 1 := by
  simp only [yb1, Bool.and_eq_true] at h
  exact ⟨zle_ok h.1, zle_ok h.2⟩
section YSB
variable {p : Program} {l : Launch} {e : Env} {R : Room} {s : State} {m : MethodId} {args : Array Value} {below : List Frame} {meth : Method} {c : Code} {cells slots : Nat} {Q : State → Prop} {cc : ByteArray} {D : va_G} {cl : List vw_C} {ct : yCt} {kA : Nat → ClassId} {A : Nat → Prop} {H0 : Heap} {nL : Nat} {sh : List yH} {ad : Nat → Nat} {C C' : yC} {ins : Instr} {r : yT}
theorem ybi_W {pc : Nat} {ls : Array Slot} {H : Heap} {locs : List Loc} {rest : List Value} (hx : p.tables.exec = Jvm.exec) (hb : c.code = cc) (hdg : decode cc pc = .ok (ins, 1)) {a b : Int} {q : Bool × Int} (h : ybi ins a b = some q) (hq : q.1 = true) (hbI : yI b)
    (k : yI q.2 → W p l e R s m args below meth c H locs cells slots Q (F0 m (pc + 1) ls (.int (Int32.ofInt q.2) :: rest))) : W p l e R s m args below meth c H locs cells slots Q (F0 m pc ls (.int (Int32.ofInt b) :: .int (Int32.ofInt a) :: rest)) := by
  have key : ∀ z : Int32, W p l e R s m args below meth c H locs cells slots Q (F0 m (pc + 1) ls (.int (Int32.ofInt z.toInt) :: rest)) → W p l e R s m args below meth c H locs cells slots Q (F0 m (pc + 1) ls (.int z :: rest)) := fun z hz => by
    rw [Int32.ofInt_toInt] at hz
    exact hz
  unfold ybi at h
  split at h
  · cases h; exact lv_iadd hx hb hdg (key _ (k (y32_I _)))
  · cases h; exact lv_isub hx hb hdg (key _ (k (y32_I _)))
  · cases h; exact lv_imul hx hb hdg (key _ (k (y32_I _)))
  · cases h; exact lv_iand hx hb hdg (key _ (k (y32_I _)))
  · cases h; exact lv_ior hx hb hdg (key _ (k (y32_I _)))
  · cases h; exact lv_ixor hx hb hdg (key _ (k (y32_I _)))
  · cases h; exact lv_ishl hx hb hdg (key _ (k (y32_I _)))
  · cases h; exact lv_ishr hx hb hdg (key _ (k (y32_I _)))
  · cases h; exact lv_iushr hx hb hdg rfl (key _ (k (y32_I _)))
  · cases h; exact lv_idiv hx hb hdg (zq_ne hbI.1 hbI.2 (ynz_ok hq)) (key _ (k (y32_I _)))
  · cases h; exact lv_irem hx hb hdg (zq_ne hbI.1 hbI.2 (ynz_ok hq)) (key _ (k (y32_I _)))
  · cases h
theorem ybiL_W {pc : Nat} {ls : Array Slot} {H : Heap} {locs : List Loc} {rest : List Value} (hx : p.tables.exec = Jvm.exec) (hb : c.code = cc) (hdg : decode cc pc = .ok (ins, 1)) {a b : Int} {q : Bool × Int} (h : ybiL ins a b = some q) (hq : q.1 = true) (hbI : yL b)
    (k : yL q.2 → W p l e R s m args below meth c H locs cells slots Q (F0 m (pc + 1) ls (.long (Int64.ofInt q.2) :: rest))) : W p l e R s m args below meth c H locs cells slots Q (F0 m pc ls (.long (Int64.ofInt b) :: .long (Int64.ofInt a) :: rest)) := by
  have key : ∀ z : Int64, W p l e R s m args below meth c H locs cells slots Q (F0 m (pc + 1) ls (.long (Int64.ofInt z.toInt) :: rest)) → W p l e R s m args below meth c H locs cells slots Q (F0 m (pc + 1) ls (.long z :: rest)) := fun z hz => by
    rw [Int64.ofInt_toInt] at hz
    exact hz
  unfold ybiL at h
  split at h
  · cases h; exact lv_ladd hx hb hdg (key _ (k (y64_L _)))
  · cases h; exact lv_lmul hx hb hdg (key _ (k (y64_L _)))
  · cases h; exact lv_ldiv hx hb hdg (zq_neL hbI.1 hbI.2 (ynz_ok hq)) (key _ (k (y64_L _)))
  · cases h; exact lv_lrem hx hb hdg (zq_neL hbI.1 hbI.2 (ynz_ok hq)) (key _ (k (y64_L _)))
  · cases h
theorem ystepB_ok (hx : p.tables.exec = Jvm.exec) (hb : c.code = cc) (hdg : decode cc C.1 = .ok (ins, 1)) (h : ystepB C ins = some r) (hc : ynext r = some C') (hgo : yGo (zGW p l e R s m args below meth c cells slots Q) D cl ct kA A H0 nL sh ad C') : yGo (zGW p l e R s m args below meth c cells slots Q) D cl ct kA A H0 nL sh ad C := by
  intro H locs ls hR
  have hk := hR.2.2.1
  unfold ystepB at h
  split at h
  · rename_i b a st hst
    rw [hst] at hk
    split at h
    · rename_i g z hq
      obtain ⟨g1, rfl⟩ := yg_inv h hc
      show W _ _ _ _ _ _ _ _ _ _ _ _ _ _ _ (F0 m C.1 ls (C.2.2.1.map (ycv ad)))
      rw [hst]
      exact ybi_W (q := (g, z)) hx hb hdg hq g1 (hk _ List.mem_cons_self) (fun hz => hgo H locs ls (hR.st (List.forall_mem_cons.mpr ⟨hz, fun x hx => hk x (List.mem_cons_of_mem _ (List.mem_cons_of_mem _ hx))⟩)))
    · cases h
  · rename_i b a st hst
    rw [hst] at hk
    split at h
    · rename_i g z hq
      obtain ⟨g1, rfl⟩ := yg_inv h hc
      show W _ _ _ _ _ _ _ _ _ _ _ _ _ _ _ (F0 m C.1 ls (C.2.2.1.map (ycv ad)))
      rw [hst]
      exact ybiL_W (q := (g, z)) hx hb hdg hq g1 (hk _ List.mem_cons_self) (fun hz => hgo H locs ls (hR.st (List.forall_mem_cons.mpr ⟨hz, fun x hx => hk x (List.mem_cons_of_mem _ (List.mem_cons_of_mem _ hx))⟩)))
    · cases h
  · cases h
theorem ystepU_ok (hx : p.tables.exec = Jvm.exec) (hb : c.code = cc) (hdg : decode cc C.1 = .ok (ins, 1)) (h : ystepU C ins = some r) (hc : ynext r = some C') (hgo : yGo (zGW p l e R s m args below meth c cells slots Q) D cl ct kA A H0 nL sh ad C') : yGo (zGW p l e R s m args below meth c cells slots Q) D cl ct kA A H0 nL sh ad C := by
  intro H locs ls hR
  have hk := hR.2.2.1
  unfold ystepU at h
  split at h
  · rename_i a st hst
    rw [hst] at hk
    have key : ∀ z : Int32, W p l e R s m args below meth c H locs cells slots Q (F0 m (C.1 + 1) ls (.int (Int32.ofInt z.toInt) :: st.map (ycv ad))) → W p l e R s m args below meth c H locs cells slots Q (F0 m (C.1 + 1) ls (.int z :: st.map (ycv ad))) := fun z hz => by
      rw [Int32.ofInt_toInt] at hz
      exact hz
    split at h
    · rename_i z hq
      obtain rfl := yone_inv h hc
      have g : yI z → W p l e R s m args below meth c H locs cells slots Q (F0 m (C.1 + 1) ls (.int (Int32.ofInt z) :: st.map (ycv ad))) := fun hz => hgo H locs ls (hR.st (List.forall_mem_cons.mpr ⟨hz, fun x hx => hk x (List.mem_cons_of_mem _ hx)⟩))
      show W _ _ _ _ _ _ _ _ _ _ _ _ _ _ _ (F0 m C.1 ls (C.2.2.1.map (ycv ad)))
      rw [hst]
      unfold yun at hq
      split at hq
      · cases hq; exact lv_ineg hx hb hdg (key _ (g (y32_I _)))
      · cases hq; exact lv_i2b hx hb hdg rfl (key _ (g (y32_I _)))
      · cases hq; exact lv_i2s hx hb hdg rfl (key _ (g (y32_I _)))
      · cases hq
    · cases h
  · cases h
theorem ystepC_ok (hx : p.tables.exec = Jvm.exec) (hb : c.code = cc) {nxt : Option Instr} (hdg : decode cc C.1 = .ok (ins, zlen ins)) (hnx : ∀ i, nxt = some i → decode cc (C.1 + 1) = .ok (i, zlen i)) (h : ystepC C ins nxt = some r) (hc : ynext r = some C') (hgo : yGo (zGW p l e R s m args below meth c cells slots Q) D cl ct kA A H0 nL sh ad C') : yGo (zGW p l e R s m args below meth c cells slots Q) D cl ct kA A H0 nL sh ad C := by
  intro H locs ls hR
  have hk := hR.2.2.1
  unfold ystepC at h
  split at h
  · rename_i cd o
    split at h
    · rename_i b a st hst
      rw [hst] at hk
      cases hz : zle 0 ((C.1 : Int) + o) with
      | false => rw [hz] at h; cases h
      | true =>
        rw [hz] at h
        obtain ⟨k1, k2⟩ := yb_inv h hc
        have q := zle_ok hz
        have hbI : yI b := hk _ List.mem_cons_self
        have haI : yI a := hk _ (List.mem_cons_of_mem _ List.mem_cons_self)
        have hst' : ∀ x ∈ st, yokV sh x := fun x hx => hk x (List.mem_cons_of_mem _ (List.mem_cons_of_mem _ hx))
        show W _ _ _ _ _ _ _ _ _ _ _ _ _ _ _ (F0 m C.1 ls (C.2.2.1.map (ycv ad)))
        rw [hst]
        refine zicmp_W (tgt := ((C.1 : Int) + o).toNat) hx hb hdg (by omega) haI.1 haI.2 hbI.1 hbI.2 (fun hcd => ?_) (fun hcd => ?_)
        · obtain rfl := k1 (ycP_t hcd)
          exact hgo H locs ls (hR.st hst')
        · obtain rfl := k2 (ycP_f hcd)
          exact hgo H locs ls (hR.st hst')
    · cases h
  · rename_i cd o
    split at h
    · rename_i a st hst
      rw [hst] at hk
      cases hz : zle 0 ((C.1 : Int) + o) with
      | false => rw [hz] at h; cases h
      | true =>
        rw [hz] at h
        obtain ⟨k1, k2⟩ := yb_inv h hc
        have q := zle_ok hz
        have haI : yI a := hk _ List.mem_cons_self
        have hst' : ∀ x ∈ st, yokV sh x := fun x hx => hk x (List.mem_cons_of_mem _ hx)
        show W _ _ _ _ _ _ _ _ _ _ _ _ _ _ _ (F0 m C.1 ls (C.2.2.1.map (ycv ad)))
        rw [hst]
        refine zif_W (tgt := ((C.1 : Int) + o).toNat) hx hb hdg (by omega) haI.1 haI.2 (fun hcd => ?_) (fun hcd => ?_)
        · obtain rfl := k1 (ycP_t hcd)
          exact hgo H locs ls (hR.st hst')
        · obtain rfl := k2 (ycP_f hcd)
          exact hgo H locs ls (hR.st hst')
    · cases h
  · split at h
    · rename_i cd o
      split at h
      · rename_i b a st hst
        rw [hst] at hk
        cases hz : zle 0 (((C.1 + 1 : Nat) : Int) + o) with
        | false => rw [hz] at h; cases h
        | true =>
          rw [hz] at h
          obtain ⟨k1, k2⟩ := yb_inv h hc
          have q := zle_ok hz
          have hbI : yL b := hk _ List.mem_cons_self
          have haI : yL a := hk _ (List.mem_cons_of_mem _ List.mem_cons_self)
          have hst' : ∀ x ∈ st, yokV sh x := fun x hx => hk x (List.mem_cons_of_mem _ (List.mem_cons_of_mem _ hx))
          show W _ _ _ _ _ _ _ _ _ _ _ _ _ _ _ (F0 m C.1 ls (C.2.2.1.map (ycv ad)))
          rw [hst]
          refine W.lcmp hx hb hdg ?_
          obtain ⟨k, hk0, kk1, kk2, k3⟩ := zlg_cmp (Int64.ofInt a) (Int64.ofInt b)
          rw [zq_ofL haI.1 haI.2, zq_ofL hbI.1 hbI.2] at k3
          rw [hk0]
          refine zif_W (tgt := (((C.1 + 1 : Nat) : Int) + o).toNat) hx hb (hnx _ rfl) (by omega) (by omega) (by omega) (fun hcd => ?_) (fun hcd => ?_)
          · obtain rfl := k1 (ycP_t ((k3 cd).mp hcd))
            exact hgo H locs ls (hR.st hst')
          · obtain rfl := k2 (ycP_f (fun z => hcd ((k3 cd).mpr z)))
            exact hgo H locs ls (hR.st hst')
      · cases h
    · cases h
  · cases h
theorem yald_ok (hx : p.tables.exec = Jvm.exec) (hb : c.code = cc) (hK : va_K D cl (ztys kA) s) {kd : Nat} (hkd : (kd = 0 ∧ decode cc C.1 = .ok (.iaload, 1)) ∨ (kd = 1 ∧ decode cc C.1 = .ok (.baload, 1))) (h : yald kd C = some r) (hc : ynext r = some C') (hgo : yGo (zGW p l e R s m args below meth c cells slots Q) D cl ct kA A H0 nL sh ad C') : yGo (zGW p l e R s m args below meth c cells slots Q) D cl ct kA A H0 nL sh ad C := by
  intro H locs ls hR
  have hk := hR.2.2.1
  unfold yald at h
  split at h
  · rename_i v x st hst
    rw [hst] at hk
    split at h
    · rename_i q hq
      cases hz : Nat.beq q.1 kd && Nat.ble q.2 2000000 with
      | false => rw [hz] at h; cases h
      | true =>
        rw [hz] at h
        simp only [Bool.and_eq_true] at hz
        obtain ⟨g1, rfl⟩ := yg_inv h hc
        obtain ⟨i1, i2⟩ := yin_ok g1
        have y5 := Nat.le_of_ble_eq_true hz.2
        have ek := Nat.eq_of_beq_eq_true hz.1
        obtain ⟨j1, j2⟩ := zq_idx (k := v) (m := q.2) i1 i2 y5
        have hsh : sh[x.2]? = some x.1 := hk _ (List.mem_cons_of_mem _ List.mem_cons_self)
        rw [hq] at hsh
        have hget := yws_get (ct := ct) (kA := kA) (ad := ad) (σ := C.2.2.2) hsh
        have g : W p l e R s m args below meth c H locs cells slots Q (F0 m (C.1 + 1) ls (.int (Int32.ofInt (C.2.2.2.1 x.2 v.toNat)) :: st.map (ycv ad))) := hgo H locs ls (hR.st (List.forall_mem_cons.mpr ⟨hR.1.1 _ _, fun y hy => hk y (List.mem_cons_of_mem _ (List.mem_cons_of_mem _ hy))⟩))
        show W _ _ _ _ _ _ _ _ _ _ _ _ _ _ _ (F0 m C.1 ls (C.2.2.1.map (ycv ad)))
        rw [hst]
        rcases hkd with ⟨rfl, hdg⟩ | ⟨rfl, hdg⟩
        · have ew : yce ct kA ad C.2.2.2 x.2 (.inr q) = .inl (kA 0, q.2, .inl (fun j => Int32.ofInt (C.2.2.2.1 x.2 j))) := by
            unfold yce
            dsimp only
            rw [ek]
            rfl
          rw [ew] at hget
          refine va_iald hx hb hK hR.2.2.2.1 x.2 0 hget rfl j1 hdg ?_
          rw [j2]
          exact g
        · have ew : yce ct kA ad C.2.2.2 x.2 (.inr q) = .inl (kA 1, q.2, .inl (fun j => Int32.ofInt (C.2.2.2.1 x.2 j))) := by
            unfold yce
            dsimp only
            rw [ek]
            rfl
          rw [ew] at hget
          refine va_zald hx hb hK hR.2.2.2.1 x.2 1 hget rfl j1 hdg ?_
          rw [j2]
          exact g
    · cases h
  · cases h
theorem yast_ok (hx : p.tables.exec = Jvm.exec) (hb : c.code = cc) (hK : va_K D cl (ztys kA) s) {kd : Nat} (hkd : (kd = 0 ∧ decode cc C.1 = .ok (.iastore, 1)) ∨ (kd = 1 ∧ decode cc C.1 = .ok (.bastore, 1))) (h : yast kd C = some r) (hc : ynext r = some C') (hgo : yGo (zGW p l e R s m args below meth c cells slots Q) D cl ct kA A H0 nL sh ad C') : yGo (zGW p l e R s m args below meth c cells slots Q) D cl ct kA A H0 nL sh ad C := by
  intro H locs ls hR
  have hk := hR.2.2.1
  unfold yast at h
  split at h
  · rename_i u v x st hst
    rw [hst] at hk
    split at h
    · rename_i q hq
      cases hz : Nat.beq q.1 kd && Nat.ble q.2 2000000 with
      | false => rw [hz] at h; cases h
      | true =>
        rw [hz] at h
        simp only [Bool.and_eq_true] at hz
        obtain ⟨g1, rfl⟩ := yg_inv h hc
        have gy : yin v q.2 = true ∧ (kd = 0 ∨ yb1 u = true) := by
          cases hk0 : Nat.beq kd 0 with
          | true =>
            rw [hk0] at g1
            exact ⟨g1, Or.inl (Nat.eq_of_beq_eq_true hk0)⟩
          | false =>
            rw [hk0] at g1
            have g1 : (yin v q.2 && yb1 u) = true := g1
            rw [Bool.and_eq_true] at g1
            exact ⟨g1.1, Or.inr g1.2⟩
        obtain ⟨i1, i2⟩ := yin_ok gy.1
        have y5 := Nat.le_of_ble_eq_true hz.2
        have ek := Nat.eq_of_beq_eq_true hz.1
        obtain ⟨j1, j2⟩ := zq_idx (k := v) (m := q.2) i1 i2 y5
        have hsh : sh[x.2]? = some x.1 := hk _ (List.mem_cons_of_mem _ (List.mem_cons_of_mem _ List.mem_cons_self))
        have huI : yI u := hk _ List.mem_cons_self
        rw [hq] at hsh
        have hget := yws_get (ct := ct) (kA := kA) (ad := ad) (σ := C.2.2.2) hsh
        have ews := yws_set (ct := ct) (kA := kA) (ad := ad) (σ := C.2.2.2) (σ' := yw C.2.2.2 x.2 v.toNat u) hsh (fun a ha k => if_neg (fun z => ha z.2)) (fun a ha k => rfl)
        have fin : ∀ (H1 : Heap) (locs1 : List Loc), va_P D cl (yws ct kA ad sh (yw C.2.2.2 x.2 v.toNat u)) H1 → va_D A (yws ct kA ad sh (yw C.2.2.2 x.2 v.toNat u)) → va_S A H0 H1 locs1 → W p l e R s m args below meth c H1 locs1 cells slots Q (F0 m (C.1 + 1) ls (st.map (ycv ad))) := fun H1 locs1 hP1 hD1 hS1 => hgo H1 locs1 ls ⟨yokS_w hR.1 _ _ huI, hR.2.1, fun y hy => hk y (List.mem_cons_of_mem _ (List.mem_cons_of_mem _ (List.mem_cons_of_mem _ hy))), hP1, hD1, hS1, hR.2.2.2.2.2.2⟩
        have eu : (fun j => Int32.ofInt ((yw C.2.2.2 x.2 v.toNat u).1 x.2 j)) = upd (fun j => Int32.ofInt (C.2.2.2.1 x.2 j)) v.toNat (Int32.ofInt u) := by
          funext j
          show Int32.ofInt (if j = v.toNat ∧ x.2 = x.2 then u else C.2.2.2.1 x.2 j) = upd (fun j => Int32.ofInt (C.2.2.2.1 x.2 j)) v.toNat (Int32.ofInt u) j
          unfold upd
          by_cases hj : j = v.toNat
          · rw [if_pos ⟨hj, rfl⟩, if_pos hj]
          · rw [if_neg (fun z => hj z.1), if_neg hj]
        show W _ _ _ _ _ _ _ _ _ _ _ _ _ _ _ (F0 m C.1 ls (C.2.2.1.map (ycv ad)))
        rw [hst]
        rcases hkd with ⟨rfl, hdg⟩ | ⟨rfl, hdg⟩
        · have ew : yce ct kA ad C.2.2.2 x.2 (.inr q) = .inl (kA 0, q.2, .inl (fun j => Int32.ofInt (C.2.2.2.1 x.2 j))) := by
            unfold yce
            dsimp only
            rw [ek]
            rfl
          have ew2 : yce ct kA ad (yw C.2.2.2 x.2 v.toNat u) x.2 (.inr q) = .inl (kA 0, q.2, .inl (upd (fun j => Int32.ofInt (C.2.2.2.1 x.2 j)) v.toNat (Int32.ofInt u))) := by
            unfold yce
            dsimp only
            rw [ek, eu]
            rfl
          rw [ew] at hget
          rw [ew2] at ews
          refine va_iast hx hb hK hR.2.2.2.1 hR.2.2.2.2.1 hR.2.2.2.2.2.1 x.2 0 hget rfl j1 hdg (fun H1 locs1 hP1 hD1 hS1 => ?_)
          rw [j2, ← ews] at hP1 hD1
          exact fin H1 locs1 hP1 hD1 hS1
        · have ew : yce ct kA ad C.2.2.2 x.2 (.inr q) = .inl (kA 1, q.2, .inl (fun j => Int32.ofInt (C.2.2.2.1 x.2 j))) := by
            unfold yce
            dsimp only
            rw [ek]
            rfl
          have ew2 : yce ct kA ad (yw C.2.2.2 x.2 v.toNat u) x.2 (.inr q) = .inl (kA 1, q.2, .inl (upd (fun j => Int32.ofInt (C.2.2.2.1 x.2 j)) v.toNat (Int32.ofInt u))) := by
            unfold yce
            dsimp only
            rw [ek, eu]
            rfl
          rw [ew] at hget
          rw [ew2] at ews
          have hu : 0 ≤ u ∧ u ≤ 1 := by
            rcases gy.2 with z | z
            · cases z
            · exact yb1_ok z
          have en : vp_nar .boolean (Int32.ofInt u) = Int32.ofInt u := by
            unfold vp_nar
            rw [(znar_bool (k := u) hu.1 hu.2).1]
          refine va_zast hx hb hK hR.2.2.2.1 hR.2.2.2.2.1 hR.2.2.2.2.2.1 x.2 1 hget rfl j1 hdg (fun H1 locs1 hP1 hD1 hS1 => ?_)
          rw [j2, en, ← ews] at hP1 hD1
          exact fin H1 locs1 hP1 hD1 hS1
    · cases h
  · cases h
end YSB
end
section
theorem yfs_set {ct : yCt} {ad : Nat → Nat} {σ σ' : yS} {i ci k : Nat} {t : Option yH} {v : Value} (hk : (ct.1 ci)[k]? = some t) (hv : yfv ad σ' i k t = v) (hne : ∀ j, j ≠ k → ∀ t, yfv ad σ' i j t = yfv ad σ i j t) : (ct.1 ci).mapIdx (fun k t => yfv ad σ' i k t) = ((ct.1 ci).mapIdx (fun k t => yfv ad σ i k t)).set k v := by
  apply List.ext_getElem?
  intro j
  by_cases hj : k = j
  · subst hj
    have hlt : k < ((ct.1 ci).mapIdx (fun k t => yfv ad σ i k t)).length := by
      rw [List.length_mapIdx]
      exact (List.getElem?_eq_some_iff.mp hk).1
    rw [List.getElem?_set_self hlt, List.getElem?_mapIdx, hk]
    exact congrArg some hv
  · rw [List.getElem?_set_ne hj, List.getElem?_mapIdx, List.getElem?_mapIdx]
    cases (ct.1 ci)[j]? with
    | none => rfl
    | some t => exact congrArg some (hne j (Ne.symm hj) t)
theorem ytab_at {pc : Nat} {v : Int} {d : Nat} : ∀ (os : List Int) (k : Int) (j : Nat) (o : Int), os[j]? = some o → v = k + j → ytab pc v d k os = ((pc : Int) + o).toNat
  | [], _, j, o, h, _ => by simp at h
  | a :: os, k, 0, o, h, hv => by
    simp only [List.getElem?_cons_zero, Option.some.injEq] at h
    subst h
    unfold ytab
    have e : (zle v k && zle k v) = true := by
      rw [Bool.and_eq_true]
      exact ⟨decide_eq_true (by omega), decide_eq_true (by omega)⟩
    rw [e]
    rfl
  | a :: os, k, j + 1, o, h, hv => by
    rw [List.getElem?_cons_succ] at h
    unfold ytab
    have e : (zle v k && zle k v) = false := by
      rw [Bool.and_eq_false_iff]
      exact Or.inl (decide_eq_false (by omega))
    rw [e]
    exact ytab_at os (k + 1) j o h (by omega)
theorem ytab_out {pc : Nat} {v : Int} {d : Nat} : ∀ (os : List Int) (k : Int), v < k ∨ k + os.length ≤ v → ytab pc v d k os = d
  | [], _, _ => rfl
  | a :: os, k, hv => by
    unfold ytab
    rw [List.length_cons] at hv
    have e : (zle v k && zle k v) = false := by
      rw [Bool.and_eq_false_iff]
      rcases hv with h | h
      · exact Or.inr (decide_eq_false (by omega))
      · exact Or.inl (decide_eq_false (by omega))
    rw [e]
    exact ytab_out os (k + 1) (by omega)
theorem ylks_at {pc : Nat} {v d : Int} : ∀ (ps : List (Int × Int)), ylks pc v ((pc : Int) + d).toNat ps = ((pc : Int) + Op.lookupswitch.offset ps d v).toNat
  | [] => rfl
  | (a, o) :: ps => by
    rw [Op.lookupswitch.offset_cons]
    unfold ylks
    dsimp only
    by_cases h : a = v
    · have e : (zle v a && zle a v) = true := by
        rw [Bool.and_eq_true]
        exact ⟨decide_eq_true (by omega), decide_eq_true (by omega)⟩
      rw [if_pos h, e]
      rfl
    · have e : (zle v a && zle a v) = false := by
        cases hb : zle v a && zle a v with
        | false => rfl
        | true =>
          rw [Bool.and_eq_true] at hb
          exact absurd (Int.le_antisymm (zle_ok hb.2) (zle_ok hb.1)) h
      rw [if_neg h, e]
      exact ylks_at ps
theorem ylks_ge {pc : Nat} {v d : Int} (hd : 0 ≤ (pc : Int) + d) : ∀ (ps : List (Int × Int)), ps.all (fun x => zle 0 ((pc : Int) + x.2)) = true → 0 ≤ (pc : Int) + Op.lookupswitch.offset ps d v
  | [], _ => hd
  | (a, o) :: ps, h => by
    rw [List.all_cons, Bool.and_eq_true] at h
    rw [Op.lookupswitch.offset_cons]
    by_cases q : a = v
    · rw [if_pos q]
      exact zle_ok h.1
    · rw [if_neg q]
      exact ylks_ge hd ps h.2
theorem ymx_ok {a b : Int} (ha : yI a) (hb : yI b) : (if Int32.ofInt a < Int32.ofInt b then Int32.ofInt b else Int32.ofInt a) = Int32.ofInt (ymx a b) ∧ yI (ymx a b) := by
  have lt := zq_lt ha.1 ha.2 hb.1 hb.2
  by_cases h : a < b
  · have e : zle (a + 1) b = true := decide_eq_true (by omega)
    rw [if_pos (lt.mpr h)]
    unfold ymx
    rw [e]
    exact ⟨rfl, hb⟩
  · have e : zle (a + 1) b = false := decide_eq_false (by omega)
    rw [if_neg (fun z => h (lt.mp z))]
    unfold ymx
    rw [e]
    exact ⟨rfl, ha⟩
theorem ymn_ok {a b : Int} (ha : yI a) (hb : yI b) : (if Int32.ofInt b < Int32.ofInt a then Int32.ofInt b else Int32.ofInt a) = Int32.ofInt (ymn a b) ∧ yI (ymn a b) := by
  have lt := zq_lt hb.1 hb.2 ha.1 ha.2
  by_cases h : b < a
  · have e : zle (b + 1) a = true := decide_eq_true (by omega)
    rw [if_pos (lt.mpr h)]
    unfold ymn
    rw [e]
    exact ⟨rfl, hb⟩
  · have e : zle (b + 1) a = false := decide_eq_false (by omega)
    rw [if_neg (fun z => h (lt.mp z))]
    unfold ymn
    rw [e]
    exact ⟨rfl, ha⟩
theorem ycats {st : List yV} (h : Nat.ble ((st.map ycat).sum) 8 = true) (ad : Nat → Nat) : ((st.map (ycv ad)).map fun v => v.category).sum ≤ 8 := by
  rw [List.map_map, show ((fun v : Value => v.category) ∘ ycv ad) = ycat from funext (ycat_ok ad)]
  exact Nat.le_of_ble_eq_true h
section YSD
variable {p : Program} {l : Launch} {e : Env} {R : Room} {s : State} {m : MethodId} {args : Array Value} {below : List Frame} {meth : Method} {c : Code} {cells slots : Nat} {Q : State → Prop} {cc : ByteArray} {D : va_G} {cl : List vw_C} {ct : yCt} {kA : Nat → ClassId} {A : Nat → Prop} {H0 : Heap} {nL : Nat} {sh : List yH} {ad : Nat → Nat} {C C' : yC} {ins : Instr} {r : yT}
set_option maxHeartbeats 4000000 in
theorem ystepD_ok (hx : p.tables.exec = Jvm.exec) (hb : c.code = cc) (hK : va_K D cl (ztys kA) s) {own : String} {Ts : List Cond} (hown : s.vm.findClass own = some m.cls) (hts : ∀ w ∈ Ts, w.before args s = true) {flds : List (Nat × Nat × Nat × Nat)} (hfl : ∀ x ci k tag, zlk flds x = some (ci, k, tag) → zFld Ts own cl x ci k tag)
    (hdg : decode cc C.1 = .ok (ins, zlen ins)) (h : ystepD ct flds C ins = some r) (hc : ynext r = some C') (hgo : yGo (zGW p l e R s m args below meth c cells slots Q) D cl ct kA A H0 nL sh ad C') : yGo (zGW p l e R s m args below meth c cells slots Q) D cl ct kA A H0 nL sh ad C := by
  unfold ystepD at h
  split at h
  · rename_i x
    intro H locs ls hR
    have hk := hR.2.2.1
    split at h
    · rename_i y st hst
      rw [hst] at hk
      have hsh : sh[y.2]? = some y.1 := hk _ List.mem_cons_self
      have hst' : ∀ z ∈ st, yokV sh z := fun z hz => hk z (List.mem_cons_of_mem _ hz)
      split at h
      · rename_i ci' ci k tag hy hlk
        cases hz : Nat.beq ci' ci with
        | false => rw [hz] at h; cases h
        | true =>
          rw [hz] at h
          have ec := Nat.eq_of_beq_eq_true hz
          subst ec
          rw [hy] at hsh
          dsimp only [cond] at h
          obtain ⟨C0, T, nF, ty0, f1, f2, f3, f4, f5, f6, f7⟩ := hfl x _ k tag hlk
          have hget := yws_get (ct := ct) (kA := kA) (ad := ad) (σ := C.2.2.2) hsh
          show W _ _ _ _ _ _ _ _ _ _ _ _ _ _ _ (F0 m C.1 ls (C.2.2.1.map (ycv ad)))
          rw [hst]
          split at h
          · rename_i hct
            obtain rfl := yone_inv h hc
            exact va_get hx hb hts f3 hown hK hR.2.2.2.1 y.2 hget f1 k f2 (hts _ f6) (fun _ h => h) (v := .int (Int32.ofInt (C.2.2.2.1 y.2 k))) (by rw [List.getElem?_mapIdx, hct]; rfl) hdg (hgo H locs ls (hR.st (List.forall_mem_cons.mpr ⟨hR.1.1 _ _, hst'⟩)))
          · rename_i hh hct
            obtain rfl := yone_inv h hc
            have efx : (ct.2 ci' y.2 k).getD (C.2.2.2.2 y.2 k) = C.2.2.2.2 y.2 k := by
              cases hfx : ct.2 ci' y.2 k with
              | none => rfl
              | some j => exact (hR.1.2.2.2 _ _ _ _ hsh hfx).symm
            rw [efx] at hgo
            exact va_get hx hb hts f3 hown hK hR.2.2.2.1 y.2 hget f1 k f2 (hts _ f6) (fun _ h => h) (v := .ref (ad (C.2.2.2.2 y.2 k))) (by rw [List.getElem?_mapIdx, hct]; rfl) hdg (hgo H locs ls (hR.st (List.forall_mem_cons.mpr ⟨hR.1.2.1 _ _ _ _ hsh hct, hst'⟩)))
          · cases h
      · cases h
    · cases h
  · rename_i x
    intro H locs ls hR
    have hk := hR.2.2.1
    split at h
    · rename_i a y st hst
      rw [hst] at hk
      have hsh : sh[y.2]? = some y.1 := hk _ (List.mem_cons_of_mem _ List.mem_cons_self)
      have ha0 := hk a List.mem_cons_self
      have hst' : ∀ z ∈ st, yokV sh z := fun z hz => hk z (List.mem_cons_of_mem _ (List.mem_cons_of_mem _ hz))
      split at h
      · rename_i ci' ci k tag hy hlk
        cases hz : Nat.beq ci' ci with
        | false => rw [hz] at h; cases h
        | true =>
          rw [hz] at h
          have ec := Nat.eq_of_beq_eq_true hz
          subst ec
          rw [hy] at hsh
          dsimp only [cond] at h
          obtain ⟨C0, T, nF, ty0, f1, f2, f3, f4, f5, f6, f7⟩ := hfl x _ k tag hlk
          have hget := yws_get (ct := ct) (kA := kA) (ad := ad) (σ := C.2.2.2) hsh
          show W _ _ _ _ _ _ _ _ _ _ _ _ _ _ _ (F0 m C.1 ls (C.2.2.1.map (ycv ad)))
          rw [hst]
          split at h
          · rename_i z hct
            obtain rfl := yone_inv h hc
            have t1 : (T k).2.2.2 = false := f7.1
            have t2 : ty0 k = .int := f7.2
            have ews := yws_set (ct := ct) (kA := kA) (ad := ad) (σ := C.2.2.2) (σ' := yw C.2.2.2 y.2 k z) hsh (fun a ha k => if_neg (fun z => ha z.2)) (fun a ha k => rfl)
            have ef := yfs_set (ad := ad) (σ := C.2.2.2) (σ' := yw C.2.2.2 y.2 k z) (i := y.2) (v := .int (Int32.ofInt z)) hct (by
              show Value.int (Int32.ofInt (if k = k ∧ y.2 = y.2 then z else C.2.2.2.1 y.2 k)) = _
              rw [if_pos ⟨rfl, rfl⟩]) (fun j hj t => by
              cases t with
              | none =>
                show Value.int (Int32.ofInt (if j = k ∧ y.2 = y.2 then z else C.2.2.2.1 y.2 j)) = _
                rw [if_neg (fun q => hj q.1)]
                rfl
              | some _ => rfl)
            have ew : yce ct kA ad (yw C.2.2.2 y.2 k z) y.2 (.inl ci') = .inr (ci', ((ct.1 ci').mapIdx (fun k t => yfv ad C.2.2.2 y.2 k t)).set k (.int (Int32.ofInt z))) := by
              show Sum.inr (ci', (ct.1 ci').mapIdx (fun k_1 t => yfv ad (yw C.2.2.2 y.2 k z) y.2 k_1 t)) = _
              rw [ef]
            rw [ew] at ews
            refine va_put hx hb hts f3 ty0 f4 f5 hown hK hR.2.2.2.1 hR.2.2.2.2.1 hR.2.2.2.2.2.1 y.2 hget f1 k f2 (hts _ f6) (fun _ h => h) t1 (f4 k f2) (by rw [t2]; rfl) (by rw [t2]; rfl) (by rw [List.length_mapIdx]; exact (List.getElem?_eq_some_iff.mp hct).1) hdg (fun H1 locs1 hP1 hD1 hS1 => ?_)
            exact hgo H1 locs1 ls ⟨yokS_w hR.1 _ _ ha0, hR.2.1, hst', (show va_P D cl (yws ct kA ad sh (yw C.2.2.2 y.2 k z)) H1 by rw [ews]; exact hP1), (show va_D A (yws ct kA ad sh (yw C.2.2.2 y.2 k z)) by rw [ews]; exact hD1), hS1, hR.2.2.2.2.2.2⟩
          · rename_i z hct
            obtain ⟨hg1, rfl⟩ := yg_inv h hc
            have hu := yb1_ok hg1
            have t1 : (T k).2.2.2 = false := f7.1
            have t2 : ty0 k = .boolean := f7.2
            have nb := znar_bool (k := z) hu.1 hu.2
            have ews := yws_set (ct := ct) (kA := kA) (ad := ad) (σ := C.2.2.2) (σ' := yw C.2.2.2 y.2 k z) hsh (fun a ha k => if_neg (fun z => ha z.2)) (fun a ha k => rfl)
            have ef := yfs_set (ad := ad) (σ := C.2.2.2) (σ' := yw C.2.2.2 y.2 k z) (i := y.2) (v := .int (Int32.ofInt z)) hct (by
              show Value.int (Int32.ofInt (if k = k ∧ y.2 = y.2 then z else C.2.2.2.1 y.2 k)) = _
              rw [if_pos ⟨rfl, rfl⟩]) (fun j hj t => by
              cases t with
              | none =>
                show Value.int (Int32.ofInt (if j = k ∧ y.2 = y.2 then z else C.2.2.2.1 y.2 j)) = _
                rw [if_neg (fun q => hj q.1)]
                rfl
              | some _ => rfl)
            have ew : yce ct kA ad (yw C.2.2.2 y.2 k z) y.2 (.inl ci') = .inr (ci', ((ct.1 ci').mapIdx (fun k t => yfv ad C.2.2.2 y.2 k t)).set k (.int (Int32.ofInt z))) := by
              show Sum.inr (ci', (ct.1 ci').mapIdx (fun k_1 t => yfv ad (yw C.2.2.2 y.2 k z) y.2 k_1 t)) = _
              rw [ef]
            rw [ew] at ews
            refine va_put hx hb hts f3 ty0 f4 f5 hown hK hR.2.2.2.1 hR.2.2.2.2.1 hR.2.2.2.2.2.1 y.2 hget f1 k f2 (hts _ f6) (fun _ h => h) t1 (f4 k f2) (by rw [t2]; exact nb.1) (by rw [t2]; exact nb.2) (by rw [List.length_mapIdx]; exact (List.getElem?_eq_some_iff.mp hct).1) hdg (fun H1 locs1 hP1 hD1 hS1 => ?_)
            exact hgo H1 locs1 ls ⟨yokS_w hR.1 _ _ ha0, hR.2.1, hst', (show va_P D cl (yws ct kA ad sh (yw C.2.2.2 y.2 k z)) H1 by rw [ews]; exact hP1), (show va_D A (yws ct kA ad sh (yw C.2.2.2 y.2 k z)) by rw [ews]; exact hD1), hS1, hR.2.2.2.2.2.2⟩
          · rename_i v hh hct
            cases hq : yHeq v.1 hh && (ct.2 ci' y.2 k).isNone with
            | false => rw [hq] at h; cases h
            | true =>
              rw [hq] at h
              obtain rfl := yone_inv h hc
              rw [Bool.and_eq_true] at hq
              have eh := yHeq_ok hq.1
              have hfn : ct.2 ci' y.2 k = none := Option.isNone_iff_eq_none.mp hq.2
              have hv0 : sh[v.2]? = some hh := by rw [← eh]; exact ha0
              have t1 : (T k).2.2.2 = false := f7.1
              obtain ⟨CC, t2⟩ : ∃ CC, ty0 k = .object CC := f7.2
              have ews := yws_set (ct := ct) (kA := kA) (ad := ad) (σ := C.2.2.2) (σ' := yq C.2.2.2 y.2 k v.2) hsh (fun a ha k => rfl) (fun a ha k => if_neg (fun z => ha z.2))
              have ef := yfs_set (ad := ad) (σ := C.2.2.2) (σ' := yq C.2.2.2 y.2 k v.2) (i := y.2) (v := .ref (ad v.2)) hct (by
                show Value.ref (ad (if k = k ∧ y.2 = y.2 then v.2 else C.2.2.2.2 y.2 k)) = _
                rw [if_pos ⟨rfl, rfl⟩]) (fun j hj t => by
                cases t with
                | none => rfl
                | some _ =>
                  show Value.ref (ad (if j = k ∧ y.2 = y.2 then v.2 else C.2.2.2.2 y.2 j)) = _
                  rw [if_neg (fun q => hj q.1)]
                  rfl)
              have ew : yce ct kA ad (yq C.2.2.2 y.2 k v.2) y.2 (.inl ci') = .inr (ci', ((ct.1 ci').mapIdx (fun k t => yfv ad C.2.2.2 y.2 k t)).set k (.ref (ad v.2))) := by
                show Sum.inr (ci', (ct.1 ci').mapIdx (fun k_1 t => yfv ad (yq C.2.2.2 y.2 k v.2) y.2 k_1 t)) = _
                rw [ef]
              rw [ew] at ews
              refine va_put hx hb hts f3 ty0 f4 f5 hown hK hR.2.2.2.1 hR.2.2.2.2.1 hR.2.2.2.2.2.1 y.2 hget f1 k f2 (hts _ f6) (fun _ h => h) t1 (f4 k f2) (by rw [t2]; rfl) (by rw [t2]; rfl) (by rw [List.length_mapIdx]; exact (List.getElem?_eq_some_iff.mp hct).1) hdg (fun H1 locs1 hP1 hD1 hS1 => ?_)
              exact hgo H1 locs1 ls ⟨yokS_q hR.1 hsh hct hfn hv0, hR.2.1, hst', (show va_P D cl (yws ct kA ad sh (yq C.2.2.2 y.2 k v.2)) H1 by rw [ews]; exact hP1), (show va_D A (yws ct kA ad sh (yq C.2.2.2 y.2 k v.2)) by rw [ews]; exact hD1), hS1, hR.2.2.2.2.2.2⟩
          · cases h
      · cases h
    · cases h
  · exact yald_ok hx hb hK (Or.inl ⟨rfl, hdg⟩) h hc hgo
  · exact yald_ok hx hb hK (Or.inr ⟨rfl, hdg⟩) h hc hgo
  · exact yast_ok hx hb hK (Or.inl ⟨rfl, hdg⟩) h hc hgo
  · exact yast_ok hx hb hK (Or.inr ⟨rfl, hdg⟩) h hc hgo
  · intro H locs ls hR
    have hk := hR.2.2.1
    split at h
    · rename_i v x st hst
      rw [hst] at hk
      have hsh : sh[x.2]? = some x.1 := hk _ (List.mem_cons_of_mem _ List.mem_cons_self)
      have hst' : ∀ z ∈ st, yokV sh z := fun z hz => hk z (List.mem_cons_of_mem _ (List.mem_cons_of_mem _ hz))
      split at h
      · rename_i q hq
        rw [hq] at hsh
        cases hz : (Nat.beq q.1 2 || Nat.beq q.1 3) && Nat.ble q.2 2000000 with
        | false => rw [hz] at h; cases h
        | true =>
          rw [hz] at h
          simp only [Bool.and_eq_true, Bool.or_eq_true] at hz
          obtain ⟨g1, rfl⟩ := yg_inv h hc
          obtain ⟨i1, i2⟩ := yin_ok g1
          have y5 := Nat.le_of_ble_eq_true hz.2
          obtain ⟨j1, j2⟩ := zq_idx (k := v) (m := q.2) i1 i2 y5
          have hget := yws_get (ct := ct) (kA := kA) (ad := ad) (σ := C.2.2.2) hsh
          have h2 : 2 ≤ q.1 := by
            rcases hz.1 with z | z <;> have := Nat.eq_of_beq_eq_true z <;> omega
          have hel : sh[C.2.2.2.2 x.2 v.toNat]? = some (yek q.1) := hR.1.2.2.1 x.2 q.1 q.2 v.toNat hsh h2 (by omega)
          have g : W p l e R s m args below meth c H locs cells slots Q (F0 m (C.1 + 1) ls (.ref (ad (C.2.2.2.2 x.2 v.toNat)) :: st.map (ycv ad))) := hgo H locs ls (hR.st (List.forall_mem_cons.mpr ⟨hel, hst'⟩))
          have ew : yce ct kA ad C.2.2.2 x.2 (.inr q) = .inl (kA q.1, q.2, .inr (.inr (.inr (.inr (fun j => some (ad (C.2.2.2.2 x.2 j))))))) := by
            unfold yce
            dsimp only
            have e1 : Nat.ble q.1 1 = false := by
              cases hb : Nat.ble q.1 1 with
              | false => rfl
              | true => have := Nat.le_of_ble_eq_true hb; omega
            rw [e1]
            rfl
          rw [ew] at hget
          show W _ _ _ _ _ _ _ _ _ _ _ _ _ _ _ (F0 m C.1 ls (C.2.2.1.map (ycv ad)))
          rw [hst]
          rcases hz.1 with z1 | z1
          · rw [Nat.eq_of_beq_eq_true z1] at hget
            refine va_aldq (C := "VowTerrace$Terrace") hx hb hK hR.2.2.2.1 x.2 2 hget rfl j1 hdg ?_
            rw [j2]
            exact g
          · rw [Nat.eq_of_beq_eq_true z1] at hget
            refine va_aldq (C := "VowTerrace$Sheet") hx hb hK hR.2.2.2.1 x.2 3 hget rfl j1 hdg ?_
            rw [j2]
            exact g
      · cases h
    · cases h
  · cases h
theorem ystepS_ok (hx : p.tables.exec = Jvm.exec) (hb : c.code = cc) {len : Nat} (hdg : decode cc C.1 = .ok (ins, len)) (h : ystepS C ins = some r) (hc : ynext r = some C') (hgo : yGo (zGW p l e R s m args below meth c cells slots Q) D cl ct kA A H0 nL sh ad C') : yGo (zGW p l e R s m args below meth c cells slots Q) D cl ct kA A H0 nL sh ad C := by
  intro H locs ls hR
  have hk := hR.2.2.1
  unfold ystepS at h
  split at h
  · rename_i d lo hi offs
    split at h
    · rename_i v st hst
      rw [hst] at hk
      have hv : yI v := hk _ List.mem_cons_self
      have hst' : ∀ z ∈ st, yokV sh z := fun z hz => hk z (List.mem_cons_of_mem _ hz)
      cases hz : zle 0 ((C.1 : Int) + d) && offs.toList.all (fun o => zle 0 ((C.1 : Int) + o)) && decide (hi - lo + 1 = (offs.toList.length : Int)) with
      | false => rw [hz] at h; cases h
      | true =>
        rw [hz] at h
        simp only [Bool.and_eq_true] at hz
        obtain ⟨⟨z2, z3⟩, z4⟩ := hz
        obtain rfl := yone_inv h hc
        have ev := zq_of hv.1 hv.2
        have y2 := zle_ok z2
        have y4 : hi - lo + 1 = (offs.toList.length : Int) := of_decide_eq_true z4
        have g := hgo H locs ls (hR.st hst')
        show W _ _ _ _ _ _ _ _ _ _ _ _ _ _ _ (F0 m C.1 ls (C.2.2.1.map (ycv ad)))
        rw [hst]
        have g : W p l e R s m args below meth c H locs cells slots Q (F0 m (ytab C.1 v ((C.1 : Int) + d).toNat lo offs.toList) ls (st.map (ycv ad))) := g
        by_cases c1 : v < lo ∨ hi < v
        · rw [ytab_out _ _ (by omega)] at g
          exact lv_tableOut (tgt := ((C.1 : Int) + d).toNat) hx hb hdg (by rw [ev]; exact c1) (by omega) g
        · have hlt : (v - lo).toNat < offs.toList.length := by omega
          have hget : offs.toList[(v - lo).toNat]? = some offs.toList[(v - lo).toNat] := List.getElem?_eq_getElem hlt
          have y3 := zle_ok (List.all_eq_true.mp z3 _ (List.mem_of_getElem? hget))
          rw [ytab_at _ _ _ _ hget (by omega)] at g
          exact lv_tableIn (tgt := ((C.1 : Int) + offs.toList[(v - lo).toNat]).toNat) hx hb hdg (by rw [ev]; omega) (by rw [ev]; omega) (by rw [ev, ← Array.getElem?_toList]; exact hget) (by omega) g
    · cases h
  · rename_i d ps
    split at h
    · rename_i v st hst
      rw [hst] at hk
      have hv : yI v := hk _ List.mem_cons_self
      have hst' : ∀ z ∈ st, yokV sh z := fun z hz => hk z (List.mem_cons_of_mem _ hz)
      cases hz : zle 0 ((C.1 : Int) + d) && ps.toList.all (fun x => zle 0 ((C.1 : Int) + x.2)) && (ps.toList.zip (ps.toList.drop 1)).all (fun (a, next) => a.1 < next.1) with
      | false => rw [hz] at h; cases h
      | true =>
        rw [hz] at h
        simp only [Bool.and_eq_true] at hz
        obtain ⟨⟨z2, z3⟩, z4⟩ := hz
        obtain rfl := yone_inv h hc
        have ev := zq_of hv.1 hv.2
        have g := hgo H locs ls (hR.st hst')
        have g : W p l e R s m args below meth c H locs cells slots Q (F0 m (ylks C.1 v ((C.1 : Int) + d).toNat ps.toList) ls (st.map (ycv ad))) := g
        rw [ylks_at] at g
        have hge := ylks_ge (v := v) (zle_ok z2) ps.toList z3
        show W _ _ _ _ _ _ _ _ _ _ _ _ _ _ _ (F0 m C.1 ls (C.2.2.1.map (ycv ad)))
        rw [hst]
        exact lv_lookup (off := Op.lookupswitch.offset ps.toList d v) (tgt := ((C.1 : Int) + Op.lookupswitch.offset ps.toList d v).toNat) hx hb hdg z4 (by rw [ev]) (by omega) g
    · cases h
  · cases h
set_option maxHeartbeats 4000000 in
theorem ystepM_ok (hx : p.tables.exec = Jvm.exec) (hb : c.code = cc) (hml : c.maxLocals = nL) (hK : va_K D cl (ztys kA) s) {own : String} {Ts : List Cond} (hown : s.vm.findClass own = some m.cls) (hts : ∀ w ∈ Ts, w.before args s = true) (hroom : 1 ≤ R.frames ∧ 64 ≤ R.locals) {mm : List (Nat × Nat)} (hmm : ∀ x t, zlk mm x = some t → zMM Ts own x t) {x : Nat}
    (hdg : decode cc C.1 = .ok (.invokestatic x, 3)) (h : ystepM mm C x = some r) (hc : ynext r = some C') (hgo : yGo (zGW p l e R s m args below meth c 0 0 Q) D cl ct kA A H0 nL sh ad C') : yGo (zGW p l e R s m args below meth c 0 0 Q) D cl ct kA A H0 nL sh ad C := by
  intro H locs ls hR
  have hls : c.maxLocals = ls.size := hml.trans hR.2.2.2.2.2.2.1.symm
  have hk := hR.2.2.1
  unfold ystepM at h
  split at h
  · rename_i b a st hmx hst
    rw [hst] at hk
    cases hz : Nat.ble ((st.map ycat).sum) 8 with
    | false => rw [hz] at h; cases h
    | true =>
      rw [hz] at h
      obtain rfl := yone_inv h hc
      obtain ⟨m1, m2, m3, m4⟩ := hmm x 0 hmx
      have hcat := ycats hz ad
      obtain ⟨q1, q2⟩ := ymx_ok (hk _ (List.mem_cons_of_mem _ List.mem_cons_self) : yI a) (hk _ List.mem_cons_self : yI b)
      show W _ _ _ _ _ _ _ _ _ _ _ _ _ _ _ (F0 m C.1 ls (C.2.2.1.map (ycv ad)))
      rw [hst]
      refine va_mmax hx hb hls hown (hts _ m1) (hts _ m2) (hts _ m3) (hts _ m4) hroom.1 (by omega) (Nat.zero_le _) (Nat.zero_le _) hdg ?_
      rw [q1]
      exact hgo H locs ls (hR.st (List.forall_mem_cons.mpr ⟨q2, fun z hz => hk z (List.mem_cons_of_mem _ (List.mem_cons_of_mem _ hz))⟩))
  · rename_i b a st hmx hst
    rw [hst] at hk
    cases hz : Nat.ble ((st.map ycat).sum) 8 with
    | false => rw [hz] at h; cases h
    | true =>
      rw [hz] at h
      obtain rfl := yone_inv h hc
      obtain ⟨m1, m2, m3, m4⟩ := hmm x 1 hmx
      have hcat := ycats hz ad
      obtain ⟨q1, q2⟩ := ymn_ok (hk _ (List.mem_cons_of_mem _ List.mem_cons_self) : yI a) (hk _ List.mem_cons_self : yI b)
      show W _ _ _ _ _ _ _ _ _ _ _ _ _ _ _ (F0 m C.1 ls (C.2.2.1.map (ycv ad)))
      rw [hst]
      refine va_mmin hx hb hls hown (hts _ m1) (hts _ m2) (hts _ m3) (hts _ m4) hroom.1 (by omega) (Nat.zero_le _) (Nat.zero_le _) hdg ?_
      rw [q1]
      exact hgo H locs ls (hR.st (List.forall_mem_cons.mpr ⟨q2, fun z hz => hk z (List.mem_cons_of_mem _ (List.mem_cons_of_mem _ hz))⟩))
  · rename_i vn vd x1 vs x0 st hmx hst
    rw [hst] at hk
    have hs1 : sh[x1.2]? = some x1.1 := hk _ (List.mem_cons_of_mem _ (List.mem_cons_of_mem _ List.mem_cons_self))
    have hs0 : sh[x0.2]? = some x0.1 := hk _ (List.mem_cons_of_mem _ (List.mem_cons_of_mem _ (List.mem_cons_of_mem _ (List.mem_cons_of_mem _ List.mem_cons_self))))
    have hst' : ∀ z ∈ st, yokV sh z := fun z hz => hk z (List.mem_cons_of_mem _ (List.mem_cons_of_mem _ (List.mem_cons_of_mem _ (List.mem_cons_of_mem _ (List.mem_cons_of_mem _ hz)))))
    split at h
    · rename_i q0 q1 e0 e1
      rw [e0] at hs0
      rw [e1] at hs1
      cases hz : Nat.beq q0.1 0 && Nat.beq q1.1 0 && Nat.ble q0.2 2000000 && Nat.ble q1.2 2000000 && Nat.ble ((st.map ycat).sum) 8 with
      | false => rw [hz] at h; cases h
      | true =>
        rw [hz] at h
        simp only [Bool.and_eq_true] at hz
        obtain ⟨⟨⟨⟨z1, z2⟩, z3⟩, z4⟩, z5⟩ := hz
        obtain ⟨hg, rfl⟩ := yg_inv h hc
        simp only [Bool.and_eq_true] at hg
        obtain ⟨⟨⟨⟨w1, w2⟩, w3⟩, w4⟩, w5⟩ := hg
        have y1 := zle_ok w1
        have y2 := zle_ok w2
        have y3 := zle_ok w3
        have y4 := zle_ok w4
        have y5 := zle_ok w5
        have y6 := Nat.le_of_ble_eq_true z3
        have y7 := Nat.le_of_ble_eq_true z4
        have k0 := Nat.eq_of_beq_eq_true z1
        have k1 := Nat.eq_of_beq_eq_true z2
        have en := zq_of (z := vn) (by omega) (by omega)
        have ed := zq_of (z := vd) (by omega) (by omega)
        have es := zq_of (z := vs) (by omega) (by omega)
        have nonneg : ∀ {z : Int}, 0 ≤ z → (Int32.ofInt z).toInt = z → ¬ Int32.ofInt z < 0 := fun h1 h2 q => by
          rw [Int32.lt_iff_toInt_lt, h2] at q
          have : (0 : Int32).toInt = 0 := by decide +kernel
          omega
        have cn : (Int32.ofInt vn).toNatClampNeg = vn.toNat := by show (Int32.ofInt vn).toInt.toNat = _; rw [en]
        have cd : (Int32.ofInt vd).toNatClampNeg = vd.toNat := by show (Int32.ofInt vd).toInt.toNat = _; rw [ed]
        have cs : (Int32.ofInt vs).toNatClampNeg = vs.toNat := by show (Int32.ofInt vs).toInt.toNat = _; rw [es]
        obtain ⟨m1, m2, m3, m4⟩ := hmm x 2 hmx
        have hcat := ycats z5 ad
        have hget0 := yws_get (ct := ct) (kA := kA) (ad := ad) (σ := C.2.2.2) hs0
        have hget1 := yws_get (ct := ct) (kA := kA) (ad := ad) (σ := C.2.2.2) hs1
        have ew0 : yce ct kA ad C.2.2.2 x0.2 (.inr q0) = .inl (kA 0, q0.2, .inl (fun j => Int32.ofInt (C.2.2.2.1 x0.2 j))) := by
          unfold yce
          dsimp only
          rw [k0]
          rfl
        have ew1 : yce ct kA ad C.2.2.2 x1.2 (.inr q1) = .inl (kA 0, q1.2, .inl (fun j => Int32.ofInt (C.2.2.2.1 x1.2 j))) := by
          unfold yce
          dsimp only
          rw [k1]
          rfl
        rw [ew0] at hget0
        rw [ew1] at hget1
        have ews := yws_set (ct := ct) (kA := kA) (ad := ad) (σ := C.2.2.2) (σ' := ycp C.2.2.2 x0.2 x1.2 vs.toNat vd.toNat vn.toNat) hs1 (fun a ha k => if_neg (fun z => ha z.1)) (fun a ha k => rfl)
        have ew : yce ct kA ad (ycp C.2.2.2 x0.2 x1.2 vs.toNat vd.toNat vn.toNat) x1.2 (.inr q1) = .inl (kA 0, q1.2, .inl (va_cpy (fun j => Int32.ofInt (C.2.2.2.1 x0.2 j)) (fun j => Int32.ofInt (C.2.2.2.1 x1.2 j)) vs.toNat vd.toNat vn.toNat)) := by
          have ef : (fun j => Int32.ofInt ((ycp C.2.2.2 x0.2 x1.2 vs.toNat vd.toNat vn.toNat).1 x1.2 j)) = va_cpy (fun j => Int32.ofInt (C.2.2.2.1 x0.2 j)) (fun j => Int32.ofInt (C.2.2.2.1 x1.2 j)) vs.toNat vd.toNat vn.toNat := by
            funext j
            show Int32.ofInt (if x1.2 = x1.2 ∧ vd.toNat ≤ j ∧ j < vd.toNat + vn.toNat then C.2.2.2.1 x0.2 (vs.toNat + (j - vd.toNat)) else C.2.2.2.1 x1.2 j) = _
            unfold va_cpy
            by_cases hj : vd.toNat ≤ j ∧ j < vd.toNat + vn.toNat
            · rw [if_pos ⟨rfl, hj⟩, if_pos hj]
            · rw [if_neg (fun z => hj z.2), if_neg hj]
          unfold yce
          dsimp only
          rw [k1, ef]
          rfl
        rw [ew] at ews
        show W _ _ _ _ _ _ _ _ _ _ _ _ _ _ _ (F0 m C.1 ls (C.2.2.1.map (ycv ad)))
        rw [hst]
        refine va_copyi (ty := .int) hx hb hls hown (hts _ m1) (hts _ m2) (hts _ m3) (hts _ m4) hK hR.2.2.2.1 hR.2.2.2.2.1 hR.2.2.2.2.2.1 x0.2 x1.2 0 0 hget0 hget1 rfl rfl rfl (nonneg y3 es) (nonneg y2 ed) (nonneg y1 en) (by rw [cs, cn]; omega) (by rw [cd, cn]; omega) (fun _ _ => rfl) hroom.1 (by
          have e7 : nativeFrameWords "java/lang/System" "arraycopy" 5 = 7 := by decide +kernel
          rw [e7]
          omega) hdg (fun H1 locs1 hP1 hD1 hS1 => ?_)
        rw [cs, cd, cn, ← ews] at hP1 hD1
        exact hgo H1 locs1 ls ⟨yokS_cp hR.1 _ _ _ _ _, hR.2.1, hst', hP1, hD1, hS1, hR.2.2.2.2.2.2⟩
    · cases h
  · cases h
end YSD
end
section
/-- a loop with fuel -/
def yfix {α : Type} (z : α) (s : α → α) : Nat → α
  | 0 => z
  | n + 1 => s (yfix z s n)
/-- a method's tables: fields, int constants, long constants, virtual calls, static calls, library members, calls with a text -/
abbrev yTb : Type := List (Nat × Nat × Nat × Nat) × List (Nat × Int) × List (Nat × Int) × List (Nat × Nat × Nat × yF) × List (Nat × Nat × yF) × List (Nat × Nat) × List (Nat × Nat × yF)
abbrev yO : Type := yT ⊕ ((yF × List yV × yC) ⊕ (Bool × Option yV))
def yplain (ct : yCt) (tb : yTb) (nL : Nat) (C : yC) (ins : Instr) (len : Nat) (nxt : Option Instr) : Option yT := match ins with
  | .tableswitch d lo hi offs => ystepS C (.tableswitch d lo hi offs)
  | .lookupswitch d ps => ystepS C (.lookupswitch d ps)
  | .invokestatic x => bif Nat.beq len 3 then ystepM tb.2.2.2.2.2.1 C x else none
  | i => bif Nat.beq len (zlen i) then (match ystepA tb.2.1 tb.2.2.1 nL C i with
    | some r => some r
    | none => match ystepD ct tb.1 C i with
      | some r => some r
      | none => match ystepC C i nxt with
        | some r => some r
        | none => bif Nat.beq (zlen i) 1 then (match ystepB C i with
          | some r => some r
          | none => ystepU C i) else none) else none
/-- a call: what is called, with which arguments, where it goes on -/
def ycall (tb : yTb) (C : yC) (ins : Instr) (len : Nat) (nx2 : Option (Instr × Nat)) : Option (yF × List yV × yC) := match ins with
  | .invokevirtual x => match zlk tb.2.2.2.1 x with
    | some (n, ci, F) => match (C.2.2.1.take n).reverse with
      | .inr y :: as => match y.1 with
        | .inl ci' => bif Nat.beq len 3 && Nat.beq ci' ci && Nat.beq (C.2.2.1.take n).length n && Nat.ble (((C.2.2.1.drop n).map ycat).sum) 8 then some (F, .inr (.inl ci, y.2) :: as, (C.1 + 3, C.2.1, C.2.2.1.drop n, C.2.2.2)) else none
        | _ => none
      | _ => none
    | none => none
  | .invokestatic x => match zlk tb.2.2.2.2.1 x with
    | some (n, F) => bif Nat.beq len 3 && Nat.beq (C.2.2.1.take n).length n && Nat.ble (((C.2.2.1.drop n).map ycat).sum) 8 then some (F, (C.2.2.1.take n).reverse, (C.1 + 3, C.2.1, C.2.2.1.drop n, C.2.2.2)) else none
    | none => none
  | .ldc x => match zlk tb.2.2.2.2.2.2 x, nx2 with
    | some (y, F), some (.invokevirtual y', ln) => match C.2.2.1 with
      | a :: st => bif Nat.beq len 2 && Nat.beq ln 3 && Nat.beq y' y && Nat.ble ((st.map ycat).sum) 8 then some (F, [a], (C.1 + 5, C.2.1, st, C.2.2.2)) else none
      | _ => none
    | _, _ => none
  | _ => none
def yret (rt : Nat) (ins : Instr) (st : List yV) : Option (Bool × Option yV) := match rt, ins, st with
  | 0, .return_, [] => some (true, none)
  | 1, .ireturn, [.inl (.inl v)] => some (true, some (.inl (.inl v)))
  | 2, .ireturn, [.inl (.inl v)] => some (yb1 v, some (.inl (.inl v)))
  | 3, .lreturn, [.inl (.inr v)] => some (true, some (.inl (.inr v)))
  | _, _, _ => none
def ystep (ct : yCt) (tb : yTb) (pr : List (Nat × Instr × Nat)) (nL rt : Nat) (C : yC) : Option yO := match zlk pr C.1 with
  | none => none
  | some (ins, len) => bif zisret ins then (bif Nat.beq len 1 then (yret rt ins C.2.2.1).map (fun x => .inr (.inr x)) else none) else match ycall tb C ins len (zlk pr (C.1 + 2)) with
    | some q => some (.inr (.inl q))
    | none => (yplain ct tb nL C ins len (znx pr (C.1 + 1))).map .inl
def yQc (D : va_G) (cl : List vw_C) (ct : yCt) (kA : Nat → ClassId) (sh : List yH) (ad : Nat → Nat) (A : Nat → Prop) (res : yR) : Array Value → State → Outcome → State → Prop := fun _ st oc t =>
  (yokS ct sh res.2 ∧ (∀ a, res.1 = some a → yokV sh a) ∧ oc = .returned (res.1.map (ycv ad)) ∧ va_P D cl (yws ct kA ad sh res.2) t.heap ∧ va_D A (yws ct kA ad sh res.2)) ∧ va_F A st t
def yMet (X : zXT) (cl : List vw_C) (ct : yCt) (sh : List yH) (l : Launch) (y : MethodName) (ws : List Cond) (rm : Room) (F : yF) : Prop :=
  ∀ (D : va_G) (kA : Nat → ClassId) (ad : Nat → Nat) (sz : Nat) (as : List yV) (σ : yS) (res : yR), yokS ct sh σ → (∀ a ∈ as, yokV sh a) → F as σ = some res →
    Met l y ws rm (va_Pc (as.map (ycv ad)) (zBf X D cl kA (yws ct kA ad sh σ) sz)) (yQc D cl ct kA sh ad (va_A (yws ct kA ad sh σ) sz) res) 0 0 (va_A (yws ct kA ad sh σ) sz)
def yCal (X : zXT) (cl : List vw_C) (ct : yCt) (sh : List yH) (p : Program) (l : Launch) (e : Env) (R : Room) (s : State) (m : MethodId) (args : Array Value) (below : List Frame) (meth : Method) (c : Code) (cc : ByteArray) (nL : Nat) (ins : Instr) (n : Nat) (oc : Option Nat) (F : yF) : Prop :=
  ∀ (D : va_G) (kA : Nat → ClassId) (ad : Nat → Nat) (as : List yV) (σ : yS) (res : yR) (H : Heap) (locs : List Loc) (ls : Array Slot) (pc : Nat) (rest : List Value), va_K D cl (ztys kA) s → yokS ct sh σ → (∀ a ∈ as, yokV sh a) → as.length = n → (∀ ci, oc = some ci → ∃ (i : Nat) (as' : List yV), as = .inr (.inl ci, i) :: as') → F as σ = some res → va_P D cl (yws ct kA ad sh σ) H → va_D (fun _ => True) (yws ct kA ad sh σ) → X (va_A (yws ct kA ad sh σ) H.size) s H → ls.size = nL → (rest.map fun v => v.category).sum ≤ 8 → decode cc pc = .ok (ins, 3) →
    va_Run p l e R s m args below meth c H locs 0 0 0 0 (F0 m pc ls ((as.map (ycv ad)).reverse ++ rest)) rest (yQc D cl ct kA sh ad (va_A (yws ct kA ad sh σ) H.size) res (as.map (ycv ad)).toArray) (va_A (yws ct kA ad sh σ) H.size)
/-- a text is pushed and a method called with it -/
def yCalT (X : zXT) (cl : List vw_C) (ct : yCt) (sh : List yH) (p : Program) (l : Launch) (e : Env) (R : Room) (s : State) (m : MethodId) (args : Array Value) (below : List Frame) (meth : Method) (c : Code) (cc : ByteArray) (nL : Nat) (x y : Nat) (F : yF) : Prop :=
  ∀ (D : va_G) (kA : Nat → ClassId) (A : Nat → Prop) (ad : Nat → Nat) (Q : State → Prop) (a : yV) (σ : yS) (res : yR) (H : Heap) (locs : List Loc) (ls : Array Slot) (pc : Nat) (rest : List Value), va_K D cl (ztys kA) s → yokS ct sh σ → yokV sh a → F [a] σ = some res → va_P D cl (yws ct kA ad sh σ) H → va_D (fun _ => True) (yws ct kA ad sh σ) → X (va_A (yws ct kA ad sh σ) H.size) s H → ls.size = nL → (rest.map fun v => v.category).sum ≤ 8 → decode cc pc = .ok (.ldc x, 2) → decode cc (pc + 2) = .ok (.invokevirtual y, 3) → va_S A s.heap H locs → (∀ q, va_A (yws ct kA ad sh σ) H.size q → A q) →
    (∀ (H1 : Heap) (locs1 : List Loc), yokS ct sh res.2 → (∀ a, res.1 = some a → yokV sh a) → va_P D cl (yws ct kA ad sh res.2) H1 → va_D A (yws ct kA ad sh res.2) → va_S A s.heap H1 locs1 → W p l e R s m args below meth c H1 locs1 0 0 Q (F0 m (pc + 5) ls ((res.1.map (ycv ad)).toList ++ rest))) →
    W p l e R s m args below meth c H locs 0 0 Q (F0 m pc ls (ycv ad a :: rest))
section YRN
variable {X : zXT} {p : Program} {l : Launch} {e : Env} {R : Room} {s : State} {m : MethodId} {args : Array Value} {below : List Frame} {meth : Method} {c : Code} {cc : ByteArray} {D : va_G} {cl : List vw_C} {ct : yCt} {kA : Nat → ClassId} {A : Nat → Prop} {nL : Nat} {sh : List yH} {ad : Nat → Nat} {Ts : List Cond} {own : String} {tb : yTb} {pr : List (Nat × Instr × Nat)} {rt : Nat} {C C' : yC} {ins : Instr} {len : Nat}
theorem ycallz {Q : State → Prop} {pc : Nat} {H : Heap} {locs : List Loc} {H0 : Heap} {A0 A1 : Nat → Prop} {ls : Array Slot} {st0 rest : List Value} {a : Array Value} {res : yR} (hr : va_Run p l e R s m args below meth c H locs 0 0 0 0 (F0 m pc ls st0) rest (yQc D cl ct kA sh ad A1 res a) A1) (hS : va_S A0 H0 H locs) (hA : ∀ q, A1 q → A0 q)
    (kk : ∀ (H1 : Heap) (locs1 : List Loc), yokS ct sh res.2 → (∀ a, res.1 = some a → yokV sh a) → va_P D cl (yws ct kA ad sh res.2) H1 → va_D A0 (yws ct kA ad sh res.2) → va_S A0 H0 H1 locs1 → W p l e R s m args below meth c H1 locs1 0 0 Q (F0 m (pc + 3) ls ((res.1.map (ycv ad)).toList ++ rest))) : W p l e R s m args below meth c H locs 0 0 Q (F0 m pc ls st0) := by
  intro T hT Xs
  obtain ⟨v, st₀, t, T', L, h0, X', hL, e1, e2, ⟨⟨j1, j2, hv, j5, j6⟩, hz, hk⟩, st⟩ := hr T hT Xs
  cases hv
  rw [h0] at hz hk
  rw [← e1] at j5
  obtain ⟨t2, a1, b1⟩ := kk T'.heap (locs ++ L) j1 j2 j5 (j6.weaken (fun i x _ h => hA x.1 h))
    ⟨Nat.le_trans hS.1 (by rw [e1]; exact hz), fun q h1 h2 => by rw [e1, hk q (Nat.lt_of_lt_of_le h1 hS.1) (fun z => h2 (hA q z))]; exact hS.2.1 q h1 h2, fun q hq => by
      rcases List.mem_append.mp hq with h | h
      · exact hS.2.2 q h
      · exact hA _ (hL q h)⟩ T' rfl X'
  exact ⟨t2, st t2 a1, b1⟩
/-- what is fixed while a method runs -/
def yCx (X : zXT) (p : Program) (l : Launch) (e : Env) (R : Room) (s : State) (m : MethodId) (args : Array Value) (below : List Frame) (meth : Method) (c : Code) (cc : ByteArray) (D : va_G) (cl : List vw_C) (ct : yCt) (kA : Nat → ClassId) (A : Nat → Prop) (nL : Nat) (sh : List yH) (Ts : List Cond) (own : String) (tb : yTb) (pr : List (Nat × Instr × Nat)) (rt : Nat) : Prop :=
  zXok X ∧ X A s s.heap ∧ (∀ q, s.heap.size ≤ q → A q) ∧ va_K D cl (ztys kA) s ∧ p.tables.exec = Jvm.exec ∧ c.code = cc ∧ c.maxLocals = nL ∧ s.vm.findClass own = some m.cls ∧ (∀ w ∈ Ts, w.before args s = true) ∧ meth.locks = false ∧ meth.sig.returnType = zrty rt ∧ (1 ≤ R.frames ∧ 64 ≤ R.locals)
  ∧ (∀ x ci k tag, zlk tb.1 x = some (ci, k, tag) → zFld Ts own cl x ci k tag) ∧ (∀ k z, zlk tb.2.1 k = some z → Cond.constant own k (Int32.ofInt z) ∈ Ts) ∧ (∀ k z, zlk tb.2.2.1 k = some z → Cond.constantLong own k (Int64.ofInt z) ∈ Ts)
  ∧ (∀ x n ci F, zlk tb.2.2.2.1 x = some (n, ci, F) → yCal X cl ct sh p l e R s m args below meth c cc nL (.invokevirtual x) n (some ci) F) ∧ (∀ x n F, zlk tb.2.2.2.2.1 x = some (n, F) → yCal X cl ct sh p l e R s m args below meth c cc nL (.invokestatic x) n none F) ∧ (∀ x t, zlk tb.2.2.2.2.2.1 x = some t → zMM Ts own x t) ∧ (∀ x y F, zlk tb.2.2.2.2.2.2 x = some (y, F) → yCalT X cl ct sh p l e R s m args below meth c cc nL x y F)
  ∧ (∀ pc ins len, zlk pr pc = some (ins, len) → decode cc pc = .ok (ins, len))
theorem yplain_ok {Q : State → Prop} {nxt : Option Instr} {r : yT} (hcx : yCx X p l e R s m args below meth c cc D cl ct kA A nL sh Ts own tb pr rt) (hdg : decode cc C.1 = .ok (ins, len)) (hnx : ∀ i, nxt = some i → decode cc (C.1 + 1) = .ok (i, zlen i)) (h : yplain ct tb nL C ins len nxt = some r) (hc : ynext r = some C') (hgo : yGo (zGW p l e R s m args below meth c 0 0 Q) D cl ct kA A s.heap nL sh ad C') : yGo (zGW p l e R s m args below meth c 0 0 Q) D cl ct kA A s.heap nL sh ad C := by
  obtain ⟨hX, hx0, hA, hK, hx, hb, hml, hown, hts, hlk, hrt, hroom, hfl, hco, hlc, hvc, hsc, hmm, htx, hpr⟩ := hcx
  unfold yplain at h
  split at h
  · exact ystepS_ok hx hb hdg h hc hgo
  · exact ystepS_ok hx hb hdg h hc hgo
  · cases hl : Nat.beq len 3 with
    | false => rw [hl] at h; cases h
    | true =>
      rw [hl] at h
      have el := Nat.eq_of_beq_eq_true hl
      subst el
      exact ystepM_ok hx hb hml hK hown hts hroom hmm hdg h hc hgo
  · cases hl : Nat.beq len (zlen ins) with
    | false => rw [hl] at h; cases h
    | true =>
      rw [hl] at h
      have el := Nat.eq_of_beq_eq_true hl
      subst el
      dsimp only [cond] at h
      split at h
      · rename_i r' hM
        cases h
        exact ystepA_ok hx hb hown hts hco hlc hdg hM hc hgo
      · split at h
        · rename_i r' hM
          cases h
          exact ystepD_ok hx hb hK hown hts hfl hdg hM hc hgo
        · split at h
          · rename_i r' hM
            cases h
            exact ystepC_ok hx hb hdg hnx hM hc hgo
          · cases h1 : Nat.beq (zlen ins) 1 with
            | false => rw [h1] at h; cases h
            | true =>
              rw [h1] at h
              rw [Nat.eq_of_beq_eq_true h1] at hdg
              dsimp only at h
              split at h
              · rename_i r' hM
                cases h
                exact ystepB_ok hx hb hdg hM hc hgo
              · exact ystepU_ok hx hb hdg h hc hgo
theorem yfree (hA : ∀ q, s.heap.size ≤ q → A q) {H : Heap} {locs : List Loc} {w : va_W} (hD : va_D A w) (hS : va_S A s.heap H locs) : ∀ q, va_A w H.size q → A q := fun q h => by
  rcases h with ⟨j, e, h⟩ | h
  · exact hD.2 j (q, e) h
  · exact hA q (Nat.le_trans hS.1 h)
theorem ystk {st : List yV} {n : Nat} (ad : Nat → Nat) : st.map (ycv ad) = ((st.take n).reverse.map (ycv ad)).reverse ++ (st.drop n).map (ycv ad) := by
  rw [List.map_reverse, List.reverse_reverse, ← List.map_append, List.take_append_drop]
theorem ycall_ok {Q : State → Prop} {q : yF × List yV × yC} {res : yR} (hcx : yCx X p l e R s m args below meth c cc D cl ct kA A nL sh Ts own tb pr rt) (hdg : decode cc C.1 = .ok (ins, len)) (h : ycall tb C ins len (zlk pr (C.1 + 2)) = some q) (hF : q.1 q.2.1 C.2.2.2 = some res) (hgo : yGo (zGW p l e R s m args below meth c 0 0 Q) D cl ct kA A s.heap nL sh ad (q.2.2.1, q.2.2.2.1, res.1.toList ++ q.2.2.2.2.1, res.2)) : yGo (zGW p l e R s m args below meth c 0 0 Q) D cl ct kA A s.heap nL sh ad C := by
  obtain ⟨hX, hx0, hA, hK, hx, hb, hml, hown, hts, hlk, hrt, hroom, hfl, hco, hlc, hvc, hsc, hmm, htx, hpr⟩ := hcx
  intro H locs ls hR
  have hk := hR.2.2.1
  have hFA := yfree hA hR.2.2.2.2.1 hR.2.2.2.2.2.1
  have hDw : va_D (fun _ => True) (yws ct kA ad sh C.2.2.2) := hR.2.2.2.2.1.weaken (fun _ _ _ _ => trivial)
  have hxA : X (va_A (yws ct kA ad sh C.2.2.2) H.size) s H := hX.2.2.2 A _ s H hFA (hX.2.2.1 A s s.heap H (fun a h1 h2 => hR.2.2.2.2.2.1.2.1 a h1 h2) hx0)
  have hmap : ∀ o : Option yV, (o.map (ycv ad)).toList = o.toList.map (ycv ad) := fun o => by cases o <;> rfl
  have hres : ∀ {o : Option yV} {st : List yV}, (∀ a, o = some a → yokV sh a) → (∀ a ∈ st, yokV sh a) → ∀ a ∈ o.toList ++ st, yokV sh a := fun h1 h2 a ha => by
    rcases List.mem_append.mp ha with z | z
    · exact h1 a (Option.mem_toList.mp z)
    · exact h2 a z
  unfold ycall at h
  split at h
  · rename_i x
    split at h
    · rename_i n ci F hlkx
      split at h
      · rename_i y as hrev
        split at h
        · rename_i ci' hy
          cases hz : Nat.beq len 3 && Nat.beq ci' ci && Nat.beq (C.2.2.1.take n).length n && Nat.ble (((C.2.2.1.drop n).map ycat).sum) 8 with
          | false => rw [hz] at h; cases h
          | true =>
            rw [hz] at h
            simp only [Bool.and_eq_true] at hz
            obtain ⟨⟨⟨z1, z2⟩, z3⟩, z4⟩ := hz
            cases h
            have el := Nat.eq_of_beq_eq_true z1
            subst el
            have ey : (.inr y : yV) = .inr (.inl ci, y.2) := by
              rw [← Nat.eq_of_beq_eq_true z2, ← hy]
            have has : (C.2.2.1.take n).reverse = .inr (.inl ci, y.2) :: as := by rw [hrev, ey]
            have hokas : ∀ a ∈ (C.2.2.1.take n).reverse, yokV sh a := fun a ha => hk a (List.mem_of_mem_take (List.mem_reverse.mp ha))
            rw [has] at hokas
            have hrun := hvc x n ci F hlkx D kA ad (.inr (.inl ci, y.2) :: as) C.2.2.2 res H locs ls C.1 ((C.2.2.1.drop n).map (ycv ad)) hK hR.1 hokas (by rw [← has, List.length_reverse]; exact Nat.eq_of_beq_eq_true z3) (fun ci2 e2 => by cases e2; exact ⟨_, _, rfl⟩) hF hR.2.2.2.1 hDw hxA hR.2.2.2.2.2.2.1 (ycats z4 ad) hdg
            show W _ _ _ _ _ _ _ _ _ _ _ _ _ _ _ (F0 m C.1 ls (C.2.2.1.map (ycv ad)))
            rw [ystk (n := n) ad, has]
            refine ycallz hrun hR.2.2.2.2.2.1 hFA (fun H1 locs1 j1 j2 j3 j4 j5 => ?_)
            have g := hgo H1 locs1 ls ⟨j1, hR.2.1, hres j2 (fun a ha => hk a (List.mem_of_mem_drop ha)), j3, j4, j5, hR.2.2.2.2.2.2⟩
            rw [hmap, ← List.map_append]
            exact g
        · cases h
      · cases h
    · cases h
  · rename_i x
    split at h
    · rename_i n F hlkx
      cases hz : Nat.beq len 3 && Nat.beq (C.2.2.1.take n).length n && Nat.ble (((C.2.2.1.drop n).map ycat).sum) 8 with
      | false => rw [hz] at h; cases h
      | true =>
        rw [hz] at h
        simp only [Bool.and_eq_true] at hz
        obtain ⟨⟨z1, z3⟩, z4⟩ := hz
        cases h
        have el := Nat.eq_of_beq_eq_true z1
        subst el
        have hokas : ∀ a ∈ (C.2.2.1.take n).reverse, yokV sh a := fun a ha => hk a (List.mem_of_mem_take (List.mem_reverse.mp ha))
        have hrun := hsc x n F hlkx D kA ad (C.2.2.1.take n).reverse C.2.2.2 res H locs ls C.1 ((C.2.2.1.drop n).map (ycv ad)) hK hR.1 hokas (by rw [List.length_reverse]; exact Nat.eq_of_beq_eq_true z3) (fun ci2 e2 => by cases e2) hF hR.2.2.2.1 hDw hxA hR.2.2.2.2.2.2.1 (ycats z4 ad) hdg
        show W _ _ _ _ _ _ _ _ _ _ _ _ _ _ _ (F0 m C.1 ls (C.2.2.1.map (ycv ad)))
        rw [ystk (n := n) ad]
        refine ycallz hrun hR.2.2.2.2.2.1 hFA (fun H1 locs1 j1 j2 j3 j4 j5 => ?_)
        have g := hgo H1 locs1 ls ⟨j1, hR.2.1, hres j2 (fun a ha => hk a (List.mem_of_mem_drop ha)), j3, j4, j5, hR.2.2.2.2.2.2⟩
        rw [hmap, ← List.map_append]
        exact g
    · cases h
  · rename_i x
    split at h
    · rename_i y F y' ln hlkx hnx2
      split at h
      · rename_i a st hst
        rw [hst] at hk
        cases hz : Nat.beq len 2 && Nat.beq ln 3 && Nat.beq y' y && Nat.ble ((st.map ycat).sum) 8 with
        | false => rw [hz] at h; cases h
        | true =>
          rw [hz] at h
          simp only [Bool.and_eq_true] at hz
          obtain ⟨⟨⟨z1, z2⟩, z3⟩, z4⟩ := hz
          cases h
          have e1 := Nat.eq_of_beq_eq_true z1
          have e2 := Nat.eq_of_beq_eq_true z2
          have e3 := Nat.eq_of_beq_eq_true z3
          subst e1
          subst e2
          subst e3
          show W _ _ _ _ _ _ _ _ _ _ _ _ _ _ _ (F0 m C.1 ls (C.2.2.1.map (ycv ad)))
          rw [hst]
          refine htx x _ F hlkx D kA A ad Q a C.2.2.2 res H locs ls C.1 (st.map (ycv ad)) hK hR.1 (hk a List.mem_cons_self) hF hR.2.2.2.1 hDw hxA hR.2.2.2.2.2.2.1 (ycats z4 ad) hdg (hpr _ _ _ hnx2) hR.2.2.2.2.2.1 hFA (fun H1 locs1 j1 j2 j3 j4 j5 => ?_)
          have g := hgo H1 locs1 ls ⟨j1, hR.2.1, hres j2 (fun a ha => hk a (List.mem_cons_of_mem _ ha)), j3, j4, j5, hR.2.2.2.2.2.2⟩
          rw [hmap, ← List.map_append]
          exact g
      · cases h
    · cases h
  · cases h
theorem yret_ok {x : Bool × Option yV} (hcx : yCx X p l e R s m args below meth c cc D cl ct kA A nL sh Ts own tb pr rt) (hdg : decode cc C.1 = .ok (ins, 1)) (h : yret rt ins C.2.2.1 = some x) (hx1 : x.1 = true) : yGo (zGW p l e R s m args below meth c 0 0 (MQ below (yQc D cl ct kA sh ad A (x.2, C.2.2.2)) args s 0 0 A)) D cl ct kA A s.heap nL sh ad C := by
  obtain ⟨hX, hx0, hA, hK, hx, hb, hml, hown, hts, hlk, hrt, hroom, hfl, hco, hlc, hvc, hsc, hmm, htx, hpr⟩ := hcx
  intro H locs ls hR
  have hk := hR.2.2.1
  have post : (∀ a, x.2 = some a → yokV sh a) → ∀ t : State, t.heap = H → s.WarmedH t.vm → yQc D cl ct kA sh ad A (x.2, C.2.2.2) args s (.returned (x.2.map (ycv ad))) t := by
    intro ho t ht hW
    exact ⟨⟨hR.1, ho, rfl, by rw [ht]; exact hR.2.2.2.1, hR.2.2.2.2.1⟩, hR.2.2.2.2.2.1.F ht⟩
  show W _ _ _ _ _ _ _ _ _ _ _ _ _ _ _ (F0 m C.1 ls (C.2.2.1.map (ycv ad)))
  unfold yret at h
  split at h
  · rename_i hst
    rw [hst]
    cases h
    exact W.vret hx hb hrt (post (fun a ha => by cases ha)) hR.2.2.2.2.2.1.2.2 hdg hlk
  · rename_i v hst
    rw [hst] at hk ⊢
    cases h
    exact W.iret hx hb hrt (post (fun a ha => by cases ha; exact hk _ List.mem_cons_self)) hR.2.2.2.2.2.1.2.2 hdg hlk
  · rename_i v hst
    rw [hst] at hk ⊢
    cases h
    have hu := yb1_ok hx1
    exact W.zret hx hb hrt (znar_bool (k := v) hu.1 hu.2).1 (post (fun a ha => by cases ha; exact hk _ List.mem_cons_self)) hR.2.2.2.2.2.1.2.2 hdg hlk
  · rename_i v hst
    rw [hst] at hk ⊢
    cases h
    exact W.lret hx hb hrt (post (fun a ha => by cases ha; exact hk _ List.mem_cons_self)) hR.2.2.2.2.2.1.2.2 hdg hlk
  · cases h
theorem ystep_inv {o : yO} (hpr : ∀ pc ins len, zlk pr pc = some (ins, len) → decode cc pc = .ok (ins, len)) (h : ystep ct tb pr nL rt C = some o) : ∃ (ins : Instr) (len : Nat), decode cc C.1 = .ok (ins, len) ∧ ((∃ x, decode cc C.1 = .ok (ins, 1) ∧ yret rt ins C.2.2.1 = some x ∧ o = .inr (.inr x)) ∨ (∃ q, ycall tb C ins len (zlk pr (C.1 + 2)) = some q ∧ o = .inr (.inl q)) ∨ ∃ r, yplain ct tb nL C ins len (znx pr (C.1 + 1)) = some r ∧ o = .inl r) := by
  unfold ystep at h
  split at h
  · cases h
  · rename_i ins len hl
    have hdg := hpr C.1 ins len hl
    refine ⟨ins, len, hdg, ?_⟩
    cases hz : zisret ins with
    | true =>
      rw [hz] at h
      dsimp only [cond] at h
      cases hln : Nat.beq len 1 with
      | false => rw [hln] at h; cases h
      | true =>
        rw [hln] at h
        rw [Nat.eq_of_beq_eq_true hln] at hdg
        dsimp only at h
        cases hr : yret rt ins C.2.2.1 with
        | none => rw [hr] at h; cases h
        | some x =>
          rw [hr] at h
          have h : (.inr (.inr x) : yO) = o := Option.some.inj h
          exact Or.inl ⟨x, hdg, rfl, h.symm⟩
    | false =>
      rw [hz] at h
      dsimp only [cond] at h
      split at h
      · rename_i q hq
        have h : (.inr (.inl q) : yO) = o := Option.some.inj h
        exact Or.inr (Or.inl ⟨q, hq, h.symm⟩)
      · cases hp : yplain ct tb nL C ins len (znx pr (C.1 + 1)) with
        | none => rw [hp] at h; cases h
        | some r =>
          rw [hp] at h
          have h : (.inl r : yO) = o := Option.some.inj h
          exact Or.inr (Or.inr ⟨r, rfl, h.symm⟩)
theorem yznx (hpr : ∀ pc ins len, zlk pr pc = some (ins, len) → decode cc pc = .ok (ins, len)) {pc : Nat} : ∀ i, znx pr pc = some i → decode cc pc = .ok (i, zlen i) := by
  intro i hi
  unfold znx at hi
  split at hi
  · rename_i i' ln hl'
    cases hq : Nat.beq ln (zlen i') with
    | false => rw [hq] at hi; cases hi
    | true =>
      rw [hq] at hi
      cases hi
      rw [← Nat.eq_of_beq_eq_true hq]
      exact hpr _ _ _ hl'
  · cases hi
theorem ystep_plain {Q : State → Prop} {r : yT} (hcx : yCx X p l e R s m args below meth c cc D cl ct kA A nL sh Ts own tb pr rt) (h : ystep ct tb pr nL rt C = some (.inl r)) (hn : ynext r = some C') (hgo : yGo (zGW p l e R s m args below meth c 0 0 Q) D cl ct kA A s.heap nL sh ad C') : yGo (zGW p l e R s m args below meth c 0 0 Q) D cl ct kA A s.heap nL sh ad C := by
  have hpr := hcx.2.2.2.2.2.2.2.2.2.2.2.2.2.2.2.2.2.2.2
  obtain ⟨ins, len, hdg, ⟨x, -, -, e⟩ | ⟨q, -, e⟩ | ⟨r', hp, e⟩⟩ := ystep_inv hpr h
  · cases e
  · cases e
  · cases e
    exact yplain_ok hcx hdg (yznx hpr) hp hn hgo
theorem ystep_call {Q : State → Prop} {q : yF × List yV × yC} {res : yR} (hcx : yCx X p l e R s m args below meth c cc D cl ct kA A nL sh Ts own tb pr rt) (h : ystep ct tb pr nL rt C = some (.inr (.inl q))) (hF : q.1 q.2.1 C.2.2.2 = some res) (hgo : yGo (zGW p l e R s m args below meth c 0 0 Q) D cl ct kA A s.heap nL sh ad (q.2.2.1, q.2.2.2.1, res.1.toList ++ q.2.2.2.2.1, res.2)) : yGo (zGW p l e R s m args below meth c 0 0 Q) D cl ct kA A s.heap nL sh ad C := by
  have hpr := hcx.2.2.2.2.2.2.2.2.2.2.2.2.2.2.2.2.2.2.2
  obtain ⟨ins, len, hdg, ⟨x, -, -, e⟩ | ⟨q', hq, e⟩ | ⟨r', hp, e⟩⟩ := ystep_inv hpr h
  · cases e
  · cases e
    exact ycall_ok hcx hdg hq hF hgo
  · cases e
theorem ystep_ret {x : Bool × Option yV} (hcx : yCx X p l e R s m args below meth c cc D cl ct kA A nL sh Ts own tb pr rt) (h : ystep ct tb pr nL rt C = some (.inr (.inr x))) (hx1 : x.1 = true) : yGo (zGW p l e R s m args below meth c 0 0 (MQ below (yQc D cl ct kA sh ad A (x.2, C.2.2.2)) args s 0 0 A)) D cl ct kA A s.heap nL sh ad C := by
  have hpr := hcx.2.2.2.2.2.2.2.2.2.2.2.2.2.2.2.2.2.2.2
  obtain ⟨ins, len, hdg, ⟨x', hd1, hr, e⟩ | ⟨q', hq, e⟩ | ⟨r', hp, e⟩⟩ := ystep_inv hpr h
  · cases e
    exact yret_ok hcx hd1 hr hx1
  · cases e
  · cases e
end YRN
def yargs : Nat → List yV → List (Nat × yV)
  | _, [] => []
  | i, a :: as => (i, a) :: yargs (bif Nat.beq (ycat a) 2 then i + 2 else i + 1) as
theorem yargs_ok (ad : Nat → Nat) : ∀ (as : List yV) (i : Nat), lv_args i (as.map (ycv ad)) = (yargs i as).map (fun x => (x.1, ycv ad x.2))
  | [], _ => rfl
  | a :: as, i => by
    show (i, ycv ad a) :: lv_args (if (ycv ad a).category = 2 then i + 2 else i + 1) (as.map (ycv ad)) = (i, ycv ad a) :: (yargs (bif Nat.beq (ycat a) 2 then i + 2 else i + 1) as).map (fun x => (x.1, ycv ad x.2))
    rw [ycat_ok]
    cases hb : Nat.beq (ycat a) 2 with
    | true =>
      rw [if_pos (Nat.eq_of_beq_eq_true hb), yargs_ok ad as]
      rfl
    | false =>
      rw [if_neg (fun q => by rw [q] at hb; cases hb), yargs_ok ad as]
      rfl
theorem yargs_in {sh : List yH} : ∀ (as : List yV) (i : Nat), (∀ a ∈ as, yokV sh a) → ∀ x ∈ yargs i as, yokV sh x.2
  | [], _, _, x, hx => by cases hx
  | a :: as, i, h, x, hx => by
    rcases List.mem_cons.mp hx with e | e
    · subst e; exact h a List.mem_cons_self
    · exact yargs_in as _ (fun b hb => h b (List.mem_cons_of_mem _ hb)) x e
theorem ysl_len (ad : Nat → Nat) : ∀ (as : List yV), (lg_sl (as.map (ycv ad))).length = (as.map ycat).sum
  | [] => rfl
  | a :: as => by
    have ih := ysl_len ad as
    unfold lg_sl at ih ⊢
    rw [List.map_cons, List.flatMap_cons, List.length_append, ih, List.map_cons, List.sum_cons, ycat_ok]
    congr 1
    rcases a with (v | v) | v <;> rfl
/-- what is known of the calls of a method, whoever runs it -/
def yCk (X : zXT) (cl : List vw_C) (ct : yCt) (sh : List yH) (l : Launch) (rm : Room) (cc : ByteArray) (nL : Nat) (ws : List Cond) (own : String) (ins : Instr) (n : Nat) (oc : Option Nat) (F : yF) : Prop :=
  ∀ (p : Program) (e : Env) (s : State) (m : MethodId) (args : Array Value) (below : List Frame) (meth : Method) (c : Code) (A : Nat → Prop), CallFix p m c cc nL s args ws own → X A s s.heap → yCal X cl ct sh p l e rm s m args below meth c cc nL ins n oc F
def yCkT (X : zXT) (cl : List vw_C) (ct : yCt) (sh : List yH) (l : Launch) (rm : Room) (cc : ByteArray) (nL : Nat) (ws : List Cond) (own : String) (x y : Nat) (F : yF) : Prop :=
  ∀ (p : Program) (e : Env) (s : State) (m : MethodId) (args : Array Value) (below : List Frame) (meth : Method) (c : Code) (A : Nat → Prop), CallFix p m c cc nL s args ws own → X A s s.heap → yCalT X cl ct sh p l e rm s m args below meth c cc nL x y F
/-- from here the method comes to its end with res, whoever runs it -/
def yGoes (X : zXT) (cl : List vw_C) (ct : yCt) (sh : List yH) (l : Launch) (rm : Room) (cc : ByteArray) (nL : Nat) (ws : List Cond) (own : String) (tb : yTb) (pr : List (Nat × Instr × Nat)) (rt : Nat) (C : yC) (res : yR) : Prop :=
  ∀ (p : Program) (e : Env) (s : State) (m : MethodId) (args : Array Value) (below : List Frame) (meth : Method) (c : Code) (D : va_G) (kA : Nat → ClassId) (A : Nat → Prop) (ad : Nat → Nat), yCx X p l e rm s m args below meth c cc D cl ct kA A nL sh ws own tb pr rt → yGo (zGW p l e rm s m args below meth c 0 0 (MQ below (yQc D cl ct kA sh ad A res) args s 0 0 A)) D cl ct kA A s.heap nL sh ad C
/-- plain steps: none is a call, none asks -/
def ysteps (ct : yCt) (tb : yTb) (pr : List (Nat × Instr × Nat)) (nL rt : Nat) : Nat → yC → Option yC
  | 0, C => some C
  | n + 1, C => match ystep ct tb pr nL rt C with
    | some (.inl (true, some C', _)) => ysteps ct tb pr nL rt n C'
    | _ => none
theorem yno {α : Type} {x : α} (h : (none : Option α) = some x) : False := by cases h
section YGS
variable {X : zXT} {cl : List vw_C} {ct : yCt} {sh : List yH} {l : Launch} {rm : Room} {cc : ByteArray} {nL : Nat} {ws : List Cond} {own : String} {tb : yTb} {pr : List (Nat × Instr × Nat)} {rt : Nat} {C C' : yC} {res : yR}
theorem yG_t {g : Bool} {b : Option yC} (h : ystep ct tb pr nL rt C = some (.inl (g, some C', b))) (hg : g = true) (k : yGoes X cl ct sh l rm cc nL ws own tb pr rt C' res) : yGoes X cl ct sh l rm cc nL ws own tb pr rt C res := by
  intro p e s m args below meth c D kA A ad hcx
  subst hg
  exact ystep_plain hcx h rfl (k p e s m args below meth c D kA A ad hcx)
theorem yG_f {g : Bool} {a : Option yC} (h : ystep ct tb pr nL rt C = some (.inl (g, a, some C'))) (hg : g = false) (k : yGoes X cl ct sh l rm cc nL ws own tb pr rt C' res) : yGoes X cl ct sh l rm cc nL ws own tb pr rt C res := by
  intro p e s m args below meth c D kA A ad hcx
  subst hg
  exact ystep_plain hcx h rfl (k p e s m args below meth c D kA A ad hcx)
theorem yG_c {q : yF × List yV × yC} {r : yR} {C1 : yC} (h : ystep ct tb pr nL rt C = some (.inr (.inl q))) (hF : q.1 q.2.1 C.2.2.2 = some r) (hC : (q.2.2.1, q.2.2.2.1, r.1.toList ++ q.2.2.2.2.1, r.2) = C1) (k : yGoes X cl ct sh l rm cc nL ws own tb pr rt C1 res) : yGoes X cl ct sh l rm cc nL ws own tb pr rt C res := by
  intro p e s m args below meth c D kA A ad hcx
  subst hC
  exact ystep_call hcx h hF (k p e s m args below meth c D kA A ad hcx)
theorem yG_r {g : Bool} {v : Option yV} (h : ystep ct tb pr nL rt C = some (.inr (.inr (g, v)))) (hg : g = true) : yGoes X cl ct sh l rm cc nL ws own tb pr rt C (v, C.2.2.2) := by
  intro p e s m args below meth c D kA A ad hcx
  exact ystep_ret hcx h hg
theorem yG_n : ∀ {n : Nat} {C : yC}, ysteps ct tb pr nL rt n C = some C' → yGoes X cl ct sh l rm cc nL ws own tb pr rt C' res → yGoes X cl ct sh l rm cc nL ws own tb pr rt C res
  | 0, C, h, k => by
    have h : C = C' := Option.some.inj h
    rw [h]
    exact k
  | n + 1, C, h, k => by
    unfold ysteps at h
    split at h
    · rename_i C1 b hs
      exact yG_t hs rfl (yG_n h k)
    · cases h
/-- fewer variables -/
theorem yG_w {pc : Nat} {lo lo' : List (Nat × yV)} {st : List yV} {σ : yS} (ix : List Nat) (h : ix.map (fun i => lo'[i]?) = lo.map some) (k : yGoes X cl ct sh l rm cc nL ws own tb pr rt (pc, lo, st, σ) res) : yGoes X cl ct sh l rm cc nL ws own tb pr rt (pc, lo', st, σ) res := by
  intro p e s m args below meth c D kA A ad hcx H locs ls hR
  have hsub : ∀ x ∈ lo, x ∈ lo' := fun x hx => by
    have : some x ∈ ix.map (fun i => lo'[i]?) := by rw [h]; exact List.mem_map.mpr ⟨x, hx, rfl⟩
    obtain ⟨i, -, hi⟩ := List.mem_map.mp this
    exact List.mem_of_getElem? hi
  refine k p e s m args below meth c D kA A ad hcx H locs ls ⟨hR.1, fun x hx => hR.2.1 x (hsub x hx), hR.2.2.1, hR.2.2.2.1, hR.2.2.2.2.1, hR.2.2.2.2.2.1, zlv_sub hR.2.2.2.2.2.2 (fun q hq => ?_)⟩
  obtain ⟨x, hx, rfl⟩ := List.mem_map.mp hq
  exact List.mem_map.mpr ⟨x, hsub x hx, rfl⟩
end YGS
set_option maxHeartbeats 4000000 in
theorem ymeth {X : zXT} (hX : zXok X) {cl : List vw_C} {ct : yCt} {sh : List yH} {l : Launch} {y : MethodName} {ws ws' : List Cond} {rm : Room} {F : yF} {cc : ByteArray} {nL rt : Nat} {own : String} {tb : yTb} {pr : List (Nat × Instr × Nat)} (hy : plainName y.cls = true) (hw : ws = Cond.code y cc nL (zrty rt) :: ws') (how : y.cls = own) (hroom : 1 ≤ rm.frames ∧ 64 ≤ rm.locals)
    (hfl : ∀ x ci k tag, zlk tb.1 x = some (ci, k, tag) → zFld ws own cl x ci k tag) (hco : ∀ k z, zlk tb.2.1 k = some z → Cond.constant own k (Int32.ofInt z) ∈ ws) (hlc : ∀ k z, zlk tb.2.2.1 k = some z → Cond.constantLong own k (Int64.ofInt z) ∈ ws)
    (hvc : ∀ q ∈ tb.2.2.2.1, yCk X cl ct sh l rm cc nL ws own (.invokevirtual q.1) q.2.1 (some q.2.2.1) q.2.2.2) (hsc : ∀ q ∈ tb.2.2.2.2.1, yCk X cl ct sh l rm cc nL ws own (.invokestatic q.1) q.2.1 none q.2.2) (hmm : ∀ x t, zlk tb.2.2.2.2.2.1 x = some t → zMM ws own x t) (htx : ∀ q ∈ tb.2.2.2.2.2.2, yCkT X cl ct sh l rm cc nL ws own q.1 q.2.1 q.2.2) (hpr : ∀ pc ins len, zlk pr pc = some (ins, len) → decode cc pc = .ok (ins, len))
    (hF : ∀ (as : List yV) (σ : yS) (res : yR), F as σ = some res → (as.map ycat).sum ≤ nL ∧ yGoes X cl ct sh l rm cc nL ws own tb pr rt (0, yargs 0 as, [], σ) res) : yMet X cl ct sh l y ws rm F := by
  intro D kA ad sz as σ res hS0 has hFr
  obtain ⟨c1, hrun⟩ := hF as σ res hFr
  refine Met.ofW (cc := cc) (maxL := nL) (ret := zrty rt) hy hw ?_
  intro p e s m args below meth c s₁ B hml hv
  obtain ⟨rfl, hsz, hP, hK, hD0, hx0⟩ := hv
  have hts := atoms_spec (ws := ws) B.pre
  have hown : s.vm.findClass own = some m.cls := by
    rw [← how]
    exact findClass_of_methodNamed B.named
  subst hsz
  have hD := hD0.self (sz := s.heap.size)
  have hfix : CallFix p m c cc nL s (as.map (ycv ad)).toArray ws own := ⟨B.exec, B.bytes, hml, hown, hts⟩
  have hcx : yCx X p l e rm s m (as.map (ycv ad)).toArray below meth c cc D cl ct kA (va_A (yws ct kA ad sh σ) s.heap.size) nL sh ws own tb pr rt := ⟨hX, hx0, fun q h => Or.inr h, hK, B.exec, B.bytes, hml, hown, hts, B.notSynchronized, B.returns, hroom, hfl, hco, hlc, fun x n ci F h => hvc _ (zlk_mem h) p e s m _ below meth c _ hfix hx0, fun x n F h => hsc _ (zlk_mem h) p e s m _ below meth c _ hfix hx0, hmm, fun x y F h => htx _ (zlk_mem h) p e s m _ below meth c _ hfix hx0, hpr⟩
  have hl := lv_entry (as.map (ycv ad)) (n := nL) (by rw [ysl_len]; exact c1)
  rw [yargs_ok] at hl
  rw [lg_entry_eq]
  exact hrun p e s m _ below meth c D kA _ ad hcx s.heap [] _ ⟨hS0, yargs_in as 0 has, (fun a ha => by cases ha), hP, hD, va_S.rf, hl⟩
section YCL
variable {X : zXT} {cl : List vw_C} {ct : yCt} {sh : List yH} {l : Launch} {cc : ByteArray} {nL : Nat} {y : MethodName} {bytes : ByteArray} {maxL n index : Nat} {ret : Option FieldType} {ws : List Cond} {rm R : Room} {Ts : List Cond} {own Cn host : String} {F : yF} {ci : Nat} {T : u_T} {nF : Nat}
theorem ycal_V (hX : zXok X) (hM : yMet X cl ct sh l y ws rm F) (hci : cl[ci]? = some (Cn, T, nF)) (cw : ∀ (s : State) (args : Array Value), (∀ w ∈ Ts, w.before args s = true) → CallW R s args own Cn index y bytes maxL ret ws rm 0 0 n) : yCk X cl ct sh l R cc nL Ts own (.invokevirtual index) (n + 1) (some ci) F := by
  intro p e s m args below meth c A S hx0 D kA ad as σ res H locs ls pc rest hK hS0 has hlen hoc hF hP hD hx hls hcat hdg
  obtain ⟨i0, as', rfl⟩ := hoc ci rfl
  have hm := hM D kA ad H.size _ σ res hS0 has hF
  have hsh : sh[i0]? = some (.inl ci) := has _ List.mem_cons_self
  have hst : ((.inr (.inl ci, i0) :: as' : List yV).map (ycv ad)).reverse ++ rest = (as'.map (ycv ad)).reverse ++ .ref (ad i0) :: rest := by
    rw [List.map_cons, List.reverse_cons, List.append_assoc]
    rfl
  rw [hst]
  exact va_runV (As := as'.map (ycv ad)) (b := ad i0) S hm (cw s args S.2.2.2.2) ⟨zBf_blind hX, va_recv hK hP (ci := ci) (q0 := i0) hci (yws_get hsh), fun U hU hW => zBf_of hX hK hP hD hx U hU hW⟩ rfl (by rw [List.length_map]; rw [List.length_cons] at hlen; omega) hls rfl (lv_room hcat) hdg ⟨Nat.zero_le _, Nat.zero_le _⟩
theorem ycal_S (hX : zXok X) (hM : yMet X cl ct sh l y ws rm F) (cw : ∀ (s : State) (args : Array Value), (∀ w ∈ Ts, w.before args s = true) → CallB R s args own index y bytes maxL ret ws rm 0 0 n ∧ (Cond.static y).before args s = true) : yCk X cl ct sh l R cc nL Ts own (.invokestatic index) n none F := by
  intro p e s m args below meth c A S hx0 D kA ad as σ res H locs ls pc rest hK hS0 has hlen hoc hF hP hD hx hls hcat hdg
  have hm := hM D kA ad H.size _ σ res hS0 has hF
  exact va_runS (As := as.map (ycv ad)) S hm (cw s args S.2.2.2.2) ⟨zBf_blind hX, fun U hU hW => zBf_of hX hK hP hD hx U hU hW⟩ rfl (by rw [List.length_map]; exact hlen) hls rfl (lv_room hcat) hdg ⟨Nat.zero_le _, Nat.zero_le _⟩
theorem ycal_SN (hX : zXok X) (hM : yMet X cl ct sh l y ws rm F) (cw : ∀ (A : Nat → Prop) (s : State) (args : Array Value), (∀ w ∈ Ts, w.before args s = true) → X A s s.heap → va_CN R s args own index y host bytes maxL ret ws rm 0 0 n ∧ (Cond.static y).before args s = true ∧ True) : yCk X cl ct sh l R cc nL Ts own (.invokestatic index) n none F := by
  intro p e s m args below meth c A S hx0 D kA ad as σ res H locs ls pc rest hK hS0 has hlen hoc hF hP hD hx hls hcat hdg
  have hm := hM D kA ad H.size _ σ res hS0 has hF
  exact va_runSN (As := as.map (ycv ad)) S hm (cw A s args S.2.2.2.2 hx0) ⟨zBf_blind hX, fun U hU hW => zBf_of hX hK hP hD hx U hU hW⟩ rfl (by rw [List.length_map]; exact hlen) hls rfl (lv_room hcat) hdg ⟨Nat.zero_le _, Nat.zero_le _⟩
end YCL
end
