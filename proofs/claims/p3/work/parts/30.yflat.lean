abbrev yH : Type := Nat ⊕ (Nat × Nat)
abbrev yV : Type := (Int ⊕ Int) ⊕ (yH × Nat)
abbrev yS : Type := (Nat → Nat → Int) × (Nat → Nat → Nat)
/-- the kinds of a class's fields; the references that never change -/
abbrev yCt : Type := (Nat → List (Option yH)) × (Nat → Nat → Nat → Option Nat)
abbrev yC : Type := Nat × List (Nat × yV) × List yV × yS
abbrev yR : Type := Option yV × yS
abbrev yF : Type := List yV → yS → Option yR
abbrev yT : Type := Bool × Option yC × Option yC
def ycv (ad : Nat → Nat) : yV → Value
  | .inl (.inl z) => .int (Int32.ofInt z)
  | .inl (.inr z) => .long (Int64.ofInt z)
  | .inr x => .ref (ad x.2)
def ycat : yV → Nat
  | .inl (.inr _) => 2
  | _ => 1
theorem ycat_ok (ad : Nat → Nat) (a : yV) : (ycv ad a).category = ycat a := by
  rcases a with (a | a) | a <;> rfl
def yHeq (a b : yH) : Bool := match a, b with
  | .inl i, .inl j => Nat.beq i j
  | .inr x, .inr y => Nat.beq x.1 y.1 && Nat.beq x.2 y.2
  | _, _ => false
theorem yHeq_ok {a b : yH} (h : yHeq a b = true) : a = b := by
  rcases a with i | ⟨i, n⟩ <;> rcases b with j | ⟨j, m⟩
  · exact congrArg Sum.inl (Nat.eq_of_beq_eq_true h)
  · cases h
  · cases h
  · have h : (Nat.beq i j && Nat.beq n m) = true := h
    rw [Bool.and_eq_true] at h
    rw [Nat.eq_of_beq_eq_true h.1, Nat.eq_of_beq_eq_true h.2]
/-- a number written, a reference written, a row copied -/
def yw (σ : yS) (i k : Nat) (z : Int) : yS := (fun a b => if b = k ∧ a = i then z else σ.1 a b, σ.2)
def yq (σ : yS) (i k j : Nat) : yS := (σ.1, fun a b => if b = k ∧ a = i then j else σ.2 a b)
def ycp (σ : yS) (i0 i1 s d n : Nat) : yS := (fun a b => if a = i1 ∧ d ≤ b ∧ b < d + n then σ.1 i0 (s + (b - d)) else σ.1 a b, σ.2)
def yfv (ad : Nat → Nat) (σ : yS) (i k : Nat) : Option yH → Value
  | none => .int (Int32.ofInt (σ.1 i k))
  | some _ => .ref (ad (σ.2 i k))
def yce (ct : yCt) (kA : Nat → ClassId) (ad : Nat → Nat) (σ : yS) (i : Nat) : yH → va_E
  | .inl ci => .inr (ci, (ct.1 ci).mapIdx (fun k t => yfv ad σ i k t))
  | .inr x => bif Nat.ble x.1 1 then .inl (kA x.1, x.2, .inl (fun j => Int32.ofInt (σ.1 i j))) else .inl (kA x.1, x.2, .inr (.inr (.inr (.inr (fun j => some (ad (σ.2 i j)))))))
def yws (ct : yCt) (kA : Nat → ClassId) (ad : Nat → Nat) (sh : List yH) (σ : yS) : va_W := sh.mapIdx (fun i h => (ad i, yce ct kA ad σ i h))
section YW
variable {ct : yCt} {kA : Nat → ClassId} {ad : Nat → Nat} {sh : List yH} {σ σ' : yS}
theorem yws_get {i : Nat} {h : yH} (hh : sh[i]? = some h) : (yws ct kA ad sh σ)[i]? = some (ad i, yce ct kA ad σ i h) := by
  unfold yws
  rw [List.getElem?_mapIdx, hh]
  rfl
theorem yce_congr {i : Nat} (h1 : ∀ k, σ'.1 i k = σ.1 i k) (h2 : ∀ k, σ'.2 i k = σ.2 i k) (h : yH) : yce ct kA ad σ' i h = yce ct kA ad σ i h := by
  have e1 : (fun k t => yfv ad σ' i k t) = (fun k t => yfv ad σ i k t) := by
    funext k t
    cases t with
    | none => show Value.int (Int32.ofInt (σ'.1 i k)) = Value.int (Int32.ofInt (σ.1 i k)); rw [h1]
    | some _ => show Value.ref (ad (σ'.2 i k)) = Value.ref (ad (σ.2 i k)); rw [h2]
  have e2 : (fun j => Int32.ofInt (σ'.1 i j)) = (fun j => Int32.ofInt (σ.1 i j)) := funext (fun j => by rw [h1])
  have e3 : (fun j => some (ad (σ'.2 i j))) = (fun j => some (ad (σ.2 i j))) := funext (fun j => by rw [h2])
  rcases h with ci | x
  · show Sum.inr (ci, (ct.1 ci).mapIdx (fun k t => yfv ad σ' i k t)) = Sum.inr (ci, (ct.1 ci).mapIdx (fun k t => yfv ad σ i k t))
    rw [e1]
  · unfold yce
    dsimp only
    rw [e2, e3]
theorem yws_set {i : Nat} {h : yH} (hh : sh[i]? = some h) (h1 : ∀ a, a ≠ i → ∀ k, σ'.1 a k = σ.1 a k) (h2 : ∀ a, a ≠ i → ∀ k, σ'.2 a k = σ.2 a k) : yws ct kA ad sh σ' = (yws ct kA ad sh σ).set i (ad i, yce ct kA ad σ' i h) := by
  apply List.ext_getElem?
  intro j
  by_cases hj : i = j
  · subst hj
    have hlt : i < (yws ct kA ad sh σ).length := (List.getElem?_eq_some_iff.mp (yws_get hh)).1
    rw [List.getElem?_set_self hlt]
    exact yws_get hh
  · rw [List.getElem?_set_ne hj]
    unfold yws
    rw [List.getElem?_mapIdx, List.getElem?_mapIdx]
    cases hs : sh[j]? with
    | none => rfl
    | some g =>
      show some (ad j, yce ct kA ad σ' j g) = some (ad j, yce ct kA ad σ j g)
      rw [yce_congr (h1 j (Ne.symm hj)) (h2 j (Ne.symm hj))]
end YW
def yI (z : Int) : Prop := -2147483648 ≤ z ∧ z ≤ 2147483647
def yL (z : Int) : Prop := -9223372036854775808 ≤ z ∧ z ≤ 9223372036854775807
def yokV (sh : List yH) : yV → Prop
  | .inl (.inl z) => yI z
  | .inl (.inr z) => yL z
  | .inr x => sh[x.2]? = some x.1
/-- what a row of references holds -/
def yek (kd : Nat) : yH := bif Nat.beq kd 2 then .inl 4 else .inl 2
def yokS (ct : yCt) (sh : List yH) (σ : yS) : Prop := (∀ i k, yI (σ.1 i k)) ∧ (∀ (i ci k : Nat) (h : yH), sh[i]? = some (.inl ci) → (ct.1 ci)[k]? = some (some h) → sh[σ.2 i k]? = some h) ∧ (∀ (i kd n j : Nat), sh[i]? = some (.inr (kd, n)) → 2 ≤ kd → j < n → sh[σ.2 i j]? = some (yek kd)) ∧ ∀ (i ci k j : Nat), sh[i]? = some (.inl ci) → ct.2 ci i k = some j → σ.2 i k = j
theorem yokS_w {ct : yCt} {sh : List yH} {σ : yS} (h : yokS ct sh σ) (i k : Nat) {z : Int} (hz : yI z) : yokS ct sh (yw σ i k z) := by
  refine ⟨fun a b => ?_, h.2⟩
  show yI (if b = k ∧ a = i then z else σ.1 a b)
  by_cases hc : b = k ∧ a = i
  · rw [if_pos hc]; exact hz
  · rw [if_neg hc]; exact h.1 a b
theorem yokS_q {ct : yCt} {sh : List yH} {σ : yS} (h : yokS ct sh σ) {i ci k j : Nat} {g : yH} (hi : sh[i]? = some (.inl ci)) (hk : (ct.1 ci)[k]? = some (some g)) (hn : ct.2 ci i k = none) (hj : sh[j]? = some g) : yokS ct sh (yq σ i k j) := by
  refine ⟨h.1, fun a c b g' ha hb => ?_, fun a kd n b ha h2 hb => ?_, fun a c b j' ha hb => ?_⟩
  · show sh[if b = k ∧ a = i then j else σ.2 a b]? = some g'
    by_cases hc : b = k ∧ a = i
    · rw [if_pos hc]
      obtain ⟨rfl, rfl⟩ := hc
      rw [hi] at ha
      cases ha
      rw [hk] at hb
      cases hb
      exact hj
    · rw [if_neg hc]; exact h.2.1 a c b g' ha hb
  · show sh[if b = k ∧ a = i then j else σ.2 a b]? = some (yek kd)
    by_cases hc : b = k ∧ a = i
    · obtain ⟨rfl, rfl⟩ := hc
      rw [hi] at ha
      cases ha
    · rw [if_neg hc]; exact h.2.2.1 a kd n b ha h2 hb
  · show (if b = k ∧ a = i then j else σ.2 a b) = j'
    by_cases hc : b = k ∧ a = i
    · obtain ⟨rfl, rfl⟩ := hc
      rw [hi] at ha
      cases ha
      rw [hn] at hb
      cases hb
    · rw [if_neg hc]; exact h.2.2.2 a c b j' ha hb
theorem yokS_cp {ct : yCt} {sh : List yH} {σ : yS} (h : yokS ct sh σ) (i0 i1 s d n : Nat) : yokS ct sh (ycp σ i0 i1 s d n) := by
  refine ⟨fun a b => ?_, h.2⟩
  show yI (if a = i1 ∧ d ≤ b ∧ b < d + n then σ.1 i0 (s + (b - d)) else σ.1 a b)
  by_cases hc : a = i1 ∧ d ≤ b ∧ b < d + n
  · rw [if_pos hc]; exact h.1 _ _
  · rw [if_neg hc]; exact h.1 a b
def yset1 (lo : List (Nat × yV)) (i : Nat) (a : yV) : List (Nat × yV) := (i, a) :: lo.filter (fun q => !(q.1 == i) && !(q.1 + 1 == i && ycat q.2 == 2))
def yset2 (lo : List (Nat × yV)) (i : Nat) (a : yV) : List (Nat × yV) := (i, a) :: lo.filter (fun q => !(q.1 == i) && (!(q.1 == i + 1) && !(q.1 + 1 == i && ycat q.2 == 2)))
theorem yset1_ok (ad : Nat → Nat) (lo : List (Nat × yV)) (i : Nat) (a : yV) : (i, ycv ad a) :: (lo.map (fun x => (x.1, ycv ad x.2))).filter (fun q => !(q.1 == i) && !(q.1 + 1 == i && q.2.category == 2)) = (yset1 lo i a).map (fun x => (x.1, ycv ad x.2)) := by
  unfold yset1
  rw [List.map_cons, List.filter_map]
  congr 2
  apply List.filter_congr
  intro x _
  show (!(x.1 == i) && !(x.1 + 1 == i && (ycv ad x.2).category == 2)) = _
  rw [ycat_ok]
theorem yset2_ok (ad : Nat → Nat) (lo : List (Nat × yV)) (i : Nat) (a : yV) : (i, ycv ad a) :: (lo.map (fun x => (x.1, ycv ad x.2))).filter (fun q => !(q.1 == i) && (!(q.1 == i + 1) && !(q.1 + 1 == i && q.2.category == 2))) = (yset2 lo i a).map (fun x => (x.1, ycv ad x.2)) := by
  unfold yset2
  rw [List.map_cons, List.filter_map]
  congr 2
  apply List.filter_congr
  intro x _
  show (!(x.1 == i) && (!(x.1 == i + 1) && !(x.1 + 1 == i && (ycv ad x.2).category == 2))) = _
  rw [ycat_ok]
theorem yset1_in {sh : List yH} {lo : List (Nat × yV)} {i : Nat} {a : yV} (h : ∀ x ∈ lo, yokV sh x.2) (ha : yokV sh a) : ∀ x ∈ yset1 lo i a, yokV sh x.2 := by
  intro x hx
  rcases List.mem_cons.mp hx with e | e
  · subst e; exact ha
  · exact h x (List.mem_filter.mp e).1
theorem yset2_in {sh : List yH} {lo : List (Nat × yV)} {i : Nat} {a : yV} (h : ∀ x ∈ lo, yokV sh x.2) (ha : yokV sh a) : ∀ x ∈ yset2 lo i a, yokV sh x.2 := by
  intro x hx
  rcases List.mem_cons.mp hx with e | e
  · subst e; exact ha
  · exact h x (List.mem_filter.mp e).1
def yRel (D : va_G) (cl : List vw_C) (ct : yCt) (kA : Nat → ClassId) (A : Nat → Prop) (H0 : Heap) (nL : Nat) (sh : List yH) (ad : Nat → Nat) (C : yC) (H : Heap) (locs : List Loc) (ls : Array Slot) : Prop :=
  yokS ct sh C.2.2.2 ∧ (∀ x ∈ C.2.1, yokV sh x.2) ∧ (∀ a ∈ C.2.2.1, yokV sh a) ∧ va_P D cl (yws ct kA ad sh C.2.2.2) H ∧ va_D A (yws ct kA ad sh C.2.2.2) ∧ va_S A H0 H locs ∧ lv_has ls nL (C.2.1.map (fun x => (x.1, ycv ad x.2)))
def yGo (G : zGT) (D : va_G) (cl : List vw_C) (ct : yCt) (kA : Nat → ClassId) (A : Nat → Prop) (H0 : Heap) (nL : Nat) (sh : List yH) (ad : Nat → Nat) (C : yC) : Prop :=
  ∀ (H : Heap) (locs : List Loc) (ls : Array Slot), yRel D cl ct kA A H0 nL sh ad C H locs ls → G C.1 H locs ls (C.2.2.1.map (ycv ad))
def yone (C : yC) : Option yT := some (true, some C, none)
def ynext (r : yT) : Option yC := bif r.1 then r.2.1 else r.2.2
/-- numbers of the machine, as whole numbers -/
def y32 (x : Int32) : Int := x.toInt
theorem y32_I (x : Int32) : yI x.toInt := zq_rng x
theorem y64_L (x : Int64) : yL x.toInt := zq_rngL x
def yad (a b : Int) : Int := (Int32.ofInt a + Int32.ofInt b).toInt
def ysu (a b : Int) : Int := (Int32.ofInt a - Int32.ofInt b).toInt
def ymu (a b : Int) : Int := (Int32.ofInt a * Int32.ofInt b).toInt
def yan (a b : Int) : Int := (Int32.ofInt a &&& Int32.ofInt b).toInt
def yor (a b : Int) : Int := (Int32.ofInt a ||| Int32.ofInt b).toInt
def yxo (a b : Int) : Int := (Int32.ofInt a ^^^ Int32.ofInt b).toInt
def ysl (a b : Int) : Int := (Int32.ofInt a <<< (Int32.ofInt b &&& 31)).toInt
def ysr (a b : Int) : Int := (Int32.ofInt a >>> (Int32.ofInt b &&& 31)).toInt
def yus (a b : Int) : Int := (((Int32.ofInt a).toUInt32 >>> ((Int32.ofInt b).toUInt32 &&& Int32.toUInt32 31)).toInt32).toInt
def ydv (a b : Int) : Int := (Int32.ofInt a / Int32.ofInt b).toInt
def yrm (a b : Int) : Int := (Int32.ofInt a - Int32.ofInt a / Int32.ofInt b * Int32.ofInt b).toInt
def yne (a : Int) : Int := (-Int32.ofInt a).toInt
def yi8 (a : Int) : Int := ((Int32.ofInt a).toInt8.toInt32).toInt
def yi16 (a : Int) : Int := ((Int32.ofInt a).toInt16.toInt32).toInt
def yadL (a b : Int) : Int := (Int64.ofInt a + Int64.ofInt b).toInt
def ymuL (a b : Int) : Int := (Int64.ofInt a * Int64.ofInt b).toInt
def ydvL (a b : Int) : Int := (Int64.ofInt a / Int64.ofInt b).toInt
def yrmL (a b : Int) : Int := (Int64.ofInt a - Int64.ofInt a / Int64.ofInt b * Int64.ofInt b).toInt
def ymx (a b : Int) : Int := bif zle (a + 1) b then b else a
def ymn (a b : Int) : Int := bif zle (b + 1) a then b else a
/-- not 0 -/
def ynz (b : Int) : Bool := zle b (-1) || zle 1 b
/-- a place of a row -/
def yin (v : Int) (n : Nat) : Bool := zle 0 v && zle (v + 1) (n : Int)
def yb1 (v : Int) : Bool := zle 0 v && zle v 1
/-- a comparison -/
def ycP (cd : Jvm.ClassFile.Cond) (a b : Int) : Bool := match cd with
  | .eq => zle a b && zle b a
  | .ne => !(zle a b && zle b a)
  | .lt => zle (a + 1) b
  | .ge => zle b a
  | .gt => zle (b + 1) a
  | .le => zle a b
theorem ycP_t {cd : Jvm.ClassFile.Cond} {a b : Int} (h : zcP cd a b) : ycP cd a b = true := by
  cases cd
  · have h : a = b := h
    subst h
    show (zle a a && zle a a) = true
    rw [show zle a a = true from decide_eq_true (Int.le_refl a)]
    rfl
  · have h : ¬ a = b := h
    show (!(zle a b && zle b a)) = true
    cases hb : zle a b && zle b a with
    | false => rfl
    | true =>
      rw [Bool.and_eq_true] at hb
      exact absurd (Int.le_antisymm (zle_ok hb.1) (zle_ok hb.2)) h
  · have h : a < b := h
    exact decide_eq_true (by omega)
  · have h : b ≤ a := h
    exact decide_eq_true h
  · have h : b < a := h
    exact decide_eq_true (by omega)
  · have h : a ≤ b := h
    exact decide_eq_true h
theorem ycP_f {cd : Jvm.ClassFile.Cond} {a b : Int} (h : ¬ zcP cd a b) : ycP cd a b = false := by
  cases hb : ycP cd a b with
  | false => rfl
  | true =>
    exfalso
    apply h
    cases cd
    · have hb : (zle a b && zle b a) = true := hb
      rw [Bool.and_eq_true] at hb
      exact Int.le_antisymm (zle_ok hb.1) (zle_ok hb.2)
    · intro q
      subst q
      have hb : (!(zle a a && zle a a)) = true := hb
      rw [show zle a a = true from decide_eq_true (Int.le_refl a)] at hb
      cases hb
    · have := zle_ok hb
      show a < b
      omega
    · exact zle_ok hb
    · have := zle_ok hb
      show b < a
      omega
    · exact zle_ok hb
