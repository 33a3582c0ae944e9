abbrev vwCl : List vw_C := [(RX0, TX0, 2), (RX1, TX1, 13), (RX2, TX2, 3), (RX3, TX3, 2), (RX4, TX4, 18), (RX5, TX5, 5), (RX6, TX6, 3), (RX7, TX7, 9), (RX8, TX8, 33)]
def zi (s : Nat) (o : Int) : zA := .inl (.inl (s, o))
def zl (s : Nat) (o : Int) : zA := .inl (.inr (s, o))
def zr (i : Nat) : zA := .inr (some i)
def zfs (w : zW) (q k : Nat) (a : zA) : zW := match w[q]? with
  | some (i, .inl (ci, fs)) => w.set q (i, .inl (ci, fs.set k a))
  | _ => w
def zgs (w : zW) (q k : Nat) (g : zI ⊕ zV) : zW := match w[q]? with
  | some (i, .inr (.inl (kd, n, gs, mm))) => w.set q (i, .inr (.inl (kd, n, gs.set k ((gs.getD k (0, .inl (0, 0))).1, g), mm)))
  | _ => w
def zms (w : zW) (q : Nat) (mm : zM) : zW := match w[q]? with
  | some (i, .inr (.inl (kd, n, gs, _))) => w.set q (i, .inr (.inl (kd, n, gs, mm)))
  | _ => w
theorem zpr_all {cc : ByteArray} {pr : List (Nat × Instr × Nat)} (h : pr.all (fun x => decide (decode cc x.1 = .ok x.2)) = true) : ∀ pc ins len, zlk pr pc = some (ins, len) → decode cc pc = .ok (ins, len) := fun pc ins len hl => of_decide_eq_true (List.all_eq_true.mp h (pc, ins, len) (zlk_mem hl))
theorem zfl_all {Ts : List Cond} {own : String} {cl : List vw_C} {fl : List (Nat × Nat × Nat × Nat)} (h : ∀ q ∈ fl, zFld Ts own cl q.1 q.2.1 q.2.2.1 q.2.2.2) : ∀ x ci k tag, zlk fl x = some (ci, k, tag) → zFld Ts own cl x ci k tag := fun x ci k tag hl => h (x, ci, k, tag) (zlk_mem hl)
theorem zco_all {Ts : List Cond} {own : String} {fl : List (Nat × Int)} (h : ∀ q ∈ fl, Cond.constant own q.1 (Int32.ofInt q.2) ∈ Ts) : ∀ k z, zlk fl k = some z → Cond.constant own k (Int32.ofInt z) ∈ Ts := fun k z hl => h (k, z) (zlk_mem hl)
theorem zlc_all {Ts : List Cond} {own : String} {fl : List (Nat × Int)} (h : ∀ q ∈ fl, Cond.constantLong own q.1 (Int64.ofInt q.2) ∈ Ts) : ∀ k z, zlk fl k = some z → Cond.constantLong own k (Int64.ofInt z) ∈ Ts := fun k z hl => h (k, z) (zlk_mem hl)
theorem zmm_all {Ts : List Cond} {own : String} {fl : List (Nat × Nat)} (h : ∀ q ∈ fl, zMM Ts own q.1 q.2) : ∀ x t, zlk fl x = some t → zMM Ts own x t := fun k z hl => h (k, z) (zlk_mem hl)
/-- the links to private members of nest mates -/
def znst : List (String × Nat × MethodName × String) := [(RX0, 25, yX7_numbersOf, RX7), (RX0, 64, yX7_bit, RX7), (RX0, 67, yX7_withBit, RX7), (RX1, 177, yX7_isDepth, RX7), (RX1, 195, yX7_bit, RX7), (RX1, 198, yX7_withBit, RX7), (RX1, 210, yX7_within, RX7), (RX2, 26, yX7_within, RX7), (RX4, 54, yX7_within, RX7), (RX4, 126, yX7_bit, RX7), (RX4, 142, yX7_doneAt, RX7), (RX4, 160, yX7_withBit, RX7)]
def zXn (X : zXT) : Prop := ∀ (A : Nat → Prop) (U : State) (H : Heap), X A U H → ∀ (a : String) (i : Nat) (y : MethodName) (h : String), (a, i, y, h) ∈ znst → va_Nw (.methodLinkNest a i y h) U
def ztagb (tag : Nat) (ty : FieldType) (fin : Bool) : Bool := match tag, ty with
  | 0, .int => !fin
  | 1, .boolean => !fin
  | 2, .object _ => !fin
  | 3, _ => true
  | _, _ => false
theorem ztagb_ok {tag : Nat} {ty : FieldType} {fin : Bool} (h : ztagb tag ty fin = true) : ztag tag ty fin := by
  unfold ztagb at h
  split at h
  · exact ⟨by cases fin <;> simp_all, rfl⟩
  · exact ⟨by cases fin <;> simp_all, rfl⟩
  · exact ⟨by cases fin <;> simp_all, _, rfl⟩
  · trivial
  · cases h
theorem zfl_X0 {Ts : List Cond} {own : String} {x k tag : Nat} (h1 : ∀ w ∈ wsX00, w ∈ Ts) (h2 : Cond.fieldLink own x (TX0 k).1 (TX0 k).2.1 (TX0 k).2.2.1 ∈ Ts) (h3 : k < 2) (h4 : ztagb tag (tyX0 k) (TX0 k).2.2.2 = true) : zFld Ts own vwCl x 0 k tag := ⟨RX0, TX0, 2, tyX0, rfl, h3, h1, tyX0_ok, nmX0, h2, ztagb_ok h4⟩
theorem zfl_X1 {Ts : List Cond} {own : String} {x k tag : Nat} (h1 : ∀ w ∈ wsX10, w ∈ Ts) (h2 : Cond.fieldLink own x (TX1 k).1 (TX1 k).2.1 (TX1 k).2.2.1 ∈ Ts) (h3 : k < 13) (h4 : ztagb tag (tyX1 k) (TX1 k).2.2.2 = true) : zFld Ts own vwCl x 1 k tag := ⟨RX1, TX1, 13, tyX1, rfl, h3, h1, tyX1_ok, nmX1, h2, ztagb_ok h4⟩
theorem zfl_X2 {Ts : List Cond} {own : String} {x k tag : Nat} (h1 : ∀ w ∈ wsX20, w ∈ Ts) (h2 : Cond.fieldLink own x (TX2 k).1 (TX2 k).2.1 (TX2 k).2.2.1 ∈ Ts) (h3 : k < 3) (h4 : ztagb tag (tyX2 k) (TX2 k).2.2.2 = true) : zFld Ts own vwCl x 2 k tag := ⟨RX2, TX2, 3, tyX2, rfl, h3, h1, tyX2_ok, nmX2, h2, ztagb_ok h4⟩
theorem zfl_X3 {Ts : List Cond} {own : String} {x k tag : Nat} (h1 : ∀ w ∈ wsX30, w ∈ Ts) (h2 : Cond.fieldLink own x (TX3 k).1 (TX3 k).2.1 (TX3 k).2.2.1 ∈ Ts) (h3 : k < 2) (h4 : ztagb tag (tyX3 k) (TX3 k).2.2.2 = true) : zFld Ts own vwCl x 3 k tag := ⟨RX3, TX3, 2, tyX3, rfl, h3, h1, tyX3_ok, nmX3, h2, ztagb_ok h4⟩
theorem zfl_X4 {Ts : List Cond} {own : String} {x k tag : Nat} (h1 : ∀ w ∈ wsX40, w ∈ Ts) (h2 : Cond.fieldLink own x (TX4 k).1 (TX4 k).2.1 (TX4 k).2.2.1 ∈ Ts) (h3 : k < 18) (h4 : ztagb tag (tyX4 k) (TX4 k).2.2.2 = true) : zFld Ts own vwCl x 4 k tag := ⟨RX4, TX4, 18, tyX4, rfl, h3, h1, tyX4_ok, nmX4, h2, ztagb_ok h4⟩
theorem zfl_X5 {Ts : List Cond} {own : String} {x k tag : Nat} (h1 : ∀ w ∈ wsX50, w ∈ Ts) (h2 : Cond.fieldLink own x (TX5 k).1 (TX5 k).2.1 (TX5 k).2.2.1 ∈ Ts) (h3 : k < 5) (h4 : ztagb tag (tyX5 k) (TX5 k).2.2.2 = true) : zFld Ts own vwCl x 5 k tag := ⟨RX5, TX5, 5, tyX5, rfl, h3, h1, tyX5_ok, nmX5, h2, ztagb_ok h4⟩
theorem zfl_X6 {Ts : List Cond} {own : String} {x k tag : Nat} (h1 : ∀ w ∈ wsX60, w ∈ Ts) (h2 : Cond.fieldLink own x (TX6 k).1 (TX6 k).2.1 (TX6 k).2.2.1 ∈ Ts) (h3 : k < 3) (h4 : ztagb tag (tyX6 k) (TX6 k).2.2.2 = true) : zFld Ts own vwCl x 6 k tag := ⟨RX6, TX6, 3, tyX6, rfl, h3, h1, tyX6_ok, nmX6, h2, ztagb_ok h4⟩
theorem zfl_X7 {Ts : List Cond} {own : String} {x k tag : Nat} (h1 : ∀ w ∈ wsX70, w ∈ Ts) (h2 : Cond.fieldLink own x (TX7 k).1 (TX7 k).2.1 (TX7 k).2.2.1 ∈ Ts) (h3 : k < 9) (h4 : ztagb tag (tyX7 k) (TX7 k).2.2.2 = true) : zFld Ts own vwCl x 7 k tag := ⟨RX7, TX7, 9, tyX7, rfl, h3, h1, tyX7_ok, nmX7, h2, ztagb_ok h4⟩
theorem zfl_X8 {Ts : List Cond} {own : String} {x k tag : Nat} (h1 : ∀ w ∈ wsX80, w ∈ Ts) (h2 : Cond.fieldLink own x (TX8 k).1 (TX8 k).2.1 (TX8 k).2.2.1 ∈ Ts) (h3 : k < 33) (h4 : ztagb tag (tyX8 k) (TX8 k).2.2.2 = true) : zFld Ts own vwCl x 8 k tag := ⟨RX8, TX8, 33, tyX8, rfl, h3, h1, tyX8_ok, nmX8, h2, ztagb_ok h4⟩
