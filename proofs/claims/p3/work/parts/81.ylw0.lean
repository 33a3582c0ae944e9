/-- what is fixed while the law runs -/
def zLc (p : Program) (s : State) (m : MethodId) (c : Code) (b L : Nat) (xs : Nat → Int32) (D : va_G) (kA : Nat → ClassId) : Prop :=
  p.tables.exec = Jvm.exec ∧ c.code = code ∧ c.maxLocals = 4 ∧ s.vm.findClass RL = some m.cls ∧ (∀ w ∈ wsL_law, w.before #[Value.ref b] s = true) ∧ va_X b L xs s s.heap ∧ b < s.heap.size ∧ va_K D vwCl (ztys kA) s ∧ zX (fun q => s.heap.size ≤ q) s s.heap ∧ L ≤ 320
/-- both objects stand, and show the same -/
def yLi (s : State) (b : Nat) (D : va_G) (kA : Nat → ClassId) (ad7 ad8 : Nat → Nat) (i : Int) (σ τ : yS) (H : Heap) (locs : List Loc) (ls : Array Slot) : Prop :=
  yokS yct ysh7 σ ∧ yokS yct ysh8 τ ∧ yRR σ τ ∧ va_P D vwCl (yws yct kA ad7 ysh7 σ ++ yws yct kA ad8 ysh8 τ) H ∧ va_D (fun q => s.heap.size ≤ q) (yws yct kA ad7 ysh7 σ ++ yws yct kA ad8 ysh8 τ) ∧ va_S (fun q => s.heap.size ≤ q) s.heap H locs ∧ lv_has ls 4 [(3, .int (Int32.ofInt i)), (2, .ref (ad8 0)), (1, .ref (ad7 0)), (0, .ref b)]
/-- what is not 0 is 1 -/
noncomputable def ybq (x : Int) : Int := if Int32.ofInt x = 0 then 0 else 1
theorem ybq_r {x : Int} : 0 ≤ ybq x ∧ ybq x ≤ 1 := by
  unfold ybq
  by_cases h : Int32.ofInt x = 0
  · rw [if_pos h]; decide
  · rw [if_neg h]; decide
theorem ybq_I {x : Int} : yI (ybq x) := by
  have := ybq_r (x := x)
  unfold yI
  omega
section YLS
variable {p : Program} {l : Launch} {e : Env} {R : Room} {s : State} {m : MethodId} {args : Array Value} {below : List Frame} {meth : Method} {c : Code} {cells slots : Nat} {Q : State → Prop} {cc : ByteArray} {pc : Nat} {ls : Array Slot} {H H0 : Heap} {locs : List Loc} {rest : List Value} {A : Nat → Prop}
theorem yl_ld (hx : p.tables.exec = Jvm.exec) (hb : c.code = cc) {b L : Nat} {xs : Nat → Int32} (hX : va_X b L xs s H0) (hbl : b < H0.size) (hbA : ¬ A b) (hS : va_S A H0 H locs) {x : Int} (h0 : 0 ≤ x) (h1 : x + 1 ≤ (L : Int)) (hL : L ≤ 320) (hdg : decode cc pc = .ok (.iaload, 1)) (k : W p l e R s m args below meth c H locs cells slots Q (F0 m (pc + 1) ls (.int (Int32.ofInt (xs x.toNat).toInt) :: rest))) : W p l e R s m args below meth c H locs cells slots Q (F0 m pc ls (.int (Int32.ofInt x) :: .ref b :: rest)) := by
  obtain ⟨g1, g2⟩ := zq_idx (k := x) (m := L) h0 h1 (by omega)
  refine va_sld hx hb hX hbl hbA hS g1 hdg ?_
  rw [g2]
  rw [Int32.ofInt_toInt] at k
  exact k
theorem yl_bool (hx : p.tables.exec = Jvm.exec) (hb : c.code = cc) {x : Int} (d0 : decode cc pc = .ok (.ifCond .eq 7, 3)) (d1 : decode cc (pc + 3) = .ok (.iconst 1, 1)) (d2 : decode cc (pc + 4) = .ok (.goto 4, 3)) (d3 : decode cc (pc + 7) = .ok (.iconst 0, 1)) (k : W p l e R s m args below meth c H locs cells slots Q (F0 m (pc + 8) ls (.int (Int32.ofInt (ybq x)) :: rest))) : W p l e R s m args below meth c H locs cells slots Q (F0 m pc ls (.int (Int32.ofInt x) :: rest)) := by
  unfold ybq at k
  refine lv_if_eq (tgt := pc + 7) hx hb d0 (by omega) (fun h => ?_) (fun h => ?_)
  · rw [if_pos h] at k
    refine lv_iconst (v := Int32.ofInt 0) hx hb d3 (by decide) ?_
    exact k
  · rw [if_neg h] at k
    refine lv_iconst (v := Int32.ofInt 1) hx hb d1 (by decide) ?_
    refine lv_goto (tgt := pc + 8) hx hb d2 (by omega) ?_
    exact k
theorem yl_lcmp (hx : p.tables.exec = Jvm.exec) (hb : c.code = cc) {x : Int64} (hdg : decode cc pc = .ok (.lcmp, 1)) (k : W p l e R s m args below meth c H locs cells slots Q (F0 m (pc + 1) ls (.int (Int32.ofInt 0) :: rest))) : W p l e R s m args below meth c H locs cells slots Q (F0 m pc ls (.long x :: .long x :: rest)) := by
  refine W.lcmp hx hb hdg ?_
  obtain ⟨z, hz, -, -, h3⟩ := zlg_cmp x x
  have e : z = 0 := (h3 .eq).mpr rfl
  rw [hz, e]
  exact k
end YLS
/-- the start of both -/
theorem yRR_0 {τ : yS} (T : y8T τ) : yRR y7S τ := by
  obtain ⟨t0, t1, t2, t3, t4, t5, t6, t7, t8⟩ := T
  have z : ∀ a b : Nat, 18 ≤ a → a < 38 → y7S.1 a b = 0 := fun a b h1 h2 => by
    have q : ∀ i : Fin 20, ∀ b : Nat, y7S.1 (18 + i.val) b = 0 := fun i b => by
      match i with
      | ⟨0, _⟩ => rfl
      | ⟨1, _⟩ => rfl
      | ⟨2, _⟩ => rfl
      | ⟨3, _⟩ => rfl
      | ⟨4, _⟩ => rfl
      | ⟨5, _⟩ => rfl
      | ⟨6, _⟩ => rfl
      | ⟨7, _⟩ => rfl
      | ⟨8, _⟩ => rfl
      | ⟨9, _⟩ => rfl
      | ⟨10, _⟩ => rfl
      | ⟨11, _⟩ => rfl
      | ⟨12, _⟩ => rfl
      | ⟨13, _⟩ => rfl
      | ⟨14, _⟩ => rfl
      | ⟨15, _⟩ => rfl
      | ⟨16, _⟩ => rfl
      | ⟨17, _⟩ => rfl
      | ⟨18, _⟩ => rfl
      | ⟨19, _⟩ => rfl
      | ⟨n + 20, h⟩ => omega
    have w := q ⟨a - 18, by omega⟩ b
    dsimp only at w
    rw [show 18 + (a - 18) = a by omega] at w
    exact w
  have r11 : y7S.2 17 11 = 25 := rfl
  refine ⟨⟨⟨by decide, by decide, ?_, fun j hj => ?_⟩, ?_, ⟨?_, ?_, ?_, ?_, ?_, ?_, fun d hd => ?_⟩, ⟨fun i hi => ⟨?_, ?_, ?_, ?_, ?_, ?_⟩, fun j hj => ?_, ⟨?_, fun i hi => ?_⟩, ⟨?_, fun i hi => ?_⟩, ⟨?_, ?_, ?_, ?_⟩, Or.inl ⟨rfl, rfl⟩⟩, ⟨by decide, fun i hi => ?_, ?_, fun i hi => ?_, ?_, fun i hi => ?_, ?_⟩⟩, ⟨fun j hj => ?_, fun i hi q => ?_, fun i hi q => ?_⟩, by decide, fun k hk => ⟨?_, ?_, ?_, ?_, fun q => ?_⟩, fun k hk q => ?_, fun k hk => ⟨?_, Or.inl ⟨?_, t8 k hk⟩⟩, Or.inl ⟨rfl, rfl⟩⟩
  all_goals try dsimp only
  · rw [t0]; decide
  · exact absurd hj (by show ¬ (j : Int) < 0; omega)
  · rw [t1]; decide
  · rw [t2]; decide
  · rw [t3]; decide
  · rw [t4]; decide
  · rw [t2]; decide
  · rw [t3]; decide
  · rw [t4]; decide
  · rw [t4] at hd; omega
  · rw [z _ _ (by omega) (by omega), t5 _ (by omega)]
  · rw [z _ _ (by omega) (by omega), t5 _ (by omega)]
  · rw [t5 _ (by omega)]; exact ybit0 i hi
  · rw [z _ _ (by omega) (by omega), t5 _ (by omega)]
  · rw [z _ _ (by omega) (by omega), t5 _ (by omega)]
  · rw [z _ _ (by omega) (by omega), t5 _ (by omega)]
  · rw [z _ _ (by omega) (by omega), t5 _ (by omega)]
  · rw [r11, z _ _ (by omega) (by omega), t5 _ (by omega)]
  · dsimp only at hi
    rw [t5 77 (by omega)] at hi; omega
  · rw [z _ _ (by omega) (by omega), t5 _ (by omega)]
  · dsimp only at hi
    rw [t5 118 (by omega)] at hi; omega
  · rw [t5 _ (by omega)]; decide
  · rw [t5 _ (by omega)]; decide
  · rw [t5 _ (by omega)]; decide
  · rw [t5 _ (by omega)]; decide
  · rw [t5 _ (by omega), t5 _ (by omega), t5 _ (by omega), t5 _ (by omega), t5 _ (by omega)]; decide
  · rw [t5 _ (by omega)]; decide
  · dsimp only at hi
    rw [t5 77 (by omega)] at hi; omega
  · rw [t5 _ (by omega)]; decide
  · dsimp only at hi
    rw [t5 118 (by omega)] at hi; omega
  · rw [t5 _ (by omega)]; decide
  · rw [t5 _ (by omega)]; decide
  · dsimp only at q
    exact absurd (t5 _ (by omega)) q
  · rw [t5 _ (by omega)]
  · have : k = 0 ∨ k = 1 := by omega
    rcases this with rfl | rfl <;> rfl
  · have : k = 0 ∨ k = 1 := by omega
    rcases this with rfl | rfl <;> exact Or.inl ⟨rfl, rfl⟩
  · have : k = 0 ∨ k = 1 := by omega
    rcases this with rfl | rfl
    · rw [t6]; decide
    · rw [t7]; decide
  · have : k = 0 ∨ k = 1 := by omega
    rcases this with rfl | rfl
    · rw [t6]; exact ybit0 0 (by decide)
    · rw [t7]; exact ybit0 1 (by decide)
  · have : k = 0 ∨ k = 1 := by omega
    rcases this with rfl | rfl
    · rw [t6] at q; exact absurd q (by decide)
    · rw [t7] at q; exact absurd q (by decide)
  · have : k = 0 ∨ k = 1 := by omega
    rcases this with rfl | rfl
    · rw [t6] at q; exact absurd q (by decide)
    · rw [t7] at q; exact absurd q (by decide)
  · have : k = 0 ∨ k = 1 ∨ k = 2 ∨ k = 3 := by omega
    rcases this with rfl | rfl | rfl | rfl <;> rfl
  · have : k = 0 ∨ k = 1 ∨ k = 2 ∨ k = 3 := by omega
    rcases this with rfl | rfl | rfl | rfl <;> rfl
