section
/-- what is fixed while the law runs -/
def zLc (p : Program) (s : State) (m : MethodId) (c : Code) (b L : Nat) (xs : Nat → Int32) (D : va_G) (kA : Nat → ClassId) : Prop :=
  p.tables.exec = Jvm.exec ∧ c.code = code ∧ c.maxLocals = 4 ∧ s.vm.findClass RL = some m.cls ∧ (∀ w ∈ wsL_law, w.before #[Value.ref b] s = true) ∧ va_X b L xs s s.heap ∧ b < s.heap.size ∧ va_K D vwCl (ztys kA) s ∧ zX (fun q => s.heap.size ≤ q) s s.heap ∧ L ≤ 320
/-- both objects stand, and show the same -/
def yLi (s : State) (b : Nat) (D : va_G) (kA : Nat → ClassId) (ad7 ad8 : Nat → Nat) (i : Int) (σ τ : yS) (H : Heap) (locs : List Loc) (ls : Array Slot) : Prop :=
  yokS yct ysh7 σ ∧ yokS yct ysh8 τ ∧ yRR σ τ ∧ va_P D vwCl (yws yct kA ad7 ysh7 σ ++ yws yct kA ad8 ysh8 τ) H ∧ va_D (fun q => s.heap.size ≤ q) (yws yct kA ad7 ysh7 σ ++ yws yct kA ad8 ysh8 τ) ∧ va_S (fun q => s.heap.size ≤ q) s.heap H locs ∧ lv_has ls 4 [(3, .int (Int32.ofInt i)), (2, .ref (ad8 0)), (1, .ref (ad7 0)), (0, .ref b)]
/-- what is not 0 is 1 -/
noncomputable def ybq (x : Int) : Int := if Int32.ofInt x = 0 then 0 else 1
theorem ybq_r {x : Int} : 0 ≤ ybq x ∧ ybq x ≤ 1 := by
  unfold ybq
  by_cases h : Int32.ofInt x = 0
  · rw [if_pos h]; decide
  · rw [if_neg h]; decide
theorem ybq_I {x : Int} : yI (ybq x) := by
  have := ybq_r (x := x)
  unfold yI
  omega
section YLS
variable {p : Program} {l : Launch} {e : Env} {R : Room} {s : State} {m : MethodId} {args : Array Value} {below : List Frame} {meth : Method} {c : Code} {cells slots : Nat} {Q : State → Prop} {cc : ByteArray} {pc : Nat} {ls : Array Slot} {H H0 : Heap} {locs : List Loc} {rest : List Value} {A : Nat → Prop}
theorem yl_ld (hx : p.tables.exec = Jvm.exec) (hb : c.code = cc) {b L : Nat} {xs : Nat → Int32} (hX : va_X b L xs s H0) (hbl : b < H0.size) (hbA : ¬ A b) (hS : va_S A H0 H locs) {x : Int} (h0 : 0 ≤ x) (h1 : x + 1 ≤ (L : Int)) (hL : L ≤ 320) (hdg : decode cc pc = .ok (.iaload, 1)) (k : W p l e R s m args below meth c H locs cells slots Q (F0 m (pc + 1) ls (.int (Int32.ofInt (xs x.toNat).toInt) :: rest))) : W p l e R s m args below meth c H locs cells slots Q (F0 m pc ls (.int (Int32.ofInt x) :: .ref b :: rest)) := by
  obtain ⟨g1, g2⟩ := zq_idx (k := x) (m := L) h0 h1 (by omega)
  refine va_sld hx hb hX hbl hbA hS g1 hdg ?_
  rw [g2]
  rw [Int32.ofInt_toInt] at k
  exact k
theorem yl_bool (hx : p.tables.exec = Jvm.exec) (hb : c.code = cc) {x : Int} (d0 : decode cc pc = .ok (.ifCond .eq 7, 3)) (d1 : decode cc (pc + 3) = .ok (.iconst 1, 1)) (d2 : decode cc (pc + 4) = .ok (.goto 4, 3)) (d3 : decode cc (pc + 7) = .ok (.iconst 0, 1)) (k : W p l e R s m args below meth c H locs cells slots Q (F0 m (pc + 8) ls (.int (Int32.ofInt (ybq x)) :: rest))) : W p l e R s m args below meth c H locs cells slots Q (F0 m pc ls (.int (Int32.ofInt x) :: rest)) := by
  unfold ybq at k
  refine lv_if_eq (tgt := pc + 7) hx hb d0 (by omega) (fun h => ?_) (fun h => ?_)
  · rw [if_pos h] at k
    refine lv_iconst (v := Int32.ofInt 0) hx hb d3 (by decide) ?_
    exact k
  · rw [if_neg h] at k
    refine lv_iconst (v := Int32.ofInt 1) hx hb d1 (by decide) ?_
    refine lv_goto (tgt := pc + 8) hx hb d2 (by omega) ?_
    exact k
theorem yl_lcmp (hx : p.tables.exec = Jvm.exec) (hb : c.code = cc) {x : Int64} (hdg : decode cc pc = .ok (.lcmp, 1)) (k : W p l e R s m args below meth c H locs cells slots Q (F0 m (pc + 1) ls (.int (Int32.ofInt 0) :: rest))) : W p l e R s m args below meth c H locs cells slots Q (F0 m pc ls (.long x :: .long x :: rest)) := by
  refine W.lcmp hx hb hdg ?_
  obtain ⟨z, hz, -, -, h3⟩ := zlg_cmp x x
  have e : z = 0 := (h3 .eq).mpr rfl
  rw [hz, e]
  exact k
end YLS
/-- the start of both -/
theorem yRR_0 {τ : yS} (T : y8T τ) : yRR y7S τ := by
  obtain ⟨t0, t1, t2, t3, t4, t5, t6, t7, t8⟩ := T
  have z : ∀ a b : Nat, 18 ≤ a → a < 38 → y7S.1 a b = 0 := fun a b h1 h2 => by
    have q : ∀ i : Fin 20, ∀ b : Nat, y7S.1 (18 + i.val) b = 0 := fun i b => by
      match i with
      | ⟨0, _⟩ => rfl
      | ⟨1, _⟩ => rfl
      | ⟨2, _⟩ => rfl
      | ⟨3, _⟩ => rfl
      | ⟨4, _⟩ => rfl
      | ⟨5, _⟩ => rfl
      | ⟨6, _⟩ => rfl
      | ⟨7, _⟩ => rfl
      | ⟨8, _⟩ => rfl
      | ⟨9, _⟩ => rfl
      | ⟨10, _⟩ => rfl
      | ⟨11, _⟩ => rfl
      | ⟨12, _⟩ => rfl
      | ⟨13, _⟩ => rfl
      | ⟨14, _⟩ => rfl
      | ⟨15, _⟩ => rfl
      | ⟨16, _⟩ => rfl
      | ⟨17, _⟩ => rfl
      | ⟨18, _⟩ => rfl
      | ⟨19, _⟩ => rfl
      | ⟨n + 20, h⟩ => omega
    have w := q ⟨a - 18, by omega⟩ b
    dsimp only at w
    rw [show 18 + (a - 18) = a by omega] at w
    exact w
  have r11 : y7S.2 17 11 = 25 := rfl
  refine ⟨⟨⟨by decide, by decide, ?_, fun j hj => ?_⟩, ?_, ⟨?_, ?_, ?_, ?_, ?_, ?_, fun d hd => ?_⟩, ⟨fun i hi => ⟨?_, ?_, ?_, ?_, ?_, ?_⟩, fun j hj => ?_, ⟨?_, fun i hi => ?_⟩, ⟨?_, fun i hi => ?_⟩, ⟨?_, ?_, ?_, ?_⟩, Or.inl ⟨rfl, rfl⟩⟩, ⟨by decide, fun i hi => ?_, ?_, fun i hi => ?_, ?_, fun i hi => ?_, ?_⟩⟩, ⟨fun j hj => ?_, fun i hi q => ?_, fun i hi q => ?_⟩, by decide, fun k hk => ⟨?_, ?_, ?_, ?_, fun q => ?_⟩, fun k hk q => ?_, fun k hk => ⟨?_, Or.inl ⟨?_, t8 k hk⟩⟩, Or.inl ⟨rfl, rfl⟩⟩
  all_goals try dsimp only
  · rw [t0]; decide
  · exact absurd hj (by show ¬ (j : Int) < 0; omega)
  · rw [t1]; decide
  · rw [t2]; decide
  · rw [t3]; decide
  · rw [t4]; decide
  · rw [t2]; decide
  · rw [t3]; decide
  · rw [t4]; decide
  · rw [t4] at hd; omega
  · rw [z _ _ (by omega) (by omega), t5 _ (by omega)]
  · rw [z _ _ (by omega) (by omega), t5 _ (by omega)]
  · rw [t5 _ (by omega)]; exact ybit0 i hi
  · rw [z _ _ (by omega) (by omega), t5 _ (by omega)]
  · rw [z _ _ (by omega) (by omega), t5 _ (by omega)]
  · rw [z _ _ (by omega) (by omega), t5 _ (by omega)]
  · rw [z _ _ (by omega) (by omega), t5 _ (by omega)]
  · rw [r11, z _ _ (by omega) (by omega), t5 _ (by omega)]
  · dsimp only at hi
    rw [t5 77 (by omega)] at hi; omega
  · rw [z _ _ (by omega) (by omega), t5 _ (by omega)]
  · dsimp only at hi
    rw [t5 118 (by omega)] at hi; omega
  · rw [t5 _ (by omega)]; decide
  · rw [t5 _ (by omega)]; decide
  · rw [t5 _ (by omega)]; decide
  · rw [t5 _ (by omega)]; decide
  · rw [t5 _ (by omega), t5 _ (by omega), t5 _ (by omega), t5 _ (by omega), t5 _ (by omega)]; decide
  · rw [t5 _ (by omega)]; decide
  · dsimp only at hi
    rw [t5 77 (by omega)] at hi; omega
  · rw [t5 _ (by omega)]; decide
  · dsimp only at hi
    rw [t5 118 (by omega)] at hi; omega
  · rw [t5 _ (by omega)]; decide
  · rw [t5 _ (by omega)]; decide
  · dsimp only at q
    exact absurd (t5 _ (by omega)) q
  · rw [t5 _ (by omega)]
  · have : k = 0 ∨ k = 1 := by omega
    rcases this with rfl | rfl <;> rfl
  · have : k = 0 ∨ k = 1 := by omega
    rcases this with rfl | rfl <;> exact Or.inl ⟨rfl, rfl⟩
  · have : k = 0 ∨ k = 1 := by omega
    rcases this with rfl | rfl
    · rw [t6]; decide
    · rw [t7]; decide
  · have : k = 0 ∨ k = 1 := by omega
    rcases this with rfl | rfl
    · rw [t6]; exact ybit0 0 (by decide)
    · rw [t7]; exact ybit0 1 (by decide)
  · have : k = 0 ∨ k = 1 := by omega
    rcases this with rfl | rfl
    · rw [t6] at q; exact absurd q (by decide)
    · rw [t7] at q; exact absurd q (by decide)
  · have : k = 0 ∨ k = 1 := by omega
    rcases this with rfl | rfl
    · rw [t6] at q; exact absurd q (by decide)
    · rw [t7] at q; exact absurd q (by decide)
  · have : k = 0 ∨ k = 1 ∨ k = 2 ∨ k = 3 := by omega
    rcases this with rfl | rfl | rfl | rfl <;> rfl
  · have : k = 0 ∨ k = 1 ∨ k = 2 ∨ k = 3 := by omega
    rcases this with rfl | rfl | rfl | rfl <;> rfl
end
section
noncomputable def pr_lc_feed : List (Nat × Instr × Nat) := [(192, .aload_n 1, 1), (193, .aload_n 0, 1), (194, .iload_n 3, 1), (195, .iconst 1, 1), (196, .iadd, 1), (197, .iaload, 1), (198, .invokevirtual 13, 3), (201, .pop, 1), (202, .aload_n 2, 1), (203, .aload_n 0, 1), (204, .iload_n 3, 1), (205, .iconst 1, 1), (206, .iadd, 1), (207, .iaload, 1), (208, .invokevirtual 17, 3), (211, .pop, 1), (212, .goto 1130, 3)]
set_option maxRecDepth 100000 in
theorem hp_lc_feed : pr_lc_feed.all (fun x => decide (decode code x.1 = .ok x.2)) = true := by decide +kernel
set_option maxHeartbeats 4000000 in
set_option maxRecDepth 100000 in
theorem lc_feed {N : Nat} (hN : 1000 ≤ N) {p : Program} {l : Launch} {e : Env} {s : State} {m : MethodId} {below : List Frame} {meth : Method} {c : Code} {cells slots : Nat} {Q : State → Prop} {b L : Nat} {xs : Nat → Int32} {D : va_G} {kA : Nat → ClassId} (hc : zLc p s m c b L xs D kA) {ad7 ad8 : Nat → Nat} {i : Int} {σ τ : yS} {H : Heap} {locs : List Loc} {ls : Array Slot} (hi : yLi s b D kA ad7 ad8 i σ τ H locs ls) (i0 : 0 ≤ i) (i1 : i + 5 ≤ (L : Int)) (hroom : cells ≤ room_1.cells ∧ slots ≤ room_1.slots)
    (kk : ∀ (σ τ : yS) (H : Heap) (locs : List Loc), yLi s b D kA ad7 ad8 i σ τ H locs ls → W p l e room_1 s m #[Value.ref b] below meth c H locs cells slots Q (F0 m 1342 ls [])) : W p l e room_1 s m #[Value.ref b] below meth c H locs cells slots Q (F0 m 192 ls []) := by
  obtain ⟨hx, hb, hml, hown, hts, hX, hbl, hK, hx0, hL⟩ := hc
  obtain ⟨o7, o8, hR, hP, hD, hS, hl⟩ := hi
  have hA : ∀ q : Nat, s.heap.size ≤ q → (fun q : Nat => s.heap.size ≤ q) q := fun _ h => h
  have hbA : ¬ (fun q : Nat => s.heap.size ≤ q) b := Nat.not_le.mpr hbl
  have hd := zpr_all hp_lc_feed
  obtain ⟨a7, σ', τ', h7, h8, hR'⟩ : ∃ (a7 : Int) (σ' τ' : yS), f_X7_feed N σ (xs (i + 1).toNat).toInt = some (a7, σ') ∧ f_X8_feed N τ (xs (i + 1).toNat).toInt = some (a7, τ') ∧ yRR σ' τ' := P_feed hR
  refine lv_aload_n hx hb (hd 192 (.aload_n 1) 1 rfl) rfl (lv_at hl 2 rfl) ?_
  refine lv_aload_n hx hb (hd 193 (.aload_n 0) 1 rfl) rfl (lv_at hl 3 rfl) ?_
  refine lv_iload_n hx hb (hd 194 (.iload_n 3) 1 rfl) rfl (lv_at hl 0 rfl) ?_
  refine lv_iconst (v := Int32.ofInt 1) hx hb (hd 195 (.iconst 1) 1 rfl) (by decide) ?_
  refine zh_iadd hx hb (hd 196 .iadd 1 rfl) ?_
  refine yl_ld hx hb hX hbl hbA hS (x := i + 1) (by omega) (by omega) hL (hd 197 .iaload 1 rfl) ?_
  refine ycallG (as := [.inl (.inl (xs (i + 1).toNat).toInt)]) (rest := []) zX_ok ⟨hx, hb, hml, hown, hts⟩ (m_X7_feed (N := N) zX_ok zX_n l) (ci := 7) rfl (cwV 1 hts gL_law_X7_feed rfl rfl rfl (by decide +kernel) ⟨Nat.le_of_ble_eq_true rfl, Nat.le_of_ble_eq_true rfl⟩) rfl hK o7 rfl (List.forall_mem_cons.mpr ⟨zq_rng _, fun _ h => absurd h List.not_mem_nil⟩) (e_X7_feed h7) hP hD hS hA hx0 hl.1 (Nat.le_of_ble_eq_true rfl) (hd 198 (.invokevirtual 13) 3 rfl) hroom (fun H locs o7 _ hP hD hS => ?_)
  show W p l e room_1 s m #[Value.ref b] below meth c H locs cells slots Q (F0 m 201 ls [.int (Int32.ofInt a7)])
  refine lv_pop hx hb (hd 201 .pop 1 rfl) rfl ?_
  refine lv_aload_n hx hb (hd 202 (.aload_n 2) 1 rfl) rfl (lv_at hl 1 rfl) ?_
  refine lv_aload_n hx hb (hd 203 (.aload_n 0) 1 rfl) rfl (lv_at hl 3 rfl) ?_
  refine lv_iload_n hx hb (hd 204 (.iload_n 3) 1 rfl) rfl (lv_at hl 0 rfl) ?_
  refine lv_iconst (v := Int32.ofInt 1) hx hb (hd 205 (.iconst 1) 1 rfl) (by decide) ?_
  refine zh_iadd hx hb (hd 206 .iadd 1 rfl) ?_
  refine yl_ld hx hb hX hbl hbA hS (x := i + 1) (by omega) (by omega) hL (hd 207 .iaload 1 rfl) ?_
  refine ycallG (as := [.inl (.inl (xs (i + 1).toNat).toInt)]) (rest := []) zX_ok ⟨hx, hb, hml, hown, hts⟩ (m_X8_feed (N := N) zX_ok zX_n l) (ci := 8) rfl (cwV 1 hts gL_law_X8_feed rfl rfl rfl (by decide +kernel) ⟨Nat.le_of_ble_eq_true rfl, Nat.le_of_ble_eq_true rfl⟩) rfl hK o8 rfl (List.forall_mem_cons.mpr ⟨zq_rng _, fun _ h => absurd h List.not_mem_nil⟩) (e_X8_feed h8) hP hD hS hA hx0 hl.1 (Nat.le_of_ble_eq_true rfl) (hd 208 (.invokevirtual 17) 3 rfl) hroom (fun H locs o8 _ hP hD hS => ?_)
  show W p l e room_1 s m #[Value.ref b] below meth c H locs cells slots Q (F0 m 211 ls [.int (Int32.ofInt a7)])
  refine lv_pop hx hb (hd 211 .pop 1 rfl) rfl ?_
  refine lv_goto (tgt := 1342) hx hb (hd 212 (.goto 1130) 3 rfl) (by decide) ?_
  exact kk σ' τ' H locs ⟨o7, o8, hR', hP, hD, hS, hl⟩
noncomputable def pr_lc_end : List (Nat × Instr × Nat) := [(215, .aload_n 1, 1), (216, .aload_n 0, 1), (217, .iload_n 3, 1), (218, .iconst 1, 1), (219, .iadd, 1), (220, .iaload, 1), (221, .invokevirtual 18, 3), (224, .pop, 1), (225, .aload_n 2, 1), (226, .aload_n 0, 1), (227, .iload_n 3, 1), (228, .iconst 1, 1), (229, .iadd, 1), (230, .iaload, 1), (231, .invokevirtual 21, 3), (234, .pop, 1), (235, .goto 1107, 3)]
set_option maxRecDepth 100000 in
theorem hp_lc_end : pr_lc_end.all (fun x => decide (decode code x.1 = .ok x.2)) = true := by decide +kernel
set_option maxHeartbeats 4000000 in
set_option maxRecDepth 100000 in
theorem lc_end {N : Nat} (hN : 1000 ≤ N) {p : Program} {l : Launch} {e : Env} {s : State} {m : MethodId} {below : List Frame} {meth : Method} {c : Code} {cells slots : Nat} {Q : State → Prop} {b L : Nat} {xs : Nat → Int32} {D : va_G} {kA : Nat → ClassId} (hc : zLc p s m c b L xs D kA) {ad7 ad8 : Nat → Nat} {i : Int} {σ τ : yS} {H : Heap} {locs : List Loc} {ls : Array Slot} (hi : yLi s b D kA ad7 ad8 i σ τ H locs ls) (i0 : 0 ≤ i) (i1 : i + 5 ≤ (L : Int)) (hroom : cells ≤ room_1.cells ∧ slots ≤ room_1.slots)
    (kk : ∀ (σ τ : yS) (H : Heap) (locs : List Loc), yLi s b D kA ad7 ad8 i σ τ H locs ls → W p l e room_1 s m #[Value.ref b] below meth c H locs cells slots Q (F0 m 1342 ls [])) : W p l e room_1 s m #[Value.ref b] below meth c H locs cells slots Q (F0 m 215 ls []) := by
  obtain ⟨hx, hb, hml, hown, hts, hX, hbl, hK, hx0, hL⟩ := hc
  obtain ⟨o7, o8, hR, hP, hD, hS, hl⟩ := hi
  have hA : ∀ q : Nat, s.heap.size ≤ q → (fun q : Nat => s.heap.size ≤ q) q := fun _ h => h
  have hbA : ¬ (fun q : Nat => s.heap.size ≤ q) b := Nat.not_le.mpr hbl
  have hd := zpr_all hp_lc_end
  obtain ⟨a7, σ', τ', h7, h8, hR'⟩ : ∃ (a7 : Int) (σ' τ' : yS), f_X7_end N σ (xs (i + 1).toNat).toInt = some (a7, σ') ∧ f_X8_end N τ (xs (i + 1).toNat).toInt = some (a7, τ') ∧ yRR σ' τ' := P_end hR
  refine lv_aload_n hx hb (hd 215 (.aload_n 1) 1 rfl) rfl (lv_at hl 2 rfl) ?_
  refine lv_aload_n hx hb (hd 216 (.aload_n 0) 1 rfl) rfl (lv_at hl 3 rfl) ?_
  refine lv_iload_n hx hb (hd 217 (.iload_n 3) 1 rfl) rfl (lv_at hl 0 rfl) ?_
  refine lv_iconst (v := Int32.ofInt 1) hx hb (hd 218 (.iconst 1) 1 rfl) (by decide) ?_
  refine zh_iadd hx hb (hd 219 .iadd 1 rfl) ?_
  refine yl_ld hx hb hX hbl hbA hS (x := i + 1) (by omega) (by omega) hL (hd 220 .iaload 1 rfl) ?_
  refine ycallG (as := [.inl (.inl (xs (i + 1).toNat).toInt)]) (rest := []) zX_ok ⟨hx, hb, hml, hown, hts⟩ (m_X7_end (N := N) zX_ok zX_n l) (ci := 7) rfl (cwV 1 hts gL_law_X7_end rfl rfl rfl (by decide +kernel) ⟨Nat.le_of_ble_eq_true rfl, Nat.le_of_ble_eq_true rfl⟩) rfl hK o7 rfl (List.forall_mem_cons.mpr ⟨zq_rng _, fun _ h => absurd h List.not_mem_nil⟩) (e_X7_end h7) hP hD hS hA hx0 hl.1 (Nat.le_of_ble_eq_true rfl) (hd 221 (.invokevirtual 18) 3 rfl) hroom (fun H locs o7 _ hP hD hS => ?_)
  show W p l e room_1 s m #[Value.ref b] below meth c H locs cells slots Q (F0 m 224 ls [.int (Int32.ofInt a7)])
  refine lv_pop hx hb (hd 224 .pop 1 rfl) rfl ?_
  refine lv_aload_n hx hb (hd 225 (.aload_n 2) 1 rfl) rfl (lv_at hl 1 rfl) ?_
  refine lv_aload_n hx hb (hd 226 (.aload_n 0) 1 rfl) rfl (lv_at hl 3 rfl) ?_
  refine lv_iload_n hx hb (hd 227 (.iload_n 3) 1 rfl) rfl (lv_at hl 0 rfl) ?_
  refine lv_iconst (v := Int32.ofInt 1) hx hb (hd 228 (.iconst 1) 1 rfl) (by decide) ?_
  refine zh_iadd hx hb (hd 229 .iadd 1 rfl) ?_
  refine yl_ld hx hb hX hbl hbA hS (x := i + 1) (by omega) (by omega) hL (hd 230 .iaload 1 rfl) ?_
  refine ycallG (as := [.inl (.inl (xs (i + 1).toNat).toInt)]) (rest := []) zX_ok ⟨hx, hb, hml, hown, hts⟩ (m_X8_end (N := N) zX_ok zX_n l) (ci := 8) rfl (cwV 1 hts gL_law_X8_end rfl rfl rfl (by decide +kernel) ⟨Nat.le_of_ble_eq_true rfl, Nat.le_of_ble_eq_true rfl⟩) rfl hK o8 rfl (List.forall_mem_cons.mpr ⟨zq_rng _, fun _ h => absurd h List.not_mem_nil⟩) (e_X8_end h8) hP hD hS hA hx0 hl.1 (Nat.le_of_ble_eq_true rfl) (hd 231 (.invokevirtual 21) 3 rfl) hroom (fun H locs o8 _ hP hD hS => ?_)
  show W p l e room_1 s m #[Value.ref b] below meth c H locs cells slots Q (F0 m 234 ls [.int (Int32.ofInt a7)])
  refine lv_pop hx hb (hd 234 .pop 1 rfl) rfl ?_
  refine lv_goto (tgt := 1342) hx hb (hd 235 (.goto 1107) 3 rfl) (by decide) ?_
  exact kk σ' τ' H locs ⟨o7, o8, hR', hP, hD, hS, hl⟩
noncomputable def pr_lc_text : List (Nat × Instr × Nat) := [(238, .aload_n 1, 1), (239, .invokevirtual 22, 3), (242, .pop, 1), (243, .aload_n 2, 1), (244, .invokevirtual 26, 3), (247, .pop, 1), (248, .goto 1094, 3)]
set_option maxRecDepth 100000 in
theorem hp_lc_text : pr_lc_text.all (fun x => decide (decode code x.1 = .ok x.2)) = true := by decide +kernel
set_option maxHeartbeats 4000000 in
set_option maxRecDepth 100000 in
theorem lc_text {N : Nat} (hN : 1000 ≤ N) {p : Program} {l : Launch} {e : Env} {s : State} {m : MethodId} {below : List Frame} {meth : Method} {c : Code} {cells slots : Nat} {Q : State → Prop} {b L : Nat} {xs : Nat → Int32} {D : va_G} {kA : Nat → ClassId} (hc : zLc p s m c b L xs D kA) {ad7 ad8 : Nat → Nat} {i : Int} {σ τ : yS} {H : Heap} {locs : List Loc} {ls : Array Slot} (hi : yLi s b D kA ad7 ad8 i σ τ H locs ls) (i0 : 0 ≤ i) (i1 : i + 5 ≤ (L : Int)) (hroom : cells ≤ room_1.cells ∧ slots ≤ room_1.slots)
    (kk : ∀ (σ τ : yS) (H : Heap) (locs : List Loc), yLi s b D kA ad7 ad8 i σ τ H locs ls → W p l e room_1 s m #[Value.ref b] below meth c H locs cells slots Q (F0 m 1342 ls [])) : W p l e room_1 s m #[Value.ref b] below meth c H locs cells slots Q (F0 m 238 ls []) := by
  obtain ⟨hx, hb, hml, hown, hts, hX, hbl, hK, hx0, hL⟩ := hc
  obtain ⟨o7, o8, hR, hP, hD, hS, hl⟩ := hi
  have hA : ∀ q : Nat, s.heap.size ≤ q → (fun q : Nat => s.heap.size ≤ q) q := fun _ h => h
  have hbA : ¬ (fun q : Nat => s.heap.size ≤ q) b := Nat.not_le.mpr hbl
  have hd := zpr_all hp_lc_text
  obtain ⟨a7, σ', τ', h7, h8, hR'⟩ : ∃ (a7 : Int) (σ' τ' : yS), f_X7_text N σ = some (a7, σ') ∧ f_X8_text N τ = some (a7, τ') ∧ yRR σ' τ' := P_text (by omega) hR
  refine lv_aload_n hx hb (hd 238 (.aload_n 1) 1 rfl) rfl (lv_at hl 2 rfl) ?_
  refine ycallG (as := []) (rest := []) zX_ok ⟨hx, hb, hml, hown, hts⟩ (m_X7_text (N := N) zX_ok zX_n zX_s l ysh7_R) (ci := 7) rfl (cwV 0 hts gL_law_X7_text rfl rfl rfl (by decide +kernel) ⟨Nat.le_of_ble_eq_true rfl, Nat.le_of_ble_eq_true rfl⟩) rfl hK o7 rfl (fun _ h => absurd h List.not_mem_nil) (e_X7_text h7) hP hD hS hA hx0 hl.1 (Nat.le_of_ble_eq_true rfl) (hd 239 (.invokevirtual 22) 3 rfl) hroom (fun H locs o7 _ hP hD hS => ?_)
  show W p l e room_1 s m #[Value.ref b] below meth c H locs cells slots Q (F0 m 242 ls [.int (Int32.ofInt a7)])
  refine lv_pop hx hb (hd 242 .pop 1 rfl) rfl ?_
  refine lv_aload_n hx hb (hd 243 (.aload_n 2) 1 rfl) rfl (lv_at hl 1 rfl) ?_
  refine ycallG (as := []) (rest := []) zX_ok ⟨hx, hb, hml, hown, hts⟩ (m_X8_text (N := N) zX_ok zX_n l) (ci := 8) rfl (cwV 0 hts gL_law_X8_text rfl rfl rfl (by decide +kernel) ⟨Nat.le_of_ble_eq_true rfl, Nat.le_of_ble_eq_true rfl⟩) rfl hK o8 rfl (fun _ h => absurd h List.not_mem_nil) (e_X8_text h8) hP hD hS hA hx0 hl.1 (Nat.le_of_ble_eq_true rfl) (hd 244 (.invokevirtual 26) 3 rfl) hroom (fun H locs o8 _ hP hD hS => ?_)
  show W p l e room_1 s m #[Value.ref b] below meth c H locs cells slots Q (F0 m 247 ls [.int (Int32.ofInt a7)])
  refine lv_pop hx hb (hd 247 .pop 1 rfl) rfl ?_
  refine lv_goto (tgt := 1342) hx hb (hd 248 (.goto 1094) 3 rfl) (by decide) ?_
  exact kk σ' τ' H locs ⟨o7, o8, hR', hP, hD, hS, hl⟩
noncomputable def pr_lc_fault : List (Nat × Instr × Nat) := [(251, .aload_n 1, 1), (252, .invokevirtual 27, 3), (255, .pop, 1), (256, .aload_n 2, 1), (257, .invokevirtual 30, 3), (260, .pop, 1), (261, .goto 1081, 3)]
set_option maxRecDepth 100000 in
theorem hp_lc_fault : pr_lc_fault.all (fun x => decide (decode code x.1 = .ok x.2)) = true := by decide +kernel
set_option maxHeartbeats 4000000 in
set_option maxRecDepth 100000 in
theorem lc_fault {N : Nat} (hN : 1000 ≤ N) {p : Program} {l : Launch} {e : Env} {s : State} {m : MethodId} {below : List Frame} {meth : Method} {c : Code} {cells slots : Nat} {Q : State → Prop} {b L : Nat} {xs : Nat → Int32} {D : va_G} {kA : Nat → ClassId} (hc : zLc p s m c b L xs D kA) {ad7 ad8 : Nat → Nat} {i : Int} {σ τ : yS} {H : Heap} {locs : List Loc} {ls : Array Slot} (hi : yLi s b D kA ad7 ad8 i σ τ H locs ls) (i0 : 0 ≤ i) (i1 : i + 5 ≤ (L : Int)) (hroom : cells ≤ room_1.cells ∧ slots ≤ room_1.slots)
    (kk : ∀ (σ τ : yS) (H : Heap) (locs : List Loc), yLi s b D kA ad7 ad8 i σ τ H locs ls → W p l e room_1 s m #[Value.ref b] below meth c H locs cells slots Q (F0 m 1342 ls [])) : W p l e room_1 s m #[Value.ref b] below meth c H locs cells slots Q (F0 m 251 ls []) := by
  obtain ⟨hx, hb, hml, hown, hts, hX, hbl, hK, hx0, hL⟩ := hc
  obtain ⟨o7, o8, hR, hP, hD, hS, hl⟩ := hi
  have hA : ∀ q : Nat, s.heap.size ≤ q → (fun q : Nat => s.heap.size ≤ q) q := fun _ h => h
  have hbA : ¬ (fun q : Nat => s.heap.size ≤ q) b := Nat.not_le.mpr hbl
  have hd := zpr_all hp_lc_fault
  obtain ⟨a7, σ', τ', h7, h8, hR'⟩ : ∃ (a7 : Int) (σ' τ' : yS), f_X7_fault N σ = some (a7, σ') ∧ f_X8_fault N τ = some (a7, τ') ∧ yRR σ' τ' := P_fault hR
  refine lv_aload_n hx hb (hd 251 (.aload_n 1) 1 rfl) rfl (lv_at hl 2 rfl) ?_
  refine ycallG (as := []) (rest := []) zX_ok ⟨hx, hb, hml, hown, hts⟩ (m_X7_fault (N := N) zX_ok zX_n l) (ci := 7) rfl (cwV 0 hts gL_law_X7_fault rfl rfl rfl (by decide +kernel) ⟨Nat.le_of_ble_eq_true rfl, Nat.le_of_ble_eq_true rfl⟩) rfl hK o7 rfl (fun _ h => absurd h List.not_mem_nil) (e_X7_fault h7) hP hD hS hA hx0 hl.1 (Nat.le_of_ble_eq_true rfl) (hd 252 (.invokevirtual 27) 3 rfl) hroom (fun H locs o7 _ hP hD hS => ?_)
  show W p l e room_1 s m #[Value.ref b] below meth c H locs cells slots Q (F0 m 255 ls [.int (Int32.ofInt a7)])
  refine lv_pop hx hb (hd 255 .pop 1 rfl) rfl ?_
  refine lv_aload_n hx hb (hd 256 (.aload_n 2) 1 rfl) rfl (lv_at hl 1 rfl) ?_
  refine ycallG (as := []) (rest := []) zX_ok ⟨hx, hb, hml, hown, hts⟩ (m_X8_fault (N := N) zX_ok zX_n l) (ci := 8) rfl (cwV 0 hts gL_law_X8_fault rfl rfl rfl (by decide +kernel) ⟨Nat.le_of_ble_eq_true rfl, Nat.le_of_ble_eq_true rfl⟩) rfl hK o8 rfl (fun _ h => absurd h List.not_mem_nil) (e_X8_fault h8) hP hD hS hA hx0 hl.1 (Nat.le_of_ble_eq_true rfl) (hd 257 (.invokevirtual 30) 3 rfl) hroom (fun H locs o8 _ hP hD hS => ?_)
  show W p l e room_1 s m #[Value.ref b] below meth c H locs cells slots Q (F0 m 260 ls [.int (Int32.ofInt a7)])
  refine lv_pop hx hb (hd 260 .pop 1 rfl) rfl ?_
  refine lv_goto (tgt := 1342) hx hb (hd 261 (.goto 1081) 3 rfl) (by decide) ?_
  exact kk σ' τ' H locs ⟨o7, o8, hR', hP, hD, hS, hl⟩
noncomputable def pr_lc_rule : List (Nat × Instr × Nat) := [(264, .aload_n 1, 1), (265, .aload_n 0, 1), (266, .iload_n 3, 1), (267, .iconst 1, 1), (268, .iadd, 1), (269, .iaload, 1), (270, .invokevirtual 31, 3), (273, .pop, 1), (274, .aload_n 2, 1), (275, .aload_n 0, 1), (276, .iload_n 3, 1), (277, .iconst 1, 1), (278, .iadd, 1), (279, .iaload, 1), (280, .invokevirtual 34, 3), (283, .pop, 1), (284, .goto 1058, 3)]
set_option maxRecDepth 100000 in
theorem hp_lc_rule : pr_lc_rule.all (fun x => decide (decode code x.1 = .ok x.2)) = true := by decide +kernel
set_option maxHeartbeats 4000000 in
set_option maxRecDepth 100000 in
theorem lc_rule {N : Nat} (hN : 1000 ≤ N) {p : Program} {l : Launch} {e : Env} {s : State} {m : MethodId} {below : List Frame} {meth : Method} {c : Code} {cells slots : Nat} {Q : State → Prop} {b L : Nat} {xs : Nat → Int32} {D : va_G} {kA : Nat → ClassId} (hc : zLc p s m c b L xs D kA) {ad7 ad8 : Nat → Nat} {i : Int} {σ τ : yS} {H : Heap} {locs : List Loc} {ls : Array Slot} (hi : yLi s b D kA ad7 ad8 i σ τ H locs ls) (i0 : 0 ≤ i) (i1 : i + 5 ≤ (L : Int)) (hroom : cells ≤ room_1.cells ∧ slots ≤ room_1.slots)
    (kk : ∀ (σ τ : yS) (H : Heap) (locs : List Loc), yLi s b D kA ad7 ad8 i σ τ H locs ls → W p l e room_1 s m #[Value.ref b] below meth c H locs cells slots Q (F0 m 1342 ls [])) : W p l e room_1 s m #[Value.ref b] below meth c H locs cells slots Q (F0 m 264 ls []) := by
  obtain ⟨hx, hb, hml, hown, hts, hX, hbl, hK, hx0, hL⟩ := hc
  obtain ⟨o7, o8, hR, hP, hD, hS, hl⟩ := hi
  have hA : ∀ q : Nat, s.heap.size ≤ q → (fun q : Nat => s.heap.size ≤ q) q := fun _ h => h
  have hbA : ¬ (fun q : Nat => s.heap.size ≤ q) b := Nat.not_le.mpr hbl
  have hd := zpr_all hp_lc_rule
  obtain ⟨a7, σ', τ', h7, h8, hR'⟩ : ∃ (a7 : Int) (σ' τ' : yS), f_X7_rule N σ (xs (i + 1).toNat).toInt = some (a7, σ') ∧ f_X8_rule N τ (xs (i + 1).toNat).toInt = some (a7, τ') ∧ yRR σ' τ' := P_rule hR
  refine lv_aload_n hx hb (hd 264 (.aload_n 1) 1 rfl) rfl (lv_at hl 2 rfl) ?_
  refine lv_aload_n hx hb (hd 265 (.aload_n 0) 1 rfl) rfl (lv_at hl 3 rfl) ?_
  refine lv_iload_n hx hb (hd 266 (.iload_n 3) 1 rfl) rfl (lv_at hl 0 rfl) ?_
  refine lv_iconst (v := Int32.ofInt 1) hx hb (hd 267 (.iconst 1) 1 rfl) (by decide) ?_
  refine zh_iadd hx hb (hd 268 .iadd 1 rfl) ?_
  refine yl_ld hx hb hX hbl hbA hS (x := i + 1) (by omega) (by omega) hL (hd 269 .iaload 1 rfl) ?_
  refine ycallG (as := [.inl (.inl (xs (i + 1).toNat).toInt)]) (rest := []) zX_ok ⟨hx, hb, hml, hown, hts⟩ (m_X7_rule (N := N) zX_ok zX_n l) (ci := 7) rfl (cwV 1 hts gL_law_X7_rule rfl rfl rfl (by decide +kernel) ⟨Nat.le_of_ble_eq_true rfl, Nat.le_of_ble_eq_true rfl⟩) rfl hK o7 rfl (List.forall_mem_cons.mpr ⟨zq_rng _, fun _ h => absurd h List.not_mem_nil⟩) (e_X7_rule h7) hP hD hS hA hx0 hl.1 (Nat.le_of_ble_eq_true rfl) (hd 270 (.invokevirtual 31) 3 rfl) hroom (fun H locs o7 _ hP hD hS => ?_)
  show W p l e room_1 s m #[Value.ref b] below meth c H locs cells slots Q (F0 m 273 ls [.int (Int32.ofInt a7)])
  refine lv_pop hx hb (hd 273 .pop 1 rfl) rfl ?_
  refine lv_aload_n hx hb (hd 274 (.aload_n 2) 1 rfl) rfl (lv_at hl 1 rfl) ?_
  refine lv_aload_n hx hb (hd 275 (.aload_n 0) 1 rfl) rfl (lv_at hl 3 rfl) ?_
  refine lv_iload_n hx hb (hd 276 (.iload_n 3) 1 rfl) rfl (lv_at hl 0 rfl) ?_
  refine lv_iconst (v := Int32.ofInt 1) hx hb (hd 277 (.iconst 1) 1 rfl) (by decide) ?_
  refine zh_iadd hx hb (hd 278 .iadd 1 rfl) ?_
  refine yl_ld hx hb hX hbl hbA hS (x := i + 1) (by omega) (by omega) hL (hd 279 .iaload 1 rfl) ?_
  refine ycallG (as := [.inl (.inl (xs (i + 1).toNat).toInt)]) (rest := []) zX_ok ⟨hx, hb, hml, hown, hts⟩ (m_X8_rule (N := N) zX_ok zX_n l) (ci := 8) rfl (cwV 1 hts gL_law_X8_rule rfl rfl rfl (by decide +kernel) ⟨Nat.le_of_ble_eq_true rfl, Nat.le_of_ble_eq_true rfl⟩) rfl hK o8 rfl (List.forall_mem_cons.mpr ⟨zq_rng _, fun _ h => absurd h List.not_mem_nil⟩) (e_X8_rule h8) hP hD hS hA hx0 hl.1 (Nat.le_of_ble_eq_true rfl) (hd 280 (.invokevirtual 34) 3 rfl) hroom (fun H locs o8 _ hP hD hS => ?_)
  show W p l e room_1 s m #[Value.ref b] below meth c H locs cells slots Q (F0 m 283 ls [.int (Int32.ofInt a7)])
  refine lv_pop hx hb (hd 283 .pop 1 rfl) rfl ?_
  refine lv_goto (tgt := 1342) hx hb (hd 284 (.goto 1058) 3 rfl) (by decide) ?_
  exact kk σ' τ' H locs ⟨o7, o8, hR', hP, hD, hS, hl⟩
noncomputable def pr_lc_house : List (Nat × Instr × Nat) := [(287, .aload_n 1, 1), (288, .aload_n 0, 1), (289, .iload_n 3, 1), (290, .iconst 1, 1), (291, .iadd, 1), (292, .iaload, 1), (293, .aload_n 0, 1), (294, .iload_n 3, 1), (295, .iconst 2, 1), (296, .iadd, 1), (297, .iaload, 1), (298, .invokevirtual 35, 3), (301, .pop, 1), (302, .aload_n 2, 1), (303, .aload_n 0, 1), (304, .iload_n 3, 1), (305, .iconst 1, 1), (306, .iadd, 1), (307, .iaload, 1), (308, .aload_n 0, 1), (309, .iload_n 3, 1), (310, .iconst 2, 1), (311, .iadd, 1), (312, .iaload, 1), (313, .invokevirtual 39, 3), (316, .pop, 1), (317, .goto 1025, 3)]
set_option maxRecDepth 100000 in
theorem hp_lc_house : pr_lc_house.all (fun x => decide (decode code x.1 = .ok x.2)) = true := by decide +kernel
set_option maxHeartbeats 4000000 in
set_option maxRecDepth 100000 in
theorem lc_house {N : Nat} (hN : 1000 ≤ N) {p : Program} {l : Launch} {e : Env} {s : State} {m : MethodId} {below : List Frame} {meth : Method} {c : Code} {cells slots : Nat} {Q : State → Prop} {b L : Nat} {xs : Nat → Int32} {D : va_G} {kA : Nat → ClassId} (hc : zLc p s m c b L xs D kA) {ad7 ad8 : Nat → Nat} {i : Int} {σ τ : yS} {H : Heap} {locs : List Loc} {ls : Array Slot} (hi : yLi s b D kA ad7 ad8 i σ τ H locs ls) (i0 : 0 ≤ i) (i1 : i + 5 ≤ (L : Int)) (hroom : cells ≤ room_1.cells ∧ slots ≤ room_1.slots)
    (kk : ∀ (σ τ : yS) (H : Heap) (locs : List Loc), yLi s b D kA ad7 ad8 i σ τ H locs ls → W p l e room_1 s m #[Value.ref b] below meth c H locs cells slots Q (F0 m 1342 ls [])) : W p l e room_1 s m #[Value.ref b] below meth c H locs cells slots Q (F0 m 287 ls []) := by
  obtain ⟨hx, hb, hml, hown, hts, hX, hbl, hK, hx0, hL⟩ := hc
  obtain ⟨o7, o8, hR, hP, hD, hS, hl⟩ := hi
  have hA : ∀ q : Nat, s.heap.size ≤ q → (fun q : Nat => s.heap.size ≤ q) q := fun _ h => h
  have hbA : ¬ (fun q : Nat => s.heap.size ≤ q) b := Nat.not_le.mpr hbl
  have hd := zpr_all hp_lc_house
  obtain ⟨a7, σ', τ', h7, h8, hR'⟩ : ∃ (a7 : Int) (σ' τ' : yS), f_X7_house N σ (xs (i + 1).toNat).toInt (xs (i + 2).toNat).toInt = some (a7, σ') ∧ f_X8_house N τ (xs (i + 1).toNat).toInt (xs (i + 2).toNat).toInt = some (a7, τ') ∧ yRR σ' τ' := P_house (zq_rng _) hR
  refine lv_aload_n hx hb (hd 287 (.aload_n 1) 1 rfl) rfl (lv_at hl 2 rfl) ?_
  refine lv_aload_n hx hb (hd 288 (.aload_n 0) 1 rfl) rfl (lv_at hl 3 rfl) ?_
  refine lv_iload_n hx hb (hd 289 (.iload_n 3) 1 rfl) rfl (lv_at hl 0 rfl) ?_
  refine lv_iconst (v := Int32.ofInt 1) hx hb (hd 290 (.iconst 1) 1 rfl) (by decide) ?_
  refine zh_iadd hx hb (hd 291 .iadd 1 rfl) ?_
  refine yl_ld hx hb hX hbl hbA hS (x := i + 1) (by omega) (by omega) hL (hd 292 .iaload 1 rfl) ?_
  refine lv_aload_n hx hb (hd 293 (.aload_n 0) 1 rfl) rfl (lv_at hl 3 rfl) ?_
  refine lv_iload_n hx hb (hd 294 (.iload_n 3) 1 rfl) rfl (lv_at hl 0 rfl) ?_
  refine lv_iconst (v := Int32.ofInt 2) hx hb (hd 295 (.iconst 2) 1 rfl) (by decide) ?_
  refine zh_iadd hx hb (hd 296 .iadd 1 rfl) ?_
  refine yl_ld hx hb hX hbl hbA hS (x := i + 2) (by omega) (by omega) hL (hd 297 .iaload 1 rfl) ?_
  refine ycallG (as := [.inl (.inl (xs (i + 1).toNat).toInt), .inl (.inl (xs (i + 2).toNat).toInt)]) (rest := []) zX_ok ⟨hx, hb, hml, hown, hts⟩ (m_X7_house (N := N) zX_ok zX_n l) (ci := 7) rfl (cwV 2 hts gL_law_X7_house rfl rfl rfl (by decide +kernel) ⟨Nat.le_of_ble_eq_true rfl, Nat.le_of_ble_eq_true rfl⟩) rfl hK o7 rfl (List.forall_mem_cons.mpr ⟨zq_rng _, List.forall_mem_cons.mpr ⟨zq_rng _, fun _ h => absurd h List.not_mem_nil⟩⟩) (e_X7_house h7) hP hD hS hA hx0 hl.1 (Nat.le_of_ble_eq_true rfl) (hd 298 (.invokevirtual 35) 3 rfl) hroom (fun H locs o7 _ hP hD hS => ?_)
  show W p l e room_1 s m #[Value.ref b] below meth c H locs cells slots Q (F0 m 301 ls [.int (Int32.ofInt a7)])
  refine lv_pop hx hb (hd 301 .pop 1 rfl) rfl ?_
  refine lv_aload_n hx hb (hd 302 (.aload_n 2) 1 rfl) rfl (lv_at hl 1 rfl) ?_
  refine lv_aload_n hx hb (hd 303 (.aload_n 0) 1 rfl) rfl (lv_at hl 3 rfl) ?_
  refine lv_iload_n hx hb (hd 304 (.iload_n 3) 1 rfl) rfl (lv_at hl 0 rfl) ?_
  refine lv_iconst (v := Int32.ofInt 1) hx hb (hd 305 (.iconst 1) 1 rfl) (by decide) ?_
  refine zh_iadd hx hb (hd 306 .iadd 1 rfl) ?_
  refine yl_ld hx hb hX hbl hbA hS (x := i + 1) (by omega) (by omega) hL (hd 307 .iaload 1 rfl) ?_
  refine lv_aload_n hx hb (hd 308 (.aload_n 0) 1 rfl) rfl (lv_at hl 3 rfl) ?_
  refine lv_iload_n hx hb (hd 309 (.iload_n 3) 1 rfl) rfl (lv_at hl 0 rfl) ?_
  refine lv_iconst (v := Int32.ofInt 2) hx hb (hd 310 (.iconst 2) 1 rfl) (by decide) ?_
  refine zh_iadd hx hb (hd 311 .iadd 1 rfl) ?_
  refine yl_ld hx hb hX hbl hbA hS (x := i + 2) (by omega) (by omega) hL (hd 312 .iaload 1 rfl) ?_
  refine ycallG (as := [.inl (.inl (xs (i + 1).toNat).toInt), .inl (.inl (xs (i + 2).toNat).toInt)]) (rest := []) zX_ok ⟨hx, hb, hml, hown, hts⟩ (m_X8_house (N := N) zX_ok zX_n l) (ci := 8) rfl (cwV 2 hts gL_law_X8_house rfl rfl rfl (by decide +kernel) ⟨Nat.le_of_ble_eq_true rfl, Nat.le_of_ble_eq_true rfl⟩) rfl hK o8 rfl (List.forall_mem_cons.mpr ⟨zq_rng _, List.forall_mem_cons.mpr ⟨zq_rng _, fun _ h => absurd h List.not_mem_nil⟩⟩) (e_X8_house h8) hP hD hS hA hx0 hl.1 (Nat.le_of_ble_eq_true rfl) (hd 313 (.invokevirtual 39) 3 rfl) hroom (fun H locs o8 _ hP hD hS => ?_)
  show W p l e room_1 s m #[Value.ref b] below meth c H locs cells slots Q (F0 m 316 ls [.int (Int32.ofInt a7)])
  refine lv_pop hx hb (hd 316 .pop 1 rfl) rfl ?_
  refine lv_goto (tgt := 1342) hx hb (hd 317 (.goto 1025) 3 rfl) (by decide) ?_
  exact kk σ' τ' H locs ⟨o7, o8, hR', hP, hD, hS, hl⟩
noncomputable def pr_lc_cost : List (Nat × Instr × Nat) := [(320, .aload_n 1, 1), (321, .aload_n 0, 1), (322, .iload_n 3, 1), (323, .iconst 1, 1), (324, .iadd, 1), (325, .iaload, 1), (326, .invokevirtual 40, 3), (329, .pop, 1), (330, .aload_n 2, 1), (331, .aload_n 0, 1), (332, .iload_n 3, 1), (333, .iconst 1, 1), (334, .iadd, 1), (335, .iaload, 1), (336, .invokevirtual 43, 3), (339, .pop, 1), (340, .goto 1002, 3)]
set_option maxRecDepth 100000 in
theorem hp_lc_cost : pr_lc_cost.all (fun x => decide (decode code x.1 = .ok x.2)) = true := by decide +kernel
set_option maxHeartbeats 4000000 in
set_option maxRecDepth 100000 in
theorem lc_cost {N : Nat} (hN : 1000 ≤ N) {p : Program} {l : Launch} {e : Env} {s : State} {m : MethodId} {below : List Frame} {meth : Method} {c : Code} {cells slots : Nat} {Q : State → Prop} {b L : Nat} {xs : Nat → Int32} {D : va_G} {kA : Nat → ClassId} (hc : zLc p s m c b L xs D kA) {ad7 ad8 : Nat → Nat} {i : Int} {σ τ : yS} {H : Heap} {locs : List Loc} {ls : Array Slot} (hi : yLi s b D kA ad7 ad8 i σ τ H locs ls) (i0 : 0 ≤ i) (i1 : i + 5 ≤ (L : Int)) (hroom : cells ≤ room_1.cells ∧ slots ≤ room_1.slots)
    (kk : ∀ (σ τ : yS) (H : Heap) (locs : List Loc), yLi s b D kA ad7 ad8 i σ τ H locs ls → W p l e room_1 s m #[Value.ref b] below meth c H locs cells slots Q (F0 m 1342 ls [])) : W p l e room_1 s m #[Value.ref b] below meth c H locs cells slots Q (F0 m 320 ls []) := by
  obtain ⟨hx, hb, hml, hown, hts, hX, hbl, hK, hx0, hL⟩ := hc
  obtain ⟨o7, o8, hR, hP, hD, hS, hl⟩ := hi
  have hA : ∀ q : Nat, s.heap.size ≤ q → (fun q : Nat => s.heap.size ≤ q) q := fun _ h => h
  have hbA : ¬ (fun q : Nat => s.heap.size ≤ q) b := Nat.not_le.mpr hbl
  have hd := zpr_all hp_lc_cost
  obtain ⟨a7, σ', τ', h7, h8, hR'⟩ : ∃ (a7 : Int) (σ' τ' : yS), f_X7_cost N σ (xs (i + 1).toNat).toInt = some (a7, σ') ∧ f_X8_cost N τ (xs (i + 1).toNat).toInt = some (a7, τ') ∧ yRR σ' τ' := P_cost hR
  refine lv_aload_n hx hb (hd 320 (.aload_n 1) 1 rfl) rfl (lv_at hl 2 rfl) ?_
  refine lv_aload_n hx hb (hd 321 (.aload_n 0) 1 rfl) rfl (lv_at hl 3 rfl) ?_
  refine lv_iload_n hx hb (hd 322 (.iload_n 3) 1 rfl) rfl (lv_at hl 0 rfl) ?_
  refine lv_iconst (v := Int32.ofInt 1) hx hb (hd 323 (.iconst 1) 1 rfl) (by decide) ?_
  refine zh_iadd hx hb (hd 324 .iadd 1 rfl) ?_
  refine yl_ld hx hb hX hbl hbA hS (x := i + 1) (by omega) (by omega) hL (hd 325 .iaload 1 rfl) ?_
  refine ycallG (as := [.inl (.inl (xs (i + 1).toNat).toInt)]) (rest := []) zX_ok ⟨hx, hb, hml, hown, hts⟩ (m_X7_cost (N := N) zX_ok zX_n l) (ci := 7) rfl (cwV 1 hts gL_law_X7_cost rfl rfl rfl (by decide +kernel) ⟨Nat.le_of_ble_eq_true rfl, Nat.le_of_ble_eq_true rfl⟩) rfl hK o7 rfl (List.forall_mem_cons.mpr ⟨zq_rng _, fun _ h => absurd h List.not_mem_nil⟩) (e_X7_cost h7) hP hD hS hA hx0 hl.1 (Nat.le_of_ble_eq_true rfl) (hd 326 (.invokevirtual 40) 3 rfl) hroom (fun H locs o7 _ hP hD hS => ?_)
  show W p l e room_1 s m #[Value.ref b] below meth c H locs cells slots Q (F0 m 329 ls [.int (Int32.ofInt a7)])
  refine lv_pop hx hb (hd 329 .pop 1 rfl) rfl ?_
  refine lv_aload_n hx hb (hd 330 (.aload_n 2) 1 rfl) rfl (lv_at hl 1 rfl) ?_
  refine lv_aload_n hx hb (hd 331 (.aload_n 0) 1 rfl) rfl (lv_at hl 3 rfl) ?_
  refine lv_iload_n hx hb (hd 332 (.iload_n 3) 1 rfl) rfl (lv_at hl 0 rfl) ?_
  refine lv_iconst (v := Int32.ofInt 1) hx hb (hd 333 (.iconst 1) 1 rfl) (by decide) ?_
  refine zh_iadd hx hb (hd 334 .iadd 1 rfl) ?_
  refine yl_ld hx hb hX hbl hbA hS (x := i + 1) (by omega) (by omega) hL (hd 335 .iaload 1 rfl) ?_
  refine ycallG (as := [.inl (.inl (xs (i + 1).toNat).toInt)]) (rest := []) zX_ok ⟨hx, hb, hml, hown, hts⟩ (m_X8_cost (N := N) zX_ok zX_n l) (ci := 8) rfl (cwV 1 hts gL_law_X8_cost rfl rfl rfl (by decide +kernel) ⟨Nat.le_of_ble_eq_true rfl, Nat.le_of_ble_eq_true rfl⟩) rfl hK o8 rfl (List.forall_mem_cons.mpr ⟨zq_rng _, fun _ h => absurd h List.not_mem_nil⟩) (e_X8_cost h8) hP hD hS hA hx0 hl.1 (Nat.le_of_ble_eq_true rfl) (hd 336 (.invokevirtual 43) 3 rfl) hroom (fun H locs o8 _ hP hD hS => ?_)
  show W p l e room_1 s m #[Value.ref b] below meth c H locs cells slots Q (F0 m 339 ls [.int (Int32.ofInt a7)])
  refine lv_pop hx hb (hd 339 .pop 1 rfl) rfl ?_
  refine lv_goto (tgt := 1342) hx hb (hd 340 (.goto 1002) 3 rfl) (by decide) ?_
  exact kk σ' τ' H locs ⟨o7, o8, hR', hP, hD, hS, hl⟩
noncomputable def pr_lc_vow : List (Nat × Instr × Nat) := [(343, .aload_n 1, 1), (344, .aload_n 0, 1), (345, .iload_n 3, 1), (346, .iconst 1, 1), (347, .iadd, 1), (348, .iaload, 1), (349, .aload_n 0, 1), (350, .iload_n 3, 1), (351, .iconst 2, 1), (352, .iadd, 1), (353, .iaload, 1), (354, .invokevirtual 44, 3), (357, .pop, 1), (358, .aload_n 2, 1), (359, .aload_n 0, 1), (360, .iload_n 3, 1), (361, .iconst 1, 1), (362, .iadd, 1), (363, .iaload, 1), (364, .aload_n 0, 1), (365, .iload_n 3, 1), (366, .iconst 2, 1), (367, .iadd, 1), (368, .iaload, 1), (369, .invokevirtual 47, 3), (372, .pop, 1), (373, .goto 969, 3)]
set_option maxRecDepth 100000 in
theorem hp_lc_vow : pr_lc_vow.all (fun x => decide (decode code x.1 = .ok x.2)) = true := by decide +kernel
set_option maxHeartbeats 4000000 in
set_option maxRecDepth 100000 in
theorem lc_vow {N : Nat} (hN : 1000 ≤ N) {p : Program} {l : Launch} {e : Env} {s : State} {m : MethodId} {below : List Frame} {meth : Method} {c : Code} {cells slots : Nat} {Q : State → Prop} {b L : Nat} {xs : Nat → Int32} {D : va_G} {kA : Nat → ClassId} (hc : zLc p s m c b L xs D kA) {ad7 ad8 : Nat → Nat} {i : Int} {σ τ : yS} {H : Heap} {locs : List Loc} {ls : Array Slot} (hi : yLi s b D kA ad7 ad8 i σ τ H locs ls) (i0 : 0 ≤ i) (i1 : i + 5 ≤ (L : Int)) (hroom : cells ≤ room_1.cells ∧ slots ≤ room_1.slots)
    (kk : ∀ (σ τ : yS) (H : Heap) (locs : List Loc), yLi s b D kA ad7 ad8 i σ τ H locs ls → W p l e room_1 s m #[Value.ref b] below meth c H locs cells slots Q (F0 m 1342 ls [])) : W p l e room_1 s m #[Value.ref b] below meth c H locs cells slots Q (F0 m 343 ls []) := by
  obtain ⟨hx, hb, hml, hown, hts, hX, hbl, hK, hx0, hL⟩ := hc
  obtain ⟨o7, o8, hR, hP, hD, hS, hl⟩ := hi
  have hA : ∀ q : Nat, s.heap.size ≤ q → (fun q : Nat => s.heap.size ≤ q) q := fun _ h => h
  have hbA : ¬ (fun q : Nat => s.heap.size ≤ q) b := Nat.not_le.mpr hbl
  have hd := zpr_all hp_lc_vow
  obtain ⟨a7, σ', τ', h7, h8, hR'⟩ : ∃ (a7 : Int) (σ' τ' : yS), f_X7_vow N σ (xs (i + 1).toNat).toInt (xs (i + 2).toNat).toInt = some (a7, σ') ∧ f_X8_vow N τ (xs (i + 1).toNat).toInt (xs (i + 2).toNat).toInt = some (a7, τ') ∧ yRR σ' τ' := P_vow hR
  refine lv_aload_n hx hb (hd 343 (.aload_n 1) 1 rfl) rfl (lv_at hl 2 rfl) ?_
  refine lv_aload_n hx hb (hd 344 (.aload_n 0) 1 rfl) rfl (lv_at hl 3 rfl) ?_
  refine lv_iload_n hx hb (hd 345 (.iload_n 3) 1 rfl) rfl (lv_at hl 0 rfl) ?_
  refine lv_iconst (v := Int32.ofInt 1) hx hb (hd 346 (.iconst 1) 1 rfl) (by decide) ?_
  refine zh_iadd hx hb (hd 347 .iadd 1 rfl) ?_
  refine yl_ld hx hb hX hbl hbA hS (x := i + 1) (by omega) (by omega) hL (hd 348 .iaload 1 rfl) ?_
  refine lv_aload_n hx hb (hd 349 (.aload_n 0) 1 rfl) rfl (lv_at hl 3 rfl) ?_
  refine lv_iload_n hx hb (hd 350 (.iload_n 3) 1 rfl) rfl (lv_at hl 0 rfl) ?_
  refine lv_iconst (v := Int32.ofInt 2) hx hb (hd 351 (.iconst 2) 1 rfl) (by decide) ?_
  refine zh_iadd hx hb (hd 352 .iadd 1 rfl) ?_
  refine yl_ld hx hb hX hbl hbA hS (x := i + 2) (by omega) (by omega) hL (hd 353 .iaload 1 rfl) ?_
  refine ycallG (as := [.inl (.inl (xs (i + 1).toNat).toInt), .inl (.inl (xs (i + 2).toNat).toInt)]) (rest := []) zX_ok ⟨hx, hb, hml, hown, hts⟩ (m_X7_vow (N := N) zX_ok zX_n l) (ci := 7) rfl (cwV 2 hts gL_law_X7_vow rfl rfl rfl (by decide +kernel) ⟨Nat.le_of_ble_eq_true rfl, Nat.le_of_ble_eq_true rfl⟩) rfl hK o7 rfl (List.forall_mem_cons.mpr ⟨zq_rng _, List.forall_mem_cons.mpr ⟨zq_rng _, fun _ h => absurd h List.not_mem_nil⟩⟩) (e_X7_vow h7) hP hD hS hA hx0 hl.1 (Nat.le_of_ble_eq_true rfl) (hd 354 (.invokevirtual 44) 3 rfl) hroom (fun H locs o7 _ hP hD hS => ?_)
  show W p l e room_1 s m #[Value.ref b] below meth c H locs cells slots Q (F0 m 357 ls [.int (Int32.ofInt a7)])
  refine lv_pop hx hb (hd 357 .pop 1 rfl) rfl ?_
  refine lv_aload_n hx hb (hd 358 (.aload_n 2) 1 rfl) rfl (lv_at hl 1 rfl) ?_
  refine lv_aload_n hx hb (hd 359 (.aload_n 0) 1 rfl) rfl (lv_at hl 3 rfl) ?_
  refine lv_iload_n hx hb (hd 360 (.iload_n 3) 1 rfl) rfl (lv_at hl 0 rfl) ?_
  refine lv_iconst (v := Int32.ofInt 1) hx hb (hd 361 (.iconst 1) 1 rfl) (by decide) ?_
  refine zh_iadd hx hb (hd 362 .iadd 1 rfl) ?_
  refine yl_ld hx hb hX hbl hbA hS (x := i + 1) (by omega) (by omega) hL (hd 363 .iaload 1 rfl) ?_
  refine lv_aload_n hx hb (hd 364 (.aload_n 0) 1 rfl) rfl (lv_at hl 3 rfl) ?_
  refine lv_iload_n hx hb (hd 365 (.iload_n 3) 1 rfl) rfl (lv_at hl 0 rfl) ?_
  refine lv_iconst (v := Int32.ofInt 2) hx hb (hd 366 (.iconst 2) 1 rfl) (by decide) ?_
  refine zh_iadd hx hb (hd 367 .iadd 1 rfl) ?_
  refine yl_ld hx hb hX hbl hbA hS (x := i + 2) (by omega) (by omega) hL (hd 368 .iaload 1 rfl) ?_
  refine ycallG (as := [.inl (.inl (xs (i + 1).toNat).toInt), .inl (.inl (xs (i + 2).toNat).toInt)]) (rest := []) zX_ok ⟨hx, hb, hml, hown, hts⟩ (m_X8_vow (N := N) zX_ok zX_n l) (ci := 8) rfl (cwV 2 hts gL_law_X8_vow rfl rfl rfl (by decide +kernel) ⟨Nat.le_of_ble_eq_true rfl, Nat.le_of_ble_eq_true rfl⟩) rfl hK o8 rfl (List.forall_mem_cons.mpr ⟨zq_rng _, List.forall_mem_cons.mpr ⟨zq_rng _, fun _ h => absurd h List.not_mem_nil⟩⟩) (e_X8_vow h8) hP hD hS hA hx0 hl.1 (Nat.le_of_ble_eq_true rfl) (hd 369 (.invokevirtual 47) 3 rfl) hroom (fun H locs o8 _ hP hD hS => ?_)
  show W p l e room_1 s m #[Value.ref b] below meth c H locs cells slots Q (F0 m 372 ls [.int (Int32.ofInt a7)])
  refine lv_pop hx hb (hd 372 .pop 1 rfl) rfl ?_
  refine lv_goto (tgt := 1342) hx hb (hd 373 (.goto 969) 3 rfl) (by decide) ?_
  exact kk σ' τ' H locs ⟨o7, o8, hR', hP, hD, hS, hl⟩
noncomputable def pr_lc_want : List (Nat × Instr × Nat) := [(376, .aload_n 1, 1), (377, .aload_n 0, 1), (378, .iload_n 3, 1), (379, .iconst 1, 1), (380, .iadd, 1), (381, .iaload, 1), (382, .aload_n 0, 1), (383, .iload_n 3, 1), (384, .iconst 2, 1), (385, .iadd, 1), (386, .iaload, 1), (387, .invokevirtual 48, 3), (390, .pop, 1), (391, .aload_n 2, 1), (392, .aload_n 0, 1), (393, .iload_n 3, 1), (394, .iconst 1, 1), (395, .iadd, 1), (396, .iaload, 1), (397, .aload_n 0, 1), (398, .iload_n 3, 1), (399, .iconst 2, 1), (400, .iadd, 1), (401, .iaload, 1), (402, .invokevirtual 51, 3), (405, .pop, 1), (406, .goto 936, 3)]
set_option maxRecDepth 100000 in
theorem hp_lc_want : pr_lc_want.all (fun x => decide (decode code x.1 = .ok x.2)) = true := by decide +kernel
set_option maxHeartbeats 4000000 in
set_option maxRecDepth 100000 in
theorem lc_want {N : Nat} (hN : 1000 ≤ N) {p : Program} {l : Launch} {e : Env} {s : State} {m : MethodId} {below : List Frame} {meth : Method} {c : Code} {cells slots : Nat} {Q : State → Prop} {b L : Nat} {xs : Nat → Int32} {D : va_G} {kA : Nat → ClassId} (hc : zLc p s m c b L xs D kA) {ad7 ad8 : Nat → Nat} {i : Int} {σ τ : yS} {H : Heap} {locs : List Loc} {ls : Array Slot} (hi : yLi s b D kA ad7 ad8 i σ τ H locs ls) (i0 : 0 ≤ i) (i1 : i + 5 ≤ (L : Int)) (hroom : cells ≤ room_1.cells ∧ slots ≤ room_1.slots)
    (kk : ∀ (σ τ : yS) (H : Heap) (locs : List Loc), yLi s b D kA ad7 ad8 i σ τ H locs ls → W p l e room_1 s m #[Value.ref b] below meth c H locs cells slots Q (F0 m 1342 ls [])) : W p l e room_1 s m #[Value.ref b] below meth c H locs cells slots Q (F0 m 376 ls []) := by
  obtain ⟨hx, hb, hml, hown, hts, hX, hbl, hK, hx0, hL⟩ := hc
  obtain ⟨o7, o8, hR, hP, hD, hS, hl⟩ := hi
  have hA : ∀ q : Nat, s.heap.size ≤ q → (fun q : Nat => s.heap.size ≤ q) q := fun _ h => h
  have hbA : ¬ (fun q : Nat => s.heap.size ≤ q) b := Nat.not_le.mpr hbl
  have hd := zpr_all hp_lc_want
  obtain ⟨a7, σ', τ', h7, h8, hR'⟩ : ∃ (a7 : Int) (σ' τ' : yS), f_X7_want N σ (xs (i + 1).toNat).toInt (xs (i + 2).toNat).toInt = some (a7, σ') ∧ f_X8_want N τ (xs (i + 1).toNat).toInt (xs (i + 2).toNat).toInt = some (a7, τ') ∧ yRR σ' τ' := P_want hR
  refine lv_aload_n hx hb (hd 376 (.aload_n 1) 1 rfl) rfl (lv_at hl 2 rfl) ?_
  refine lv_aload_n hx hb (hd 377 (.aload_n 0) 1 rfl) rfl (lv_at hl 3 rfl) ?_
  refine lv_iload_n hx hb (hd 378 (.iload_n 3) 1 rfl) rfl (lv_at hl 0 rfl) ?_
  refine lv_iconst (v := Int32.ofInt 1) hx hb (hd 379 (.iconst 1) 1 rfl) (by decide) ?_
  refine zh_iadd hx hb (hd 380 .iadd 1 rfl) ?_
  refine yl_ld hx hb hX hbl hbA hS (x := i + 1) (by omega) (by omega) hL (hd 381 .iaload 1 rfl) ?_
  refine lv_aload_n hx hb (hd 382 (.aload_n 0) 1 rfl) rfl (lv_at hl 3 rfl) ?_
  refine lv_iload_n hx hb (hd 383 (.iload_n 3) 1 rfl) rfl (lv_at hl 0 rfl) ?_
  refine lv_iconst (v := Int32.ofInt 2) hx hb (hd 384 (.iconst 2) 1 rfl) (by decide) ?_
  refine zh_iadd hx hb (hd 385 .iadd 1 rfl) ?_
  refine yl_ld hx hb hX hbl hbA hS (x := i + 2) (by omega) (by omega) hL (hd 386 .iaload 1 rfl) ?_
  refine ycallG (as := [.inl (.inl (xs (i + 1).toNat).toInt), .inl (.inl (xs (i + 2).toNat).toInt)]) (rest := []) zX_ok ⟨hx, hb, hml, hown, hts⟩ (m_X7_want (N := N) zX_ok zX_n l) (ci := 7) rfl (cwV 2 hts gL_law_X7_want rfl rfl rfl (by decide +kernel) ⟨Nat.le_of_ble_eq_true rfl, Nat.le_of_ble_eq_true rfl⟩) rfl hK o7 rfl (List.forall_mem_cons.mpr ⟨zq_rng _, List.forall_mem_cons.mpr ⟨zq_rng _, fun _ h => absurd h List.not_mem_nil⟩⟩) (e_X7_want h7) hP hD hS hA hx0 hl.1 (Nat.le_of_ble_eq_true rfl) (hd 387 (.invokevirtual 48) 3 rfl) hroom (fun H locs o7 _ hP hD hS => ?_)
  show W p l e room_1 s m #[Value.ref b] below meth c H locs cells slots Q (F0 m 390 ls [.int (Int32.ofInt a7)])
  refine lv_pop hx hb (hd 390 .pop 1 rfl) rfl ?_
  refine lv_aload_n hx hb (hd 391 (.aload_n 2) 1 rfl) rfl (lv_at hl 1 rfl) ?_
  refine lv_aload_n hx hb (hd 392 (.aload_n 0) 1 rfl) rfl (lv_at hl 3 rfl) ?_
  refine lv_iload_n hx hb (hd 393 (.iload_n 3) 1 rfl) rfl (lv_at hl 0 rfl) ?_
  refine lv_iconst (v := Int32.ofInt 1) hx hb (hd 394 (.iconst 1) 1 rfl) (by decide) ?_
  refine zh_iadd hx hb (hd 395 .iadd 1 rfl) ?_
  refine yl_ld hx hb hX hbl hbA hS (x := i + 1) (by omega) (by omega) hL (hd 396 .iaload 1 rfl) ?_
  refine lv_aload_n hx hb (hd 397 (.aload_n 0) 1 rfl) rfl (lv_at hl 3 rfl) ?_
  refine lv_iload_n hx hb (hd 398 (.iload_n 3) 1 rfl) rfl (lv_at hl 0 rfl) ?_
  refine lv_iconst (v := Int32.ofInt 2) hx hb (hd 399 (.iconst 2) 1 rfl) (by decide) ?_
  refine zh_iadd hx hb (hd 400 .iadd 1 rfl) ?_
  refine yl_ld hx hb hX hbl hbA hS (x := i + 2) (by omega) (by omega) hL (hd 401 .iaload 1 rfl) ?_
  refine ycallG (as := [.inl (.inl (xs (i + 1).toNat).toInt), .inl (.inl (xs (i + 2).toNat).toInt)]) (rest := []) zX_ok ⟨hx, hb, hml, hown, hts⟩ (m_X8_want (N := N) zX_ok zX_n l) (ci := 8) rfl (cwV 2 hts gL_law_X8_want rfl rfl rfl (by decide +kernel) ⟨Nat.le_of_ble_eq_true rfl, Nat.le_of_ble_eq_true rfl⟩) rfl hK o8 rfl (List.forall_mem_cons.mpr ⟨zq_rng _, List.forall_mem_cons.mpr ⟨zq_rng _, fun _ h => absurd h List.not_mem_nil⟩⟩) (e_X8_want h8) hP hD hS hA hx0 hl.1 (Nat.le_of_ble_eq_true rfl) (hd 402 (.invokevirtual 51) 3 rfl) hroom (fun H locs o8 _ hP hD hS => ?_)
  show W p l e room_1 s m #[Value.ref b] below meth c H locs cells slots Q (F0 m 405 ls [.int (Int32.ofInt a7)])
  refine lv_pop hx hb (hd 405 .pop 1 rfl) rfl ?_
  refine lv_goto (tgt := 1342) hx hb (hd 406 (.goto 936) 3 rfl) (by decide) ?_
  exact kk σ' τ' H locs ⟨o7, o8, hR', hP, hD, hS, hl⟩
end
section
noncomputable def pr_lc_fund : List (Nat × Instr × Nat) := [(409, .aload_n 1, 1), (410, .aload_n 0, 1), (411, .iload_n 3, 1), (412, .iconst 1, 1), (413, .iadd, 1), (414, .iaload, 1), (415, .aload_n 0, 1), (416, .iload_n 3, 1), (417, .iconst 2, 1), (418, .iadd, 1), (419, .iaload, 1), (420, .invokevirtual 52, 3), (423, .pop, 1), (424, .aload_n 2, 1), (425, .aload_n 0, 1), (426, .iload_n 3, 1), (427, .iconst 1, 1), (428, .iadd, 1), (429, .iaload, 1), (430, .aload_n 0, 1), (431, .iload_n 3, 1), (432, .iconst 2, 1), (433, .iadd, 1), (434, .iaload, 1), (435, .invokevirtual 55, 3), (438, .pop, 1), (439, .goto 903, 3)]
set_option maxRecDepth 100000 in
theorem hp_lc_fund : pr_lc_fund.all (fun x => decide (decode code x.1 = .ok x.2)) = true := by decide +kernel
set_option maxHeartbeats 4000000 in
set_option maxRecDepth 100000 in
theorem lc_fund {N : Nat} (hN : 1000 ≤ N) {p : Program} {l : Launch} {e : Env} {s : State} {m : MethodId} {below : List Frame} {meth : Method} {c : Code} {cells slots : Nat} {Q : State → Prop} {b L : Nat} {xs : Nat → Int32} {D : va_G} {kA : Nat → ClassId} (hc : zLc p s m c b L xs D kA) {ad7 ad8 : Nat → Nat} {i : Int} {σ τ : yS} {H : Heap} {locs : List Loc} {ls : Array Slot} (hi : yLi s b D kA ad7 ad8 i σ τ H locs ls) (i0 : 0 ≤ i) (i1 : i + 5 ≤ (L : Int)) (hroom : cells ≤ room_1.cells ∧ slots ≤ room_1.slots)
    (kk : ∀ (σ τ : yS) (H : Heap) (locs : List Loc), yLi s b D kA ad7 ad8 i σ τ H locs ls → W p l e room_1 s m #[Value.ref b] below meth c H locs cells slots Q (F0 m 1342 ls [])) : W p l e room_1 s m #[Value.ref b] below meth c H locs cells slots Q (F0 m 409 ls []) := by
  obtain ⟨hx, hb, hml, hown, hts, hX, hbl, hK, hx0, hL⟩ := hc
  obtain ⟨o7, o8, hR, hP, hD, hS, hl⟩ := hi
  have hA : ∀ q : Nat, s.heap.size ≤ q → (fun q : Nat => s.heap.size ≤ q) q := fun _ h => h
  have hbA : ¬ (fun q : Nat => s.heap.size ≤ q) b := Nat.not_le.mpr hbl
  have hd := zpr_all hp_lc_fund
  obtain ⟨a7, σ', τ', h7, h8, hR'⟩ : ∃ (a7 : Int) (σ' τ' : yS), f_X7_fund N σ (xs (i + 1).toNat).toInt (xs (i + 2).toNat).toInt = some (a7, σ') ∧ f_X8_fund N τ (xs (i + 1).toNat).toInt (xs (i + 2).toNat).toInt = some (a7, τ') ∧ yRR σ' τ' := P_fund hR
  refine lv_aload_n hx hb (hd 409 (.aload_n 1) 1 rfl) rfl (lv_at hl 2 rfl) ?_
  refine lv_aload_n hx hb (hd 410 (.aload_n 0) 1 rfl) rfl (lv_at hl 3 rfl) ?_
  refine lv_iload_n hx hb (hd 411 (.iload_n 3) 1 rfl) rfl (lv_at hl 0 rfl) ?_
  refine lv_iconst (v := Int32.ofInt 1) hx hb (hd 412 (.iconst 1) 1 rfl) (by decide) ?_
  refine zh_iadd hx hb (hd 413 .iadd 1 rfl) ?_
  refine yl_ld hx hb hX hbl hbA hS (x := i + 1) (by omega) (by omega) hL (hd 414 .iaload 1 rfl) ?_
  refine lv_aload_n hx hb (hd 415 (.aload_n 0) 1 rfl) rfl (lv_at hl 3 rfl) ?_
  refine lv_iload_n hx hb (hd 416 (.iload_n 3) 1 rfl) rfl (lv_at hl 0 rfl) ?_
  refine lv_iconst (v := Int32.ofInt 2) hx hb (hd 417 (.iconst 2) 1 rfl) (by decide) ?_
  refine zh_iadd hx hb (hd 418 .iadd 1 rfl) ?_
  refine yl_ld hx hb hX hbl hbA hS (x := i + 2) (by omega) (by omega) hL (hd 419 .iaload 1 rfl) ?_
  refine ycallG (as := [.inl (.inl (xs (i + 1).toNat).toInt), .inl (.inl (xs (i + 2).toNat).toInt)]) (rest := []) zX_ok ⟨hx, hb, hml, hown, hts⟩ (m_X7_fund (N := N) zX_ok zX_n l) (ci := 7) rfl (cwV 2 hts gL_law_X7_fund rfl rfl rfl (by decide +kernel) ⟨Nat.le_of_ble_eq_true rfl, Nat.le_of_ble_eq_true rfl⟩) rfl hK o7 rfl (List.forall_mem_cons.mpr ⟨zq_rng _, List.forall_mem_cons.mpr ⟨zq_rng _, fun _ h => absurd h List.not_mem_nil⟩⟩) (e_X7_fund h7) hP hD hS hA hx0 hl.1 (Nat.le_of_ble_eq_true rfl) (hd 420 (.invokevirtual 52) 3 rfl) hroom (fun H locs o7 _ hP hD hS => ?_)
  show W p l e room_1 s m #[Value.ref b] below meth c H locs cells slots Q (F0 m 423 ls [.int (Int32.ofInt a7)])
  refine lv_pop hx hb (hd 423 .pop 1 rfl) rfl ?_
  refine lv_aload_n hx hb (hd 424 (.aload_n 2) 1 rfl) rfl (lv_at hl 1 rfl) ?_
  refine lv_aload_n hx hb (hd 425 (.aload_n 0) 1 rfl) rfl (lv_at hl 3 rfl) ?_
  refine lv_iload_n hx hb (hd 426 (.iload_n 3) 1 rfl) rfl (lv_at hl 0 rfl) ?_
  refine lv_iconst (v := Int32.ofInt 1) hx hb (hd 427 (.iconst 1) 1 rfl) (by decide) ?_
  refine zh_iadd hx hb (hd 428 .iadd 1 rfl) ?_
  refine yl_ld hx hb hX hbl hbA hS (x := i + 1) (by omega) (by omega) hL (hd 429 .iaload 1 rfl) ?_
  refine lv_aload_n hx hb (hd 430 (.aload_n 0) 1 rfl) rfl (lv_at hl 3 rfl) ?_
  refine lv_iload_n hx hb (hd 431 (.iload_n 3) 1 rfl) rfl (lv_at hl 0 rfl) ?_
  refine lv_iconst (v := Int32.ofInt 2) hx hb (hd 432 (.iconst 2) 1 rfl) (by decide) ?_
  refine zh_iadd hx hb (hd 433 .iadd 1 rfl) ?_
  refine yl_ld hx hb hX hbl hbA hS (x := i + 2) (by omega) (by omega) hL (hd 434 .iaload 1 rfl) ?_
  refine ycallG (as := [.inl (.inl (xs (i + 1).toNat).toInt), .inl (.inl (xs (i + 2).toNat).toInt)]) (rest := []) zX_ok ⟨hx, hb, hml, hown, hts⟩ (m_X8_fund (N := N) zX_ok zX_n l) (ci := 8) rfl (cwV 2 hts gL_law_X8_fund rfl rfl rfl (by decide +kernel) ⟨Nat.le_of_ble_eq_true rfl, Nat.le_of_ble_eq_true rfl⟩) rfl hK o8 rfl (List.forall_mem_cons.mpr ⟨zq_rng _, List.forall_mem_cons.mpr ⟨zq_rng _, fun _ h => absurd h List.not_mem_nil⟩⟩) (e_X8_fund h8) hP hD hS hA hx0 hl.1 (Nat.le_of_ble_eq_true rfl) (hd 435 (.invokevirtual 55) 3 rfl) hroom (fun H locs o8 _ hP hD hS => ?_)
  show W p l e room_1 s m #[Value.ref b] below meth c H locs cells slots Q (F0 m 438 ls [.int (Int32.ofInt a7)])
  refine lv_pop hx hb (hd 438 .pop 1 rfl) rfl ?_
  refine lv_goto (tgt := 1342) hx hb (hd 439 (.goto 903) 3 rfl) (by decide) ?_
  exact kk σ' τ' H locs ⟨o7, o8, hR', hP, hD, hS, hl⟩
noncomputable def pr_lc_can : List (Nat × Instr × Nat) := [(442, .aload_n 1, 1), (443, .aload_n 0, 1), (444, .iload_n 3, 1), (445, .iconst 1, 1), (446, .iadd, 1), (447, .iaload, 1), (448, .aload_n 0, 1), (449, .iload_n 3, 1), (450, .iconst 2, 1), (451, .iadd, 1), (452, .iaload, 1), (453, .aload_n 0, 1), (454, .iload_n 3, 1), (455, .iconst 3, 1), (456, .iadd, 1), (457, .iaload, 1), (458, .ifCond .eq 7, 3), (461, .iconst 1, 1), (462, .goto 4, 3), (465, .iconst 0, 1), (466, .invokevirtual 56, 3), (469, .pop, 1), (470, .aload_n 2, 1), (471, .aload_n 0, 1), (472, .iload_n 3, 1), (473, .iconst 1, 1), (474, .iadd, 1), (475, .iaload, 1), (476, .aload_n 0, 1), (477, .iload_n 3, 1), (478, .iconst 2, 1), (479, .iadd, 1), (480, .iaload, 1), (481, .aload_n 0, 1), (482, .iload_n 3, 1), (483, .iconst 3, 1), (484, .iadd, 1), (485, .iaload, 1), (486, .ifCond .eq 7, 3), (489, .iconst 1, 1), (490, .goto 4, 3), (493, .iconst 0, 1), (494, .invokevirtual 60, 3), (497, .pop, 1), (498, .goto 844, 3)]
set_option maxRecDepth 100000 in
theorem hp_lc_can : pr_lc_can.all (fun x => decide (decode code x.1 = .ok x.2)) = true := by decide +kernel
set_option maxHeartbeats 4000000 in
set_option maxRecDepth 100000 in
theorem lc_can {N : Nat} (hN : 1000 ≤ N) {p : Program} {l : Launch} {e : Env} {s : State} {m : MethodId} {below : List Frame} {meth : Method} {c : Code} {cells slots : Nat} {Q : State → Prop} {b L : Nat} {xs : Nat → Int32} {D : va_G} {kA : Nat → ClassId} (hc : zLc p s m c b L xs D kA) {ad7 ad8 : Nat → Nat} {i : Int} {σ τ : yS} {H : Heap} {locs : List Loc} {ls : Array Slot} (hi : yLi s b D kA ad7 ad8 i σ τ H locs ls) (i0 : 0 ≤ i) (i1 : i + 5 ≤ (L : Int)) (hroom : cells ≤ room_1.cells ∧ slots ≤ room_1.slots)
    (kk : ∀ (σ τ : yS) (H : Heap) (locs : List Loc), yLi s b D kA ad7 ad8 i σ τ H locs ls → W p l e room_1 s m #[Value.ref b] below meth c H locs cells slots Q (F0 m 1342 ls [])) : W p l e room_1 s m #[Value.ref b] below meth c H locs cells slots Q (F0 m 442 ls []) := by
  obtain ⟨hx, hb, hml, hown, hts, hX, hbl, hK, hx0, hL⟩ := hc
  obtain ⟨o7, o8, hR, hP, hD, hS, hl⟩ := hi
  have hA : ∀ q : Nat, s.heap.size ≤ q → (fun q : Nat => s.heap.size ≤ q) q := fun _ h => h
  have hbA : ¬ (fun q : Nat => s.heap.size ≤ q) b := Nat.not_le.mpr hbl
  have hd := zpr_all hp_lc_can
  obtain ⟨a7, σ', τ', h7, h8, hR'⟩ : ∃ (a7 : Int) (σ' τ' : yS), f_X7_can N σ (xs (i + 1).toNat).toInt (xs (i + 2).toNat).toInt (ybq (xs (i + 3).toNat).toInt) = some (a7, σ') ∧ f_X8_can N τ (xs (i + 1).toNat).toInt (xs (i + 2).toNat).toInt (ybq (xs (i + 3).toNat).toInt) = some (a7, τ') ∧ yRR σ' τ' := P_can hR
  refine lv_aload_n hx hb (hd 442 (.aload_n 1) 1 rfl) rfl (lv_at hl 2 rfl) ?_
  refine lv_aload_n hx hb (hd 443 (.aload_n 0) 1 rfl) rfl (lv_at hl 3 rfl) ?_
  refine lv_iload_n hx hb (hd 444 (.iload_n 3) 1 rfl) rfl (lv_at hl 0 rfl) ?_
  refine lv_iconst (v := Int32.ofInt 1) hx hb (hd 445 (.iconst 1) 1 rfl) (by decide) ?_
  refine zh_iadd hx hb (hd 446 .iadd 1 rfl) ?_
  refine yl_ld hx hb hX hbl hbA hS (x := i + 1) (by omega) (by omega) hL (hd 447 .iaload 1 rfl) ?_
  refine lv_aload_n hx hb (hd 448 (.aload_n 0) 1 rfl) rfl (lv_at hl 3 rfl) ?_
  refine lv_iload_n hx hb (hd 449 (.iload_n 3) 1 rfl) rfl (lv_at hl 0 rfl) ?_
  refine lv_iconst (v := Int32.ofInt 2) hx hb (hd 450 (.iconst 2) 1 rfl) (by decide) ?_
  refine zh_iadd hx hb (hd 451 .iadd 1 rfl) ?_
  refine yl_ld hx hb hX hbl hbA hS (x := i + 2) (by omega) (by omega) hL (hd 452 .iaload 1 rfl) ?_
  refine lv_aload_n hx hb (hd 453 (.aload_n 0) 1 rfl) rfl (lv_at hl 3 rfl) ?_
  refine lv_iload_n hx hb (hd 454 (.iload_n 3) 1 rfl) rfl (lv_at hl 0 rfl) ?_
  refine lv_iconst (v := Int32.ofInt 3) hx hb (hd 455 (.iconst 3) 1 rfl) (by decide) ?_
  refine zh_iadd hx hb (hd 456 .iadd 1 rfl) ?_
  refine yl_ld hx hb hX hbl hbA hS (x := i + 3) (by omega) (by omega) hL (hd 457 .iaload 1 rfl) ?_
  refine yl_bool hx hb (hd 458 (.ifCond .eq 7) 3 rfl) (hd 461 (.iconst 1) 1 rfl) (hd 462 (.goto 4) 3 rfl) (hd 465 (.iconst 0) 1 rfl) ?_
  refine ycallG (as := [.inl (.inl (xs (i + 1).toNat).toInt), .inl (.inl (xs (i + 2).toNat).toInt), .inl (.inl (ybq (xs (i + 3).toNat).toInt))]) (rest := []) zX_ok ⟨hx, hb, hml, hown, hts⟩ (m_X7_can (N := N) zX_ok zX_n l) (ci := 7) rfl (cwV 3 hts gL_law_X7_can rfl rfl rfl (by decide +kernel) ⟨Nat.le_of_ble_eq_true rfl, Nat.le_of_ble_eq_true rfl⟩) rfl hK o7 rfl (List.forall_mem_cons.mpr ⟨zq_rng _, List.forall_mem_cons.mpr ⟨zq_rng _, List.forall_mem_cons.mpr ⟨ybq_I, fun _ h => absurd h List.not_mem_nil⟩⟩⟩) (e_X7_can h7) hP hD hS hA hx0 hl.1 (Nat.le_of_ble_eq_true rfl) (hd 466 (.invokevirtual 56) 3 rfl) hroom (fun H locs o7 _ hP hD hS => ?_)
  show W p l e room_1 s m #[Value.ref b] below meth c H locs cells slots Q (F0 m 469 ls [.int (Int32.ofInt a7)])
  refine lv_pop hx hb (hd 469 .pop 1 rfl) rfl ?_
  refine lv_aload_n hx hb (hd 470 (.aload_n 2) 1 rfl) rfl (lv_at hl 1 rfl) ?_
  refine lv_aload_n hx hb (hd 471 (.aload_n 0) 1 rfl) rfl (lv_at hl 3 rfl) ?_
  refine lv_iload_n hx hb (hd 472 (.iload_n 3) 1 rfl) rfl (lv_at hl 0 rfl) ?_
  refine lv_iconst (v := Int32.ofInt 1) hx hb (hd 473 (.iconst 1) 1 rfl) (by decide) ?_
  refine zh_iadd hx hb (hd 474 .iadd 1 rfl) ?_
  refine yl_ld hx hb hX hbl hbA hS (x := i + 1) (by omega) (by omega) hL (hd 475 .iaload 1 rfl) ?_
  refine lv_aload_n hx hb (hd 476 (.aload_n 0) 1 rfl) rfl (lv_at hl 3 rfl) ?_
  refine lv_iload_n hx hb (hd 477 (.iload_n 3) 1 rfl) rfl (lv_at hl 0 rfl) ?_
  refine lv_iconst (v := Int32.ofInt 2) hx hb (hd 478 (.iconst 2) 1 rfl) (by decide) ?_
  refine zh_iadd hx hb (hd 479 .iadd 1 rfl) ?_
  refine yl_ld hx hb hX hbl hbA hS (x := i + 2) (by omega) (by omega) hL (hd 480 .iaload 1 rfl) ?_
  refine lv_aload_n hx hb (hd 481 (.aload_n 0) 1 rfl) rfl (lv_at hl 3 rfl) ?_
  refine lv_iload_n hx hb (hd 482 (.iload_n 3) 1 rfl) rfl (lv_at hl 0 rfl) ?_
  refine lv_iconst (v := Int32.ofInt 3) hx hb (hd 483 (.iconst 3) 1 rfl) (by decide) ?_
  refine zh_iadd hx hb (hd 484 .iadd 1 rfl) ?_
  refine yl_ld hx hb hX hbl hbA hS (x := i + 3) (by omega) (by omega) hL (hd 485 .iaload 1 rfl) ?_
  refine yl_bool hx hb (hd 486 (.ifCond .eq 7) 3 rfl) (hd 489 (.iconst 1) 1 rfl) (hd 490 (.goto 4) 3 rfl) (hd 493 (.iconst 0) 1 rfl) ?_
  refine ycallG (as := [.inl (.inl (xs (i + 1).toNat).toInt), .inl (.inl (xs (i + 2).toNat).toInt), .inl (.inl (ybq (xs (i + 3).toNat).toInt))]) (rest := []) zX_ok ⟨hx, hb, hml, hown, hts⟩ (m_X8_can (N := N) zX_ok zX_n l) (ci := 8) rfl (cwV 3 hts gL_law_X8_can rfl rfl rfl (by decide +kernel) ⟨Nat.le_of_ble_eq_true rfl, Nat.le_of_ble_eq_true rfl⟩) rfl hK o8 rfl (List.forall_mem_cons.mpr ⟨zq_rng _, List.forall_mem_cons.mpr ⟨zq_rng _, List.forall_mem_cons.mpr ⟨ybq_I, fun _ h => absurd h List.not_mem_nil⟩⟩⟩) (e_X8_can h8) hP hD hS hA hx0 hl.1 (Nat.le_of_ble_eq_true rfl) (hd 494 (.invokevirtual 60) 3 rfl) hroom (fun H locs o8 _ hP hD hS => ?_)
  show W p l e room_1 s m #[Value.ref b] below meth c H locs cells slots Q (F0 m 497 ls [.int (Int32.ofInt a7)])
  refine lv_pop hx hb (hd 497 .pop 1 rfl) rfl ?_
  refine lv_goto (tgt := 1342) hx hb (hd 498 (.goto 844) 3 rfl) (by decide) ?_
  exact kk σ' τ' H locs ⟨o7, o8, hR', hP, hD, hS, hl⟩
noncomputable def pr_lc_lawyer : List (Nat × Instr × Nat) := [(501, .aload_n 1, 1), (502, .aload_n 0, 1), (503, .iload_n 3, 1), (504, .iconst 1, 1), (505, .iadd, 1), (506, .iaload, 1), (507, .aload_n 0, 1), (508, .iload_n 3, 1), (509, .iconst 2, 1), (510, .iadd, 1), (511, .iaload, 1), (512, .ifCond .eq 7, 3), (515, .iconst 1, 1), (516, .goto 4, 3), (519, .iconst 0, 1), (520, .invokevirtual 61, 3), (523, .pop, 1), (524, .aload_n 2, 1), (525, .aload_n 0, 1), (526, .iload_n 3, 1), (527, .iconst 1, 1), (528, .iadd, 1), (529, .iaload, 1), (530, .aload_n 0, 1), (531, .iload_n 3, 1), (532, .iconst 2, 1), (533, .iadd, 1), (534, .iaload, 1), (535, .ifCond .eq 7, 3), (538, .iconst 1, 1), (539, .goto 4, 3), (542, .iconst 0, 1), (543, .invokevirtual 65, 3), (546, .pop, 1), (547, .goto 795, 3)]
set_option maxRecDepth 100000 in
theorem hp_lc_lawyer : pr_lc_lawyer.all (fun x => decide (decode code x.1 = .ok x.2)) = true := by decide +kernel
set_option maxHeartbeats 4000000 in
set_option maxRecDepth 100000 in
theorem lc_lawyer {N : Nat} (hN : 1000 ≤ N) {p : Program} {l : Launch} {e : Env} {s : State} {m : MethodId} {below : List Frame} {meth : Method} {c : Code} {cells slots : Nat} {Q : State → Prop} {b L : Nat} {xs : Nat → Int32} {D : va_G} {kA : Nat → ClassId} (hc : zLc p s m c b L xs D kA) {ad7 ad8 : Nat → Nat} {i : Int} {σ τ : yS} {H : Heap} {locs : List Loc} {ls : Array Slot} (hi : yLi s b D kA ad7 ad8 i σ τ H locs ls) (i0 : 0 ≤ i) (i1 : i + 5 ≤ (L : Int)) (hroom : cells ≤ room_1.cells ∧ slots ≤ room_1.slots)
    (kk : ∀ (σ τ : yS) (H : Heap) (locs : List Loc), yLi s b D kA ad7 ad8 i σ τ H locs ls → W p l e room_1 s m #[Value.ref b] below meth c H locs cells slots Q (F0 m 1342 ls [])) : W p l e room_1 s m #[Value.ref b] below meth c H locs cells slots Q (F0 m 501 ls []) := by
  obtain ⟨hx, hb, hml, hown, hts, hX, hbl, hK, hx0, hL⟩ := hc
  obtain ⟨o7, o8, hR, hP, hD, hS, hl⟩ := hi
  have hA : ∀ q : Nat, s.heap.size ≤ q → (fun q : Nat => s.heap.size ≤ q) q := fun _ h => h
  have hbA : ¬ (fun q : Nat => s.heap.size ≤ q) b := Nat.not_le.mpr hbl
  have hd := zpr_all hp_lc_lawyer
  obtain ⟨a7, σ', τ', h7, h8, hR'⟩ : ∃ (a7 : Int) (σ' τ' : yS), f_X7_lawyer N σ (xs (i + 1).toNat).toInt (ybq (xs (i + 2).toNat).toInt) = some (a7, σ') ∧ f_X8_lawyer N τ (xs (i + 1).toNat).toInt (ybq (xs (i + 2).toNat).toInt) = some (a7, τ') ∧ yRR σ' τ' := P_lawyer ybq_r hR
  refine lv_aload_n hx hb (hd 501 (.aload_n 1) 1 rfl) rfl (lv_at hl 2 rfl) ?_
  refine lv_aload_n hx hb (hd 502 (.aload_n 0) 1 rfl) rfl (lv_at hl 3 rfl) ?_
  refine lv_iload_n hx hb (hd 503 (.iload_n 3) 1 rfl) rfl (lv_at hl 0 rfl) ?_
  refine lv_iconst (v := Int32.ofInt 1) hx hb (hd 504 (.iconst 1) 1 rfl) (by decide) ?_
  refine zh_iadd hx hb (hd 505 .iadd 1 rfl) ?_
  refine yl_ld hx hb hX hbl hbA hS (x := i + 1) (by omega) (by omega) hL (hd 506 .iaload 1 rfl) ?_
  refine lv_aload_n hx hb (hd 507 (.aload_n 0) 1 rfl) rfl (lv_at hl 3 rfl) ?_
  refine lv_iload_n hx hb (hd 508 (.iload_n 3) 1 rfl) rfl (lv_at hl 0 rfl) ?_
  refine lv_iconst (v := Int32.ofInt 2) hx hb (hd 509 (.iconst 2) 1 rfl) (by decide) ?_
  refine zh_iadd hx hb (hd 510 .iadd 1 rfl) ?_
  refine yl_ld hx hb hX hbl hbA hS (x := i + 2) (by omega) (by omega) hL (hd 511 .iaload 1 rfl) ?_
  refine yl_bool hx hb (hd 512 (.ifCond .eq 7) 3 rfl) (hd 515 (.iconst 1) 1 rfl) (hd 516 (.goto 4) 3 rfl) (hd 519 (.iconst 0) 1 rfl) ?_
  refine ycallG (as := [.inl (.inl (xs (i + 1).toNat).toInt), .inl (.inl (ybq (xs (i + 2).toNat).toInt))]) (rest := []) zX_ok ⟨hx, hb, hml, hown, hts⟩ (m_X7_lawyer (N := N) zX_ok zX_n l) (ci := 7) rfl (cwV 2 hts gL_law_X7_lawyer rfl rfl rfl (by decide +kernel) ⟨Nat.le_of_ble_eq_true rfl, Nat.le_of_ble_eq_true rfl⟩) rfl hK o7 rfl (List.forall_mem_cons.mpr ⟨zq_rng _, List.forall_mem_cons.mpr ⟨ybq_I, fun _ h => absurd h List.not_mem_nil⟩⟩) (e_X7_lawyer h7) hP hD hS hA hx0 hl.1 (Nat.le_of_ble_eq_true rfl) (hd 520 (.invokevirtual 61) 3 rfl) hroom (fun H locs o7 _ hP hD hS => ?_)
  show W p l e room_1 s m #[Value.ref b] below meth c H locs cells slots Q (F0 m 523 ls [.int (Int32.ofInt a7)])
  refine lv_pop hx hb (hd 523 .pop 1 rfl) rfl ?_
  refine lv_aload_n hx hb (hd 524 (.aload_n 2) 1 rfl) rfl (lv_at hl 1 rfl) ?_
  refine lv_aload_n hx hb (hd 525 (.aload_n 0) 1 rfl) rfl (lv_at hl 3 rfl) ?_
  refine lv_iload_n hx hb (hd 526 (.iload_n 3) 1 rfl) rfl (lv_at hl 0 rfl) ?_
  refine lv_iconst (v := Int32.ofInt 1) hx hb (hd 527 (.iconst 1) 1 rfl) (by decide) ?_
  refine zh_iadd hx hb (hd 528 .iadd 1 rfl) ?_
  refine yl_ld hx hb hX hbl hbA hS (x := i + 1) (by omega) (by omega) hL (hd 529 .iaload 1 rfl) ?_
  refine lv_aload_n hx hb (hd 530 (.aload_n 0) 1 rfl) rfl (lv_at hl 3 rfl) ?_
  refine lv_iload_n hx hb (hd 531 (.iload_n 3) 1 rfl) rfl (lv_at hl 0 rfl) ?_
  refine lv_iconst (v := Int32.ofInt 2) hx hb (hd 532 (.iconst 2) 1 rfl) (by decide) ?_
  refine zh_iadd hx hb (hd 533 .iadd 1 rfl) ?_
  refine yl_ld hx hb hX hbl hbA hS (x := i + 2) (by omega) (by omega) hL (hd 534 .iaload 1 rfl) ?_
  refine yl_bool hx hb (hd 535 (.ifCond .eq 7) 3 rfl) (hd 538 (.iconst 1) 1 rfl) (hd 539 (.goto 4) 3 rfl) (hd 542 (.iconst 0) 1 rfl) ?_
  refine ycallG (as := [.inl (.inl (xs (i + 1).toNat).toInt), .inl (.inl (ybq (xs (i + 2).toNat).toInt))]) (rest := []) zX_ok ⟨hx, hb, hml, hown, hts⟩ (m_X8_lawyer (N := N) zX_ok zX_n l) (ci := 8) rfl (cwV 2 hts gL_law_X8_lawyer rfl rfl rfl (by decide +kernel) ⟨Nat.le_of_ble_eq_true rfl, Nat.le_of_ble_eq_true rfl⟩) rfl hK o8 rfl (List.forall_mem_cons.mpr ⟨zq_rng _, List.forall_mem_cons.mpr ⟨ybq_I, fun _ h => absurd h List.not_mem_nil⟩⟩) (e_X8_lawyer h8) hP hD hS hA hx0 hl.1 (Nat.le_of_ble_eq_true rfl) (hd 543 (.invokevirtual 65) 3 rfl) hroom (fun H locs o8 _ hP hD hS => ?_)
  show W p l e room_1 s m #[Value.ref b] below meth c H locs cells slots Q (F0 m 546 ls [.int (Int32.ofInt a7)])
  refine lv_pop hx hb (hd 546 .pop 1 rfl) rfl ?_
  refine lv_goto (tgt := 1342) hx hb (hd 547 (.goto 795) 3 rfl) (by decide) ?_
  exact kk σ' τ' H locs ⟨o7, o8, hR', hP, hD, hS, hl⟩
noncomputable def pr_lc_habit : List (Nat × Instr × Nat) := [(550, .aload_n 1, 1), (551, .aload_n 0, 1), (552, .iload_n 3, 1), (553, .iconst 1, 1), (554, .iadd, 1), (555, .iaload, 1), (556, .aload_n 0, 1), (557, .iload_n 3, 1), (558, .iconst 2, 1), (559, .iadd, 1), (560, .iaload, 1), (561, .aload_n 0, 1), (562, .iload_n 3, 1), (563, .iconst 3, 1), (564, .iadd, 1), (565, .iaload, 1), (566, .aload_n 0, 1), (567, .iload_n 3, 1), (568, .iconst 4, 1), (569, .iadd, 1), (570, .iaload, 1), (571, .invokevirtual 66, 3), (574, .pop, 1), (575, .aload_n 2, 1), (576, .aload_n 0, 1), (577, .iload_n 3, 1), (578, .iconst 1, 1), (579, .iadd, 1), (580, .iaload, 1), (581, .aload_n 0, 1), (582, .iload_n 3, 1), (583, .iconst 2, 1), (584, .iadd, 1), (585, .iaload, 1), (586, .aload_n 0, 1), (587, .iload_n 3, 1), (588, .iconst 3, 1), (589, .iadd, 1), (590, .iaload, 1), (591, .aload_n 0, 1), (592, .iload_n 3, 1), (593, .iconst 4, 1), (594, .iadd, 1), (595, .iaload, 1), (596, .invokevirtual 70, 3), (599, .pop, 1), (600, .goto 742, 3)]
set_option maxRecDepth 100000 in
theorem hp_lc_habit : pr_lc_habit.all (fun x => decide (decode code x.1 = .ok x.2)) = true := by decide +kernel
set_option maxHeartbeats 4000000 in
set_option maxRecDepth 100000 in
theorem lc_habit {N : Nat} (hN : 1000 ≤ N) {p : Program} {l : Launch} {e : Env} {s : State} {m : MethodId} {below : List Frame} {meth : Method} {c : Code} {cells slots : Nat} {Q : State → Prop} {b L : Nat} {xs : Nat → Int32} {D : va_G} {kA : Nat → ClassId} (hc : zLc p s m c b L xs D kA) {ad7 ad8 : Nat → Nat} {i : Int} {σ τ : yS} {H : Heap} {locs : List Loc} {ls : Array Slot} (hi : yLi s b D kA ad7 ad8 i σ τ H locs ls) (i0 : 0 ≤ i) (i1 : i + 5 ≤ (L : Int)) (hroom : cells ≤ room_1.cells ∧ slots ≤ room_1.slots)
    (kk : ∀ (σ τ : yS) (H : Heap) (locs : List Loc), yLi s b D kA ad7 ad8 i σ τ H locs ls → W p l e room_1 s m #[Value.ref b] below meth c H locs cells slots Q (F0 m 1342 ls [])) : W p l e room_1 s m #[Value.ref b] below meth c H locs cells slots Q (F0 m 550 ls []) := by
  obtain ⟨hx, hb, hml, hown, hts, hX, hbl, hK, hx0, hL⟩ := hc
  obtain ⟨o7, o8, hR, hP, hD, hS, hl⟩ := hi
  have hA : ∀ q : Nat, s.heap.size ≤ q → (fun q : Nat => s.heap.size ≤ q) q := fun _ h => h
  have hbA : ¬ (fun q : Nat => s.heap.size ≤ q) b := Nat.not_le.mpr hbl
  have hd := zpr_all hp_lc_habit
  obtain ⟨a7, σ', τ', h7, h8, hR'⟩ : ∃ (a7 : Int) (σ' τ' : yS), f_X7_habit N σ (xs (i + 1).toNat).toInt (xs (i + 2).toNat).toInt (xs (i + 3).toNat).toInt (xs (i + 4).toNat).toInt = some (a7, σ') ∧ f_X8_habit N τ (xs (i + 1).toNat).toInt (xs (i + 2).toNat).toInt (xs (i + 3).toNat).toInt (xs (i + 4).toNat).toInt = some (a7, τ') ∧ yRR σ' τ' := P_habit hR
  refine lv_aload_n hx hb (hd 550 (.aload_n 1) 1 rfl) rfl (lv_at hl 2 rfl) ?_
  refine lv_aload_n hx hb (hd 551 (.aload_n 0) 1 rfl) rfl (lv_at hl 3 rfl) ?_
  refine lv_iload_n hx hb (hd 552 (.iload_n 3) 1 rfl) rfl (lv_at hl 0 rfl) ?_
  refine lv_iconst (v := Int32.ofInt 1) hx hb (hd 553 (.iconst 1) 1 rfl) (by decide) ?_
  refine zh_iadd hx hb (hd 554 .iadd 1 rfl) ?_
  refine yl_ld hx hb hX hbl hbA hS (x := i + 1) (by omega) (by omega) hL (hd 555 .iaload 1 rfl) ?_
  refine lv_aload_n hx hb (hd 556 (.aload_n 0) 1 rfl) rfl (lv_at hl 3 rfl) ?_
  refine lv_iload_n hx hb (hd 557 (.iload_n 3) 1 rfl) rfl (lv_at hl 0 rfl) ?_
  refine lv_iconst (v := Int32.ofInt 2) hx hb (hd 558 (.iconst 2) 1 rfl) (by decide) ?_
  refine zh_iadd hx hb (hd 559 .iadd 1 rfl) ?_
  refine yl_ld hx hb hX hbl hbA hS (x := i + 2) (by omega) (by omega) hL (hd 560 .iaload 1 rfl) ?_
  refine lv_aload_n hx hb (hd 561 (.aload_n 0) 1 rfl) rfl (lv_at hl 3 rfl) ?_
  refine lv_iload_n hx hb (hd 562 (.iload_n 3) 1 rfl) rfl (lv_at hl 0 rfl) ?_
  refine lv_iconst (v := Int32.ofInt 3) hx hb (hd 563 (.iconst 3) 1 rfl) (by decide) ?_
  refine zh_iadd hx hb (hd 564 .iadd 1 rfl) ?_
  refine yl_ld hx hb hX hbl hbA hS (x := i + 3) (by omega) (by omega) hL (hd 565 .iaload 1 rfl) ?_
  refine lv_aload_n hx hb (hd 566 (.aload_n 0) 1 rfl) rfl (lv_at hl 3 rfl) ?_
  refine lv_iload_n hx hb (hd 567 (.iload_n 3) 1 rfl) rfl (lv_at hl 0 rfl) ?_
  refine lv_iconst (v := Int32.ofInt 4) hx hb (hd 568 (.iconst 4) 1 rfl) (by decide) ?_
  refine zh_iadd hx hb (hd 569 .iadd 1 rfl) ?_
  refine yl_ld hx hb hX hbl hbA hS (x := i + 4) (by omega) (by omega) hL (hd 570 .iaload 1 rfl) ?_
  refine ycallG (as := [.inl (.inl (xs (i + 1).toNat).toInt), .inl (.inl (xs (i + 2).toNat).toInt), .inl (.inl (xs (i + 3).toNat).toInt), .inl (.inl (xs (i + 4).toNat).toInt)]) (rest := []) zX_ok ⟨hx, hb, hml, hown, hts⟩ (m_X7_habit (N := N) zX_ok zX_n l) (ci := 7) rfl (cwV 4 hts gL_law_X7_habit rfl rfl rfl (by decide +kernel) ⟨Nat.le_of_ble_eq_true rfl, Nat.le_of_ble_eq_true rfl⟩) rfl hK o7 rfl (List.forall_mem_cons.mpr ⟨zq_rng _, List.forall_mem_cons.mpr ⟨zq_rng _, List.forall_mem_cons.mpr ⟨zq_rng _, List.forall_mem_cons.mpr ⟨zq_rng _, fun _ h => absurd h List.not_mem_nil⟩⟩⟩⟩) (e_X7_habit h7) hP hD hS hA hx0 hl.1 (Nat.le_of_ble_eq_true rfl) (hd 571 (.invokevirtual 66) 3 rfl) hroom (fun H locs o7 _ hP hD hS => ?_)
  show W p l e room_1 s m #[Value.ref b] below meth c H locs cells slots Q (F0 m 574 ls [.int (Int32.ofInt a7)])
  refine lv_pop hx hb (hd 574 .pop 1 rfl) rfl ?_
  refine lv_aload_n hx hb (hd 575 (.aload_n 2) 1 rfl) rfl (lv_at hl 1 rfl) ?_
  refine lv_aload_n hx hb (hd 576 (.aload_n 0) 1 rfl) rfl (lv_at hl 3 rfl) ?_
  refine lv_iload_n hx hb (hd 577 (.iload_n 3) 1 rfl) rfl (lv_at hl 0 rfl) ?_
  refine lv_iconst (v := Int32.ofInt 1) hx hb (hd 578 (.iconst 1) 1 rfl) (by decide) ?_
  refine zh_iadd hx hb (hd 579 .iadd 1 rfl) ?_
  refine yl_ld hx hb hX hbl hbA hS (x := i + 1) (by omega) (by omega) hL (hd 580 .iaload 1 rfl) ?_
  refine lv_aload_n hx hb (hd 581 (.aload_n 0) 1 rfl) rfl (lv_at hl 3 rfl) ?_
  refine lv_iload_n hx hb (hd 582 (.iload_n 3) 1 rfl) rfl (lv_at hl 0 rfl) ?_
  refine lv_iconst (v := Int32.ofInt 2) hx hb (hd 583 (.iconst 2) 1 rfl) (by decide) ?_
  refine zh_iadd hx hb (hd 584 .iadd 1 rfl) ?_
  refine yl_ld hx hb hX hbl hbA hS (x := i + 2) (by omega) (by omega) hL (hd 585 .iaload 1 rfl) ?_
  refine lv_aload_n hx hb (hd 586 (.aload_n 0) 1 rfl) rfl (lv_at hl 3 rfl) ?_
  refine lv_iload_n hx hb (hd 587 (.iload_n 3) 1 rfl) rfl (lv_at hl 0 rfl) ?_
  refine lv_iconst (v := Int32.ofInt 3) hx hb (hd 588 (.iconst 3) 1 rfl) (by decide) ?_
  refine zh_iadd hx hb (hd 589 .iadd 1 rfl) ?_
  refine yl_ld hx hb hX hbl hbA hS (x := i + 3) (by omega) (by omega) hL (hd 590 .iaload 1 rfl) ?_
  refine lv_aload_n hx hb (hd 591 (.aload_n 0) 1 rfl) rfl (lv_at hl 3 rfl) ?_
  refine lv_iload_n hx hb (hd 592 (.iload_n 3) 1 rfl) rfl (lv_at hl 0 rfl) ?_
  refine lv_iconst (v := Int32.ofInt 4) hx hb (hd 593 (.iconst 4) 1 rfl) (by decide) ?_
  refine zh_iadd hx hb (hd 594 .iadd 1 rfl) ?_
  refine yl_ld hx hb hX hbl hbA hS (x := i + 4) (by omega) (by omega) hL (hd 595 .iaload 1 rfl) ?_
  refine ycallG (as := [.inl (.inl (xs (i + 1).toNat).toInt), .inl (.inl (xs (i + 2).toNat).toInt), .inl (.inl (xs (i + 3).toNat).toInt), .inl (.inl (xs (i + 4).toNat).toInt)]) (rest := []) zX_ok ⟨hx, hb, hml, hown, hts⟩ (m_X8_habit (N := N) zX_ok zX_n l) (ci := 8) rfl (cwV 4 hts gL_law_X8_habit rfl rfl rfl (by decide +kernel) ⟨Nat.le_of_ble_eq_true rfl, Nat.le_of_ble_eq_true rfl⟩) rfl hK o8 rfl (List.forall_mem_cons.mpr ⟨zq_rng _, List.forall_mem_cons.mpr ⟨zq_rng _, List.forall_mem_cons.mpr ⟨zq_rng _, List.forall_mem_cons.mpr ⟨zq_rng _, fun _ h => absurd h List.not_mem_nil⟩⟩⟩⟩) (e_X8_habit h8) hP hD hS hA hx0 hl.1 (Nat.le_of_ble_eq_true rfl) (hd 596 (.invokevirtual 70) 3 rfl) hroom (fun H locs o8 _ hP hD hS => ?_)
  show W p l e room_1 s m #[Value.ref b] below meth c H locs cells slots Q (F0 m 599 ls [.int (Int32.ofInt a7)])
  refine lv_pop hx hb (hd 599 .pop 1 rfl) rfl ?_
  refine lv_goto (tgt := 1342) hx hb (hd 600 (.goto 742) 3 rfl) (by decide) ?_
  exact kk σ' τ' H locs ⟨o7, o8, hR', hP, hD, hS, hl⟩
noncomputable def pr_lc_vows : List (Nat × Instr × Nat) := [(603, .aload_n 1, 1), (604, .aload_n 0, 1), (605, .iload_n 3, 1), (606, .iconst 1, 1), (607, .iadd, 1), (608, .iaload, 1), (609, .aload_n 0, 1), (610, .iload_n 3, 1), (611, .iconst 2, 1), (612, .iadd, 1), (613, .iaload, 1), (614, .aload_n 0, 1), (615, .iload_n 3, 1), (616, .iconst 3, 1), (617, .iadd, 1), (618, .iaload, 1), (619, .aload_n 0, 1), (620, .iload_n 3, 1), (621, .iconst 4, 1), (622, .iadd, 1), (623, .iaload, 1), (624, .invokevirtual 71, 3), (627, .pop, 1), (628, .aload_n 2, 1), (629, .aload_n 0, 1), (630, .iload_n 3, 1), (631, .iconst 1, 1), (632, .iadd, 1), (633, .iaload, 1), (634, .aload_n 0, 1), (635, .iload_n 3, 1), (636, .iconst 2, 1), (637, .iadd, 1), (638, .iaload, 1), (639, .aload_n 0, 1), (640, .iload_n 3, 1), (641, .iconst 3, 1), (642, .iadd, 1), (643, .iaload, 1), (644, .aload_n 0, 1), (645, .iload_n 3, 1), (646, .iconst 4, 1), (647, .iadd, 1), (648, .iaload, 1), (649, .invokevirtual 74, 3), (652, .pop, 1), (653, .goto 689, 3)]
set_option maxRecDepth 100000 in
theorem hp_lc_vows : pr_lc_vows.all (fun x => decide (decode code x.1 = .ok x.2)) = true := by decide +kernel
set_option maxHeartbeats 4000000 in
set_option maxRecDepth 100000 in
theorem lc_vows {N : Nat} (hN : 1000 ≤ N) {p : Program} {l : Launch} {e : Env} {s : State} {m : MethodId} {below : List Frame} {meth : Method} {c : Code} {cells slots : Nat} {Q : State → Prop} {b L : Nat} {xs : Nat → Int32} {D : va_G} {kA : Nat → ClassId} (hc : zLc p s m c b L xs D kA) {ad7 ad8 : Nat → Nat} {i : Int} {σ τ : yS} {H : Heap} {locs : List Loc} {ls : Array Slot} (hi : yLi s b D kA ad7 ad8 i σ τ H locs ls) (i0 : 0 ≤ i) (i1 : i + 5 ≤ (L : Int)) (hroom : cells ≤ room_1.cells ∧ slots ≤ room_1.slots)
    (kk : ∀ (σ τ : yS) (H : Heap) (locs : List Loc), yLi s b D kA ad7 ad8 i σ τ H locs ls → W p l e room_1 s m #[Value.ref b] below meth c H locs cells slots Q (F0 m 1342 ls [])) : W p l e room_1 s m #[Value.ref b] below meth c H locs cells slots Q (F0 m 603 ls []) := by
  obtain ⟨hx, hb, hml, hown, hts, hX, hbl, hK, hx0, hL⟩ := hc
  obtain ⟨o7, o8, hR, hP, hD, hS, hl⟩ := hi
  have hA : ∀ q : Nat, s.heap.size ≤ q → (fun q : Nat => s.heap.size ≤ q) q := fun _ h => h
  have hbA : ¬ (fun q : Nat => s.heap.size ≤ q) b := Nat.not_le.mpr hbl
  have hd := zpr_all hp_lc_vows
  obtain ⟨a7, σ', τ', h7, h8, hR'⟩ : ∃ (a7 : Int) (σ' τ' : yS), f_X7_vows N σ (xs (i + 1).toNat).toInt (xs (i + 2).toNat).toInt (xs (i + 3).toNat).toInt (xs (i + 4).toNat).toInt = some (a7, σ') ∧ f_X8_vows N τ (xs (i + 1).toNat).toInt (xs (i + 2).toNat).toInt (xs (i + 3).toNat).toInt (xs (i + 4).toNat).toInt = some (a7, τ') ∧ yRR σ' τ' := P_vows hR
  refine lv_aload_n hx hb (hd 603 (.aload_n 1) 1 rfl) rfl (lv_at hl 2 rfl) ?_
  refine lv_aload_n hx hb (hd 604 (.aload_n 0) 1 rfl) rfl (lv_at hl 3 rfl) ?_
  refine lv_iload_n hx hb (hd 605 (.iload_n 3) 1 rfl) rfl (lv_at hl 0 rfl) ?_
  refine lv_iconst (v := Int32.ofInt 1) hx hb (hd 606 (.iconst 1) 1 rfl) (by decide) ?_
  refine zh_iadd hx hb (hd 607 .iadd 1 rfl) ?_
  refine yl_ld hx hb hX hbl hbA hS (x := i + 1) (by omega) (by omega) hL (hd 608 .iaload 1 rfl) ?_
  refine lv_aload_n hx hb (hd 609 (.aload_n 0) 1 rfl) rfl (lv_at hl 3 rfl) ?_
  refine lv_iload_n hx hb (hd 610 (.iload_n 3) 1 rfl) rfl (lv_at hl 0 rfl) ?_
  refine lv_iconst (v := Int32.ofInt 2) hx hb (hd 611 (.iconst 2) 1 rfl) (by decide) ?_
  refine zh_iadd hx hb (hd 612 .iadd 1 rfl) ?_
  refine yl_ld hx hb hX hbl hbA hS (x := i + 2) (by omega) (by omega) hL (hd 613 .iaload 1 rfl) ?_
  refine lv_aload_n hx hb (hd 614 (.aload_n 0) 1 rfl) rfl (lv_at hl 3 rfl) ?_
  refine lv_iload_n hx hb (hd 615 (.iload_n 3) 1 rfl) rfl (lv_at hl 0 rfl) ?_
  refine lv_iconst (v := Int32.ofInt 3) hx hb (hd 616 (.iconst 3) 1 rfl) (by decide) ?_
  refine zh_iadd hx hb (hd 617 .iadd 1 rfl) ?_
  refine yl_ld hx hb hX hbl hbA hS (x := i + 3) (by omega) (by omega) hL (hd 618 .iaload 1 rfl) ?_
  refine lv_aload_n hx hb (hd 619 (.aload_n 0) 1 rfl) rfl (lv_at hl 3 rfl) ?_
  refine lv_iload_n hx hb (hd 620 (.iload_n 3) 1 rfl) rfl (lv_at hl 0 rfl) ?_
  refine lv_iconst (v := Int32.ofInt 4) hx hb (hd 621 (.iconst 4) 1 rfl) (by decide) ?_
  refine zh_iadd hx hb (hd 622 .iadd 1 rfl) ?_
  refine yl_ld hx hb hX hbl hbA hS (x := i + 4) (by omega) (by omega) hL (hd 623 .iaload 1 rfl) ?_
  refine ycallG (as := [.inl (.inl (xs (i + 1).toNat).toInt), .inl (.inl (xs (i + 2).toNat).toInt), .inl (.inl (xs (i + 3).toNat).toInt), .inl (.inl (xs (i + 4).toNat).toInt)]) (rest := []) zX_ok ⟨hx, hb, hml, hown, hts⟩ (m_X7_vows (N := N) zX_ok zX_n l) (ci := 7) rfl (cwV 4 hts gL_law_X7_vows rfl rfl rfl (by decide +kernel) ⟨Nat.le_of_ble_eq_true rfl, Nat.le_of_ble_eq_true rfl⟩) rfl hK o7 rfl (List.forall_mem_cons.mpr ⟨zq_rng _, List.forall_mem_cons.mpr ⟨zq_rng _, List.forall_mem_cons.mpr ⟨zq_rng _, List.forall_mem_cons.mpr ⟨zq_rng _, fun _ h => absurd h List.not_mem_nil⟩⟩⟩⟩) (e_X7_vows h7) hP hD hS hA hx0 hl.1 (Nat.le_of_ble_eq_true rfl) (hd 624 (.invokevirtual 71) 3 rfl) hroom (fun H locs o7 _ hP hD hS => ?_)
  show W p l e room_1 s m #[Value.ref b] below meth c H locs cells slots Q (F0 m 627 ls [.int (Int32.ofInt a7)])
  refine lv_pop hx hb (hd 627 .pop 1 rfl) rfl ?_
  refine lv_aload_n hx hb (hd 628 (.aload_n 2) 1 rfl) rfl (lv_at hl 1 rfl) ?_
  refine lv_aload_n hx hb (hd 629 (.aload_n 0) 1 rfl) rfl (lv_at hl 3 rfl) ?_
  refine lv_iload_n hx hb (hd 630 (.iload_n 3) 1 rfl) rfl (lv_at hl 0 rfl) ?_
  refine lv_iconst (v := Int32.ofInt 1) hx hb (hd 631 (.iconst 1) 1 rfl) (by decide) ?_
  refine zh_iadd hx hb (hd 632 .iadd 1 rfl) ?_
  refine yl_ld hx hb hX hbl hbA hS (x := i + 1) (by omega) (by omega) hL (hd 633 .iaload 1 rfl) ?_
  refine lv_aload_n hx hb (hd 634 (.aload_n 0) 1 rfl) rfl (lv_at hl 3 rfl) ?_
  refine lv_iload_n hx hb (hd 635 (.iload_n 3) 1 rfl) rfl (lv_at hl 0 rfl) ?_
  refine lv_iconst (v := Int32.ofInt 2) hx hb (hd 636 (.iconst 2) 1 rfl) (by decide) ?_
  refine zh_iadd hx hb (hd 637 .iadd 1 rfl) ?_
  refine yl_ld hx hb hX hbl hbA hS (x := i + 2) (by omega) (by omega) hL (hd 638 .iaload 1 rfl) ?_
  refine lv_aload_n hx hb (hd 639 (.aload_n 0) 1 rfl) rfl (lv_at hl 3 rfl) ?_
  refine lv_iload_n hx hb (hd 640 (.iload_n 3) 1 rfl) rfl (lv_at hl 0 rfl) ?_
  refine lv_iconst (v := Int32.ofInt 3) hx hb (hd 641 (.iconst 3) 1 rfl) (by decide) ?_
  refine zh_iadd hx hb (hd 642 .iadd 1 rfl) ?_
  refine yl_ld hx hb hX hbl hbA hS (x := i + 3) (by omega) (by omega) hL (hd 643 .iaload 1 rfl) ?_
  refine lv_aload_n hx hb (hd 644 (.aload_n 0) 1 rfl) rfl (lv_at hl 3 rfl) ?_
  refine lv_iload_n hx hb (hd 645 (.iload_n 3) 1 rfl) rfl (lv_at hl 0 rfl) ?_
  refine lv_iconst (v := Int32.ofInt 4) hx hb (hd 646 (.iconst 4) 1 rfl) (by decide) ?_
  refine zh_iadd hx hb (hd 647 .iadd 1 rfl) ?_
  refine yl_ld hx hb hX hbl hbA hS (x := i + 4) (by omega) (by omega) hL (hd 648 .iaload 1 rfl) ?_
  refine ycallG (as := [.inl (.inl (xs (i + 1).toNat).toInt), .inl (.inl (xs (i + 2).toNat).toInt), .inl (.inl (xs (i + 3).toNat).toInt), .inl (.inl (xs (i + 4).toNat).toInt)]) (rest := []) zX_ok ⟨hx, hb, hml, hown, hts⟩ (m_X8_vows (N := N) zX_ok zX_n l) (ci := 8) rfl (cwV 4 hts gL_law_X8_vows rfl rfl rfl (by decide +kernel) ⟨Nat.le_of_ble_eq_true rfl, Nat.le_of_ble_eq_true rfl⟩) rfl hK o8 rfl (List.forall_mem_cons.mpr ⟨zq_rng _, List.forall_mem_cons.mpr ⟨zq_rng _, List.forall_mem_cons.mpr ⟨zq_rng _, List.forall_mem_cons.mpr ⟨zq_rng _, fun _ h => absurd h List.not_mem_nil⟩⟩⟩⟩) (e_X8_vows h8) hP hD hS hA hx0 hl.1 (Nat.le_of_ble_eq_true rfl) (hd 649 (.invokevirtual 74) 3 rfl) hroom (fun H locs o8 _ hP hD hS => ?_)
  show W p l e room_1 s m #[Value.ref b] below meth c H locs cells slots Q (F0 m 652 ls [.int (Int32.ofInt a7)])
  refine lv_pop hx hb (hd 652 .pop 1 rfl) rfl ?_
  refine lv_goto (tgt := 1342) hx hb (hd 653 (.goto 689) 3 rfl) (by decide) ?_
  exact kk σ' τ' H locs ⟨o7, o8, hR', hP, hD, hS, hl⟩
noncomputable def pr_lc_wish : List (Nat × Instr × Nat) := [(656, .aload_n 1, 1), (657, .aload_n 0, 1), (658, .iload_n 3, 1), (659, .iconst 1, 1), (660, .iadd, 1), (661, .iaload, 1), (662, .aload_n 0, 1), (663, .iload_n 3, 1), (664, .iconst 2, 1), (665, .iadd, 1), (666, .iaload, 1), (667, .invokevirtual 75, 3), (670, .pop, 1), (671, .aload_n 2, 1), (672, .aload_n 0, 1), (673, .iload_n 3, 1), (674, .iconst 1, 1), (675, .iadd, 1), (676, .iaload, 1), (677, .aload_n 0, 1), (678, .iload_n 3, 1), (679, .iconst 2, 1), (680, .iadd, 1), (681, .iaload, 1), (682, .invokevirtual 78, 3), (685, .pop, 1), (686, .goto 656, 3)]
set_option maxRecDepth 100000 in
theorem hp_lc_wish : pr_lc_wish.all (fun x => decide (decode code x.1 = .ok x.2)) = true := by decide +kernel
set_option maxHeartbeats 4000000 in
set_option maxRecDepth 100000 in
theorem lc_wish {N : Nat} (hN : 1000 ≤ N) {p : Program} {l : Launch} {e : Env} {s : State} {m : MethodId} {below : List Frame} {meth : Method} {c : Code} {cells slots : Nat} {Q : State → Prop} {b L : Nat} {xs : Nat → Int32} {D : va_G} {kA : Nat → ClassId} (hc : zLc p s m c b L xs D kA) {ad7 ad8 : Nat → Nat} {i : Int} {σ τ : yS} {H : Heap} {locs : List Loc} {ls : Array Slot} (hi : yLi s b D kA ad7 ad8 i σ τ H locs ls) (i0 : 0 ≤ i) (i1 : i + 5 ≤ (L : Int)) (hroom : cells ≤ room_1.cells ∧ slots ≤ room_1.slots)
    (kk : ∀ (σ τ : yS) (H : Heap) (locs : List Loc), yLi s b D kA ad7 ad8 i σ τ H locs ls → W p l e room_1 s m #[Value.ref b] below meth c H locs cells slots Q (F0 m 1342 ls [])) : W p l e room_1 s m #[Value.ref b] below meth c H locs cells slots Q (F0 m 656 ls []) := by
  obtain ⟨hx, hb, hml, hown, hts, hX, hbl, hK, hx0, hL⟩ := hc
  obtain ⟨o7, o8, hR, hP, hD, hS, hl⟩ := hi
  have hA : ∀ q : Nat, s.heap.size ≤ q → (fun q : Nat => s.heap.size ≤ q) q := fun _ h => h
  have hbA : ¬ (fun q : Nat => s.heap.size ≤ q) b := Nat.not_le.mpr hbl
  have hd := zpr_all hp_lc_wish
  obtain ⟨a7, σ', τ', h7, h8, hR'⟩ : ∃ (a7 : Int) (σ' τ' : yS), f_X7_wish N σ (xs (i + 1).toNat).toInt (xs (i + 2).toNat).toInt = some (a7, σ') ∧ f_X8_wish N τ (xs (i + 1).toNat).toInt (xs (i + 2).toNat).toInt = some (a7, τ') ∧ yRR σ' τ' := P_wish hR
  refine lv_aload_n hx hb (hd 656 (.aload_n 1) 1 rfl) rfl (lv_at hl 2 rfl) ?_
  refine lv_aload_n hx hb (hd 657 (.aload_n 0) 1 rfl) rfl (lv_at hl 3 rfl) ?_
  refine lv_iload_n hx hb (hd 658 (.iload_n 3) 1 rfl) rfl (lv_at hl 0 rfl) ?_
  refine lv_iconst (v := Int32.ofInt 1) hx hb (hd 659 (.iconst 1) 1 rfl) (by decide) ?_
  refine zh_iadd hx hb (hd 660 .iadd 1 rfl) ?_
  refine yl_ld hx hb hX hbl hbA hS (x := i + 1) (by omega) (by omega) hL (hd 661 .iaload 1 rfl) ?_
  refine lv_aload_n hx hb (hd 662 (.aload_n 0) 1 rfl) rfl (lv_at hl 3 rfl) ?_
  refine lv_iload_n hx hb (hd 663 (.iload_n 3) 1 rfl) rfl (lv_at hl 0 rfl) ?_
  refine lv_iconst (v := Int32.ofInt 2) hx hb (hd 664 (.iconst 2) 1 rfl) (by decide) ?_
  refine zh_iadd hx hb (hd 665 .iadd 1 rfl) ?_
  refine yl_ld hx hb hX hbl hbA hS (x := i + 2) (by omega) (by omega) hL (hd 666 .iaload 1 rfl) ?_
  refine ycallG (as := [.inl (.inl (xs (i + 1).toNat).toInt), .inl (.inl (xs (i + 2).toNat).toInt)]) (rest := []) zX_ok ⟨hx, hb, hml, hown, hts⟩ (m_X7_wish (N := N) zX_ok zX_n l) (ci := 7) rfl (cwV 2 hts gL_law_X7_wish rfl rfl rfl (by decide +kernel) ⟨Nat.le_of_ble_eq_true rfl, Nat.le_of_ble_eq_true rfl⟩) rfl hK o7 rfl (List.forall_mem_cons.mpr ⟨zq_rng _, List.forall_mem_cons.mpr ⟨zq_rng _, fun _ h => absurd h List.not_mem_nil⟩⟩) (e_X7_wish h7) hP hD hS hA hx0 hl.1 (Nat.le_of_ble_eq_true rfl) (hd 667 (.invokevirtual 75) 3 rfl) hroom (fun H locs o7 _ hP hD hS => ?_)
  show W p l e room_1 s m #[Value.ref b] below meth c H locs cells slots Q (F0 m 670 ls [.int (Int32.ofInt a7)])
  refine lv_pop hx hb (hd 670 .pop 1 rfl) rfl ?_
  refine lv_aload_n hx hb (hd 671 (.aload_n 2) 1 rfl) rfl (lv_at hl 1 rfl) ?_
  refine lv_aload_n hx hb (hd 672 (.aload_n 0) 1 rfl) rfl (lv_at hl 3 rfl) ?_
  refine lv_iload_n hx hb (hd 673 (.iload_n 3) 1 rfl) rfl (lv_at hl 0 rfl) ?_
  refine lv_iconst (v := Int32.ofInt 1) hx hb (hd 674 (.iconst 1) 1 rfl) (by decide) ?_
  refine zh_iadd hx hb (hd 675 .iadd 1 rfl) ?_
  refine yl_ld hx hb hX hbl hbA hS (x := i + 1) (by omega) (by omega) hL (hd 676 .iaload 1 rfl) ?_
  refine lv_aload_n hx hb (hd 677 (.aload_n 0) 1 rfl) rfl (lv_at hl 3 rfl) ?_
  refine lv_iload_n hx hb (hd 678 (.iload_n 3) 1 rfl) rfl (lv_at hl 0 rfl) ?_
  refine lv_iconst (v := Int32.ofInt 2) hx hb (hd 679 (.iconst 2) 1 rfl) (by decide) ?_
  refine zh_iadd hx hb (hd 680 .iadd 1 rfl) ?_
  refine yl_ld hx hb hX hbl hbA hS (x := i + 2) (by omega) (by omega) hL (hd 681 .iaload 1 rfl) ?_
  refine ycallG (as := [.inl (.inl (xs (i + 1).toNat).toInt), .inl (.inl (xs (i + 2).toNat).toInt)]) (rest := []) zX_ok ⟨hx, hb, hml, hown, hts⟩ (m_X8_wish (N := N) zX_ok zX_n l) (ci := 8) rfl (cwV 2 hts gL_law_X8_wish rfl rfl rfl (by decide +kernel) ⟨Nat.le_of_ble_eq_true rfl, Nat.le_of_ble_eq_true rfl⟩) rfl hK o8 rfl (List.forall_mem_cons.mpr ⟨zq_rng _, List.forall_mem_cons.mpr ⟨zq_rng _, fun _ h => absurd h List.not_mem_nil⟩⟩) (e_X8_wish h8) hP hD hS hA hx0 hl.1 (Nat.le_of_ble_eq_true rfl) (hd 682 (.invokevirtual 78) 3 rfl) hroom (fun H locs o8 _ hP hD hS => ?_)
  show W p l e room_1 s m #[Value.ref b] below meth c H locs cells slots Q (F0 m 685 ls [.int (Int32.ofInt a7)])
  refine lv_pop hx hb (hd 685 .pop 1 rfl) rfl ?_
  refine lv_goto (tgt := 1342) hx hb (hd 686 (.goto 656) 3 rfl) (by decide) ?_
  exact kk σ' τ' H locs ⟨o7, o8, hR', hP, hD, hS, hl⟩
noncomputable def pr_lc_drop : List (Nat × Instr × Nat) := [(689, .aload_n 1, 1), (690, .aload_n 0, 1), (691, .iload_n 3, 1), (692, .iconst 1, 1), (693, .iadd, 1), (694, .iaload, 1), (695, .aload_n 0, 1), (696, .iload_n 3, 1), (697, .iconst 2, 1), (698, .iadd, 1), (699, .iaload, 1), (700, .invokevirtual 79, 3), (703, .pop, 1), (704, .aload_n 2, 1), (705, .aload_n 0, 1), (706, .iload_n 3, 1), (707, .iconst 1, 1), (708, .iadd, 1), (709, .iaload, 1), (710, .aload_n 0, 1), (711, .iload_n 3, 1), (712, .iconst 2, 1), (713, .iadd, 1), (714, .iaload, 1), (715, .invokevirtual 82, 3), (718, .pop, 1), (719, .goto 623, 3)]
set_option maxRecDepth 100000 in
theorem hp_lc_drop : pr_lc_drop.all (fun x => decide (decode code x.1 = .ok x.2)) = true := by decide +kernel
set_option maxHeartbeats 4000000 in
set_option maxRecDepth 100000 in
theorem lc_drop {N : Nat} (hN : 1000 ≤ N) {p : Program} {l : Launch} {e : Env} {s : State} {m : MethodId} {below : List Frame} {meth : Method} {c : Code} {cells slots : Nat} {Q : State → Prop} {b L : Nat} {xs : Nat → Int32} {D : va_G} {kA : Nat → ClassId} (hc : zLc p s m c b L xs D kA) {ad7 ad8 : Nat → Nat} {i : Int} {σ τ : yS} {H : Heap} {locs : List Loc} {ls : Array Slot} (hi : yLi s b D kA ad7 ad8 i σ τ H locs ls) (i0 : 0 ≤ i) (i1 : i + 5 ≤ (L : Int)) (hroom : cells ≤ room_1.cells ∧ slots ≤ room_1.slots)
    (kk : ∀ (σ τ : yS) (H : Heap) (locs : List Loc), yLi s b D kA ad7 ad8 i σ τ H locs ls → W p l e room_1 s m #[Value.ref b] below meth c H locs cells slots Q (F0 m 1342 ls [])) : W p l e room_1 s m #[Value.ref b] below meth c H locs cells slots Q (F0 m 689 ls []) := by
  obtain ⟨hx, hb, hml, hown, hts, hX, hbl, hK, hx0, hL⟩ := hc
  obtain ⟨o7, o8, hR, hP, hD, hS, hl⟩ := hi
  have hA : ∀ q : Nat, s.heap.size ≤ q → (fun q : Nat => s.heap.size ≤ q) q := fun _ h => h
  have hbA : ¬ (fun q : Nat => s.heap.size ≤ q) b := Nat.not_le.mpr hbl
  have hd := zpr_all hp_lc_drop
  obtain ⟨a7, σ', τ', h7, h8, hR'⟩ : ∃ (a7 : Int) (σ' τ' : yS), f_X7_drop N σ (xs (i + 1).toNat).toInt (xs (i + 2).toNat).toInt = some (a7, σ') ∧ f_X8_drop N τ (xs (i + 1).toNat).toInt (xs (i + 2).toNat).toInt = some (a7, τ') ∧ yRR σ' τ' := P_drop hR
  refine lv_aload_n hx hb (hd 689 (.aload_n 1) 1 rfl) rfl (lv_at hl 2 rfl) ?_
  refine lv_aload_n hx hb (hd 690 (.aload_n 0) 1 rfl) rfl (lv_at hl 3 rfl) ?_
  refine lv_iload_n hx hb (hd 691 (.iload_n 3) 1 rfl) rfl (lv_at hl 0 rfl) ?_
  refine lv_iconst (v := Int32.ofInt 1) hx hb (hd 692 (.iconst 1) 1 rfl) (by decide) ?_
  refine zh_iadd hx hb (hd 693 .iadd 1 rfl) ?_
  refine yl_ld hx hb hX hbl hbA hS (x := i + 1) (by omega) (by omega) hL (hd 694 .iaload 1 rfl) ?_
  refine lv_aload_n hx hb (hd 695 (.aload_n 0) 1 rfl) rfl (lv_at hl 3 rfl) ?_
  refine lv_iload_n hx hb (hd 696 (.iload_n 3) 1 rfl) rfl (lv_at hl 0 rfl) ?_
  refine lv_iconst (v := Int32.ofInt 2) hx hb (hd 697 (.iconst 2) 1 rfl) (by decide) ?_
  refine zh_iadd hx hb (hd 698 .iadd 1 rfl) ?_
  refine yl_ld hx hb hX hbl hbA hS (x := i + 2) (by omega) (by omega) hL (hd 699 .iaload 1 rfl) ?_
  refine ycallG (as := [.inl (.inl (xs (i + 1).toNat).toInt), .inl (.inl (xs (i + 2).toNat).toInt)]) (rest := []) zX_ok ⟨hx, hb, hml, hown, hts⟩ (m_X7_drop (N := N) zX_ok zX_n l) (ci := 7) rfl (cwV 2 hts gL_law_X7_drop rfl rfl rfl (by decide +kernel) ⟨Nat.le_of_ble_eq_true rfl, Nat.le_of_ble_eq_true rfl⟩) rfl hK o7 rfl (List.forall_mem_cons.mpr ⟨zq_rng _, List.forall_mem_cons.mpr ⟨zq_rng _, fun _ h => absurd h List.not_mem_nil⟩⟩) (e_X7_drop h7) hP hD hS hA hx0 hl.1 (Nat.le_of_ble_eq_true rfl) (hd 700 (.invokevirtual 79) 3 rfl) hroom (fun H locs o7 _ hP hD hS => ?_)
  show W p l e room_1 s m #[Value.ref b] below meth c H locs cells slots Q (F0 m 703 ls [.int (Int32.ofInt a7)])
  refine lv_pop hx hb (hd 703 .pop 1 rfl) rfl ?_
  refine lv_aload_n hx hb (hd 704 (.aload_n 2) 1 rfl) rfl (lv_at hl 1 rfl) ?_
  refine lv_aload_n hx hb (hd 705 (.aload_n 0) 1 rfl) rfl (lv_at hl 3 rfl) ?_
  refine lv_iload_n hx hb (hd 706 (.iload_n 3) 1 rfl) rfl (lv_at hl 0 rfl) ?_
  refine lv_iconst (v := Int32.ofInt 1) hx hb (hd 707 (.iconst 1) 1 rfl) (by decide) ?_
  refine zh_iadd hx hb (hd 708 .iadd 1 rfl) ?_
  refine yl_ld hx hb hX hbl hbA hS (x := i + 1) (by omega) (by omega) hL (hd 709 .iaload 1 rfl) ?_
  refine lv_aload_n hx hb (hd 710 (.aload_n 0) 1 rfl) rfl (lv_at hl 3 rfl) ?_
  refine lv_iload_n hx hb (hd 711 (.iload_n 3) 1 rfl) rfl (lv_at hl 0 rfl) ?_
  refine lv_iconst (v := Int32.ofInt 2) hx hb (hd 712 (.iconst 2) 1 rfl) (by decide) ?_
  refine zh_iadd hx hb (hd 713 .iadd 1 rfl) ?_
  refine yl_ld hx hb hX hbl hbA hS (x := i + 2) (by omega) (by omega) hL (hd 714 .iaload 1 rfl) ?_
  refine ycallG (as := [.inl (.inl (xs (i + 1).toNat).toInt), .inl (.inl (xs (i + 2).toNat).toInt)]) (rest := []) zX_ok ⟨hx, hb, hml, hown, hts⟩ (m_X8_drop (N := N) zX_ok zX_n l) (ci := 8) rfl (cwV 2 hts gL_law_X8_drop rfl rfl rfl (by decide +kernel) ⟨Nat.le_of_ble_eq_true rfl, Nat.le_of_ble_eq_true rfl⟩) rfl hK o8 rfl (List.forall_mem_cons.mpr ⟨zq_rng _, List.forall_mem_cons.mpr ⟨zq_rng _, fun _ h => absurd h List.not_mem_nil⟩⟩) (e_X8_drop h8) hP hD hS hA hx0 hl.1 (Nat.le_of_ble_eq_true rfl) (hd 715 (.invokevirtual 82) 3 rfl) hroom (fun H locs o8 _ hP hD hS => ?_)
  show W p l e room_1 s m #[Value.ref b] below meth c H locs cells slots Q (F0 m 718 ls [.int (Int32.ofInt a7)])
  refine lv_pop hx hb (hd 718 .pop 1 rfl) rfl ?_
  refine lv_goto (tgt := 1342) hx hb (hd 719 (.goto 623) 3 rfl) (by decide) ?_
  exact kk σ' τ' H locs ⟨o7, o8, hR', hP, hD, hS, hl⟩
noncomputable def pr_lc_move : List (Nat × Instr × Nat) := [(722, .aload_n 1, 1), (723, .aload_n 0, 1), (724, .iload_n 3, 1), (725, .iconst 1, 1), (726, .iadd, 1), (727, .iaload, 1), (728, .aload_n 0, 1), (729, .iload_n 3, 1), (730, .iconst 2, 1), (731, .iadd, 1), (732, .iaload, 1), (733, .invokevirtual 83, 3), (736, .pop, 1), (737, .aload_n 2, 1), (738, .aload_n 0, 1), (739, .iload_n 3, 1), (740, .iconst 1, 1), (741, .iadd, 1), (742, .iaload, 1), (743, .aload_n 0, 1), (744, .iload_n 3, 1), (745, .iconst 2, 1), (746, .iadd, 1), (747, .iaload, 1), (748, .invokevirtual 86, 3), (751, .pop, 1), (752, .goto 590, 3)]
set_option maxRecDepth 100000 in
theorem hp_lc_move : pr_lc_move.all (fun x => decide (decode code x.1 = .ok x.2)) = true := by decide +kernel
set_option maxHeartbeats 4000000 in
set_option maxRecDepth 100000 in
theorem lc_move {N : Nat} (hN : 1000 ≤ N) {p : Program} {l : Launch} {e : Env} {s : State} {m : MethodId} {below : List Frame} {meth : Method} {c : Code} {cells slots : Nat} {Q : State → Prop} {b L : Nat} {xs : Nat → Int32} {D : va_G} {kA : Nat → ClassId} (hc : zLc p s m c b L xs D kA) {ad7 ad8 : Nat → Nat} {i : Int} {σ τ : yS} {H : Heap} {locs : List Loc} {ls : Array Slot} (hi : yLi s b D kA ad7 ad8 i σ τ H locs ls) (i0 : 0 ≤ i) (i1 : i + 5 ≤ (L : Int)) (hroom : cells ≤ room_1.cells ∧ slots ≤ room_1.slots)
    (kk : ∀ (σ τ : yS) (H : Heap) (locs : List Loc), yLi s b D kA ad7 ad8 i σ τ H locs ls → W p l e room_1 s m #[Value.ref b] below meth c H locs cells slots Q (F0 m 1342 ls [])) : W p l e room_1 s m #[Value.ref b] below meth c H locs cells slots Q (F0 m 722 ls []) := by
  obtain ⟨hx, hb, hml, hown, hts, hX, hbl, hK, hx0, hL⟩ := hc
  obtain ⟨o7, o8, hR, hP, hD, hS, hl⟩ := hi
  have hA : ∀ q : Nat, s.heap.size ≤ q → (fun q : Nat => s.heap.size ≤ q) q := fun _ h => h
  have hbA : ¬ (fun q : Nat => s.heap.size ≤ q) b := Nat.not_le.mpr hbl
  have hd := zpr_all hp_lc_move
  obtain ⟨a7, σ', τ', h7, h8, hR'⟩ : ∃ (a7 : Int) (σ' τ' : yS), f_X7_move N σ (xs (i + 1).toNat).toInt (xs (i + 2).toNat).toInt = some (a7, σ') ∧ f_X8_move N τ (xs (i + 1).toNat).toInt (xs (i + 2).toNat).toInt = some (a7, τ') ∧ yRR σ' τ' := P_move (by omega) hR
  refine lv_aload_n hx hb (hd 722 (.aload_n 1) 1 rfl) rfl (lv_at hl 2 rfl) ?_
  refine lv_aload_n hx hb (hd 723 (.aload_n 0) 1 rfl) rfl (lv_at hl 3 rfl) ?_
  refine lv_iload_n hx hb (hd 724 (.iload_n 3) 1 rfl) rfl (lv_at hl 0 rfl) ?_
  refine lv_iconst (v := Int32.ofInt 1) hx hb (hd 725 (.iconst 1) 1 rfl) (by decide) ?_
  refine zh_iadd hx hb (hd 726 .iadd 1 rfl) ?_
  refine yl_ld hx hb hX hbl hbA hS (x := i + 1) (by omega) (by omega) hL (hd 727 .iaload 1 rfl) ?_
  refine lv_aload_n hx hb (hd 728 (.aload_n 0) 1 rfl) rfl (lv_at hl 3 rfl) ?_
  refine lv_iload_n hx hb (hd 729 (.iload_n 3) 1 rfl) rfl (lv_at hl 0 rfl) ?_
  refine lv_iconst (v := Int32.ofInt 2) hx hb (hd 730 (.iconst 2) 1 rfl) (by decide) ?_
  refine zh_iadd hx hb (hd 731 .iadd 1 rfl) ?_
  refine yl_ld hx hb hX hbl hbA hS (x := i + 2) (by omega) (by omega) hL (hd 732 .iaload 1 rfl) ?_
  refine ycallG (as := [.inl (.inl (xs (i + 1).toNat).toInt), .inl (.inl (xs (i + 2).toNat).toInt)]) (rest := []) zX_ok ⟨hx, hb, hml, hown, hts⟩ (m_X7_move (N := N) zX_ok zX_n l) (ci := 7) rfl (cwV 2 hts gL_law_X7_move rfl rfl rfl (by decide +kernel) ⟨Nat.le_of_ble_eq_true rfl, Nat.le_of_ble_eq_true rfl⟩) rfl hK o7 rfl (List.forall_mem_cons.mpr ⟨zq_rng _, List.forall_mem_cons.mpr ⟨zq_rng _, fun _ h => absurd h List.not_mem_nil⟩⟩) (e_X7_move h7) hP hD hS hA hx0 hl.1 (Nat.le_of_ble_eq_true rfl) (hd 733 (.invokevirtual 83) 3 rfl) hroom (fun H locs o7 _ hP hD hS => ?_)
  show W p l e room_1 s m #[Value.ref b] below meth c H locs cells slots Q (F0 m 736 ls [.int (Int32.ofInt a7)])
  refine lv_pop hx hb (hd 736 .pop 1 rfl) rfl ?_
  refine lv_aload_n hx hb (hd 737 (.aload_n 2) 1 rfl) rfl (lv_at hl 1 rfl) ?_
  refine lv_aload_n hx hb (hd 738 (.aload_n 0) 1 rfl) rfl (lv_at hl 3 rfl) ?_
  refine lv_iload_n hx hb (hd 739 (.iload_n 3) 1 rfl) rfl (lv_at hl 0 rfl) ?_
  refine lv_iconst (v := Int32.ofInt 1) hx hb (hd 740 (.iconst 1) 1 rfl) (by decide) ?_
  refine zh_iadd hx hb (hd 741 .iadd 1 rfl) ?_
  refine yl_ld hx hb hX hbl hbA hS (x := i + 1) (by omega) (by omega) hL (hd 742 .iaload 1 rfl) ?_
  refine lv_aload_n hx hb (hd 743 (.aload_n 0) 1 rfl) rfl (lv_at hl 3 rfl) ?_
  refine lv_iload_n hx hb (hd 744 (.iload_n 3) 1 rfl) rfl (lv_at hl 0 rfl) ?_
  refine lv_iconst (v := Int32.ofInt 2) hx hb (hd 745 (.iconst 2) 1 rfl) (by decide) ?_
  refine zh_iadd hx hb (hd 746 .iadd 1 rfl) ?_
  refine yl_ld hx hb hX hbl hbA hS (x := i + 2) (by omega) (by omega) hL (hd 747 .iaload 1 rfl) ?_
  refine ycallG (as := [.inl (.inl (xs (i + 1).toNat).toInt), .inl (.inl (xs (i + 2).toNat).toInt)]) (rest := []) zX_ok ⟨hx, hb, hml, hown, hts⟩ (m_X8_move (N := N) zX_ok zX_n l) (ci := 8) rfl (cwV 2 hts gL_law_X8_move rfl rfl rfl (by decide +kernel) ⟨Nat.le_of_ble_eq_true rfl, Nat.le_of_ble_eq_true rfl⟩) rfl hK o8 rfl (List.forall_mem_cons.mpr ⟨zq_rng _, List.forall_mem_cons.mpr ⟨zq_rng _, fun _ h => absurd h List.not_mem_nil⟩⟩) (e_X8_move h8) hP hD hS hA hx0 hl.1 (Nat.le_of_ble_eq_true rfl) (hd 748 (.invokevirtual 86) 3 rfl) hroom (fun H locs o8 _ hP hD hS => ?_)
  show W p l e room_1 s m #[Value.ref b] below meth c H locs cells slots Q (F0 m 751 ls [.int (Int32.ofInt a7)])
  refine lv_pop hx hb (hd 751 .pop 1 rfl) rfl ?_
  refine lv_goto (tgt := 1342) hx hb (hd 752 (.goto 590) 3 rfl) (by decide) ?_
  exact kk σ' τ' H locs ⟨o7, o8, hR', hP, hD, hS, hl⟩
noncomputable def pr_lc_go : List (Nat × Instr × Nat) := [(755, .aload_n 1, 1), (756, .aload_n 0, 1), (757, .iload_n 3, 1), (758, .iconst 1, 1), (759, .iadd, 1), (760, .iaload, 1), (761, .invokevirtual 87, 3), (764, .pop, 1), (765, .aload_n 2, 1), (766, .aload_n 0, 1), (767, .iload_n 3, 1), (768, .iconst 1, 1), (769, .iadd, 1), (770, .iaload, 1), (771, .invokevirtual 90, 3), (774, .pop, 1), (775, .goto 567, 3)]
set_option maxRecDepth 100000 in
theorem hp_lc_go : pr_lc_go.all (fun x => decide (decode code x.1 = .ok x.2)) = true := by decide +kernel
set_option maxHeartbeats 4000000 in
set_option maxRecDepth 100000 in
theorem lc_go {N : Nat} (hN : 1000 ≤ N) {p : Program} {l : Launch} {e : Env} {s : State} {m : MethodId} {below : List Frame} {meth : Method} {c : Code} {cells slots : Nat} {Q : State → Prop} {b L : Nat} {xs : Nat → Int32} {D : va_G} {kA : Nat → ClassId} (hc : zLc p s m c b L xs D kA) {ad7 ad8 : Nat → Nat} {i : Int} {σ τ : yS} {H : Heap} {locs : List Loc} {ls : Array Slot} (hi : yLi s b D kA ad7 ad8 i σ τ H locs ls) (i0 : 0 ≤ i) (i1 : i + 5 ≤ (L : Int)) (hroom : cells ≤ room_1.cells ∧ slots ≤ room_1.slots)
    (kk : ∀ (σ τ : yS) (H : Heap) (locs : List Loc), yLi s b D kA ad7 ad8 i σ τ H locs ls → W p l e room_1 s m #[Value.ref b] below meth c H locs cells slots Q (F0 m 1342 ls [])) : W p l e room_1 s m #[Value.ref b] below meth c H locs cells slots Q (F0 m 755 ls []) := by
  obtain ⟨hx, hb, hml, hown, hts, hX, hbl, hK, hx0, hL⟩ := hc
  obtain ⟨o7, o8, hR, hP, hD, hS, hl⟩ := hi
  have hA : ∀ q : Nat, s.heap.size ≤ q → (fun q : Nat => s.heap.size ≤ q) q := fun _ h => h
  have hbA : ¬ (fun q : Nat => s.heap.size ≤ q) b := Nat.not_le.mpr hbl
  have hd := zpr_all hp_lc_go
  obtain ⟨a7, σ', τ', h7, h8, hR'⟩ : ∃ (a7 : Int) (σ' τ' : yS), f_X7_go N σ (xs (i + 1).toNat).toInt = some (a7, σ') ∧ f_X8_go N τ (xs (i + 1).toNat).toInt = some (a7, τ') ∧ yRR σ' τ' := P_go (by omega) hR
  refine lv_aload_n hx hb (hd 755 (.aload_n 1) 1 rfl) rfl (lv_at hl 2 rfl) ?_
  refine lv_aload_n hx hb (hd 756 (.aload_n 0) 1 rfl) rfl (lv_at hl 3 rfl) ?_
  refine lv_iload_n hx hb (hd 757 (.iload_n 3) 1 rfl) rfl (lv_at hl 0 rfl) ?_
  refine lv_iconst (v := Int32.ofInt 1) hx hb (hd 758 (.iconst 1) 1 rfl) (by decide) ?_
  refine zh_iadd hx hb (hd 759 .iadd 1 rfl) ?_
  refine yl_ld hx hb hX hbl hbA hS (x := i + 1) (by omega) (by omega) hL (hd 760 .iaload 1 rfl) ?_
  refine ycallG (as := [.inl (.inl (xs (i + 1).toNat).toInt)]) (rest := []) zX_ok ⟨hx, hb, hml, hown, hts⟩ (m_X7_go (N := N) zX_ok zX_n l) (ci := 7) rfl (cwV 1 hts gL_law_X7_go rfl rfl rfl (by decide +kernel) ⟨Nat.le_of_ble_eq_true rfl, Nat.le_of_ble_eq_true rfl⟩) rfl hK o7 rfl (List.forall_mem_cons.mpr ⟨zq_rng _, fun _ h => absurd h List.not_mem_nil⟩) (e_X7_go h7) hP hD hS hA hx0 hl.1 (Nat.le_of_ble_eq_true rfl) (hd 761 (.invokevirtual 87) 3 rfl) hroom (fun H locs o7 _ hP hD hS => ?_)
  show W p l e room_1 s m #[Value.ref b] below meth c H locs cells slots Q (F0 m 764 ls [.int (Int32.ofInt a7)])
  refine lv_pop hx hb (hd 764 .pop 1 rfl) rfl ?_
  refine lv_aload_n hx hb (hd 765 (.aload_n 2) 1 rfl) rfl (lv_at hl 1 rfl) ?_
  refine lv_aload_n hx hb (hd 766 (.aload_n 0) 1 rfl) rfl (lv_at hl 3 rfl) ?_
  refine lv_iload_n hx hb (hd 767 (.iload_n 3) 1 rfl) rfl (lv_at hl 0 rfl) ?_
  refine lv_iconst (v := Int32.ofInt 1) hx hb (hd 768 (.iconst 1) 1 rfl) (by decide) ?_
  refine zh_iadd hx hb (hd 769 .iadd 1 rfl) ?_
  refine yl_ld hx hb hX hbl hbA hS (x := i + 1) (by omega) (by omega) hL (hd 770 .iaload 1 rfl) ?_
  refine ycallG (as := [.inl (.inl (xs (i + 1).toNat).toInt)]) (rest := []) zX_ok ⟨hx, hb, hml, hown, hts⟩ (m_X8_go (N := N) zX_ok zX_n l) (ci := 8) rfl (cwV 1 hts gL_law_X8_go rfl rfl rfl (by decide +kernel) ⟨Nat.le_of_ble_eq_true rfl, Nat.le_of_ble_eq_true rfl⟩) rfl hK o8 rfl (List.forall_mem_cons.mpr ⟨zq_rng _, fun _ h => absurd h List.not_mem_nil⟩) (e_X8_go h8) hP hD hS hA hx0 hl.1 (Nat.le_of_ble_eq_true rfl) (hd 771 (.invokevirtual 90) 3 rfl) hroom (fun H locs o8 _ hP hD hS => ?_)
  show W p l e room_1 s m #[Value.ref b] below meth c H locs cells slots Q (F0 m 774 ls [.int (Int32.ofInt a7)])
  refine lv_pop hx hb (hd 774 .pop 1 rfl) rfl ?_
  refine lv_goto (tgt := 1342) hx hb (hd 775 (.goto 567) 3 rfl) (by decide) ?_
  exact kk σ' τ' H locs ⟨o7, o8, hR', hP, hD, hS, hl⟩
end
