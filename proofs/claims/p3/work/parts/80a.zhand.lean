noncomputable def znt (c : Int) : Int := (Int32.ofInt c ^^^ Int32.ofInt (-1)).toInt
noncomputable def zan (a b : Int) : Int := (Int32.ofInt a &&& Int32.ofInt b).toInt
noncomputable def zsh (a b : Int) : Int := (Int32.ofInt a <<< (Int32.ofInt b &&& 31)).toInt
theorem zan_b {a : Int} (b : Int) (h0 : 0 ≤ a) (h1 : a ≤ 2147483647) : 0 ≤ zan a b ∧ zan a b ≤ a := by
  have e := zq_of (z := a) (by omega) h1
  have := zand_l (Int32.ofInt a) (Int32.ofInt b) (by rw [e]; exact h0)
  rw [e] at this
  exact this
section ZHD
variable {p : Program} {l : Launch} {e : Env} {R : Room} {s : State} {m : MethodId} {args : Array Value} {below : List Frame} {meth : Method} {c : Code} {cells slots : Nat} {Q : State → Prop} {cc : ByteArray} {pc : Nat} {ls : Array Slot} {H H0 : Heap} {locs : List Loc} {rest : List Value} {D : va_G} {cl : List vw_C} {kA : Nat → ClassId} {A : Nat → Prop} {r : Nat → Int} {ad : Nat → Nat} {ph : Nat → Nat → Int} {w : zW}
theorem zh_iadd (hx : p.tables.exec = Jvm.exec) (hb : c.code = cc) {a b : Int} (hdg : decode cc pc = .ok (.iadd, 1)) (k : W p l e R s m args below meth c H locs cells slots Q (F0 m (pc + 1) ls (.int (Int32.ofInt (a + b)) :: rest))) : W p l e R s m args below meth c H locs cells slots Q (F0 m pc ls (.int (Int32.ofInt b) :: .int (Int32.ofInt a) :: rest)) := by
  refine lv_iadd hx hb hdg ?_
  rw [← Int32.ofInt_add]
  exact k
theorem zh_isub (hx : p.tables.exec = Jvm.exec) (hb : c.code = cc) {a b : Int} (hdg : decode cc pc = .ok (.isub, 1)) (k : W p l e R s m args below meth c H locs cells slots Q (F0 m (pc + 1) ls (.int (Int32.ofInt (a - b)) :: rest))) : W p l e R s m args below meth c H locs cells slots Q (F0 m pc ls (.int (Int32.ofInt b) :: .int (Int32.ofInt a) :: rest)) := by
  refine lv_isub hx hb hdg ?_
  rw [← Int32.ofInt_sub]
  exact k
theorem zh_imul (hx : p.tables.exec = Jvm.exec) (hb : c.code = cc) {a b : Int} (hdg : decode cc pc = .ok (.imul, 1)) (k : W p l e R s m args below meth c H locs cells slots Q (F0 m (pc + 1) ls (.int (Int32.ofInt (a * b)) :: rest))) : W p l e R s m args below meth c H locs cells slots Q (F0 m pc ls (.int (Int32.ofInt b) :: .int (Int32.ofInt a) :: rest)) := by
  refine lv_imul hx hb hdg ?_
  rw [← Int32.ofInt_mul]
  exact k
theorem zh_iand (hx : p.tables.exec = Jvm.exec) (hb : c.code = cc) {a b : Int} (hdg : decode cc pc = .ok (.iand, 1)) (k : W p l e R s m args below meth c H locs cells slots Q (F0 m (pc + 1) ls (.int (Int32.ofInt (zan a b)) :: rest))) : W p l e R s m args below meth c H locs cells slots Q (F0 m pc ls (.int (Int32.ofInt b) :: .int (Int32.ofInt a) :: rest)) := by
  refine lv_iand hx hb hdg ?_
  unfold zan at k
  rw [Int32.ofInt_toInt] at k
  exact k
theorem zh_ixor (hx : p.tables.exec = Jvm.exec) (hb : c.code = cc) {a : Int} (hdg : decode cc pc = .ok (.ixor, 1)) (k : W p l e R s m args below meth c H locs cells slots Q (F0 m (pc + 1) ls (.int (Int32.ofInt (znt a)) :: rest))) : W p l e R s m args below meth c H locs cells slots Q (F0 m pc ls (.int (Int32.ofInt (-1)) :: .int (Int32.ofInt a) :: rest)) := by
  refine lv_ixor hx hb hdg ?_
  unfold znt at k
  rw [Int32.ofInt_toInt] at k
  exact k
theorem zh_ishl (hx : p.tables.exec = Jvm.exec) (hb : c.code = cc) {a b : Int} (hdg : decode cc pc = .ok (.ishl, 1)) (k : W p l e R s m args below meth c H locs cells slots Q (F0 m (pc + 1) ls (.int (Int32.ofInt (zsh a b)) :: rest))) : W p l e R s m args below meth c H locs cells slots Q (F0 m pc ls (.int (Int32.ofInt b) :: .int (Int32.ofInt a) :: rest)) := by
  refine lv_ishl hx hb hdg ?_
  unfold zsh at k
  rw [Int32.ofInt_toInt] at k
  exact k
theorem zh_ld (hx : p.tables.exec = Jvm.exec) (hb : c.code = cc) (hK : va_K D cl (ztys kA) s) (hP : va_P D cl (zws kA r ad ph w) H) {q i n : Nat} {gs : List zG} {mm : zM} (hc : w[q]? = some (i, .inr (.inl (0, n, gs, mm)))) {x : Int} (h0 : 0 ≤ x) (h1 : x + 1 ≤ (n : Int)) (hn : n ≤ 2000000) (hdg : decode cc pc = .ok (.iaload, 1)) (k : W p l e R s m args below meth c H locs cells slots Q (F0 m (pc + 1) ls (.int (Int32.ofInt (ph i x.toNat)) :: rest))) : W p l e R s m args below meth c H locs cells slots Q (F0 m pc ls (.int (Int32.ofInt x) :: .ref (ad i) :: rest)) := by
  obtain ⟨g1, g2⟩ := zq_idx (k := x) (m := n) h0 h1 hn
  refine va_iald hx hb hK hP q 0 (zws_get kA r ad ph hc) rfl g1 hdg ?_
  rw [g2]
  exact k
theorem zh_st (hx : p.tables.exec = Jvm.exec) (hb : c.code = cc) (hK : va_K D cl (ztys kA) s) (hP : va_P D cl (zws kA r ad ph w) H) (hD : va_D A (zws kA r ad ph w)) (hS : va_S A H0 H locs) (hok : zokW r ph w) {q i n : Nat} {lo hi : Int} (hc : w[q]? = some (i, .inr (.inl (0, n, [(n, .inl (lo, hi))], [])))) {x u : Int} (h0 : 0 ≤ x) (h1 : x + 1 ≤ (n : Int)) (hn : n ≤ 2000000) (u0 : lo ≤ u) (u1 : u ≤ hi) (hdg : decode cc pc = .ok (.iastore, 1))
    (k : ∀ (ph' : Nat → Nat → Int) (H' : Heap) (locs' : List Loc), (∀ j, j ≠ i → ph' j = ph j) → (ph' i = fun j => if j = x.toNat then u else ph i j) → zokW r ph' w → va_P D cl (zws kA r ad ph' w) H' → va_D A (zws kA r ad ph' w) → va_S A H0 H' locs' → W p l e R s m args below meth c H' locs' cells slots Q (F0 m (pc + 1) ls rest)) : W p l e R s m args below meth c H locs cells slots Q (F0 m pc ls (.int (Int32.ofInt u) :: .int (Int32.ofInt x) :: .ref (ad i) :: rest)) := by
  obtain ⟨g1, g2⟩ := zq_idx (k := x) (m := n) h0 h1 hn
  obtain ⟨ph', hph'⟩ : ∃ ph' : Nat → Nat → Int, ph' = fun y => if y = i then (fun j => if j = x.toNat then u else ph i j) else ph y := ⟨_, rfl⟩
  have hp1 : ∀ y, y ≠ i → ph' y = ph y := fun y hy => by rw [hph']; exact if_neg hy
  have hp2 : ph' i = fun j => if j = x.toNat then u else ph i j := by rw [hph']; exact if_pos rfl
  have hset : w.set q (i, .inr (.inl (0, n, [(n, .inl (lo, hi))], []))) = w := by
    obtain ⟨hlt, heq⟩ := List.getElem?_eq_some_iff.mp hc
    rw [← heq]
    exact List.set_getElem_self hlt
  have ews := zws_set (x' := .inr (.inl (0, n, [(n, .inl (lo, hi))], []))) hD hc hp1
  have ef : zce kA r ad (ph' i) (.inr (.inl (0, n, [(n, .inl (lo, hi))], []))) = .inl (kA 0, n, .inl (upd (fun j => Int32.ofInt (ph i j)) x.toNat (Int32.ofInt u))) := by
    rw [hp2]
    show Sum.inl (kA 0, n, Sum.inl _) = _
    congr 4
    funext j
    unfold upd
    dsimp only
    split <;> rfl
  have hc0 : zokC r (ph i) (.inr (.inl (0, n, [(n, .inl (lo, hi))], []))) := hok _ (List.mem_of_getElem? hc)
  have hwok := zokW_set (x' := .inr (.inl (0, n, [(n, .inl (lo, hi))], []))) hD hc hp1 hok ⟨⟨fun j j1 j2 => by
    rw [hp2]
    show lo ≤ (if j = x.toNat then u else ph i j) ∧ (if j = x.toNat then u else ph i j) ≤ hi
    split
    · exact ⟨u0, u1⟩
    · exact hc0.1.1 j j1 j2, trivial⟩, fun y hy => by cases hy⟩
  rw [hset] at ews hwok
  rw [ef] at ews
  refine va_iast hx hb hK hP hD hS q 0 (zws_get kA r ad ph hc) rfl g1 hdg (fun H1 locs1 hP1 hD1 hS1 => ?_)
  rw [g2] at hP1 hD1
  have hP1 : va_P D cl ((zws kA r ad ph w).set q (ad i, .inl (kA 0, n, .inl (upd (fun j => Int32.ofInt (ph i j)) x.toNat (Int32.ofInt u))))) H1 := hP1
  have hD1 : va_D A ((zws kA r ad ph w).set q (ad i, .inl (kA 0, n, .inl (upd (fun j => Int32.ofInt (ph i j)) x.toNat (Int32.ofInt u))))) := hD1
  rw [← ews] at hP1 hD1
  exact k ph' H1 locs1 hp1 hp2 hwok hP1 hD1 hS1
end ZHD
def zFG (C F : Nat → Int) (a b : Int) : Prop := 0 ≤ F (16 * a + b).toNat ∧ F (16 * a + b).toNat ≤ 1000000 ∧ (a = 700 → F (16 * a + b).toNat = 0 ∨ F (16 * a + b).toNat = 1000000) ∧ (a < 700 → F (16 * a + b).toNat < 1000000 → F (16 * a + b).toNat = F (16 * (a + 1) + b).toNat ∨ (C a.toNat ≠ 0 ∧ F (16 * a + b).toNat = F (16 * (a + 1) + zan b (znt (C a.toNat))).toNat + 1))
/-- the table is right behind v, and in row v ahead of L -/
def zFI (C F : Nat → Int) (v L : Int) : Prop := ∀ a b : Int, 0 ≤ a → a ≤ 700 → 0 ≤ b → b < 16 → (v < a ∨ (a = v ∧ b < L)) → zFG C F a b
theorem zFI_row {C F : Nat → Int} {v : Int} (h : zFI C F v 16) : zFI C F (v - 1) 0 := by
  intro a b a0 a1 b0 b1 hd
  exact h a b a0 a1 b0 b1 (by omega)
theorem zFI_step {C F F' : Nat → Int} {v L y : Int} (h : zFI C F v L) (v0 : 0 ≤ v) (v1 : v ≤ 700) (L0 : 0 ≤ L) (L1 : L < 16) (hF : F' = fun j => if j = (16 * v + L).toNat then y else F j) (y0 : 0 ≤ y) (y1 : y ≤ 1000000) (h7 : v = 700 → y = 0 ∨ y = 1000000) (h6 : v < 700 → y < 1000000 → y = F (16 * (v + 1) + L).toNat ∨ (C v.toNat ≠ 0 ∧ y = F (16 * (v + 1) + zan L (znt (C v.toNat))).toNat + 1)) : zFI C F' v (L + 1) := by
  intro a b a0 a1 b0 b1 hd
  have hne : ∀ j : Int, 0 ≤ j → j ≠ 16 * v + L → F' j.toNat = F j.toNat := fun j j0 j1 => by
    rw [hF]
    exact if_neg (by omega)
  have heq : F' (16 * v + L).toNat = y := by
    rw [hF]
    exact if_pos rfl
  have hz := zan_b (znt (C a.toNat)) b0 (by omega)
  unfold zFG
  by_cases hab : a = v ∧ b = L
  · obtain ⟨rfl, rfl⟩ := hab
    rw [heq, hne (16 * (a + 1) + b) (by omega) (by omega), hne (16 * (a + 1) + zan b (znt (C a.toNat))) (by omega) (by omega)]
    exact ⟨y0, y1, h7, h6⟩
  · rw [hne (16 * a + b) (by omega) (by omega), hne (16 * (a + 1) + b) (by omega) (by omega), hne (16 * (a + 1) + zan b (znt (C a.toNat))) (by omega) (by omega)]
    exact h a b a0 a1 b0 b1 (by omega)
