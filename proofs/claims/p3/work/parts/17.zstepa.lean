def znz (j : zI) : Bool := zle 1 j.1 || zle j.2 (-1)
theorem znz_ok {r : Nat → Int} {j : zI} {v : zV} (hj : zB r j v) (h : znz j = true) : zev r v < 0 ∨ 0 < zev r v := by
  obtain ⟨b1, b2⟩ := hj
  simp only [znz, Bool.or_eq_true] at h
  rcases h with h | h
  · have := zle_ok h; omega
  · have := zle_ok h; omega
def zbin (ins : Instr) (i j : zI) (v1 v2 : zV) : Option (zV ⊕ zI) := match ins with
  | .iadd => some (zadd i j v1 v2)
  | .isub => some (zsub i j v1 v2)
  | .imul => some (zmul i j v1 v2)
  | .iand => some (zand i j v1 v2)
  | .ior => some (zor i j v1 v2)
  | .ixor => some (.inr zfull)
  | .ishl => some (zshl i j v1 v2)
  | .ishr => some (zshr i j v1 v2)
  | .iushr => some (.inr zfull)
  | .idiv => bif znz j then some (zdiv i j v1 v2) else none
  | .irem => bif znz j then some (zrem i j v1 v2) else none
  | _ => none
def zbinL (ins : Instr) (i j : zI) (v1 v2 : zV) : Option (zV ⊕ zI) := match ins with
  | .ladd => some (zaddL i j v1 v2)
  | .lmul => some (zmulL i j v1 v2)
  | .ldiv => bif znz j then some (zdivL i j v1 v2) else none
  | _ => none
def zun (ins : Instr) (i : zI) (v : zV) : Option (zV ⊕ zI) := match ins with
  | .ineg => some (zneg i v)
  | .i2b => some (.inr (-128, 127))
  | .i2s => some (.inr (-32768, 32767))
  | .i2c => some (.inr (0, 65535))
  | _ => none
section ZSA
variable {p : Program} {l : Launch} {e : Env} {R : Room} {s : State} {m : MethodId} {args : Array Value} {below : List Frame} {meth : Method} {c : Code} {cells slots : Nat} {Q : State → Prop} {cc : ByteArray} {pc : Nat} {ls : Array Slot} {H : Heap} {locs : List Loc} {rest : List Value} {r : Nat → Int} {i j : zI} {v1 v2 : zV} {q : zV ⊕ zI} {ins : Instr}
theorem zbin_W (hx : p.tables.exec = Jvm.exec) (hb : c.code = cc) (hdg : decode cc pc = .ok (ins, 1)) (h : zbin ins i j v1 v2 = some q) (h0 : r 0 = 0) (hi : zB r i v1) (hj : zB r j v2) (ii : zint i = true) (jj : zint j = true)
    (k : ∀ z : Int32, zresI r z q → W p l e R s m args below meth c H locs cells slots Q (F0 m (pc + 1) ls (.int z :: rest))) : W p l e R s m args below meth c H locs cells slots Q (F0 m pc ls (.int (Int32.ofInt (zev r v2)) :: .int (Int32.ofInt (zev r v1)) :: rest)) := by
  have cj := zint_ok jj hj.1 hj.2
  unfold zbin at h
  split at h
  · cases h; exact lv_iadd hx hb hdg (k _ (zadd_ok h0 hi hj ii jj))
  · cases h; exact lv_isub hx hb hdg (k _ (zsub_ok h0 hi hj ii jj))
  · cases h; exact lv_imul hx hb hdg (k _ (zmul_ok h0 hi hj ii jj))
  · cases h; exact lv_iand hx hb hdg (k _ (zand_ok hi hj ii jj))
  · cases h; exact lv_ior hx hb hdg (k _ (zor_ok hi hj ii jj))
  · cases h; exact lv_ixor hx hb hdg (k _ (zres_full _ _))
  · cases h; exact lv_ishl hx hb hdg (k _ (zshl_ok hi hj ii jj))
  · cases h; exact lv_ishr hx hb hdg (k _ (zshr_ok hi ii))
  · cases h; exact lv_iushr hx hb hdg rfl (k _ (zres_full _ _))
  · cases hz : znz j with
    | false => rw [hz] at h; cases h
    | true => rw [hz] at h; cases h; exact lv_idiv hx hb hdg (zq_ne cj.1 cj.2 (znz_ok hj hz)) (k _ (zdiv_ok hi hj ii jj))
  · cases hz : znz j with
    | false => rw [hz] at h; cases h
    | true => rw [hz] at h; cases h; exact lv_irem hx hb hdg (zq_ne cj.1 cj.2 (znz_ok hj hz)) (k _ (zrem_ok hi hj ii jj))
  · cases h
theorem zbinL_W (hx : p.tables.exec = Jvm.exec) (hb : c.code = cc) (hdg : decode cc pc = .ok (ins, 1)) (h : zbinL ins i j v1 v2 = some q) (h0 : r 0 = 0) (hi : zB r i v1) (hj : zB r j v2) (ii : zlng i = true) (jj : zlng j = true)
    (k : ∀ z : Int64, zresL r z q → W p l e R s m args below meth c H locs cells slots Q (F0 m (pc + 1) ls (.long z :: rest))) : W p l e R s m args below meth c H locs cells slots Q (F0 m pc ls (.long (Int64.ofInt (zev r v2)) :: .long (Int64.ofInt (zev r v1)) :: rest)) := by
  have cj := zlng_ok jj hj.1 hj.2
  unfold zbinL at h
  split at h
  · cases h; exact lv_ladd hx hb hdg (k _ (zaddL_ok h0 hi hj ii jj))
  · cases h; exact lv_lmul hx hb hdg (k _ (zmulL_ok hi hj ii jj))
  · cases hz : znz j with
    | false => rw [hz] at h; cases h
    | true => rw [hz] at h; cases h; exact lv_ldiv hx hb hdg (zq_neL cj.1 cj.2 (znz_ok hj hz)) (k _ (zdivL_ok hi hj ii jj))
  · cases h
theorem zun_W (hx : p.tables.exec = Jvm.exec) (hb : c.code = cc) (hdg : decode cc pc = .ok (ins, 1)) (h : zun ins i v1 = some q) (h0 : r 0 = 0) (hi : zB r i v1) (ii : zint i = true)
    (k : ∀ z : Int32, zresI r z q → W p l e R s m args below meth c H locs cells slots Q (F0 m (pc + 1) ls (.int z :: rest))) : W p l e R s m args below meth c H locs cells slots Q (F0 m pc ls (.int (Int32.ofInt (zev r v1)) :: rest)) := by
  unfold zun at h
  split at h
  · cases h; exact lv_ineg hx hb hdg (k _ (zneg_ok h0 hi ii))
  · cases h
    refine lv_i2b hx hb hdg rfl (k _ ?_)
    show _ ≤ _ ∧ _ ≤ _
    rw [Int8.toInt_toInt32]
    have a := Int8.le_toInt (Int32.ofInt (zev r v1)).toInt8
    have b := Int8.toInt_lt (Int32.ofInt (zev r v1)).toInt8
    dsimp only
    omega
  · cases h
    refine lv_i2s hx hb hdg rfl (k _ ?_)
    show _ ≤ _ ∧ _ ≤ _
    rw [Int16.toInt_toInt32]
    have a := Int16.le_toInt (Int32.ofInt (zev r v1)).toInt16
    have b := Int16.toInt_lt (Int32.ofInt (zev r v1)).toInt16
    dsimp only
    omega
  · cases h
    refine lv_i2c hx hb hdg rfl (k _ ?_)
    rw [pk_char]
    show _ ≤ _ ∧ _ ≤ _
    have a : (Int32.ofInt (zev r v1)).toBitVec.toNat % 65536 < 65536 := Nat.mod_lt _ (by omega)
    rw [nI_toInt (by omega)]
    dsimp only
    omega
  · cases h
end ZSA
theorem zq_i8 {k : Int} (h1 : -128 ≤ k) (h2 : k ≤ 127) : (Int8.ofInt k).toInt32 = Int32.ofInt k := by
  apply Int32.toInt_inj.1
  rw [Int8.toInt_toInt32, Int8.toInt_ofInt, show Int8.size = 256 from rfl, zq_of (by omega) (by omega), Int.bmod_eq_of_le (by omega) (by omega)]
theorem zq_i16 {k : Int} (h1 : -32768 ≤ k) (h2 : k ≤ 32767) : (Int16.ofInt k).toInt32 = Int32.ofInt k := by
  apply Int32.toInt_inj.1
  rw [Int16.toInt_toInt32, Int16.toInt_ofInt, show Int16.size = 65536 from rfl, zq_of (by omega) (by omega), Int.bmod_eq_of_le (by omega) (by omega)]
theorem zq_i2l {k : Int} (h1 : -2147483648 ≤ k) (h2 : k ≤ 2147483647) : (Int32.ofInt k).toInt64 = Int64.ofInt k := by
  apply Int64.toInt_inj.1
  rw [Int32.toInt_toInt64, zq_of h1 h2, zq_ofL (by omega) (by omega)]
theorem zq_l2i {k : Int} (h1 : -2147483648 ≤ k) (h2 : k ≤ 2147483647) : (Int64.ofInt k).toInt32 = Int32.ofInt k := by
  apply Int32.toInt_inj.1
  rw [Int64.toInt_toInt32, zq_ofL (by omega) (by omega), zq_of h1 h2, zq_bmod h1 h2]
def zld (S : zS) (pc i : Nat) (t : Nat) : Option (List (Nat × zS)) := match zlk S.2.2.1 i, t with
  | some (.inl (.inl v)), 0 => some [(pc, zst S (.inl (.inl v) :: S.2.2.2.1))]
  | some (.inl (.inr v)), 1 => some [(pc, zst S (.inl (.inr v) :: S.2.2.2.1))]
  | some (.inr (some a)), 2 => some [(pc, zst S (.inr (some a) :: S.2.2.2.1))]
  | _, _ => none
def zso (nL : Nat) (S : zS) (pc i : Nat) (t : Nat) : Option (List (Nat × zS)) := match S.2.2.2.1, t with
  | .inl (.inl v) :: st, 0 => bif Nat.blt i nL then some [(pc, zsl S (zset1 S.2.2.1 i (.inl (.inl v))) st)] else none
  | .inl (.inr v) :: st, 1 => bif Nat.blt (i + 1) nL then some [(pc, zsl S (zset2 S.2.2.1 i (.inl (.inr v))) st)] else none
  | .inr (some a) :: st, 2 => bif Nat.blt i nL then some [(pc, zsl S (zset1 S.2.2.1 i (.inr (some a))) st)] else none
  | _, _ => none
def zstepA (cons lcons : List (Nat × Int)) (nL K n : Nat) (S : zS) (pc : Nat) (ins : Instr) : Option (List (Nat × zS)) := match ins with
  | .iconst k => some [(pc + 1, zst S (.inl (.inl (0, k)) :: S.2.2.2.1))]
  | .bipush k => bif zle (-128) k && zle k 127 then some [(pc + 2, zst S (.inl (.inl (0, k)) :: S.2.2.2.1))] else none
  | .sipush k => bif zle (-32768) k && zle k 32767 then some [(pc + 3, zst S (.inl (.inl (0, k)) :: S.2.2.2.1))] else none
  | .lconst k => some [(pc + 1, zst S (.inl (.inr (0, (k.val : Int))) :: S.2.2.2.1))]
  | .ldc k => match zlk cons k with
    | some z => some [(pc + 2, zst S (.inl (.inl (0, z)) :: S.2.2.2.1))]
    | none => none
  | .ldc_w k => match zlk cons k with
    | some z => some [(pc + 3, zst S (.inl (.inl (0, z)) :: S.2.2.2.1))]
    | none => none
  | .ldc2_w k => match zlk lcons k with
    | some z => some [(pc + 3, zst S (.inl (.inr (0, z)) :: S.2.2.2.1))]
    | none => none
  | .iload i => zld S (pc + 2) i 0
  | .iload_n i => zld S (pc + 1) i.val 0
  | .lload i => zld S (pc + 2) i 1
  | .lload_n i => zld S (pc + 1) i.val 1
  | .aload i => zld S (pc + 2) i 2
  | .aload_n i => zld S (pc + 1) i.val 2
  | .istore i => zso nL S (pc + 2) i 0
  | .istore_n i => zso nL S (pc + 1) i.val 0
  | .lstore i => zso nL S (pc + 2) i 1
  | .lstore_n i => zso nL S (pc + 1) i.val 1
  | .astore i => zso nL S (pc + 2) i 2
  | .astore_n i => zso nL S (pc + 1) i.val 2
  | .goto o => bif zle 0 ((pc : Int) + o) then some [(((pc : Int) + o).toNat, S)] else none
  | .dup => match S.2.2.2.1 with
    | a :: st => bif Nat.beq (zcat a) 1 then some [(pc + 1, zst S (a :: a :: st))] else none
    | _ => none
  | .dup2 => match S.2.2.2.1 with
    | a :: b :: st => bif Nat.beq (zcat a) 1 && Nat.beq (zcat b) 1 then some [(pc + 1, zst S (a :: b :: a :: b :: st))] else none
    | _ => none
  | .pop => match S.2.2.2.1 with
    | a :: st => bif Nat.beq (zcat a) 1 then some [(pc + 1, zst S st)] else none
    | _ => none
  | .pop2 => match S.2.2.2.1 with
    | a :: st => bif Nat.beq (zcat a) 2 then some [(pc + 1, zst S st)] else none
    | _ => none
  | .i2l => match S.2.2.2.1 with
    | .inl (.inl v) :: st => match zrng S.1 v with
      | some i => bif zint i then some [(pc + 1, zst S (.inl (.inr v) :: st))] else none
      | none => none
    | _ => none
  | .l2i => match S.2.2.2.1 with
    | .inl (.inr v) :: st => match zrng S.1 v with
      | some i => bif zint i then some [(pc + 1, zst S (.inl (.inl v) :: st))] else none
      | none => none
    | _ => none
  | .iinc i k => match zlk S.2.2.1 i with
    | some (.inl (.inl v)) => match zrng S.1 v with
      | some b => bif zint b && zint (k, k) && Nat.blt i nL && zfr n K S then (match zadd b (k, k) v (0, k) with
        | .inl u => some [(pc + 3, zsl S (zset1 S.2.2.1 i (.inl (.inl u))) S.2.2.2.1)]
        | .inr b => some [(pc + 3, ((n, b) :: S.1, S.2.1, zset1 S.2.2.1 i (.inl (.inl (n, 0))), S.2.2.2.1, S.2.2.2.2.1, S.2.2.2.2.2))]) else none
      | none => none
    | _ => none
  | _ => none
/-- two numbers on top -/
def zstepB (K n : Nat) (S : zS) (pc : Nat) (ins : Instr) : Option (List (Nat × zS)) := match S.2.2.2.1 with
  | .inl (.inl v2) :: .inl (.inl v1) :: st => match zrng S.1 v1, zrng S.1 v2 with
    | some i, some j => bif zint i && zint j && zfr n K (zst S st) then (match zbin ins i j v1 v2 with
      | some q => some [(pc + 1, zputI n S st q)]
      | none => none) else none
    | _, _ => none
  | .inl (.inr v2) :: .inl (.inr v1) :: st => match zrng S.1 v1, zrng S.1 v2 with
    | some i, some j => bif zlng i && zlng j && zfr n K (zst S st) then (match zbinL ins i j v1 v2 with
      | some q => some [(pc + 1, zputL n S st q)]
      | none => none) else none
    | _, _ => none
  | _ => none
def zstepU (K n : Nat) (S : zS) (pc : Nat) (ins : Instr) : Option (List (Nat × zS)) := match S.2.2.2.1 with
  | .inl (.inl v) :: st => match zrng S.1 v with
    | some i => bif zint i && zfr n K (zst S st) then (match zun ins i v with
      | some q => some [(pc + 1, zputI n S st q)]
      | none => none) else none
    | none => none
  | _ => none
