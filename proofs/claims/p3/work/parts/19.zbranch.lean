section ZSC
variable {p : Program} {l : Launch} {e : Env} {R : Room} {s : State} {m : MethodId} {args : Array Value} {below : List Frame} {meth : Method} {c : Code} {cells slots : Nat} {Q : State → Prop} {cc : ByteArray} {D : va_G} {cl : List vw_C} {kA : Nat → ClassId} {A : Nat → Prop} {H0 : Heap} {nL K : Nat} {pins : List Nat} {r0 : Nat → Int} {ad0 : Nat → Nat} {N pc n : Nat} {S : zS} {ins : Instr} {L : List (Nat × zS)}
theorem zstepB_ok (hx : p.tables.exec = Jvm.exec) (hb : c.code = cc) (hdg : decode cc pc = .ok (ins, 1)) (h : zstepB K n S pc ins = some L) (hgo : ∀ x ∈ L, zGo (zGW p l e R s m args below meth c cells slots Q) D cl kA A H0 nL K pins r0 ad0 N x.1 x.2) : zGo (zGW p l e R s m args below meth c cells slots Q) D cl kA A H0 nL K pins r0 ad0 N pc S := by
  intro r ad ph H locs ls hJ hR hN
  unfold zstepB at h
  split at h
  · rename_i v2 v1 st hst
    split at h
    · rename_i i j hi hj
      cases hz : zint i && zint j && zfr n K (zst S st) with
      | false => rw [hz] at h; cases h
      | true =>
        rw [hz] at h
        simp only [Bool.and_eq_true] at hz
        dsimp only [cond] at h
        split at h
        · rename_i q hq
          cases h
          show W _ _ _ _ _ _ _ _ _ _ _ _ _ _ _ (F0 m pc ls (S.2.2.2.1.map (zcv r ad)))
          rw [hst]
          exact zbin_W hx hb hdg hq hR.1.1 (zrng_ok hR.1 hi) (zrng_ok hR.1 hj) hz.1.1 hz.1.2 (fun z hzz => zputI_go hz.2 (hgo _ List.mem_cons_self) hJ hR hN hzz)
        · cases h
    · cases h
  · rename_i v2 v1 st hst
    split at h
    · rename_i i j hi hj
      cases hz : zlng i && zlng j && zfr n K (zst S st) with
      | false => rw [hz] at h; cases h
      | true =>
        rw [hz] at h
        simp only [Bool.and_eq_true] at hz
        dsimp only [cond] at h
        split at h
        · rename_i q hq
          cases h
          show W _ _ _ _ _ _ _ _ _ _ _ _ _ _ _ (F0 m pc ls (S.2.2.2.1.map (zcv r ad)))
          rw [hst]
          exact zbinL_W hx hb hdg hq hR.1.1 (zrng_ok hR.1 hi) (zrng_ok hR.1 hj) hz.1.1 hz.1.2 (fun z hzz => zputL_go hz.2 (hgo _ List.mem_cons_self) hJ hR hN hzz)
        · cases h
    · cases h
  · cases h
theorem zstepU_ok (hx : p.tables.exec = Jvm.exec) (hb : c.code = cc) (hdg : decode cc pc = .ok (ins, 1)) (h : zstepU K n S pc ins = some L) (hgo : ∀ x ∈ L, zGo (zGW p l e R s m args below meth c cells slots Q) D cl kA A H0 nL K pins r0 ad0 N x.1 x.2) : zGo (zGW p l e R s m args below meth c cells slots Q) D cl kA A H0 nL K pins r0 ad0 N pc S := by
  intro r ad ph H locs ls hJ hR hN
  unfold zstepU at h
  split at h
  · rename_i v st hst
    split at h
    · rename_i i hi
      cases hz : zint i && zfr n K (zst S st) with
      | false => rw [hz] at h; cases h
      | true =>
        rw [hz] at h
        simp only [Bool.and_eq_true] at hz
        dsimp only [cond] at h
        split at h
        · rename_i q hq
          cases h
          show W _ _ _ _ _ _ _ _ _ _ _ _ _ _ _ (F0 m pc ls (S.2.2.2.1.map (zcv r ad)))
          rw [hst]
          exact zun_W hx hb hdg hq hR.1.1 (zrng_ok hR.1 hi) hz.1 (fun z hzz => zputI_go hz.2 (hgo _ List.mem_cons_self) hJ hR hN hzz)
        · cases h
    · cases h
  · cases h
end ZSC
/-- lrem: the rest is below the divisor -/
def zstepR (K n : Nat) (S : zS) (pc : Nat) : Option (List (Nat × zS)) := match S.2.2.2.1 with
  | .inl (.inr v2) :: .inl (.inr v1) :: st => match zrng S.1 v1, zrng S.1 v2 with
    | some i, some j => bif zlng i && zlng j && zpos2 i j && Nat.blt v2.1 n && zfr n K (zst S st) then some [(pc + 1, ((n, (0, j.2 - 1)) :: S.1, zaz S.2.1 (n, 0) v2 (-1), S.2.2.1, .inl (.inr (n, 0)) :: st, S.2.2.2.2.1, S.2.2.2.2.2))] else bif zlng i && zlng j && znz j && zfr n K (zst S st) then some [(pc + 1, zputL n S st (.inr zfullL))] else none
    | _, _ => none
  | _ => none
def zcP (cd : Jvm.ClassFile.Cond) (a b : Int) : Prop := match cd with
  | .eq => a = b
  | .ne => ¬ a = b
  | .lt => a < b
  | .ge => b ≤ a
  | .gt => b < a
  | .le => a ≤ b
def zcT (cd : Jvm.ClassFile.Cond) (E : zE) (Z : zZ) (v1 v2 : zV) : Option (zE × zZ) := match cd with
  | .eq => zeqS E Z v1 v2
  | .ne => zneS E Z v1 v2
  | .lt => zlekS E Z v1 v2 1
  | .ge => zlekS E Z v2 v1 0
  | .gt => zlekS E Z v2 v1 1
  | .le => zlekS E Z v1 v2 0
def zcF (cd : Jvm.ClassFile.Cond) (E : zE) (Z : zZ) (v1 v2 : zV) : Option (zE × zZ) := match cd with
  | .eq => zneS E Z v1 v2
  | .ne => zeqS E Z v1 v2
  | .lt => zlekS E Z v2 v1 0
  | .ge => zlekS E Z v1 v2 1
  | .gt => zlekS E Z v1 v2 0
  | .le => zlekS E Z v2 v1 1
theorem zcT_ok {r : Nat → Int} {E : zE} {Z : zZ} {v1 v2 : zV} {cd : Jvm.ClassFile.Cond} (hE : zokE r E) (hZ : zokZ r Z) (h : zcP cd (zev r v1) (zev r v2)) : ∃ q, zcT cd E Z v1 v2 = some q ∧ zokE r q.1 ∧ zokZ r q.2 := by
  cases cd
  · exact zeqS_ok hE hZ h
  · exact zneS_ok hE hZ h
  · have h : zev r v1 < zev r v2 := h
    exact zlekS_ok hE hZ (by omega)
  · have h : zev r v2 ≤ zev r v1 := h
    exact zlekS_ok hE hZ (by omega)
  · have h : zev r v2 < zev r v1 := h
    exact zlekS_ok hE hZ (by omega)
  · have h : zev r v1 ≤ zev r v2 := h
    exact zlekS_ok hE hZ (by omega)
theorem zcF_ok {r : Nat → Int} {E : zE} {Z : zZ} {v1 v2 : zV} {cd : Jvm.ClassFile.Cond} (hE : zokE r E) (hZ : zokZ r Z) (h : ¬ zcP cd (zev r v1) (zev r v2)) : ∃ q, zcF cd E Z v1 v2 = some q ∧ zokE r q.1 ∧ zokZ r q.2 := by
  cases cd
  · exact zneS_ok hE hZ h
  · exact zeqS_ok hE hZ (Classical.not_not.mp h)
  · have h : ¬ zev r v1 < zev r v2 := h
    exact zlekS_ok hE hZ (by omega)
  · have h : ¬ zev r v2 ≤ zev r v1 := h
    exact zlekS_ok hE hZ (by omega)
  · have h : ¬ zev r v2 < zev r v1 := h
    exact zlekS_ok hE hZ (by omega)
  · have h : ¬ zev r v1 ≤ zev r v2 := h
    exact zlekS_ok hE hZ (by omega)
theorem zq_eq {a b : Int} (a1 : -2147483648 ≤ a) (a2 : a ≤ 2147483647) (b1 : -2147483648 ≤ b) (b2 : b ≤ 2147483647) : Int32.ofInt a = Int32.ofInt b ↔ a = b := by
  rw [← Int32.toInt_inj, zq_of a1 a2, zq_of b1 b2]
theorem zq_lt {a b : Int} (a1 : -2147483648 ≤ a) (a2 : a ≤ 2147483647) (b1 : -2147483648 ≤ b) (b2 : b ≤ 2147483647) : Int32.ofInt a < Int32.ofInt b ↔ a < b := by
  rw [Int32.lt_iff_toInt_lt, zq_of a1 a2, zq_of b1 b2]
theorem zq_le {a b : Int} (a1 : -2147483648 ≤ a) (a2 : a ≤ 2147483647) (b1 : -2147483648 ≤ b) (b2 : b ≤ 2147483647) : Int32.ofInt a ≤ Int32.ofInt b ↔ a ≤ b := by
  rw [Int32.le_iff_toInt_le, zq_of a1 a2, zq_of b1 b2]
section ZSD
variable {p : Program} {l : Launch} {e : Env} {R : Room} {s : State} {m : MethodId} {args : Array Value} {below : List Frame} {meth : Method} {c : Code} {cells slots : Nat} {Q : State → Prop} {cc : ByteArray} {pc : Nat} {ls : Array Slot} {H : Heap} {locs : List Loc} {rest : List Value}
theorem zicmp_W (hx : p.tables.exec = Jvm.exec) (hb : c.code = cc) {cd : Jvm.ClassFile.Cond} {off : Int} {tgt : Nat} (hdg : decode cc pc = .ok (.if_icmp cd off, 3)) (ht : (pc : Int) + off = (tgt : Int)) {a b : Int} (a1 : -2147483648 ≤ a) (a2 : a ≤ 2147483647) (b1 : -2147483648 ≤ b) (b2 : b ≤ 2147483647)
    (kt : zcP cd a b → W p l e R s m args below meth c H locs cells slots Q (F0 m tgt ls rest)) (kf : ¬ zcP cd a b → W p l e R s m args below meth c H locs cells slots Q (F0 m (pc + 3) ls rest)) : W p l e R s m args below meth c H locs cells slots Q (F0 m pc ls (.int (Int32.ofInt b) :: .int (Int32.ofInt a) :: rest)) := by
  cases cd
  · exact lv_icmp_eq hx hb hdg ht (fun q => kt ((zq_eq a1 a2 b1 b2).mp q)) (fun q => kf (fun z => q ((zq_eq a1 a2 b1 b2).mpr z)))
  · exact lv_icmp_ne hx hb hdg ht (fun q => kt (fun z => q ((zq_eq a1 a2 b1 b2).mpr z))) (fun q => kf (fun z => z ((zq_eq a1 a2 b1 b2).mp q)))
  · exact lv_icmp_lt hx hb hdg ht (fun q => kt ((zq_lt a1 a2 b1 b2).mp q)) (fun q => kf (fun z => q ((zq_lt a1 a2 b1 b2).mpr z)))
  · exact lv_icmp_ge hx hb hdg ht (fun q => kt ((zq_le b1 b2 a1 a2).mp q)) (fun q => kf (fun z => q ((zq_le b1 b2 a1 a2).mpr z)))
  · exact lv_icmp_gt hx hb hdg ht (fun q => kt ((zq_lt b1 b2 a1 a2).mp q)) (fun q => kf (fun z => q ((zq_lt b1 b2 a1 a2).mpr z)))
  · exact lv_icmp_le hx hb hdg ht (fun q => kt ((zq_le a1 a2 b1 b2).mp q)) (fun q => kf (fun z => q ((zq_le a1 a2 b1 b2).mpr z)))
theorem zif_W (hx : p.tables.exec = Jvm.exec) (hb : c.code = cc) {cd : Jvm.ClassFile.Cond} {off : Int} {tgt : Nat} (hdg : decode cc pc = .ok (.ifCond cd off, 3)) (ht : (pc : Int) + off = (tgt : Int)) {a : Int} (a1 : -2147483648 ≤ a) (a2 : a ≤ 2147483647)
    (kt : zcP cd a 0 → W p l e R s m args below meth c H locs cells slots Q (F0 m tgt ls rest)) (kf : ¬ zcP cd a 0 → W p l e R s m args below meth c H locs cells slots Q (F0 m (pc + 3) ls rest)) : W p l e R s m args below meth c H locs cells slots Q (F0 m pc ls (.int (Int32.ofInt a) :: rest)) := by
  have z0 : (0 : Int32) = Int32.ofInt 0 := rfl
  have b1 : (-2147483648 : Int) ≤ 0 := by omega
  have b2 : (0 : Int) ≤ 2147483647 := by omega
  cases cd
  · exact lv_if_eq hx hb hdg ht (fun q => kt ((zq_eq a1 a2 b1 b2).mp q)) (fun q => kf (fun z => q ((zq_eq a1 a2 b1 b2).mpr z)))
  · exact lv_if_ne hx hb hdg ht (fun q => kt (fun z => q ((zq_eq a1 a2 b1 b2).mpr z))) (fun q => kf (fun z => z ((zq_eq a1 a2 b1 b2).mp q)))
  · exact lv_if_lt hx hb hdg ht (fun q => kt ((zq_lt a1 a2 b1 b2).mp q)) (fun q => kf (fun z => q ((zq_lt a1 a2 b1 b2).mpr z)))
  · exact lv_if_ge hx hb hdg ht (fun q => kt ((zq_le b1 b2 a1 a2).mp q)) (fun q => kf (fun z => q ((zq_le b1 b2 a1 a2).mpr z)))
  · exact lv_if_gt hx hb hdg ht (fun q => kt ((zq_lt b1 b2 a1 a2).mp q)) (fun q => kf (fun z => q ((zq_lt b1 b2 a1 a2).mpr z)))
  · exact lv_if_le hx hb hdg ht (fun q => kt ((zq_le a1 a2 b1 b2).mp q)) (fun q => kf (fun z => q ((zq_le a1 a2 b1 b2).mpr z)))
theorem zlg_cmp (x y : Int64) : ∃ k : Int, lg_cmp x y = Int32.ofInt k ∧ -1 ≤ k ∧ k ≤ 1 ∧ ∀ cd, zcP cd k 0 ↔ zcP cd x.toInt y.toInt := by
  unfold lg_cmp
  simp only [gt_iff_lt, Int64.lt_iff_toInt_lt, ← Int64.toInt_inj]
  by_cases h1 : y.toInt < x.toInt
  · refine ⟨1, by rw [if_pos h1]; rfl, by omega, by omega, fun cd => ?_⟩
    cases cd <;> (unfold zcP; dsimp only; omega)
  · by_cases h2 : x.toInt = y.toInt
    · refine ⟨0, by rw [if_neg h1, if_pos h2]; rfl, by omega, by omega, fun cd => ?_⟩
      cases cd <;> (unfold zcP; dsimp only; omega)
    · refine ⟨-1, by rw [if_neg h1, if_neg h2]; rfl, by omega, by omega, fun cd => ?_⟩
      cases cd <;> (unfold zcP; dsimp only; omega)
end ZSD
def zbr (S : zS) (st : List zA) (cd : Jvm.ClassFile.Cond) (v1 v2 : zV) (t f : Nat) : List (Nat × zS) := (match zcT cd S.1 S.2.1 v1 v2 with
  | none => []
  | some q => [(t, zse S q st)]) ++ (match zcF cd S.1 S.2.1 v1 v2 with
  | none => []
  | some q => [(f, zse S q st)])
/-- a sum with a constant that may run over: each way by itself -/
def zovf (S : zS) (st : List zA) (v : zV) (k : Int) (pc : Nat) : List (Nat × zS) := (match zref S.1 v (-2147483648 - k) (2147483647 - k) with
  | none => []
  | some E => [(pc, zse S (E, S.2.1) (.inl (.inl (v.1, v.2 + k)) :: st))]) ++ ((match zref S.1 v (-zBig) (-2147483648 - k - 1) with
  | none => []
  | some E => [(pc, zse S (E, S.2.1) (.inl (.inl (v.1, v.2 + (k + 4294967296))) :: st))]) ++ (match zref S.1 v (2147483647 - k + 1) zBig with
  | none => []
  | some E => [(pc, zse S (E, S.2.1) (.inl (.inl (v.1, v.2 + (k - 4294967296))) :: st))]))
def zstepO (S : zS) (pc : Nat) (neg : Bool) : Option (List (Nat × zS)) := match S.2.2.2.1 with
  | .inl (.inl v2) :: .inl (.inl v1) :: st => match zrng S.1 v1 with
    | some i => bif Nat.beq v2.1 0 && zint i && !zint (i.1 + (bif neg then -v2.2 else v2.2), i.2 + (bif neg then -v2.2 else v2.2)) then some (zovf S st v1 (bif neg then -v2.2 else v2.2) (pc + 1)) else none
    | none => none
  | _ => none
/-- where two longs differ: below, or above -/
def znel (S : zS) (st : List zA) (v1 v2 : zV) (t : Nat) : List (Nat × zS) := (match zlekS S.1 S.2.1 v1 v2 1 with
  | none => []
  | some q => [(t, zse S q st)]) ++ (match zlekS S.1 S.2.1 v2 v1 1 with
  | none => []
  | some q => [(t, zse S q st)])
def zbrl (S : zS) (st : List zA) (cd : Jvm.ClassFile.Cond) (v1 v2 : zV) (t f : Nat) : List (Nat × zS) := match cd with
  | .eq => (match zeqS S.1 S.2.1 v1 v2 with
    | none => []
    | some q => [(t, zse S q st)]) ++ znel S st v1 v2 f
  | .ne => znel S st v1 v2 t ++ (match zeqS S.1 S.2.1 v1 v2 with
    | none => []
    | some q => [(f, zse S q st)])
  | cd => zbr S st cd v1 v2 t f
def zstepC (K n : Nat) (S : zS) (pc : Nat) (ins : Instr) (nxt : Option Instr) : Option (List (Nat × zS)) := match ins with
  | .if_icmp cd o => match S.2.2.2.1 with
    | .inl (.inl v2) :: .inl (.inl v1) :: st => match zrng S.1 v1, zrng S.1 v2 with
      | some i, some j => bif zint i && zint j && zle 0 ((pc : Int) + o) then some (zbr S st cd v1 v2 ((pc : Int) + o).toNat (pc + 3)) else none
      | _, _ => none
    | _ => none
  | .ifCond cd o => match S.2.2.2.1 with
    | .inl (.inl v1) :: st => match zrng S.1 v1 with
      | some i => bif zint i && zle 0 ((pc : Int) + o) then some (zbr S st cd v1 (0, 0) ((pc : Int) + o).toNat (pc + 3)) else none
      | _ => none
    | _ => none
  | .lcmp => match nxt with
    | some (.ifCond cd o) => match S.2.2.2.1 with
      | .inl (.inr v2) :: .inl (.inr v1) :: st => match zrng S.1 v1, zrng S.1 v2 with
        | some i, some j => bif zlng i && zlng j && zle 0 (((pc + 1 : Nat) : Int) + o) then some (zbrl S st cd v1 v2 (((pc + 1 : Nat) : Int) + o).toNat (pc + 4)) else none
        | _, _ => none
      | _ => none
    | _ => none
  | .lrem => zstepR K n S pc
  | .iadd => zstepO S pc false
  | .isub => zstepO S pc true
  | _ => none
theorem zq_addW (a b : Int) : Int32.ofInt a + Int32.ofInt b = Int32.ofInt (a + b) := (Int32.ofInt_add a b).symm
theorem zq_subW (a b : Int) : Int32.ofInt a - Int32.ofInt b = Int32.ofInt (a - b) := (Int32.ofInt_sub a b).symm
theorem zq_per (a : Int) : Int32.ofInt (a + 4294967296) = Int32.ofInt a ∧ Int32.ofInt (a - 4294967296) = Int32.ofInt a := by
  constructor
  · apply Int32.toInt_inj.1
    rw [Int32.toInt_ofInt, Int32.toInt_ofInt, Int.bmod_def, Int.bmod_def]
    have e : (a + 4294967296) % ((Int32.size : Nat) : Int) = a % ((Int32.size : Nat) : Int) := by
      rw [show ((Int32.size : Nat) : Int) = 4294967296 from rfl]
      omega
    rw [e]
  · apply Int32.toInt_inj.1
    rw [Int32.toInt_ofInt, Int32.toInt_ofInt, Int.bmod_def, Int.bmod_def]
    have e : (a - 4294967296) % ((Int32.size : Nat) : Int) = a % ((Int32.size : Nat) : Int) := by
      rw [show ((Int32.size : Nat) : Int) = 4294967296 from rfl]
      omega
    rw [e]
section ZSF
variable {p : Program} {l : Launch} {e : Env} {R : Room} {s : State} {m : MethodId} {args : Array Value} {below : List Frame} {meth : Method} {c : Code} {cells slots : Nat} {Q : State → Prop} {cc : ByteArray} {D : va_G} {cl : List vw_C} {kA : Nat → ClassId} {A : Nat → Prop} {H0 : Heap} {nL K : Nat} {pins : List Nat} {r0 : Nat → Int} {ad0 : Nat → Nat} {N pc n : Nat} {S : zS} {ins : Instr} {L : List (Nat × zS)}
theorem zbr_t {G : zGT} {st : List zA} {cd : Jvm.ClassFile.Cond} {v1 v2 : zV} {t f : Nat} (hgo : ∀ x ∈ zbr S st cd v1 v2 t f, zGo G D cl kA A H0 nL K pins r0 ad0 N x.1 x.2) {r : Nat → Int} {ad : Nat → Nat} {ph : Nat → Nat → Int} {H : Heap} {locs : List Loc} {ls : Array Slot} (hJ : zJ K pins r0 ad0 r ad) (hR : zRel D cl kA A H0 nL S r ad ph H locs ls) (hN : zenc r S.2.2.2.2.2 = N) (h : zcP cd (zev r v1) (zev r v2)) : G t H locs ls (st.map (zcv r ad)) := by
  obtain ⟨q, e1, o1, o2⟩ := zcT_ok hR.1 hR.2.1 h
  refine hgo (t, zse S q st) ?_ r ad ph H locs ls hJ ⟨o1, o2, hR.2.2⟩ hN
  unfold zbr
  rw [e1]
  exact List.mem_append_left _ List.mem_cons_self
theorem zbr_f {G : zGT} {st : List zA} {cd : Jvm.ClassFile.Cond} {v1 v2 : zV} {t f : Nat} (hgo : ∀ x ∈ zbr S st cd v1 v2 t f, zGo G D cl kA A H0 nL K pins r0 ad0 N x.1 x.2) {r : Nat → Int} {ad : Nat → Nat} {ph : Nat → Nat → Int} {H : Heap} {locs : List Loc} {ls : Array Slot} (hJ : zJ K pins r0 ad0 r ad) (hR : zRel D cl kA A H0 nL S r ad ph H locs ls) (hN : zenc r S.2.2.2.2.2 = N) (h : ¬ zcP cd (zev r v1) (zev r v2)) : G f H locs ls (st.map (zcv r ad)) := by
  obtain ⟨q, e1, o1, o2⟩ := zcF_ok hR.1 hR.2.1 h
  refine hgo (f, zse S q st) ?_ r ad ph H locs ls hJ ⟨o1, o2, hR.2.2⟩ hN
  unfold zbr
  rw [e1]
  exact List.mem_append_right _ List.mem_cons_self
theorem znel_go {G : zGT} {st : List zA} {v1 v2 : zV} {t : Nat} (hgo : ∀ x ∈ znel S st v1 v2 t, zGo G D cl kA A H0 nL K pins r0 ad0 N x.1 x.2) {r : Nat → Int} {ad : Nat → Nat} {ph : Nat → Nat → Int} {H : Heap} {locs : List Loc} {ls : Array Slot} (hJ : zJ K pins r0 ad0 r ad) (hR : zRel D cl kA A H0 nL S r ad ph H locs ls) (hN : zenc r S.2.2.2.2.2 = N) (h : ¬ zev r v1 = zev r v2) : G t H locs ls (st.map (zcv r ad)) := by
  by_cases hlt : zev r v1 < zev r v2
  · obtain ⟨q, e1, o1, o2⟩ := zlekS_ok (v1 := v1) (v2 := v2) (k := 1) hR.1 hR.2.1 (by omega)
    refine hgo (t, zse S q st) ?_ r ad ph H locs ls hJ ⟨o1, o2, hR.2.2⟩ hN
    unfold znel
    rw [e1]
    exact List.mem_append_left _ List.mem_cons_self
  · obtain ⟨q, e1, o1, o2⟩ := zlekS_ok (v1 := v2) (v2 := v1) (k := 1) hR.1 hR.2.1 (by omega)
    refine hgo (t, zse S q st) ?_ r ad ph H locs ls hJ ⟨o1, o2, hR.2.2⟩ hN
    unfold znel
    rw [e1]
    exact List.mem_append_right _ List.mem_cons_self
theorem zeql_go {G : zGT} {st : List zA} {v1 v2 : zV} {t : Nat} {L1 : List (Nat × zS)} (hL : ∀ q, zeqS S.1 S.2.1 v1 v2 = some q → (t, zse S q st) ∈ L1) (hgo : ∀ x ∈ L1, zGo G D cl kA A H0 nL K pins r0 ad0 N x.1 x.2) {r : Nat → Int} {ad : Nat → Nat} {ph : Nat → Nat → Int} {H : Heap} {locs : List Loc} {ls : Array Slot} (hJ : zJ K pins r0 ad0 r ad) (hR : zRel D cl kA A H0 nL S r ad ph H locs ls) (hN : zenc r S.2.2.2.2.2 = N) (h : zev r v1 = zev r v2) : G t H locs ls (st.map (zcv r ad)) := by
  obtain ⟨q, e1, o1, o2⟩ := zeqS_ok hR.1 hR.2.1 h
  exact hgo (t, zse S q st) (hL q e1) r ad ph H locs ls hJ ⟨o1, o2, hR.2.2⟩ hN
theorem zbrl_t {G : zGT} {st : List zA} {cd : Jvm.ClassFile.Cond} {v1 v2 : zV} {t f : Nat} (hgo : ∀ x ∈ zbrl S st cd v1 v2 t f, zGo G D cl kA A H0 nL K pins r0 ad0 N x.1 x.2) {r : Nat → Int} {ad : Nat → Nat} {ph : Nat → Nat → Int} {H : Heap} {locs : List Loc} {ls : Array Slot} (hJ : zJ K pins r0 ad0 r ad) (hR : zRel D cl kA A H0 nL S r ad ph H locs ls) (hN : zenc r S.2.2.2.2.2 = N) (h : zcP cd (zev r v1) (zev r v2)) : G t H locs ls (st.map (zcv r ad)) := by
  cases cd
  · exact zeql_go (fun q e1 => by unfold zbrl; dsimp only; rw [e1]; exact List.mem_append_left _ List.mem_cons_self) hgo hJ hR hN h
  · exact znel_go (fun x hx => hgo x (List.mem_append_left _ hx)) hJ hR hN h
  · exact zbr_t hgo hJ hR hN h
  · exact zbr_t hgo hJ hR hN h
  · exact zbr_t hgo hJ hR hN h
  · exact zbr_t hgo hJ hR hN h
theorem zbrl_f {G : zGT} {st : List zA} {cd : Jvm.ClassFile.Cond} {v1 v2 : zV} {t f : Nat} (hgo : ∀ x ∈ zbrl S st cd v1 v2 t f, zGo G D cl kA A H0 nL K pins r0 ad0 N x.1 x.2) {r : Nat → Int} {ad : Nat → Nat} {ph : Nat → Nat → Int} {H : Heap} {locs : List Loc} {ls : Array Slot} (hJ : zJ K pins r0 ad0 r ad) (hR : zRel D cl kA A H0 nL S r ad ph H locs ls) (hN : zenc r S.2.2.2.2.2 = N) (h : ¬ zcP cd (zev r v1) (zev r v2)) : G f H locs ls (st.map (zcv r ad)) := by
  cases cd
  · exact znel_go (fun x hx => hgo x (List.mem_append_right _ hx)) hJ hR hN h
  · exact zeql_go (fun q e1 => by unfold zbrl; dsimp only; rw [e1]; exact List.mem_append_right _ List.mem_cons_self) hgo hJ hR hN (Classical.not_not.mp h)
  · exact zbr_f hgo hJ hR hN h
  · exact zbr_f hgo hJ hR hN h
  · exact zbr_f hgo hJ hR hN h
  · exact zbr_f hgo hJ hR hN h
theorem zstepR_ok (hx : p.tables.exec = Jvm.exec) (hb : c.code = cc) (hdg : decode cc pc = .ok (.lrem, 1)) (h : zstepR K n S pc = some L) (hgo : ∀ x ∈ L, zGo (zGW p l e R s m args below meth c cells slots Q) D cl kA A H0 nL K pins r0 ad0 N x.1 x.2) : zGo (zGW p l e R s m args below meth c cells slots Q) D cl kA A H0 nL K pins r0 ad0 N pc S := by
  intro r ad ph H locs ls hJ hR hN
  unfold zstepR at h
  split at h
  · rename_i v2 v1 st hst
    split at h
    · rename_i i j hi hj
      cases hz : zlng i && zlng j && zpos2 i j && Nat.blt v2.1 n && zfr n K (zst S st) with
      | false =>
        rw [hz] at h
        dsimp only [cond] at h
        cases hz2 : zlng i && zlng j && znz j && zfr n K (zst S st) with
        | false => rw [hz2] at h; cases h
        | true =>
          rw [hz2] at h
          simp only [Bool.and_eq_true] at hz2
          obtain ⟨⟨⟨z1, z2⟩, z3⟩, z5⟩ := hz2
          cases h
          have bj := zrng_ok hR.1 hj
          have cj := zlng_ok z2 bj.1 bj.2
          show W _ _ _ _ _ _ _ _ _ _ _ _ _ _ _ (F0 m pc ls (S.2.2.2.1.map (zcv r ad)))
          rw [hst]
          exact lv_lrem hx hb hdg (zq_neL cj.1 cj.2 (znz_ok bj z3)) (zputL_go z5 (hgo _ List.mem_cons_self) hJ hR hN (zres_fullL _ _))
      | true =>
        rw [hz] at h
        simp only [Bool.and_eq_true] at hz
        obtain ⟨⟨⟨⟨z1, z2⟩, z3⟩, z4⟩, z5⟩ := hz
        cases h
        have bi := zrng_ok hR.1 hi
        have bj := zrng_ok hR.1 hj
        have cj := zlng_ok z2 bj.1 bj.2
        have hb2 := zremL_b bi bj z1 z2 z3
        have hp2 := z3
        simp only [zpos2, Bool.and_eq_true] at hp2
        have hp3 := zle_ok hp2.2
        show W _ _ _ _ _ _ _ _ _ _ _ _ _ _ _ (F0 m pc ls (S.2.2.2.1.map (zcv r ad)))
        rw [hst]
        refine lv_lrem hx hb hdg (zq_neL cj.1 cj.2 (Or.inr (by omega))) ?_
        obtain ⟨h1, h2, h3, h4, h5⟩ := zfresh z5 hJ hR hN (Int64.ofInt (zev r v1) - Int64.ofInt (zev r v1) / Int64.ofInt (zev r v2) * Int64.ofInt (zev r v2)).toInt
        generalize hzz : Int64.ofInt (zev r v1) - Int64.ofInt (zev r v1) / Int64.ofInt (zev r v2) * Int64.ofInt (zev r v2) = z at *
        have g := hgo _ List.mem_cons_self _ ad ph H locs ls h1 ⟨⟨h2.1.1, fun x hx => by
          rcases List.mem_cons.mp hx with e | e
          · subst e
            dsimp only
            rw [if_pos rfl]
            omega
          · exact h2.1.2 x e⟩, zaz_ok h2.2.1 (by
            unfold zev at hb2 ⊢
            dsimp only
            rw [if_pos rfl, if_neg (by have := zblt z4; omega)]
            omega), h2.2.2⟩ h4
        have e2 : (.inl (.inr (n, 0)) :: st : List zA).map (zcv (fun i => if i = n then z.toInt else r i) ad) = .long z :: st.map (zcv r ad) := by
          show Value.long (Int64.ofInt (zev _ (n, 0))) :: st.map _ = _
          rw [h3]
          congr 2
          unfold zev
          dsimp only
          rw [if_pos rfl, Int.add_zero, Int64.ofInt_toInt]
        have g : W p l e R s m args below meth c H locs cells slots Q (F0 m (pc + 1) ls ((.inl (.inr (n, 0)) :: st : List zA).map (zcv (fun i => if i = n then z.toInt else r i) ad))) := g
        rw [e2] at g
        exact g
    · cases h
  · cases h
theorem zovf_go {G : zGT} {st : List zA} {v : zV} {k : Int} {t : Nat} (hgo : ∀ x ∈ zovf S st v k t, zGo G D cl kA A H0 nL K pins r0 ad0 N x.1 x.2) {r : Nat → Int} {ad : Nat → Nat} {ph : Nat → Nat → Int} {H : Heap} {locs : List Loc} {ls : Array Slot} (hJ : zJ K pins r0 ad0 r ad) (hR : zRel D cl kA A H0 nL S r ad ph H locs ls) (hN : zenc r S.2.2.2.2.2 = N) (hb : -zBig ≤ zev r v ∧ zev r v ≤ zBig) : G t H locs ls (.int (Int32.ofInt (zev r v + k)) :: st.map (zcv r ad)) := by
  have key : ∀ d : Int, zev r (v.1, v.2 + d) = zev r v + d := fun d => by unfold zev; dsimp only; omega
  by_cases h1 : zev r v < -2147483648 - k
  · obtain ⟨E, e1, o1⟩ := zref_ok (v := v) (lo := -zBig) (hi := -2147483648 - k - 1) hR.1 hb.1 (by omega)
    have g := hgo (t, zse S (E, S.2.1) (.inl (.inl (v.1, v.2 + (k + 4294967296))) :: st)) (by
      unfold zovf
      rw [e1]
      exact List.mem_append_right _ (List.mem_append_left _ List.mem_cons_self)) r ad ph H locs ls hJ ⟨o1, hR.2⟩ hN
    have e2 : (zse S (E, S.2.1) (.inl (.inl (v.1, v.2 + (k + 4294967296))) :: st)).2.2.2.1.map (zcv r ad) = .int (Int32.ofInt (zev r v + k)) :: st.map (zcv r ad) := by
      show Value.int (Int32.ofInt (zev r (v.1, v.2 + (k + 4294967296)))) :: _ = _
      rw [key, ← Int.add_assoc, (zq_per _).1]
    rw [e2] at g
    exact g
  · by_cases h2 : 2147483647 - k < zev r v
    · obtain ⟨E, e1, o1⟩ := zref_ok (v := v) (lo := 2147483647 - k + 1) (hi := zBig) hR.1 (by omega) hb.2
      have g := hgo (t, zse S (E, S.2.1) (.inl (.inl (v.1, v.2 + (k - 4294967296))) :: st)) (by
        unfold zovf
        rw [e1]
        exact List.mem_append_right _ (List.mem_append_right _ List.mem_cons_self)) r ad ph H locs ls hJ ⟨o1, hR.2⟩ hN
      have e2 : (zse S (E, S.2.1) (.inl (.inl (v.1, v.2 + (k - 4294967296))) :: st)).2.2.2.1.map (zcv r ad) = .int (Int32.ofInt (zev r v + k)) :: st.map (zcv r ad) := by
        show Value.int (Int32.ofInt (zev r (v.1, v.2 + (k - 4294967296)))) :: _ = _
        rw [key, ← Int.add_sub_assoc, (zq_per _).2]
      rw [e2] at g
      exact g
    · obtain ⟨E, e1, o1⟩ := zref_ok (v := v) (lo := -2147483648 - k) (hi := 2147483647 - k) hR.1 (by omega) (by omega)
      have g := hgo (t, zse S (E, S.2.1) (.inl (.inl (v.1, v.2 + k)) :: st)) (by
        unfold zovf
        rw [e1]
        exact List.mem_append_left _ List.mem_cons_self) r ad ph H locs ls hJ ⟨o1, hR.2⟩ hN
      have e2 : (zse S (E, S.2.1) (.inl (.inl (v.1, v.2 + k)) :: st)).2.2.2.1.map (zcv r ad) = .int (Int32.ofInt (zev r v + k)) :: st.map (zcv r ad) := by
        show Value.int (Int32.ofInt (zev r (v.1, v.2 + k))) :: _ = _
        rw [key]
      rw [e2] at g
      exact g
theorem zstepO_ok (hx : p.tables.exec = Jvm.exec) (hb : c.code = cc) {neg : Bool} (hdg : (neg = false ∧ decode cc pc = .ok (.iadd, 1)) ∨ (neg = true ∧ decode cc pc = .ok (.isub, 1))) (h : zstepO S pc neg = some L) (hgo : ∀ x ∈ L, zGo (zGW p l e R s m args below meth c cells slots Q) D cl kA A H0 nL K pins r0 ad0 N x.1 x.2) : zGo (zGW p l e R s m args below meth c cells slots Q) D cl kA A H0 nL K pins r0 ad0 N pc S := by
  intro r ad ph H locs ls hJ hR hN
  unfold zstepO at h
  split at h
  · rename_i v2 v1 st hst
    split at h
    · rename_i i hi
      cases hz : Nat.beq v2.1 0 && zint i && !zint (i.1 + (bif neg then -v2.2 else v2.2), i.2 + (bif neg then -v2.2 else v2.2)) with
      | false => rw [hz] at h; cases h
      | true =>
        rw [hz] at h
        simp only [Bool.and_eq_true] at hz
        cases h
        have bi := zrng_ok hR.1 hi
        have ci := zint_ok hz.1.2 bi.1 bi.2
        have e2 : zev r v2 = v2.2 := by
          unfold zev
          rw [Nat.eq_of_beq_eq_true hz.1.1, hR.1.1]
          omega
        have hbig : -zBig ≤ zev r v1 ∧ zev r v1 ≤ zBig := by unfold zBig; omega
        show W _ _ _ _ _ _ _ _ _ _ _ _ _ _ _ (F0 m pc ls (S.2.2.2.1.map (zcv r ad)))
        rw [hst]
        rcases hdg with ⟨rfl, hdg⟩ | ⟨rfl, hdg⟩
        · refine lv_iadd hx hb hdg ?_
          rw [zq_addW, e2]
          exact zovf_go hgo hJ hR hN hbig
        · refine lv_isub hx hb hdg ?_
          rw [zq_subW, e2, Int.sub_eq_add_neg]
          exact zovf_go hgo hJ hR hN hbig
    · cases h
  · cases h
theorem zstepC_ok (hx : p.tables.exec = Jvm.exec) (hb : c.code = cc) {nxt : Option Instr} (hdg : decode cc pc = .ok (ins, zlen ins)) (hnx : ∀ i, nxt = some i → decode cc (pc + 1) = .ok (i, zlen i)) (h : zstepC K n S pc ins nxt = some L) (hgo : ∀ x ∈ L, zGo (zGW p l e R s m args below meth c cells slots Q) D cl kA A H0 nL K pins r0 ad0 N x.1 x.2) : zGo (zGW p l e R s m args below meth c cells slots Q) D cl kA A H0 nL K pins r0 ad0 N pc S := by
  unfold zstepC at h
  split at h
  · rename_i cd o
    intro r ad ph H locs ls hJ hR hN
    split at h
    · rename_i v2 v1 st hst
      split at h
      · rename_i i j hi hj
        cases hz : zint i && zint j && zle 0 ((pc : Int) + o) with
        | false => rw [hz] at h; cases h
        | true =>
          rw [hz] at h
          simp only [Bool.and_eq_true] at hz
          cases h
          have bi := zrng_ok hR.1 hi
          have bj := zrng_ok hR.1 hj
          have ci := zint_ok hz.1.1 bi.1 bi.2
          have cj := zint_ok hz.1.2 bj.1 bj.2
          have q := zle_ok hz.2
          show W _ _ _ _ _ _ _ _ _ _ _ _ _ _ _ (F0 m pc ls (S.2.2.2.1.map (zcv r ad)))
          rw [hst]
          exact zicmp_W (tgt := ((pc : Int) + o).toNat) hx hb hdg (by omega) ci.1 ci.2 cj.1 cj.2 (fun hc => zbr_t hgo hJ hR hN hc) (fun hc => zbr_f hgo hJ hR hN hc)
      · cases h
    · cases h
  · rename_i cd o
    intro r ad ph H locs ls hJ hR hN
    split at h
    · rename_i v1 st hst
      split at h
      · rename_i i hi
        cases hz : zint i && zle 0 ((pc : Int) + o) with
        | false => rw [hz] at h; cases h
        | true =>
          rw [hz] at h
          simp only [Bool.and_eq_true] at hz
          cases h
          have bi := zrng_ok hR.1 hi
          have ci := zint_ok hz.1 bi.1 bi.2
          have q := zle_ok hz.2
          show W _ _ _ _ _ _ _ _ _ _ _ _ _ _ _ (F0 m pc ls (S.2.2.2.1.map (zcv r ad)))
          rw [hst]
          exact zif_W (tgt := ((pc : Int) + o).toNat) hx hb hdg (by omega) ci.1 ci.2 (fun hc => zbr_t hgo hJ hR hN (by rw [zconst hR.1.1]; exact hc)) (fun hc => zbr_f hgo hJ hR hN (by rw [zconst hR.1.1]; exact hc))
      · cases h
    · cases h
  · intro r ad ph H locs ls hJ hR hN
    split at h
    · rename_i cd o
      split at h
      · rename_i v2 v1 st hst
        split at h
        · rename_i i j hi hj
          cases hz : zlng i && zlng j && zle 0 (((pc + 1 : Nat) : Int) + o) with
          | false => rw [hz] at h; cases h
          | true =>
            rw [hz] at h
            simp only [Bool.and_eq_true] at hz
            cases h
            have bi := zrng_ok hR.1 hi
            have bj := zrng_ok hR.1 hj
            have ci := zlng_ok hz.1.1 bi.1 bi.2
            have cj := zlng_ok hz.1.2 bj.1 bj.2
            have q := zle_ok hz.2
            show W _ _ _ _ _ _ _ _ _ _ _ _ _ _ _ (F0 m pc ls (S.2.2.2.1.map (zcv r ad)))
            rw [hst]
            refine W.lcmp hx hb hdg ?_
            obtain ⟨k, hk, k1, k2, k3⟩ := zlg_cmp (Int64.ofInt (zev r v1)) (Int64.ofInt (zev r v2))
            rw [zq_ofL ci.1 ci.2, zq_ofL cj.1 cj.2] at k3
            rw [hk]
            exact zif_W (tgt := (((pc + 1 : Nat) : Int) + o).toNat) hx hb (hnx _ rfl) (by omega) (by omega) (by omega) (fun hc => zbrl_t hgo hJ hR hN ((k3 cd).mp hc)) (fun hc => zbrl_f hgo hJ hR hN (fun z => hc ((k3 cd).mpr z)))
        · cases h
      · cases h
    · cases h
  · exact zstepR_ok hx hb hdg h hgo
  · exact zstepO_ok hx hb (Or.inl ⟨rfl, hdg⟩) h hgo
  · exact zstepO_ok hx hb (Or.inr ⟨rfl, hdg⟩) h hgo
  · cases h
end ZSF
