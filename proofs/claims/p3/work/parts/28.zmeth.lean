/-- what is known of the calls of a method, whoever runs it -/
def zCk (X : zXT) (cl : List vw_C) (l : Launch) (rm : Room) (cc : ByteArray) (nL : Nat) (ws : List Cond) (own : String) (ins : Nat → Instr) (calls : List (Nat × zK)) : Prop :=
  ∀ q ∈ calls, ∀ (p : Program) (e : Env) (s : State) (m : MethodId) (args : Array Value) (below : List Frame) (meth : Method) (c : Code) (A : Nat → Prop), CallFix p m c cc nL s args ws own → X A s s.heap → zCal X cl p l e rm s m args below meth c cc nL (ins q.1) q.2
set_option maxHeartbeats 4000000 in
theorem zmeth {X : zXT} (hX : zXok X) {cl : List vw_C} {l : Launch} {y : MethodName} {ws ws' : List Cond} {rm : Room} {k : zK} {cc : ByteArray} {nL rt f n : Nat} {own : String} {tb : zTb} {pr : List (Nat × Instr × Nat)} {bl : List (Nat × zS)} {sp : zSp} (hy : plainName y.cls = true) (hw : ws = Cond.code y cc nL (zrty rt) :: ws') (how : y.cls = own) (hroom : 1 ≤ rm.frames ∧ 64 ≤ rm.locals)
    (hfl : ∀ x ci k tag, zlk tb.1 x = some (ci, k, tag) → zFld ws own cl x ci k tag) (hco : ∀ k z, zlk tb.2.1 k = some z → Cond.constant own k (Int32.ofInt z) ∈ ws) (hlc : ∀ k z, zlk tb.2.2.1 k = some z → Cond.constantLong own k (Int64.ofInt z) ∈ ws)
    (hvc : zCk X cl l rm cc nL ws own Instr.invokevirtual tb.2.2.2.1) (hsc : zCk X cl l rm cc nL ws own Instr.invokestatic tb.2.2.2.2.1) (hmm : ∀ x t, zlk tb.2.2.2.2.2 x = some t → zMM ws own x t) (hpr : ∀ pc ins len, zlk pr pc = some (ins, len) → decode cc pc = .ok (ins, len))
    (hck : zcheck tb sp pr nL rt k bl f n = true) : zMet X cl l y ws rm k := by
  intro D kA r ad ph sz hE hZ hW
  refine Met.ofW (cc := cc) (maxL := nL) (ret := zrty rt) hy hw ?_
  intro p e s m args below meth c s₁ B hml hv
  obtain ⟨rfl, hsz, hP, hK, hD0, hx0⟩ := hv
  have hts := atoms_spec (ws := ws) B.pre
  have hown : s.vm.findClass own = some m.cls := by
    rw [← how]
    exact findClass_of_methodNamed B.named
  subst hsz
  have hD := hD0.self (sz := s.heap.size)
  simp only [zcheck, Bool.and_eq_true] at hck
  obtain ⟨⟨c1, c2⟩, c3⟩ := hck
  have hfix : CallFix p m c cc nL s (k.2.2.1.2.2.2.1.map (zcv r ad)).toArray ws own := ⟨B.exec, B.bytes, hml, hown, hts⟩
  have hcx : zCx X p l e rm s m (k.2.2.1.2.2.2.1.map (zcv r ad)).toArray below meth c cc D cl kA (va_A (zws kA r ad ph k.2.2.1.2.2.2.2.1) s.heap.size) nL ws own tb pr rt := ⟨hX, hx0, fun q h => Or.inr h, hK, B.exec, B.bytes, hml, hown, hts, B.notSynchronized, B.returns, hroom, hfl, hco, hlc, fun q hq => hvc q hq p e s m _ below meth c _ hfix hx0, fun q hq => hsc q hq p e s m _ below meth c _ hfix hx0, hmm, hpr⟩
  have hl := lv_entry (k.2.2.1.2.2.2.1.map (zcv r ad)) (n := nL) (by rw [zsl_len]; exact Nat.le_of_ble_eq_true c1)
  rw [zargs_ok] at hl
  rw [lg_entry_eq]
  exact zrun_ok (k := k) (r0 := r) (ad0 := ad) (N := 0) (dec := false) hcx (fun b hb N' _ => zblocks_ok hcx c3 N' b hb) f n (zst0 k) 0 c2 r ad ph s.heap [] _ ⟨fun _ _ => rfl, fun _ _ => rfl⟩ ⟨hE, hZ, hW, hP, hD, va_S.rf, hl⟩ rfl
theorem zcheck_of {tb : zTb} {sp : zSp} {pr : List (Nat × Instr × Nat)} {nL rt : Nat} {k : zK} {bl : List (Nat × zS)} {f n : Nat} (h1 : Nat.ble ((k.2.2.1.2.2.2.1.map zcat).sum) nL = true) (h2 : zrun tb sp pr nL rt k.1 k.2.1 k.2.2.2 bl false f n (zst0 k) 0 = true) (h3 : ∀ b ∈ bl, zrun tb sp pr nL rt k.1 k.2.1 k.2.2.2 bl true f n b.2 b.1 = true) : zcheck tb sp pr nL rt k bl f n = true := by
  unfold zcheck
  rw [h1, h2, List.all_eq_true.mpr h3]
  rfl
