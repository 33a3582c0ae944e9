/-- as the kit's row for a method's body; for a class of the library that has rows of its own for other methods -/
theorem yofWF {l : Launch} {y : MethodName} {ws ws' : List Cond} {rm : Room} {Pc : Array Value → State → Prop} {Qc : Array Value → State → Outcome → State → Prop} {mc ms : Nat} {free : Addr → Prop} {cc : ByteArray} {maxL : Nat} {ret : Option FieldType}
    (hy : plainFor y = true) (hw : ws = Cond.code y cc maxL ret :: ws')
    (body : ∀ p e s m args below meth c s₁, BodyLoose p l y (headSpec ws rm) cc maxL ret e s m args below meth c s₁ → c.maxLocals = maxL → Pc args s →
      W p l e (headSpec ws rm).room s m args below meth c s.heap [] 0 0 (MQ below Qc args s mc ms free) (entryFrame m args maxL)) : Met l y ws rm Pc Qc mc ms free := by
  refine MetFree.of_bodySF (code := cc) (maxLocals := maxL) (ret := ret) hy ?_ ?_
  · intro args s m h hn
    obtain ⟨meth, c, h1, h2, h3, h4, h5, h6, -, -⟩ := Cond.code_spec hn (atoms_spec (ws := ws) h _ (by rw [hw]; exact List.mem_cons_self))
    exact ⟨meth, c, h1, h2, h3, h4, h5, h6⟩
  · intro p e s m args below meth c s₁ B hml hP _
    have hh0 : s₁.heap = s.heap := by rw [B.state]; rfl
    obtain ⟨t, a1, o, b1, b2, b3⟩ := body p e s m args below meth c s₁ B hml hP s₁ hh0 (Stand.of_body B)
    exact ⟨t, o, a1, b1, b2, ⟨b3.1, b3.2⟩⟩
theorem ypl_fm : plainFor yJ9_floorMod_7cf53 = true := by decide +kernel
set_option maxHeartbeats 4000000 in
theorem ymethF {X : zXT} (hX : zXok X) {cl : List vw_C} {ct : yCt} {sh : List yH} {l : Launch} {y : MethodName} {ws ws' : List Cond} {rm : Room} {F : yF} {cc : ByteArray} {nL rt : Nat} {own : String} {tb : yTb} {pr : List (Nat × Instr × Nat)} (hy : plainFor y = true) (hw : ws = Cond.code y cc nL (zrty rt) :: ws') (how : y.cls = own) (hroom : 1 ≤ rm.frames ∧ 64 ≤ rm.locals)
    (hfl : ∀ x ci k tag, zlk tb.1 x = some (ci, k, tag) → zFld ws own cl x ci k tag) (hco : ∀ k z, zlk tb.2.1 k = some z → Cond.constant own k (Int32.ofInt z) ∈ ws) (hlc : ∀ k z, zlk tb.2.2.1 k = some z → Cond.constantLong own k (Int64.ofInt z) ∈ ws)
    (hvc : ∀ q ∈ tb.2.2.2.1, yCk X cl ct sh l rm cc nL ws own (.invokevirtual q.1) q.2.1 (some q.2.2.1) q.2.2.2) (hsc : ∀ q ∈ tb.2.2.2.2.1, yCk X cl ct sh l rm cc nL ws own (.invokestatic q.1) q.2.1 none q.2.2) (hmm : ∀ x t, zlk tb.2.2.2.2.2.1 x = some t → zMM ws own x t) (htx : ∀ q ∈ tb.2.2.2.2.2.2, yCkT X cl ct sh l rm cc nL ws own q.1 q.2.1 q.2.2) (hpr : ∀ pc ins len, zlk pr pc = some (ins, len) → decode cc pc = .ok (ins, len))
    (hF : ∀ (as : List yV) (σ : yS) (res : yR), F as σ = some res → (as.map ycat).sum ≤ nL ∧ yGoes X cl ct sh l rm cc nL ws own tb pr rt (0, yargs 0 as, [], σ) res) : yMet X cl ct sh l y ws rm F := by
  intro D kA ad sz as σ res hS0 has hFr
  obtain ⟨c1, hrun⟩ := hF as σ res hFr
  refine yofWF (cc := cc) (maxL := nL) (ret := zrty rt) hy hw ?_
  intro p e s m args below meth c s₁ B hml hv
  obtain ⟨rfl, hsz, hP, hK, hD0, hx0⟩ := hv
  have hts := atoms_spec (ws := ws) B.pre
  have hown : s.vm.findClass own = some m.cls := by
    rw [← how]
    exact findClass_of_methodNamed B.named
  subst hsz
  have hD := hD0.self (sz := s.heap.size)
  have hfix : CallFix p m c cc nL s (as.map (ycv ad)).toArray ws own := ⟨B.exec, B.bytes, hml, hown, hts⟩
  have hcx : yCx X p l e rm s m (as.map (ycv ad)).toArray below meth c cc D cl ct kA (va_A (yws ct kA ad sh σ) s.heap.size) nL sh ws own tb pr rt := ⟨hX, hx0, fun q h => Or.inr h, hK, B.exec, B.bytes, hml, hown, hts, B.notSynchronized, B.returns, hroom, hfl, hco, hlc, fun x n ci F h => hvc _ (zlk_mem h) p e s m _ below meth c _ hfix hx0, fun x n F h => hsc _ (zlk_mem h) p e s m _ below meth c _ hfix hx0, hmm, fun x y F h => htx _ (zlk_mem h) p e s m _ below meth c _ hfix hx0, hpr⟩
  have hl := lv_entry (as.map (ycv ad)) (n := nL) (by rw [ysl_len]; exact c1)
  rw [yargs_ok] at hl
  rw [lg_entry_eq]
  exact hrun p e s m _ below meth c D kA _ ad hcx s.heap [] _ ⟨hS0, yargs_in as 0 has, (fun a ha => by cases ha), hP, hD, va_S.rf, hl⟩
