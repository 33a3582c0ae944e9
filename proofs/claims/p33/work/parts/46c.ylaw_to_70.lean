section
section YLW
variable {X : zXT} {p : Program} {l : Launch} {e : Env} {R : Room} {s : State} {m : MethodId} {args : Array Value} {below : List Frame} {meth : Method} {c : Code} {Q : State → Prop} {cc : ByteArray} {D : va_G} {cl : List vw_C} {ct : yCt} {kA : Nat → ClassId} {A : Nat → Prop} {nL pc cells slots : Nat} {sh : List yH} {ad : Nat → Nat}
theorem yget_l {u v : va_W} {k : Nat} {q : Nat × va_E} (hk : u[k]? = some q) : (u ++ v)[k]? = some q := by
  rw [List.getElem?_append_left (List.getElem?_eq_some_iff.mp hk).1]
  exact hk
theorem yget_r {u v : va_W} {k : Nat} {q : Nat × va_E} (hk : v[k]? = some q) : (u ++ v)[u.length + k]? = some q := by
  rw [List.getElem?_append_right (Nat.le_add_right _ _), Nat.add_sub_cancel_left]
  exact hk
theorem yP_l {D : va_G} {cl : List vw_C} {H : Heap} {u v : va_W} (h : va_P D cl (u ++ v) H) : va_P D cl u H := fun k q hk => h k q (yget_l hk)
theorem yP_r {D : va_G} {cl : List vw_C} {H : Heap} {u v : va_W} (h : va_P D cl (u ++ v) H) : va_P D cl v H := fun k q hk => h (u.length + k) q (yget_r hk)
theorem yD_l {A : Nat → Prop} {u v : va_W} (h : va_D A (u ++ v)) : va_D A u := ⟨fun i j p q hi hj e => h.1 i j p q (yget_l hi) (yget_l hj) e, fun k q hk => h.2 k q (yget_l hk)⟩
theorem yD_r {A : Nat → Prop} {u v : va_W} (h : va_D A (u ++ v)) : va_D A v := ⟨fun i j p q hi hj e => by
  have := h.1 (u.length + i) (u.length + j) p q (yget_r hi) (yget_r hj) e
  omega, fun k q hk => h.2 (u.length + k) q (yget_r hk)⟩
theorem yD_x {A : Nat → Prop} {u v : va_W} (h : va_D A (u ++ v)) : ∀ (i j : Nat) (p q : Nat × va_E), u[i]? = some p → v[j]? = some q → p.1 ≠ q.1 := fun i j p q hi hj e => by
  have a := h.1 i (u.length + j) p q (yget_l hi) (yget_r hj) e
  have b := (List.getElem?_eq_some_iff.mp hi).1
  omega
theorem ycallzG {H : Heap} {locs : List Loc} {H0 : Heap} {A0 A1 : Nat → Prop} {ls : Array Slot} {st0 rest : List Value} {a : Array Value} {res : yR} (hr : va_Run p l e R s m args below meth c H locs cells slots 0 0 (F0 m pc ls st0) rest (yQc D cl ct kA sh ad A1 res a) A1) (hS : va_S A0 H0 H locs) (hA : ∀ q, A1 q → A0 q)
    (kk : ∀ (H1 : Heap) (locs1 : List Loc), yokS ct sh res.2 → (∀ a, res.1 = some a → yokV sh a) → va_P D cl (yws ct kA ad sh res.2) H1 → va_D A1 (yws ct kA ad sh res.2) → (∀ q : Nat, q < H.size → ¬ A1 q → H1[q]? = H[q]?) → va_S A0 H0 H1 locs1 → W p l e R s m args below meth c H1 locs1 cells slots Q (F0 m (pc + 3) ls ((res.1.map (ycv ad)).toList ++ rest))) : W p l e R s m args below meth c H locs cells slots Q (F0 m pc ls st0) := by
  intro T hT Xs
  obtain ⟨v, st₀, t, T', L, h0, X', hL, e1, e2, ⟨⟨j1, j2, hv, j5, j6⟩, hz, hk⟩, st⟩ := hr T hT Xs
  cases hv
  rw [h0] at hz hk
  rw [← e1] at j5
  obtain ⟨t2, a1, b1⟩ := kk T'.heap (locs ++ L) j1 j2 j5 j6 (fun q h1 h2 => by rw [e1]; exact hk q h1 h2)
    ⟨Nat.le_trans hS.1 (by rw [e1]; exact hz), fun q h1 h2 => by rw [e1, hk q (Nat.lt_of_lt_of_le h1 hS.1) (fun z => h2 (hA q z))]; exact hS.2.1 q h1 h2, fun q hq => by
      rcases List.mem_append.mp hq with h | h
      · exact hS.2.2 q h
      · exact hA _ (hL q h)⟩ T' rfl X'
  exact ⟨t2, st t2 a1, b1⟩
set_option maxHeartbeats 4000000 in
/-- a call of a method that is proved, beside a world that it does not know -/
theorem ycallG (hX : zXok X) {Ts ws : List Cond} {own C : String} {y : MethodName} {bytes : ByteArray} {maxL n index ci nF : Nat} {T : u_T} {ret : Option FieldType} {rm : Room} {F : yF} {as : List yV} (S : CallFix p m c cc nL s args Ts own) (hM : yMet X cl ct sh l y ws rm F) (hci : cl[ci]? = some (C, T, nF)) (cw : CallW R s args own C index y bytes maxL ret ws rm 0 0 n) (hn : as.length = n)
    (hK : va_K D cl (ztys kA) s) {σ : yS} {res : yR} (hS0 : yokS ct sh σ) (h0 : sh[0]? = some (.inl ci)) (has : ∀ a ∈ as, yokV sh a) (hF : F (.inr (.inl ci, 0) :: as) σ = some res) {v : va_W} {H : Heap} {locs : List Loc} {ls : Array Slot} {rest : List Value} (hP : va_P D cl (yws ct kA ad sh σ ++ v) H) (hD : va_D A (yws ct kA ad sh σ ++ v)) (hS : va_S A s.heap H locs) (hA : ∀ q, s.heap.size ≤ q → A q) (hx0 : X A s s.heap) (hls : ls.size = nL) (hcat : (rest.map fun v => v.category).sum ≤ 8) (hdg : decode cc pc = .ok (.invokevirtual index, 3)) (hroom : cells ≤ R.cells ∧ slots ≤ R.slots)
    (kk : ∀ (H1 : Heap) (locs1 : List Loc), yokS ct sh res.2 → (∀ a, res.1 = some a → yokV sh a) → va_P D cl (v ++ yws ct kA ad sh res.2) H1 → va_D A (v ++ yws ct kA ad sh res.2) → va_S A s.heap H1 locs1 → W p l e R s m args below meth c H1 locs1 cells slots Q (F0 m (pc + 3) ls ((res.1.map (ycv ad)).toList ++ rest))) :
    W p l e R s m args below meth c H locs cells slots Q (F0 m pc ls ((as.map (ycv ad)).reverse ++ .ref (ad 0) :: rest)) := by
  have hall : ∀ a ∈ (.inr (.inl ci, 0) :: as : List yV), yokV sh a := List.forall_mem_cons.mpr ⟨(show yokV sh (.inr (.inl ci, 0)) from h0), has⟩
  have hm := hM D kA ad H.size (.inr (.inl ci, 0) :: as) σ res hS0 hall hF
  have hPc := yP_l hP
  have hDc := yD_l hD
  have hFr : ∀ q, va_A (yws ct kA ad sh σ) H.size q → A q := fun q h => by
    rcases h with ⟨j, e, h⟩ | h
    · exact hDc.2 j (q, e) h
    · exact hA q (Nat.le_trans hS.1 h)
  have hxA : X (va_A (yws ct kA ad sh σ) H.size) s H := hX.2.2.2 A _ s H hFr (hX.2.2.1 A s s.heap H (fun a h1 h2 => hS.2.1 a h1 h2) hx0)
  have hrun := va_runV (e := e) (As := as.map (ycv ad)) (b := ad 0) (rest := rest) (locs := locs) (cells := cells) (slots := slots) (g := F0 m pc ls ((as.map (ycv ad)).reverse ++ .ref (ad 0) :: rest)) (below := below) (meth := meth) S hm cw ⟨zBf_blind hX, va_recv hK hPc (ci := ci) (q0 := 0) hci (yws_get h0), fun U hU hWm => zBf_of hX hK hPc (hDc.weaken (fun _ _ _ _ => trivial)) hxA U hU hWm⟩ rfl (by rw [List.length_map]; exact hn) hls rfl (lv_room hcat) hdg ⟨hroom.1, hroom.2⟩
  refine ycallzG hrun hS hFr (fun H1 locs1 j1 j2 j5 j6 j7 j8 => kk H1 locs1 j1 j2 ?_ ?_ j8)
  · refine va_P.app ((yP_r hP).kept (fun i x hx => ?_)) j5
    refine j7 x.1 (yP_r hP i x hx).lt (fun h => ?_)
    rcases h with ⟨j, e, h⟩ | h
    · exact yD_x hD j i (x.1, e) x h hx rfl
    · have := (yP_r hP i x hx).lt
      omega
  · refine va_D.app (yD_r hD) (j6.weaken (fun i x _ h => hFr x.1 h)) (fun i j x y hx hy e => ?_)
    rcases j6.2 j y hy with ⟨j', e', h⟩ | h
    · exact yD_x hD j' i (y.1, e') x h hx e.symm
    · have := (yP_r hP i x hx).lt
      rw [e] at this
      omega
end YLW
end
section
theorem ycP_eq (a b : Int) : ycP .eq a b = decide (a = b) := by
  show (zle a b && zle b a) = decide (a = b)
  by_cases h : a = b
  · subst h
    rw [decide_eq_true rfl, show zle a a = true from decide_eq_true (Int.le_refl a)]
    rfl
  · rw [decide_eq_false h]
    cases hb : zle a b && zle b a with
    | false => rfl
    | true =>
      rw [Bool.and_eq_true] at hb
      exact absurd (Int.le_antisymm (zle_ok hb.1) (zle_ok hb.2)) h
theorem ycP_ne (a b : Int) : ycP .ne a b = decide (¬ a = b) := by
  show (!(ycP .eq a b)) = decide (¬ a = b)
  rw [ycP_eq]
  by_cases h : a = b
  · rw [decide_eq_true h, decide_eq_false (fun q => q h)]
    rfl
  · rw [decide_eq_false h, decide_eq_true h]
    rfl
theorem ycP_lt (a b : Int) : ycP .lt a b = decide (a < b) := decide_eq_decide.mpr ⟨fun h => by omega, fun h => by omega⟩
theorem ycP_ge (a b : Int) : ycP .ge a b = decide (b ≤ a) := rfl
theorem ycP_gt (a b : Int) : ycP .gt a b = decide (b < a) := decide_eq_decide.mpr ⟨fun h => by omega, fun h => by omega⟩
theorem ycP_le (a b : Int) : ycP .le a b = decide (a ≤ b) := rfl
theorem yeq_d (a b : Int) : (zle a b && zle b a) = decide (a = b) := ycP_eq a b
theorem yin_d (v : Int) (n : Nat) : yin v n = decide (0 ≤ v ∧ v < n) := by
  by_cases h : 0 ≤ v ∧ v < n
  · rw [decide_eq_true h]
    unfold yin
    rw [Bool.and_eq_true]
    exact ⟨decide_eq_true h.1, decide_eq_true (by omega)⟩
  · rw [decide_eq_false h]
    cases hb : yin v n with
    | false => rfl
    | true =>
      have := yin_ok hb
      exact absurd ⟨by omega, by omega⟩ h
theorem yb1_d (v : Int) : yb1 v = decide (0 ≤ v ∧ v ≤ 1) := by
  by_cases h : 0 ≤ v ∧ v ≤ 1
  · rw [decide_eq_true h]
    unfold yb1
    rw [Bool.and_eq_true]
    exact ⟨decide_eq_true h.1, decide_eq_true h.2⟩
  · rw [decide_eq_false h]
    cases hb : yb1 v with
    | false => rfl
    | true => exact absurd (yb1_ok hb) h
theorem ynz_d (b : Int) : ynz b = decide (¬ b = 0) := by
  by_cases h : b = 0
  · subst h
    rfl
  · rw [decide_eq_true h]
    unfold ynz
    rw [Bool.or_eq_true]
    by_cases q : b < 0
    · exact Or.inl (decide_eq_true (by omega))
    · exact Or.inr (decide_eq_true (by omega))
theorem yad_e {a b : Int} (h1 : -2147483648 ≤ a + b) (h2 : a + b ≤ 2147483647) : yad a b = a + b := by
  unfold yad
  rw [zq_addW, zq_of h1 h2]
theorem ysu_e {a b : Int} (h1 : -2147483648 ≤ a - b) (h2 : a - b ≤ 2147483647) : ysu a b = a - b := by
  unfold ysu
  rw [zq_subW, zq_of h1 h2]
theorem ymu_e {a b : Int} (h1 : -2147483648 ≤ a * b) (h2 : a * b ≤ 2147483647) : ymu a b = a * b := by
  unfold ymu
  rw [← Int32.ofInt_mul, zq_of h1 h2]
theorem yw_1 (σ : yS) (i k : Nat) (z : Int) (a b : Nat) : (yw σ i k z).1 a b = if b = k ∧ a = i then z else σ.1 a b := rfl
theorem yw_2 (σ : yS) (i k : Nat) (z : Int) : (yw σ i k z).2 = σ.2 := rfl
theorem yq_1 (σ : yS) (i k j : Nat) : (yq σ i k j).1 = σ.1 := rfl
theorem yq_2 (σ : yS) (i k j a b : Nat) : (yq σ i k j).2 a b = if b = k ∧ a = i then j else σ.2 a b := rfl
theorem ycp_1 (σ : yS) (i0 i1 s d n a b : Nat) : (ycp σ i0 i1 s d n).1 a b = if a = i1 ∧ d ≤ b ∧ b < d + n then σ.1 i0 (s + (b - d)) else σ.1 a b := rfl
theorem ycp_2 (σ : yS) (i0 i1 s d n : Nat) : (ycp σ i0 i1 s d n).2 = σ.2 := rfl
/-- the tapes are one -/
def yTp (σ τ : yS) : Prop := 0 ≤ σ.1 3 0 ∧ σ.1 3 0 ≤ 160 ∧ σ.1 3 0 = τ.1 0 17 ∧ ∀ j : Nat, (j : Int) < σ.1 3 0 → σ.1 4 j = τ.1 8 j ∧ 0 ≤ τ.1 8 j
theorem x8_in (N : Nat) (τ : yS) (a b c : Int) : f_X8_in N τ a b c = some (if b ≤ a ∧ a ≤ c then 1 else 0, τ) := by
  simp only [f_X8_in, f_X8_in_b17, f_X8_in_b18, ycP_lt, ycP_gt, yb1_d]
  by_cases h1 : a < b
  · have h3 : ¬ (b ≤ a ∧ a ≤ c) := by omega
    simp [h1, h3]
  · by_cases h2 : c < a
    · have h3 : ¬ (b ≤ a ∧ a ≤ c) := by omega
      simp [h1, h2, h3]
    · have h3 : b ≤ a ∧ a ≤ c := by omega
      simp [h1, h2, h3]
theorem x7_within (N : Nat) (σ : yS) (v a b : Int) : f_X7_within N σ v a b = some (if a ≤ v ∧ v ≤ b then 1 else 0, σ) := by
  simp only [f_X7_within, f_X7_within_b14, f_X7_within_b15, ycP_gt, yb1_d]
  by_cases h1 : v < a
  · have h3 : ¬ (a ≤ v ∧ v ≤ b) := by omega
    simp [h1, h3]
  · by_cases h2 : b < v
    · have h3 : ¬ (a ≤ v ∧ v ≤ b) := by omega
      simp [h1, h2, h3]
    · have h3 : a ≤ v ∧ v ≤ b := by omega
      simp [h1, h2, h3]
theorem x8_look (N : Nat) (τ : yS) (p : Int) (h0 : 0 ≤ p) (ht : τ.1 0 17 ≤ 160) : f_X8_look N τ p = some (if p < τ.1 0 17 then τ.1 8 p.toNat else -1, τ) := by
  simp only [f_X8_look, f_X8_look_b18, ycP_ge, yin_d]
  by_cases h : τ.1 0 17 ≤ p
  · have h3 : ¬ p < τ.1 0 17 := by omega
    simp [h, h3]
  · have h3 : p < τ.1 0 17 := by omega
    have h4 : 0 ≤ p ∧ p < ((160 : Nat) : Int) := by omega
    simp [h, h3, h0, show p < 160 by omega]
theorem x8_feed {N : Nat} {τ : yS} {c : Int} (h0 : 0 ≤ τ.1 0 17) (h1 : τ.1 0 17 ≤ 160) : f_X8_feed N τ c = some (if 0 ≤ c ∧ c ≤ 127 then (if τ.1 0 17 = 160 then (-3, τ) else (τ.1 0 17 + 1, yw (yw τ 8 (τ.1 0 17).toNat c) 0 17 (τ.1 0 17 + 1))) else (-1, τ)) := by
  simp only [f_X8_feed, f_X8_feed_b39, f_X8_feed_b48, x8_in, ycP_ne, yin_d]
  by_cases hc : 0 ≤ c ∧ c ≤ 127
  · by_cases h : τ.1 0 17 = 160
    · simp [hc, h]
    · have e : yad (τ.1 0 17) 1 = τ.1 0 17 + 1 := yad_e (by omega) (by omega)
      have e2 : (yw τ 8 (τ.1 0 17).toNat c).1 0 17 = τ.1 0 17 := by rw [yw_1]; exact if_neg (by omega)
      simp [hc, h, h0, show τ.1 0 17 < 160 by omega, e2, e, yw_1]
  · simp [hc]
theorem x7_feed {N : Nat} {σ : yS} {c : Int} (h0 : 0 ≤ σ.1 3 0) (h1 : σ.1 3 0 ≤ 160) : f_X7_feed N σ c = some (if 0 ≤ c ∧ c ≤ 127 then (if σ.1 3 0 = 160 then (-3, σ) else (σ.1 3 0 + 1, yw (yw σ 4 (σ.1 3 0).toNat c) 3 0 (σ.1 3 0 + 1))) else (-1, σ)) := by
  simp only [f_X7_feed, f_X7_feed_b35, f_X3_append, f_X3_append_b24, x7_within, ycP_ne, ycP_eq, ycP_lt, yin_d]
  by_cases hc : 0 ≤ c ∧ c ≤ 127
  · by_cases h : σ.1 3 0 = 160
    · simp [hc, h]
    · have e : yad (σ.1 3 0) 1 = σ.1 3 0 + 1 := yad_e (by omega) (by omega)
      have e2 : (yw σ 4 (σ.1 3 0).toNat c).1 3 0 = σ.1 3 0 := by rw [yw_1]; exact if_neg (by omega)
      simp [hc, h, h0, show σ.1 3 0 < 160 by omega, e2, e, yw_1]
  · simp [hc]
/-- feed: both tapes stay one, the answers are one -/
theorem p_feed {N : Nat} {σ τ : yS} {c : Int} (h : yTp σ τ) : ∃ (a : Int) (σ' τ' : yS), f_X7_feed N σ c = some (a, σ') ∧ f_X8_feed N τ c = some (a, τ') ∧ yTp σ' τ' := by
  obtain ⟨h0, h1, h2, h3⟩ := h
  rw [x7_feed h0 h1, x8_feed (h2 ▸ h0) (h2 ▸ h1), ← h2]
  by_cases hc : 0 ≤ c ∧ c ≤ 127
  · by_cases hf : σ.1 3 0 = 160
    · simp only [hc, hf, and_self, if_true]
      exact ⟨_, _, _, rfl, rfl, h0, h1, h2, h3⟩
    · simp only [hc, hf, and_self, if_true, if_false]
      refine ⟨_, _, _, rfl, rfl, ?_, ?_, ?_, fun j hj => ?_⟩
      · simp [yw_1]; omega
      · simp [yw_1]; omega
      · simp [yw_1]
      · simp [yw_1] at hj ⊢
        by_cases hjj : j = (σ.1 3 0).toNat
        · simp [hjj]
          exact hc.1
        · simp [hjj]
          exact h3 j (by omega)
  · simp only [hc, if_false]
    exact ⟨_, _, _, rfl, rfl, h0, h1, h2, h3⟩
end
section
/-- a terrace of the class against a slice of the reference's row -/
def yRT (σ : yS) (t : Nat) (g : Nat → Int) : Prop :=
  (∀ h : Nat, h < 7 → σ.1 (t + 2) h = g h ∧ σ.1 (t + 3) h = g (7 + h) ∧ yan (ysr (σ.1 t 6) h) 1 = g (14 + h) ∧ σ.1 (t + 4) h = g (21 + h) ∧ σ.1 (t + 5) h = g (28 + h) ∧ σ.1 (t + 6) h = g (35 + h)) ∧
  (∀ j : Nat, j < 35 → σ.1 (t + 7) j = g (42 + j)) ∧
  (σ.1 (σ.2 t 11) 0 = g 77 ∧ ∀ i : Nat, (i : Int) < g 77 → σ.1 (σ.2 t 11 + 1) i = g (78 + 4 * i) ∧ σ.1 (σ.2 t 11 + 2) i = g (79 + 4 * i) ∧ σ.1 (σ.2 t 11 + 3) i = g (80 + 4 * i) ∧ σ.1 (σ.2 t 11 + 4) i = g (81 + 4 * i)) ∧
  (σ.1 (t + 18) 0 = g 118 ∧ ∀ i : Nat, (i : Int) < g 118 → σ.1 (t + 19) i = g (119 + 2 * i) ∧ σ.1 (t + 20) i = g (120 + 2 * i)) ∧
  (σ.1 t 14 = g 127 ∧ σ.1 t 15 = g 128 ∧ σ.1 t 16 = g 129 ∧ σ.1 t 17 = g 130) ∧
  ((σ.2 t 11 = t + 8 ∧ σ.2 t 12 = t + 13) ∨ (σ.2 t 11 = t + 13 ∧ σ.2 t 12 = t + 8))
/-- the bounds of a slice, by the number of houses and of deeds -/
def yGd (hs ds : Int) (L : Int) (g : Nat → Int) : Prop :=
  (0 ≤ L ∧ L < 128) ∧ (∀ h : Nat, h < 7 → (0 ≤ g (7 + h) ∧ g (7 + h) < 32) ∧ (0 ≤ g (14 + h) ∧ g (14 + h) ≤ 1) ∧ (0 ≤ g (21 + h) ∧ g (21 + h) ≤ 4) ∧ (0 ≤ g (28 + h) ∧ g (28 + h) ≤ 4) ∧ (0 ≤ g (35 + h) ∧ g (35 + h) ≤ 10)) ∧
  (0 ≤ g 77 ∧ g 77 ≤ 10) ∧ (∀ i : Nat, (i : Int) < g 77 → (0 ≤ g (78 + 4 * i) ∧ g (78 + 4 * i) < hs) ∧ (0 ≤ g (79 + 4 * i) ∧ g (79 + 4 * i) ≤ 4) ∧ (0 ≤ g (80 + 4 * i) ∧ g (80 + 4 * i) ≤ 9) ∧ (0 ≤ g (81 + 4 * i) ∧ g (81 + 4 * i) < ds)) ∧
  (0 ≤ g 118 ∧ g 118 ≤ 4) ∧ (∀ i : Nat, (i : Int) < g 118 → (0 ≤ g (119 + 2 * i) ∧ g (119 + 2 * i) < hs) ∧ (0 ≤ g (120 + 2 * i) ∧ g (120 + 2 * i) < ds)) ∧
  0 ≤ g 127 ∧ g 127 ≤ 999
/-- what both sides hold of the terrace itself -/
def yRH (σ τ : yS) (t : Nat) : Prop := σ.1 t 0 = τ.1 0 3 ∧ σ.1 t 1 = τ.1 0 4 ∧ σ.1 t 2 = τ.1 0 5 ∧ (2 ≤ τ.1 0 3 ∧ τ.1 0 3 ≤ 7) ∧ (0 ≤ τ.1 0 4 ∧ τ.1 0 4 ≤ 1) ∧ (0 ≤ τ.1 0 5 ∧ τ.1 0 5 ≤ 5) ∧ ∀ d : Nat, (d : Int) < τ.1 0 5 → σ.1 (t + 1) d = τ.1 4 d ∧ 0 ≤ τ.1 4 d ∧ τ.1 4 d ≤ 9
/-- all that the calls show of both objects, now -/
def yRN (σ τ : yS) : Prop := yTp σ τ ∧ σ.1 2 4 = τ.1 0 22 ∧ yRH σ τ 17 ∧ yRT σ 17 (fun j => τ.1 1 j) ∧ yGd (τ.1 0 3) (τ.1 0 5) (σ.1 17 6) (fun j => τ.1 1 j)
theorem x8_isHouse {N : Nat} {τ : yS} {h : Int} (h1 : 2 ≤ τ.1 0 3 ∧ τ.1 0 3 ≤ 7) : f_X8_isHouse N τ h = some (if 0 ≤ h ∧ h < τ.1 0 3 then 1 else 0, τ) := by
  have e : ysu (τ.1 0 3) 1 = τ.1 0 3 - 1 := ysu_e (by omega) (by omega)
  simp only [f_X8_isHouse, x8_in, yb1_d, e]
  by_cases hc : 0 ≤ h ∧ h < τ.1 0 3
  · have h3 : 0 ≤ h ∧ h ≤ τ.1 0 3 - 1 := by omega
    simp [hc, h3]
  · have h3 : ¬ (0 ≤ h ∧ h ≤ τ.1 0 3 - 1) := by omega
    simp [hc, h3]
theorem x8_isDeed {N : Nat} {τ : yS} {d : Int} (h1 : 0 ≤ τ.1 0 5 ∧ τ.1 0 5 ≤ 5) : f_X8_isDeed N τ d = some (if 0 ≤ d ∧ d < τ.1 0 5 then 1 else 0, τ) := by
  have e : ysu (τ.1 0 5) 1 = τ.1 0 5 - 1 := ysu_e (by omega) (by omega)
  simp only [f_X8_isDeed, x8_in, yb1_d, e]
  by_cases hc : 0 ≤ d ∧ d < τ.1 0 5
  · have h3 : 0 ≤ d ∧ d ≤ τ.1 0 5 - 1 := by omega
    simp [hc, h3]
  · have h3 : ¬ (0 ≤ d ∧ d ≤ τ.1 0 5 - 1) := by omega
    simp [hc, h3]
theorem x4_isHouse {N : Nat} {σ : yS} {t : Nat} {h : Int} (h1 : 2 ≤ σ.1 t 0 ∧ σ.1 t 0 ≤ 7) : f_X4_isHouse N σ t h = some (if 0 ≤ h ∧ h < σ.1 t 0 then 1 else 0, σ) := by
  have e : ysu (σ.1 t 0) 1 = σ.1 t 0 - 1 := ysu_e (by omega) (by omega)
  simp only [f_X4_isHouse, x7_within, yb1_d, e]
  by_cases hc : 0 ≤ h ∧ h < σ.1 t 0
  · have h3 : 0 ≤ h ∧ h ≤ σ.1 t 0 - 1 := by omega
    simp [hc, h3]
  · have h3 : ¬ (0 ≤ h ∧ h ≤ σ.1 t 0 - 1) := by omega
    simp [hc, h3]
theorem x4_isDeed {N : Nat} {σ : yS} {t : Nat} {d : Int} (h1 : 0 ≤ σ.1 t 2 ∧ σ.1 t 2 ≤ 5) : f_X4_isDeed N σ t d = some (if 0 ≤ d ∧ d < σ.1 t 2 then 1 else 0, σ) := by
  have e : ysu (σ.1 t 2) 1 = σ.1 t 2 - 1 := ysu_e (by omega) (by omega)
  simp only [f_X4_isDeed, x7_within, yb1_d, e]
  by_cases hc : 0 ≤ d ∧ d < σ.1 t 2
  · have h3 : 0 ≤ d ∧ d ≤ σ.1 t 2 - 1 := by omega
    simp [hc, h3]
  · have h3 : ¬ (0 ≤ d ∧ d ≤ σ.1 t 2 - 1) := by omega
    simp [hc, h3]
theorem p_fault {N : Nat} {σ τ : yS} (h : yRN σ τ) : ∃ a : Int, f_X7_fault N σ = some (a, σ) ∧ f_X8_fault N τ = some (a, τ) :=
  ⟨σ.1 2 4, rfl, by unfold f_X8_fault; rw [h.2.1]⟩
theorem p_cost {N : Nat} {σ τ : yS} {d : Int} (h : yRN σ τ) : ∃ a : Int, f_X7_cost N σ d = some (a, σ) ∧ f_X8_cost N τ d = some (a, τ) := by
  obtain ⟨-, -, ⟨e0, e1, e2, b0, b1, b2, hc⟩, -, -⟩ := h
  simp only [f_X7_cost, f_X7_cost_b24, f_X8_cost, f_X8_cost_b18, x4_isDeed (show 0 ≤ σ.1 17 2 ∧ σ.1 17 2 ≤ 5 by rw [e2]; exact b2), x8_isDeed b2, ycP_eq, yin_d, e2]
  by_cases hd : 0 ≤ d ∧ d < τ.1 0 5
  · have q := hc d.toNat (by omega)
    refine ⟨τ.1 4 d.toNat, ?_, ?_⟩
    · simp [hd, show d < 5 by omega, q.1]
    · simp [hd, show d < 5 by omega]
  · exact ⟨-1, by simp [hd], by simp [hd]⟩
theorem x8_flag {N : Nat} {τ : yS} {b : Int} (h : 0 ≤ b ∧ b ≤ 1) : f_X8_flag N τ b = some (b, τ) := by
  simp only [f_X8_flag, f_X8_flag_b9, ycP_eq]
  by_cases hb : b = 0
  · simp [hb]
  · have : b = 1 := by omega
    simp [this]
theorem p_rule {N : Nat} {σ τ : yS} {w : Int} (h : yRN σ τ) : ∃ a : Int, f_X7_rule N σ w = some (a, σ) ∧ f_X8_rule N τ w = some (a, τ) := by
  obtain ⟨-, -, ⟨e0, e1, e2, b0, b1, b2, -⟩, ⟨-, -, v, wt, ⟨d0, d1, d2, d3⟩, -⟩, -⟩ := h
  simp only [f_X7_rule, f_X7_rule_b75, f_X8_rule, f_X8_rule_b99, yeq_d, x8_flag b1, x8_in, ycP_eq, yin_d]
  by_cases h0 : w = 0
  · exact ⟨τ.1 0 3, by simp [h0, e0], by simp [h0]⟩
  by_cases h1 : w = 1
  · refine ⟨τ.1 0 4, ?_, by simp [h1]⟩
    by_cases hz : τ.1 0 4 = 0
    · simp [h1, e1, hz]
    · have : τ.1 0 4 = 1 := by omega
      simp [h1, e1, this]
  by_cases h2 : w = 2
  · exact ⟨τ.1 0 5, by simp [h2, e2], by simp [h2]⟩
  by_cases h3 : w = 3
  · exact ⟨τ.1 1 77, by simp [h3, v.1], by simp [h3]⟩
  by_cases h4 : w = 4
  · exact ⟨τ.1 1 118, by simp [h4, wt.1], by simp [h4]⟩
  by_cases h5 : 5 ≤ w ∧ w ≤ 8
  · have e : ysu (yad 127 w) 5 = w + 122 := by
      rw [yad_e (by omega) (by omega), ysu_e (by omega) (by omega)]
      omega
    refine ⟨τ.1 1 (w + 122).toNat, ?_, ?_⟩
    · have : w = 5 ∨ w = 6 ∨ w = 7 ∨ w = 8 := by omega
      rcases this with q | q | q | q <;> subst q <;> simp [d0, d1, d2, d3]
    · simp [h0, h1, h2, h3, h4, h5, e, show 0 ≤ w + 122 by omega, show w + 122 < 393 by omega]
  · refine ⟨-1, ?_, ?_⟩
    · simp [h0, h1, h2, h3, h4, show ¬ w = 5 by omega, show ¬ w = 6 by omega, show ¬ w = 7 by omega, show ¬ w = 8 by omega]
    · simp [h0, h1, h2, h3, h4, h5]
/-- what a change of the terrace now or of the tape leaves alone -/
def yFs (σ σ' : yS) : Prop := σ'.2 = σ.2 ∧ ∀ a b : Nat, a < 3 ∨ (5 ≤ a ∧ a < 17) ∨ 38 ≤ a → σ'.1 a b = σ.1 a b
def yFo (τ τ' : yS) : Prop := ∀ a b : Nat, ¬ (a = 0 ∧ b = 17) → ¬ a = 8 → ¬ (a = 1 ∧ (b < 14 ∨ (21 ≤ b ∧ b < 28) ∨ 77 ≤ b) ∧ b < 131) → τ'.1 a b = τ.1 a b
theorem yFs_r {σ : yS} : yFs σ σ := ⟨rfl, fun _ _ _ => rfl⟩
theorem yFs_w {σ σ1 : yS} {i k : Nat} {z : Int} (h : yFs σ σ1) (hi : (3 ≤ i ∧ i < 5) ∨ (17 ≤ i ∧ i < 38)) : yFs σ (yw σ1 i k z) := ⟨h.1, fun a b q => by
  rw [yw_1, if_neg (by omega)]
  exact h.2 a b q⟩
theorem yFo_r {τ : yS} : yFo τ τ := fun _ _ _ _ _ => rfl
theorem yFo_w {τ τ1 : yS} {i k : Nat} {z : Int} (h : yFo τ τ1) (hi : (i = 0 ∧ k = 17) ∨ i = 8 ∨ (i = 1 ∧ (k < 14 ∨ (21 ≤ k ∧ k < 28) ∨ 77 ≤ k) ∧ k < 131)) : yFo τ (yw τ1 i k z) := fun a b x y q => by
  rw [yw_1, if_neg (by omega)]
  exact h a b x y q
end
section
theorem yRN_purse {σ τ : yS} (H : yRN σ τ) {h : Nat} (hh : h < 7) (v : Int) : yRN (yw σ 19 h v) (yw τ 1 h v) := by
  obtain ⟨⟨a0, a1, a2, a3⟩, f0, ⟨e0, e1, e2, b0, b1, b2, hc⟩, ⟨t1, t2, ⟨t3, t4⟩, ⟨t5, t6⟩, ⟨d0, d1, d2, d3⟩, t7⟩, ⟨g0, g1, g2, g3, g4, g5, g6⟩⟩ := H
  have hv : ¬ σ.2 17 11 = 19 ∧ ¬ σ.2 17 11 + 1 = 19 ∧ ¬ σ.2 17 11 + 2 = 19 ∧ ¬ σ.2 17 11 + 3 = 19 ∧ ¬ σ.2 17 11 + 4 = 19 := by omega
  refine ⟨⟨by simpa [yw_1] using a0, by simpa [yw_1] using a1, by simpa [yw_1] using a2, fun j hj => ?_⟩, by simpa [yw_1] using f0, ⟨by simpa [yw_1] using e0, by simpa [yw_1] using e1, by simpa [yw_1] using e2, by simpa [yw_1] using b0, by simpa [yw_1] using b1, by simpa [yw_1] using b2, fun d hd => ?_⟩, ⟨fun i hi => ?_, fun j hj => ?_, ⟨?_, fun i hi => ?_⟩, ⟨?_, fun i hi => ?_⟩, ⟨?_, ?_, ?_, ?_⟩, t7⟩, ⟨by simpa [yw_1] using g0, fun i hi => ?_, ?_, fun i hi => ?_, ?_, fun i hi => ?_, ?_, ?_⟩⟩
  · have q := a3 j (by simpa [yw_1] using hj)
    simpa [yw_1] using q
  · have q := hc d (by simpa [yw_1] using hd)
    simpa [yw_1] using q
  · have q := t1 i hi
    have z1 : ¬ 7 + i = h := by omega
    have z2 : ¬ 14 + i = h := by omega
    have z3 : ¬ 21 + i = h := by omega
    have z4 : ¬ 28 + i = h := by omega
    have z5 : ¬ 35 + i = h := by omega
    by_cases hi2 : i = h
    · simp [yw_1, yw_2, hi2] at q z1 z2 z3 z4 z5 ⊢
      simp_all
    · simp [yw_1, yw_2, hi2, z1, z2, z3, z4, z5]
      simpa using q
  · have q := t2 j hj
    simp [yw_1, show ¬ 42 + j = h by omega]
    simpa using q
  · simp [yw_1, yw_2, hv, show ¬ 77 = h by omega]
    simpa using t3
  · have q := t4 i (by simpa [yw_1, show ¬ 77 = h by omega] using hi)
    simp [yw_1, yw_2, hv, show ¬ 78 + 4 * i = h by omega, show ¬ 79 + 4 * i = h by omega, show ¬ 80 + 4 * i = h by omega, show ¬ 81 + 4 * i = h by omega]
    simpa using q
  · simp [yw_1, show ¬ 118 = h by omega]
    simpa using t5
  · have q := t6 i (by simpa [yw_1, show ¬ 118 = h by omega] using hi)
    simp [yw_1, show ¬ 119 + 2 * i = h by omega, show ¬ 120 + 2 * i = h by omega]
    simpa using q
  · simp [yw_1, show ¬ 127 = h by omega]
    simpa using d0
  · simp [yw_1, show ¬ 128 = h by omega]
    simpa using d1
  · simp [yw_1, show ¬ 129 = h by omega]
    simpa using d2
  · simp [yw_1, show ¬ 130 = h by omega]
    simpa using d3
  · have q := g1 i hi
    simp [yw_1, show ¬ 7 + i = h by omega, show ¬ 14 + i = h by omega, show ¬ 21 + i = h by omega, show ¬ 28 + i = h by omega, show ¬ 35 + i = h by omega]
    simpa using q
  · simp [yw_1, show ¬ 77 = h by omega]
    simpa using g2
  · have q := g3 i (by simpa [yw_1, show ¬ 77 = h by omega] using hi)
    simp [yw_1, show ¬ 78 + 4 * i = h by omega, show ¬ 79 + 4 * i = h by omega, show ¬ 80 + 4 * i = h by omega, show ¬ 81 + 4 * i = h by omega]
    simpa using q
  · simp [yw_1, show ¬ 118 = h by omega]
    simpa using g4
  · have q := g5 i (by simpa [yw_1, show ¬ 118 = h by omega] using hi)
    simp [yw_1, show ¬ 119 + 2 * i = h by omega, show ¬ 120 + 2 * i = h by omega]
    simpa using q
  · simp [yw_1, show ¬ 127 = h by omega]
    simpa using g6.1
  · simp [yw_1, show ¬ 127 = h by omega]
    simpa using g6.2
theorem p_fund {N : Nat} {σ τ : yS} {h v : Int} (H : yRN σ τ) : ∃ (a : Int) (σ' τ' : yS), f_X7_fund N σ h v = some (a, σ') ∧ f_X8_fund N τ h v = some (a, τ') ∧ yRN σ' τ' ∧ yFs σ σ' ∧ yFo τ τ' := by
  have H0 := H
  obtain ⟨-, -, ⟨e0, e1, e2, b0, b1, b2, hc⟩, ⟨t1, -⟩, -⟩ := H0
  simp only [f_X7_fund, f_X7_fund_b21, f_X8_fund, f_X8_fund_b31, f_X8_fund_b32, f_X8_becomes, x4_isHouse (show 2 ≤ σ.1 17 0 ∧ σ.1 17 0 ≤ 7 by rw [e0]; exact b0), x8_isHouse b0, x7_within, x8_in, ycP_eq, ycP_ne, yin_d, e0]
  by_cases hh : 0 ≤ h ∧ h < τ.1 0 3
  · by_cases hv : 0 ≤ v ∧ v ≤ 99
    · have e : yad 0 h = h := by rw [yad_e (by omega) (by omega)]; omega
      have q := (t1 h.toNat (by omega)).1
      refine ⟨τ.1 1 h.toNat, yw σ 19 h.toNat v, yw τ 1 h.toNat v, ?_, ?_, yRN_purse H (by omega) v, (by repeat (first | exact yFs_r | refine yFs_w ?_ (by omega))), (by repeat (first | exact yFo_r | refine yFo_w ?_ (by omega)))⟩
      · have q : σ.1 19 h.toNat = τ.1 1 h.toNat := q
        simp [hh, hv, show h < 7 by omega, q]
      · simp [hh, hv, e, show h < 393 by omega]
    · exact ⟨-1, σ, τ, by simp [hh, hv], by simp [hh, hv], H, yFs_r, yFo_r⟩
  · exact ⟨-1, σ, τ, by simp [hh], by simp [hh], H, yFs_r, yFo_r⟩
end
section
theorem yRN_can {σ τ : yS} (H : yRN σ τ) {h : Nat} (hh : h < 7) {v : Int} (hr : 0 ≤ v ∧ v < 32) : yRN (yw σ 20 h v) (yw τ 1 (7 + h) v) := by
  obtain ⟨⟨a0, a1, a2, a3⟩, f0, ⟨e0, e1, e2, b0, b1, b2, hc⟩, ⟨t1, t2, ⟨t3, t4⟩, ⟨t5, t6⟩, ⟨d0, d1, d2, d3⟩, t7⟩, ⟨g0, g1, g2, g3, g4, g5, g6⟩⟩ := H
  have hv : ¬ σ.2 17 11 = 20 ∧ ¬ σ.2 17 11 + 1 = 20 ∧ ¬ σ.2 17 11 + 2 = 20 ∧ ¬ σ.2 17 11 + 3 = 20 ∧ ¬ σ.2 17 11 + 4 = 20 := by omega
  refine ⟨⟨by simpa [yw_1] using a0, by simpa [yw_1] using a1, by simpa [yw_1] using a2, fun j hj => ?_⟩, by simpa [yw_1] using f0, ⟨by simpa [yw_1] using e0, by simpa [yw_1] using e1, by simpa [yw_1] using e2, by simpa [yw_1] using b0, by simpa [yw_1] using b1, by simpa [yw_1] using b2, fun d hd => ?_⟩, ⟨fun i hi => ?_, fun j hj => ?_, ⟨?_, fun i hi => ?_⟩, ⟨?_, fun i hi => ?_⟩, ⟨?_, ?_, ?_, ?_⟩, t7⟩, ⟨by simpa [yw_1] using g0, fun i hi => ?_, ?_, fun i hi => ?_, ?_, fun i hi => ?_, ?_, ?_⟩⟩
  · have q := a3 j (by simpa [yw_1] using hj)
    simpa [yw_1] using q
  · have q := hc d (by simpa [yw_1] using hd)
    simpa [yw_1] using q
  · have q := t1 i hi
    have z0 : ¬ i = 7 + h := by omega
    have z1 : ¬ 14 + i = 7 + h := by omega
    have z2 : ¬ 21 + i = 7 + h := by omega
    have z3 : ¬ 28 + i = 7 + h := by omega
    have z4 : ¬ 35 + i = 7 + h := by omega
    by_cases hi2 : i = h
    · subst hi2
      simp [yw_1, yw_2, z0, z1, z2, z3, z4]
      simp at q
      simp [q]
    · simp [yw_1, yw_2, hi2, z0, z1, z2, z3, z4]
      simpa using q
  · have q := t2 j hj
    simp [yw_1, show ¬ 42 + j = 7 + h by omega]
    simpa using q
  · simp [yw_1, yw_2, hv, show ¬ 77 = 7 + h by omega]
    simpa using t3
  · have q := t4 i (by simpa [yw_1, show ¬ 77 = 7 + h by omega] using hi)
    simp [yw_1, yw_2, hv, show ¬ 78 + 4 * i = 7 + h by omega, show ¬ 79 + 4 * i = 7 + h by omega, show ¬ 80 + 4 * i = 7 + h by omega, show ¬ 81 + 4 * i = 7 + h by omega]
    simpa using q
  · simp [yw_1, show ¬ 118 = 7 + h by omega]
    simpa using t5
  · have q := t6 i (by simpa [yw_1, show ¬ 118 = 7 + h by omega] using hi)
    simp [yw_1, show ¬ 119 + 2 * i = 7 + h by omega, show ¬ 120 + 2 * i = 7 + h by omega]
    simpa using q
  · simp [yw_1, show ¬ 127 = 7 + h by omega]
    simpa using d0
  · simp [yw_1, show ¬ 128 = 7 + h by omega]
    simpa using d1
  · simp [yw_1, show ¬ 129 = 7 + h by omega]
    simpa using d2
  · simp [yw_1, show ¬ 130 = 7 + h by omega]
    simpa using d3
  · have q := g1 i hi
    have z0 : ¬ i = 7 + h := by omega
    have z1 : ¬ 14 + i = 7 + h := by omega
    have z2 : ¬ 21 + i = 7 + h := by omega
    have z3 : ¬ 28 + i = 7 + h := by omega
    have z4 : ¬ 35 + i = 7 + h := by omega
    by_cases hi2 : i = h
    · subst hi2
      simp [yw_1, z0, z1, z2, z3, z4]
      simp at q
      simp [q, hr]
    · simp [yw_1, hi2, z0, z1, z2, z3, z4]
      simpa using q
  · simp [yw_1, show ¬ 77 = 7 + h by omega]
    simpa using g2
  · have q := g3 i (by simpa [yw_1, show ¬ 77 = 7 + h by omega] using hi)
    simp [yw_1, show ¬ 78 + 4 * i = 7 + h by omega, show ¬ 79 + 4 * i = 7 + h by omega, show ¬ 80 + 4 * i = 7 + h by omega, show ¬ 81 + 4 * i = 7 + h by omega]
    simpa using q
  · simp [yw_1, show ¬ 118 = 7 + h by omega]
    simpa using g4
  · have q := g5 i (by simpa [yw_1, show ¬ 118 = 7 + h by omega] using hi)
    simp [yw_1, show ¬ 119 + 2 * i = 7 + h by omega, show ¬ 120 + 2 * i = 7 + h by omega]
    simpa using q
  · simp [yw_1, show ¬ 127 = 7 + h by omega]
    simpa using g6.1
  · simp [yw_1, show ¬ 127 = 7 + h by omega]
    simpa using g6.2
theorem yRN_kind {σ τ : yS} (H : yRN σ τ) {h : Nat} (hh : h < 7) {v : Int} (hr : 0 ≤ v ∧ v ≤ 4) : yRN (yw σ 21 h v) (yw τ 1 (21 + h) v) := by
  obtain ⟨⟨a0, a1, a2, a3⟩, f0, ⟨e0, e1, e2, b0, b1, b2, hc⟩, ⟨t1, t2, ⟨t3, t4⟩, ⟨t5, t6⟩, ⟨d0, d1, d2, d3⟩, t7⟩, ⟨g0, g1, g2, g3, g4, g5, g6⟩⟩ := H
  have hv : ¬ σ.2 17 11 = 21 ∧ ¬ σ.2 17 11 + 1 = 21 ∧ ¬ σ.2 17 11 + 2 = 21 ∧ ¬ σ.2 17 11 + 3 = 21 ∧ ¬ σ.2 17 11 + 4 = 21 := by omega
  refine ⟨⟨by simpa [yw_1] using a0, by simpa [yw_1] using a1, by simpa [yw_1] using a2, fun j hj => ?_⟩, by simpa [yw_1] using f0, ⟨by simpa [yw_1] using e0, by simpa [yw_1] using e1, by simpa [yw_1] using e2, by simpa [yw_1] using b0, by simpa [yw_1] using b1, by simpa [yw_1] using b2, fun d hd => ?_⟩, ⟨fun i hi => ?_, fun j hj => ?_, ⟨?_, fun i hi => ?_⟩, ⟨?_, fun i hi => ?_⟩, ⟨?_, ?_, ?_, ?_⟩, t7⟩, ⟨by simpa [yw_1] using g0, fun i hi => ?_, ?_, fun i hi => ?_, ?_, fun i hi => ?_, ?_, ?_⟩⟩
  · have q := a3 j (by simpa [yw_1] using hj)
    simpa [yw_1] using q
  · have q := hc d (by simpa [yw_1] using hd)
    simpa [yw_1] using q
  · have q := t1 i hi
    have z0 : ¬ i = 21 + h := by omega
    have z1 : ¬ 7 + i = 21 + h := by omega
    have z2 : ¬ 14 + i = 21 + h := by omega
    have z3 : ¬ 28 + i = 21 + h := by omega
    have z4 : ¬ 35 + i = 21 + h := by omega
    by_cases hi2 : i = h
    · subst hi2
      simp [yw_1, yw_2, z0, z1, z2, z3, z4]
      simp at q
      simp [q]
    · simp [yw_1, yw_2, hi2, z0, z1, z2, z3, z4]
      simpa using q
  · have q := t2 j hj
    simp [yw_1, show ¬ 42 + j = 21 + h by omega]
    simpa using q
  · simp [yw_1, yw_2, hv, show ¬ 77 = 21 + h by omega]
    simpa using t3
  · have q := t4 i (by simpa [yw_1, show ¬ 77 = 21 + h by omega] using hi)
    simp [yw_1, yw_2, hv, show ¬ 78 + 4 * i = 21 + h by omega, show ¬ 79 + 4 * i = 21 + h by omega, show ¬ 80 + 4 * i = 21 + h by omega, show ¬ 81 + 4 * i = 21 + h by omega]
    simpa using q
  · simp [yw_1, show ¬ 118 = 21 + h by omega]
    simpa using t5
  · have q := t6 i (by simpa [yw_1, show ¬ 118 = 21 + h by omega] using hi)
    simp [yw_1, show ¬ 119 + 2 * i = 21 + h by omega, show ¬ 120 + 2 * i = 21 + h by omega]
    simpa using q
  · simp [yw_1, show ¬ 127 = 21 + h by omega]
    simpa using d0
  · simp [yw_1, show ¬ 128 = 21 + h by omega]
    simpa using d1
  · simp [yw_1, show ¬ 129 = 21 + h by omega]
    simpa using d2
  · simp [yw_1, show ¬ 130 = 21 + h by omega]
    simpa using d3
  · have q := g1 i hi
    have z0 : ¬ i = 21 + h := by omega
    have z1 : ¬ 7 + i = 21 + h := by omega
    have z2 : ¬ 14 + i = 21 + h := by omega
    have z3 : ¬ 28 + i = 21 + h := by omega
    have z4 : ¬ 35 + i = 21 + h := by omega
    by_cases hi2 : i = h
    · subst hi2
      simp [yw_1, z0, z1, z2, z3, z4]
      simp at q
      simp [q, hr]
    · simp [yw_1, hi2, z0, z1, z2, z3, z4]
      simpa using q
  · simp [yw_1, show ¬ 77 = 21 + h by omega]
    simpa using g2
  · have q := g3 i (by simpa [yw_1, show ¬ 77 = 21 + h by omega] using hi)
    simp [yw_1, show ¬ 78 + 4 * i = 21 + h by omega, show ¬ 79 + 4 * i = 21 + h by omega, show ¬ 80 + 4 * i = 21 + h by omega, show ¬ 81 + 4 * i = 21 + h by omega]
    simpa using q
  · simp [yw_1, show ¬ 118 = 21 + h by omega]
    simpa using g4
  · have q := g5 i (by simpa [yw_1, show ¬ 118 = 21 + h by omega] using hi)
    simp [yw_1, show ¬ 119 + 2 * i = 21 + h by omega, show ¬ 120 + 2 * i = 21 + h by omega]
    simpa using q
  · simp [yw_1, show ¬ 127 = 21 + h by omega]
    simpa using g6.1
  · simp [yw_1, show ¬ 127 = 21 + h by omega]
    simpa using g6.2
theorem yRN_deed {σ τ : yS} (H : yRN σ τ) {h : Nat} (hh : h < 7) {v : Int} (hr : 0 ≤ v ∧ v ≤ 4) : yRN (yw σ 22 h v) (yw τ 1 (28 + h) v) := by
  obtain ⟨⟨a0, a1, a2, a3⟩, f0, ⟨e0, e1, e2, b0, b1, b2, hc⟩, ⟨t1, t2, ⟨t3, t4⟩, ⟨t5, t6⟩, ⟨d0, d1, d2, d3⟩, t7⟩, ⟨g0, g1, g2, g3, g4, g5, g6⟩⟩ := H
  have hv : ¬ σ.2 17 11 = 22 ∧ ¬ σ.2 17 11 + 1 = 22 ∧ ¬ σ.2 17 11 + 2 = 22 ∧ ¬ σ.2 17 11 + 3 = 22 ∧ ¬ σ.2 17 11 + 4 = 22 := by omega
  refine ⟨⟨by simpa [yw_1] using a0, by simpa [yw_1] using a1, by simpa [yw_1] using a2, fun j hj => ?_⟩, by simpa [yw_1] using f0, ⟨by simpa [yw_1] using e0, by simpa [yw_1] using e1, by simpa [yw_1] using e2, by simpa [yw_1] using b0, by simpa [yw_1] using b1, by simpa [yw_1] using b2, fun d hd => ?_⟩, ⟨fun i hi => ?_, fun j hj => ?_, ⟨?_, fun i hi => ?_⟩, ⟨?_, fun i hi => ?_⟩, ⟨?_, ?_, ?_, ?_⟩, t7⟩, ⟨by simpa [yw_1] using g0, fun i hi => ?_, ?_, fun i hi => ?_, ?_, fun i hi => ?_, ?_, ?_⟩⟩
  · have q := a3 j (by simpa [yw_1] using hj)
    simpa [yw_1] using q
  · have q := hc d (by simpa [yw_1] using hd)
    simpa [yw_1] using q
  · have q := t1 i hi
    have z0 : ¬ i = 28 + h := by omega
    have z1 : ¬ 7 + i = 28 + h := by omega
    have z2 : ¬ 14 + i = 28 + h := by omega
    have z3 : ¬ 21 + i = 28 + h := by omega
    have z4 : ¬ 35 + i = 28 + h := by omega
    by_cases hi2 : i = h
    · subst hi2
      simp [yw_1, yw_2, z0, z1, z2, z3, z4]
      simp at q
      simp [q]
    · simp [yw_1, yw_2, hi2, z0, z1, z2, z3, z4]
      simpa using q
  · have q := t2 j hj
    simp [yw_1, show ¬ 42 + j = 28 + h by omega]
    simpa using q
  · simp [yw_1, yw_2, hv, show ¬ 77 = 28 + h by omega]
    simpa using t3
  · have q := t4 i (by simpa [yw_1, show ¬ 77 = 28 + h by omega] using hi)
    simp [yw_1, yw_2, hv, show ¬ 78 + 4 * i = 28 + h by omega, show ¬ 79 + 4 * i = 28 + h by omega, show ¬ 80 + 4 * i = 28 + h by omega, show ¬ 81 + 4 * i = 28 + h by omega]
    simpa using q
  · simp [yw_1, show ¬ 118 = 28 + h by omega]
    simpa using t5
  · have q := t6 i (by simpa [yw_1, show ¬ 118 = 28 + h by omega] using hi)
    simp [yw_1, show ¬ 119 + 2 * i = 28 + h by omega, show ¬ 120 + 2 * i = 28 + h by omega]
    simpa using q
  · simp [yw_1, show ¬ 127 = 28 + h by omega]
    simpa using d0
  · simp [yw_1, show ¬ 128 = 28 + h by omega]
    simpa using d1
  · simp [yw_1, show ¬ 129 = 28 + h by omega]
    simpa using d2
  · simp [yw_1, show ¬ 130 = 28 + h by omega]
    simpa using d3
  · have q := g1 i hi
    have z0 : ¬ i = 28 + h := by omega
    have z1 : ¬ 7 + i = 28 + h := by omega
    have z2 : ¬ 14 + i = 28 + h := by omega
    have z3 : ¬ 21 + i = 28 + h := by omega
    have z4 : ¬ 35 + i = 28 + h := by omega
    by_cases hi2 : i = h
    · subst hi2
      simp [yw_1, z0, z1, z2, z3, z4]
      simp at q
      simp [q, hr]
    · simp [yw_1, hi2, z0, z1, z2, z3, z4]
      simpa using q
  · simp [yw_1, show ¬ 77 = 28 + h by omega]
    simpa using g2
  · have q := g3 i (by simpa [yw_1, show ¬ 77 = 28 + h by omega] using hi)
    simp [yw_1, show ¬ 78 + 4 * i = 28 + h by omega, show ¬ 79 + 4 * i = 28 + h by omega, show ¬ 80 + 4 * i = 28 + h by omega, show ¬ 81 + 4 * i = 28 + h by omega]
    simpa using q
  · simp [yw_1, show ¬ 118 = 28 + h by omega]
    simpa using g4
  · have q := g5 i (by simpa [yw_1, show ¬ 118 = 28 + h by omega] using hi)
    simp [yw_1, show ¬ 119 + 2 * i = 28 + h by omega, show ¬ 120 + 2 * i = 28 + h by omega]
    simpa using q
  · simp [yw_1, show ¬ 127 = 28 + h by omega]
    simpa using g6.1
  · simp [yw_1, show ¬ 127 = 28 + h by omega]
    simpa using g6.2
theorem yRN_odds {σ τ : yS} (H : yRN σ τ) {h : Nat} (hh : h < 7) {v : Int} (hr : 0 ≤ v ∧ v ≤ 10) : yRN (yw σ 23 h v) (yw τ 1 (35 + h) v) := by
  obtain ⟨⟨a0, a1, a2, a3⟩, f0, ⟨e0, e1, e2, b0, b1, b2, hc⟩, ⟨t1, t2, ⟨t3, t4⟩, ⟨t5, t6⟩, ⟨d0, d1, d2, d3⟩, t7⟩, ⟨g0, g1, g2, g3, g4, g5, g6⟩⟩ := H
  have hv : ¬ σ.2 17 11 = 23 ∧ ¬ σ.2 17 11 + 1 = 23 ∧ ¬ σ.2 17 11 + 2 = 23 ∧ ¬ σ.2 17 11 + 3 = 23 ∧ ¬ σ.2 17 11 + 4 = 23 := by omega
  refine ⟨⟨by simpa [yw_1] using a0, by simpa [yw_1] using a1, by simpa [yw_1] using a2, fun j hj => ?_⟩, by simpa [yw_1] using f0, ⟨by simpa [yw_1] using e0, by simpa [yw_1] using e1, by simpa [yw_1] using e2, by simpa [yw_1] using b0, by simpa [yw_1] using b1, by simpa [yw_1] using b2, fun d hd => ?_⟩, ⟨fun i hi => ?_, fun j hj => ?_, ⟨?_, fun i hi => ?_⟩, ⟨?_, fun i hi => ?_⟩, ⟨?_, ?_, ?_, ?_⟩, t7⟩, ⟨by simpa [yw_1] using g0, fun i hi => ?_, ?_, fun i hi => ?_, ?_, fun i hi => ?_, ?_, ?_⟩⟩
  · have q := a3 j (by simpa [yw_1] using hj)
    simpa [yw_1] using q
  · have q := hc d (by simpa [yw_1] using hd)
    simpa [yw_1] using q
  · have q := t1 i hi
    have z0 : ¬ i = 35 + h := by omega
    have z1 : ¬ 7 + i = 35 + h := by omega
    have z2 : ¬ 14 + i = 35 + h := by omega
    have z3 : ¬ 21 + i = 35 + h := by omega
    have z4 : ¬ 28 + i = 35 + h := by omega
    by_cases hi2 : i = h
    · subst hi2
      simp [yw_1, yw_2, z0, z1, z2, z3, z4]
      simp at q
      simp [q]
    · simp [yw_1, yw_2, hi2, z0, z1, z2, z3, z4]
      simpa using q
  · have q := t2 j hj
    simp [yw_1, show ¬ 42 + j = 35 + h by omega]
    simpa using q
  · simp [yw_1, yw_2, hv, show ¬ 77 = 35 + h by omega]
    simpa using t3
  · have q := t4 i (by simpa [yw_1, show ¬ 77 = 35 + h by omega] using hi)
    simp [yw_1, yw_2, hv, show ¬ 78 + 4 * i = 35 + h by omega, show ¬ 79 + 4 * i = 35 + h by omega, show ¬ 80 + 4 * i = 35 + h by omega, show ¬ 81 + 4 * i = 35 + h by omega]
    simpa using q
  · simp [yw_1, show ¬ 118 = 35 + h by omega]
    simpa using t5
  · have q := t6 i (by simpa [yw_1, show ¬ 118 = 35 + h by omega] using hi)
    simp [yw_1, show ¬ 119 + 2 * i = 35 + h by omega, show ¬ 120 + 2 * i = 35 + h by omega]
    simpa using q
  · simp [yw_1, show ¬ 127 = 35 + h by omega]
    simpa using d0
  · simp [yw_1, show ¬ 128 = 35 + h by omega]
    simpa using d1
  · simp [yw_1, show ¬ 129 = 35 + h by omega]
    simpa using d2
  · simp [yw_1, show ¬ 130 = 35 + h by omega]
    simpa using d3
  · have q := g1 i hi
    have z0 : ¬ i = 35 + h := by omega
    have z1 : ¬ 7 + i = 35 + h := by omega
    have z2 : ¬ 14 + i = 35 + h := by omega
    have z3 : ¬ 21 + i = 35 + h := by omega
    have z4 : ¬ 28 + i = 35 + h := by omega
    by_cases hi2 : i = h
    · subst hi2
      simp [yw_1, z0, z1, z2, z3, z4]
      simp at q
      simp [q, hr]
    · simp [yw_1, hi2, z0, z1, z2, z3, z4]
      simpa using q
  · simp [yw_1, show ¬ 77 = 35 + h by omega]
    simpa using g2
  · have q := g3 i (by simpa [yw_1, show ¬ 77 = 35 + h by omega] using hi)
    simp [yw_1, show ¬ 78 + 4 * i = 35 + h by omega, show ¬ 79 + 4 * i = 35 + h by omega, show ¬ 80 + 4 * i = 35 + h by omega, show ¬ 81 + 4 * i = 35 + h by omega]
    simpa using q
  · simp [yw_1, show ¬ 118 = 35 + h by omega]
    simpa using g4
  · have q := g5 i (by simpa [yw_1, show ¬ 118 = 35 + h by omega] using hi)
    simp [yw_1, show ¬ 119 + 2 * i = 35 + h by omega, show ¬ 120 + 2 * i = 35 + h by omega]
    simpa using q
  · simp [yw_1, show ¬ 127 = 35 + h by omega]
    simpa using g6.1
  · simp [yw_1, show ¬ 127 = 35 + h by omega]
    simpa using g6.2
end
section
theorem ybs5 : ∀ (S : Fin 32) (d : Fin 5), (0 ≤ yor ((S.val : Nat) : Int) (ysl 1 ((d.val : Nat) : Int)) ∧ yor ((S.val : Nat) : Int) (ysl 1 ((d.val : Nat) : Int)) < 32) ∧ (0 ≤ yan ((S.val : Nat) : Int) (yxo (ysl 1 ((d.val : Nat) : Int)) (-1)) ∧ yan ((S.val : Nat) : Int) (yxo (ysl 1 ((d.val : Nat) : Int)) (-1)) < 32) := by decide +kernel
theorem ybs5_ok {S d : Int} (hS : 0 ≤ S ∧ S < 32) (hd : 0 ≤ d ∧ d < 5) : (0 ≤ yor S (ysl 1 d) ∧ yor S (ysl 1 d) < 32) ∧ (0 ≤ yan S (yxo (ysl 1 d) (-1)) ∧ yan S (yxo (ysl 1 d) (-1)) < 32) := by
  have q := ybs5 ⟨S.toNat, by omega⟩ ⟨d.toNat, by omega⟩
  have e1 : ((S.toNat : Nat) : Int) = S := by omega
  have e2 : ((d.toNat : Nat) : Int) = d := by omega
  simp only [e1, e2] at q
  exact q
theorem x7_withBit {N : Nat} {σ : yS} {b i z : Int} : f_X7_withBit N σ b i z = some (if z = 0 then yan b (yxo (ysl 1 i) (-1)) else yor b (ysl 1 i), σ) := by
  simp only [f_X7_withBit, f_X7_withBit_b19, ycP_eq]
  by_cases h : z = 0
  · simp [h]
  · simp [h]
theorem p_can {N : Nat} {σ τ : yS} {h d z : Int} (H : yRN σ τ) : ∃ (a : Int) (σ' τ' : yS), f_X7_can N σ h d z = some (a, σ') ∧ f_X8_can N τ h d z = some (a, τ') ∧ yRN σ' τ' ∧ yFs σ σ' ∧ yFo τ τ' := by
  have H0 := H
  obtain ⟨-, -, ⟨e0, e1, e2, b0, b1, b2, hc⟩, ⟨t1, -⟩, ⟨-, g1, -⟩⟩ := H0
  simp only [f_X7_can, f_X7_can_b22, f_X7_bit, x7_withBit, f_X8_can, f_X8_can_b16, f_X8_can_b76, x4_isHouse (show 2 ≤ σ.1 17 0 ∧ σ.1 17 0 ≤ 7 by rw [e0]; exact b0), x8_isHouse b0, x4_isDeed (show 0 ≤ σ.1 17 2 ∧ σ.1 17 2 ≤ 5 by rw [e2]; exact b2), x8_isDeed b2, ycP_eq, ycP_ne, yin_d, e0, e2]
  by_cases hh : 0 ≤ h ∧ h < τ.1 0 3
  · by_cases hd : 0 ≤ d ∧ d < τ.1 0 5
    · obtain ⟨n, rfl⟩ : ∃ n : Nat, h = (n : Int) := ⟨h.toNat, by omega⟩
      have e : yad 7 (n : Int) = ((7 + n : Nat) : Int) := by rw [yad_e (by omega) (by omega)]; omega
      have q : σ.1 20 n = τ.1 1 (7 + n) := (t1 n (by omega)).2.1
      have r : 0 ≤ τ.1 1 (7 + n) ∧ τ.1 1 (7 + n) < 32 := (g1 n (by omega)).1
      obtain ⟨r1, r2⟩ := ybs5_ok r (show 0 ≤ d ∧ d < 5 by omega)
      refine ⟨yan (ysr (τ.1 1 (7 + n)) d) 1, yw σ 20 n (if z = 0 then yan (τ.1 1 (7 + n)) (yxo (ysl 1 d) (-1)) else yor (τ.1 1 (7 + n)) (ysl 1 d)), yw τ 1 (7 + n) (if z = 0 then yan (τ.1 1 (7 + n)) (yxo (ysl 1 d) (-1)) else yor (τ.1 1 (7 + n)) (ysl 1 d)), ?_, ?_, yRN_can H (by omega) (by split; exact r2; exact r1), (by repeat (first | exact yFs_r | refine yFs_w ?_ (by omega))), (by repeat (first | exact yFo_r | refine yFo_w ?_ (by omega)))⟩
      · simp [hh, hd, show (n : Int) < 7 by omega, q]
      · rw [e]
        have c1 : ((7 + n : Nat) : Int).toNat = 7 + n := by omega
        have c2 : 0 ≤ ((7 + n : Nat) : Int) ∧ ((7 + n : Nat) : Int) < ((393 : Nat) : Int) := by omega
        rw [c1]
        generalize ((7 + n : Nat) : Int) = y at c2
        by_cases hz : z = 0
        · simp only [hh, hd, hz, and_self, if_true, c2, decide_true, cond_true, cond_false, decide_false]
          simp
        · simp only [hh, hd, hz, and_self, if_true, if_false, c2, decide_true, cond_true, cond_false, decide_false]
          simp
    · exact ⟨-1, σ, τ, by simp [hh, hd], by simp [hh, hd], H, yFs_r, yFo_r⟩
  · exact ⟨-1, σ, τ, by simp [hh], by simp [hh], H, yFs_r, yFo_r⟩
theorem x7_isKind {N : Nat} {σ : yS} {k : Int} : f_X7_isKind N σ k = some (if 0 ≤ k ∧ k ≤ 4 then 1 else 0, σ) := by
  simp only [f_X7_isKind, x7_within, yb1_d]
  by_cases hc : 0 ≤ k ∧ k ≤ 4
  · simp [hc]
  · simp [hc]
theorem x8_isKind {N : Nat} {τ : yS} {k : Int} : f_X8_isKind N τ k = some (if 0 ≤ k ∧ k ≤ 4 then 1 else 0, τ) := by
  simp only [f_X8_isKind, x8_in, yb1_d]
  by_cases hc : 0 ≤ k ∧ k ≤ 4
  · simp [hc]
  · simp [hc]
theorem p_habit {N : Nat} {σ τ : yS} {h k d o : Int} (H : yRN σ τ) : ∃ (a : Int) (σ' τ' : yS), f_X7_habit N σ h k d o = some (a, σ') ∧ f_X8_habit N τ h k d o = some (a, τ') ∧ yRN σ' τ' ∧ yFs σ σ' ∧ (∀ a b : Nat, ¬ (a = 1 ∧ 21 ≤ b ∧ b < 42) → τ'.1 a b = τ.1 a b) ∧ ((∀ i : Nat, i < 7 → ¬ τ.1 1 (35 + i) = 0 → τ.1 1 (28 + i) < τ.1 0 5) → ∀ i : Nat, i < 7 → ¬ τ'.1 1 (35 + i) = 0 → τ'.1 1 (28 + i) < τ.1 0 5) := by
  have H0 := H
  obtain ⟨-, -, ⟨e0, e1, e2, b0, b1, b2, hc⟩, ⟨t1, -⟩, ⟨-, g1, -⟩⟩ := H0
  simp only [f_X7_habit, f_X7_habit_b40, f_X4_setHabit, f_X8_habit, f_X8_habit_b36, f_X8_becomes, x7_isKind, x8_isKind, x7_within, x8_in, x4_isHouse (show 2 ≤ σ.1 17 0 ∧ σ.1 17 0 ≤ 7 by rw [e0]; exact b0), x8_isHouse b0, x4_isDeed (show 0 ≤ σ.1 17 2 ∧ σ.1 17 2 ≤ 5 by rw [e2]; exact b2), x8_isDeed b2, ycP_eq, ycP_ne, yin_d, e0, e2]
  by_cases hh : 0 ≤ h ∧ h < τ.1 0 3
  · by_cases hk : 0 ≤ k ∧ k ≤ 4
    · by_cases hd : 0 ≤ d ∧ d < τ.1 0 5
      · by_cases ho : 0 ≤ o ∧ o ≤ 10
        · obtain ⟨n, rfl⟩ : ∃ n : Nat, h = (n : Int) := ⟨h.toNat, by omega⟩
          have y1 : yad 21 (n : Int) = ((21 + n : Nat) : Int) := by rw [yad_e (by omega) (by omega)]; omega
          have y2 : yad 28 (n : Int) = ((28 + n : Nat) : Int) := by rw [yad_e (by omega) (by omega)]; omega
          have y3 : yad 35 (n : Int) = ((35 + n : Nat) : Int) := by rw [yad_e (by omega) (by omega)]; omega
          have q : σ.1 23 n = τ.1 1 (35 + n) := (t1 n (by omega)).2.2.2.2.2
          refine ⟨τ.1 1 (35 + n), yw (yw (yw σ 21 n k) 22 n d) 23 n o, yw (yw (yw τ 1 (21 + n) k) 1 (28 + n) d) 1 (35 + n) o, ?_, ?_, yRN_odds (yRN_deed (yRN_kind H (by omega) hk) (by omega) (by omega)) (by omega) ho, (by repeat (first | exact yFs_r | refine yFs_w ?_ (by omega))), fun a b q => ?_, fun q i hi hz => ?_⟩
          · simp [hh, hk, hd, ho, show (n : Int) < 7 by omega, q]
          · rw [y1, y2, y3]
            have c1 : ((21 : Int) + (n : Int)).toNat = 21 + n := by omega
            have c2 : ((28 : Int) + (n : Int)).toNat = 28 + n := by omega
            have c3 : ((35 : Int) + (n : Int)).toNat = 35 + n := by omega
            simp [c1, c2, c3, hh, hk, hd, ho, yw_1, show ((21 : Int) + n < 393) by omega, show ((28 : Int) + n < 393) by omega, show ((35 : Int) + n < 393) by omega, show (0 ≤ (21 : Int) + n) by omega, show (0 ≤ (28 : Int) + n) by omega, show (0 ≤ (35 : Int) + n) by omega, show ¬ 35 + n = 28 + n by omega, show ¬ 35 + n = 21 + n by omega]
          · rw [yw_1, if_neg (by omega), yw_1, if_neg (by omega), yw_1, if_neg (by omega)]
          · by_cases e : i = n
            · subst e
              rw [yw_1, if_neg (by omega), yw_1, if_pos ⟨rfl, rfl⟩]
              omega
            · rw [yw_1, if_neg (by omega), yw_1, if_neg (by omega), yw_1, if_neg (by omega)] at hz
              rw [yw_1, if_neg (by omega), yw_1, if_neg (by omega), yw_1, if_neg (by omega)]
              exact q i hi hz
        · exact ⟨-1, σ, τ, by simp [hh, hk, hd, ho], by simp [hh, hk, hd, ho], H, yFs_r, fun _ _ _ => rfl, fun q => q⟩
      · exact ⟨-1, σ, τ, by simp [hh, hk, hd], by simp [hh, hk, hd], H, yFs_r, fun _ _ _ => rfl, fun q => q⟩
    · exact ⟨-1, σ, τ, by simp [hh, hk], by simp [hh, hk], H, yFs_r, fun _ _ _ => rfl, fun q => q⟩
  · exact ⟨-1, σ, τ, by simp [hh], by simp [hh], H, yFs_r, fun _ _ _ => rfl, fun q => q⟩
end
section
theorem ybs7 : ∀ (L : Fin 128) (h : Fin 7), ((0 ≤ yor ((L.val : Nat) : Int) (ysl 1 ((h.val : Nat) : Int)) ∧ yor ((L.val : Nat) : Int) (ysl 1 ((h.val : Nat) : Int)) < 128) ∧ (0 ≤ yan ((L.val : Nat) : Int) (yxo (ysl 1 ((h.val : Nat) : Int)) (-1)) ∧ yan ((L.val : Nat) : Int) (yxo (ysl 1 ((h.val : Nat) : Int)) (-1)) < 128)) ∧ ∀ i : Fin 7, yan (ysr (yor ((L.val : Nat) : Int) (ysl 1 ((h.val : Nat) : Int))) ((i.val : Nat) : Int)) 1 = (if i.val = h.val then 1 else yan (ysr ((L.val : Nat) : Int) ((i.val : Nat) : Int)) 1) ∧ yan (ysr (yan ((L.val : Nat) : Int) (yxo (ysl 1 ((h.val : Nat) : Int)) (-1))) ((i.val : Nat) : Int)) 1 = (if i.val = h.val then 0 else yan (ysr ((L.val : Nat) : Int) ((i.val : Nat) : Int)) 1) := by decide +kernel
theorem ybs7_ok {L : Int} (hL : 0 ≤ L ∧ L < 128) {h : Nat} (hh : h < 7) : ((0 ≤ yor L (ysl 1 h) ∧ yor L (ysl 1 h) < 128) ∧ (0 ≤ yan L (yxo (ysl 1 h) (-1)) ∧ yan L (yxo (ysl 1 h) (-1)) < 128)) ∧ ∀ i : Nat, i < 7 → yan (ysr (yor L (ysl 1 h)) i) 1 = (if i = h then 1 else yan (ysr L i) 1) ∧ yan (ysr (yan L (yxo (ysl 1 h) (-1))) i) 1 = (if i = h then 0 else yan (ysr L i) 1) := by
  have q := ybs7 ⟨L.toNat, by omega⟩ ⟨h, hh⟩
  have e1 : ((L.toNat : Nat) : Int) = L := by omega
  simp only [e1] at q
  exact ⟨q.1, fun i hi => q.2 ⟨i, hi⟩⟩
theorem yRN_law {σ τ : yS} (H : yRN σ τ) {h : Nat} (hh : h < 7) {v w : Int} (hr : 0 ≤ v ∧ v ≤ 1) (hw : 0 ≤ w ∧ w < 128) (hb : ∀ i : Nat, i < 7 → yan (ysr w i) 1 = (if i = h then v else yan (ysr (σ.1 17 6) i) 1)) : yRN (yw σ 17 6 w) (yw τ 1 (14 + h) v) := by
  obtain ⟨⟨a0, a1, a2, a3⟩, f0, ⟨e0, e1, e2, b0, b1, b2, hc⟩, ⟨t1, t2, ⟨t3, t4⟩, ⟨t5, t6⟩, ⟨d0, d1, d2, d3⟩, t7⟩, ⟨g0, g1, g2, g3, g4, g5, g6⟩⟩ := H
  have hv : ¬ σ.2 17 11 = 17 ∧ ¬ σ.2 17 11 + 1 = 17 ∧ ¬ σ.2 17 11 + 2 = 17 ∧ ¬ σ.2 17 11 + 3 = 17 ∧ ¬ σ.2 17 11 + 4 = 17 := by omega
  refine ⟨⟨by simpa [yw_1] using a0, by simpa [yw_1] using a1, by simpa [yw_1] using a2, fun j hj => ?_⟩, by simpa [yw_1] using f0, ⟨by simpa [yw_1] using e0, by simpa [yw_1] using e1, by simpa [yw_1] using e2, by simpa [yw_1] using b0, by simpa [yw_1] using b1, by simpa [yw_1] using b2, fun d hd => ?_⟩, ⟨fun i hi => ?_, fun j hj => ?_, ⟨?_, fun i hi => ?_⟩, ⟨?_, fun i hi => ?_⟩, ⟨?_, ?_, ?_, ?_⟩, t7⟩, ⟨by simpa [yw_1] using hw, fun i hi => ?_, ?_, fun i hi => ?_, ?_, fun i hi => ?_, ?_, ?_⟩⟩
  · have q := a3 j (by simpa [yw_1] using hj)
    simpa [yw_1] using q
  · have q := hc d (by simpa [yw_1] using hd)
    simpa [yw_1] using q
  · have q := t1 i hi
    have z0 : ¬ i = 14 + h := by omega
    have z1 : ¬ 7 + i = 14 + h := by omega
    have z3 : ¬ 21 + i = 14 + h := by omega
    have z4 : ¬ 28 + i = 14 + h := by omega
    have z5 : ¬ 35 + i = 14 + h := by omega
    have qb := hb i hi
    by_cases hi2 : i = h
    · subst hi2
      rw [if_pos rfl] at qb
      simp [yw_1, yw_2, z0, z1, z3, z4, z5, qb]
      simp at q
      simp [q]
    · rw [if_neg hi2] at qb
      simp [yw_1, yw_2, hi2, z0, z1, z3, z4, z5, qb]
      simpa using q
  · have q := t2 j hj
    simp [yw_1, show ¬ 42 + j = 14 + h by omega]
    simpa using q
  · simp [yw_1, yw_2, hv, show ¬ 77 = 14 + h by omega]
    simpa using t3
  · have q := t4 i (by simpa [yw_1, show ¬ 77 = 14 + h by omega] using hi)
    simp [yw_1, yw_2, hv, show ¬ 78 + 4 * i = 14 + h by omega, show ¬ 79 + 4 * i = 14 + h by omega, show ¬ 80 + 4 * i = 14 + h by omega, show ¬ 81 + 4 * i = 14 + h by omega]
    simpa using q
  · simp [yw_1, show ¬ 118 = 14 + h by omega]
    simpa using t5
  · have q := t6 i (by simpa [yw_1, show ¬ 118 = 14 + h by omega] using hi)
    simp [yw_1, show ¬ 119 + 2 * i = 14 + h by omega, show ¬ 120 + 2 * i = 14 + h by omega]
    simpa using q
  · simp [yw_1, show ¬ 127 = 14 + h by omega]
    simpa using d0
  · simp [yw_1, show ¬ 128 = 14 + h by omega]
    simpa using d1
  · simp [yw_1, show ¬ 129 = 14 + h by omega]
    simpa using d2
  · simp [yw_1, show ¬ 130 = 14 + h by omega]
    simpa using d3
  · have q := g1 i hi
    have z1 : ¬ 7 + i = 14 + h := by omega
    have z3 : ¬ 21 + i = 14 + h := by omega
    have z4 : ¬ 28 + i = 14 + h := by omega
    have z5 : ¬ 35 + i = 14 + h := by omega
    by_cases hi2 : i = h
    · subst hi2
      simp [yw_1, z1, z3, z4, z5]
      simp at q
      simp [q, hr]
    · simp [yw_1, hi2, z1, z3, z4, z5]
      simpa using q
  · simp [yw_1, show ¬ 77 = 14 + h by omega]
    simpa using g2
  · have q := g3 i (by simpa [yw_1, show ¬ 77 = 14 + h by omega] using hi)
    simp [yw_1, show ¬ 78 + 4 * i = 14 + h by omega, show ¬ 79 + 4 * i = 14 + h by omega, show ¬ 80 + 4 * i = 14 + h by omega, show ¬ 81 + 4 * i = 14 + h by omega]
    simpa using q
  · simp [yw_1, show ¬ 118 = 14 + h by omega]
    simpa using g4
  · have q := g5 i (by simpa [yw_1, show ¬ 118 = 14 + h by omega] using hi)
    simp [yw_1, show ¬ 119 + 2 * i = 14 + h by omega, show ¬ 120 + 2 * i = 14 + h by omega]
    simpa using q
  · simp [yw_1, show ¬ 127 = 14 + h by omega]
    simpa using g6.1
  · simp [yw_1, show ¬ 127 = 14 + h by omega]
    simpa using g6.2
theorem p_lawyer {N : Nat} {σ τ : yS} {h z : Int} (hz : 0 ≤ z ∧ z ≤ 1) (H : yRN σ τ) : ∃ (a : Int) (σ' τ' : yS), f_X7_lawyer N σ h z = some (a, σ') ∧ f_X8_lawyer N τ h z = some (a, τ') ∧ yRN σ' τ' ∧ yFs σ σ' ∧ (∀ a b : Nat, ¬ (a = 1 ∧ 14 ≤ b ∧ b < 21) → τ'.1 a b = τ.1 a b) ∧ (∀ i : Nat, τ.1 0 3 ≤ (i : Int) → τ'.1 1 (14 + i) = τ.1 1 (14 + i)) := by
  have H0 := H
  obtain ⟨-, -, ⟨e0, e1, e2, b0, b1, b2, hc⟩, ⟨t1, -⟩, ⟨g0, g1, -⟩⟩ := H0
  simp only [f_X7_lawyer, f_X7_bit, x7_withBit, f_X8_lawyer, f_X8_lawyer_b24, f_X8_becomes, x8_flag hz, x4_isHouse (show 2 ≤ σ.1 17 0 ∧ σ.1 17 0 ≤ 7 by rw [e0]; exact b0), x8_isHouse b0, ycP_eq, ycP_ne, yin_d, e0]
  by_cases hh : 0 ≤ h ∧ h < τ.1 0 3
  · obtain ⟨n, rfl⟩ : ∃ n : Nat, h = (n : Int) := ⟨h.toNat, by omega⟩
    have e : yad 14 (n : Int) = (14 : Int) + (n : Int) := by rw [yad_e (by omega) (by omega)]
    have c1 : ((14 : Int) + (n : Int)).toNat = 14 + n := by omega
    have q : yan (ysr (σ.1 17 6) n) 1 = τ.1 1 (14 + n) := (t1 n (by omega)).2.2.1
    obtain ⟨⟨r1, r2⟩, r3⟩ := ybs7_ok g0 (show n < 7 by omega)
    refine ⟨τ.1 1 (14 + n), yw σ 17 6 (if z = 0 then yan (σ.1 17 6) (yxo (ysl 1 n) (-1)) else yor (σ.1 17 6) (ysl 1 n)), yw τ 1 (14 + n) z, ?_, ?_, yRN_law H (by omega) hz (by split; exact r2; exact r1) (fun i hi => ?_), (by repeat (first | exact yFs_r | refine yFs_w ?_ (by omega))), (fun a b q => by rw [yw_1, if_neg (by omega)]), (fun i q => by rw [yw_1, if_neg (by omega)])⟩
    · simp [hh, q]
    · simp [hh, e, c1, show (0 : Int) ≤ 14 + n by omega, show (14 : Int) + n < 393 by omega]
    · by_cases hz0 : z = 0
      · rw [if_pos hz0, hz0]
        exact (r3 i hi).2
      · rw [if_neg hz0, show z = 1 by omega]
        exact (r3 i hi).1
  · exact ⟨-1, σ, τ, by simp [hh], by simp [hh], H, yFs_r, fun _ _ _ => rfl, fun _ _ => rfl⟩
end
section
theorem yRN_dropv {σ τ : yS} (H : yRN σ τ) {n : Int} (hn : 0 ≤ n ∧ n ≤ τ.1 1 77) : yRN (yw σ (σ.2 17 11) 0 n) (yw τ 1 77 n) := by
  obtain ⟨⟨a0, a1, a2, a3⟩, f0, ⟨e0, e1, e2, b0, b1, b2, hc⟩, ⟨t1, t2, ⟨t3, t4⟩, ⟨t5, t6⟩, ⟨d0, d1, d2, d3⟩, t7⟩, ⟨g0, g1, g2, g3, g4, g5, g6⟩⟩ := H
  have hv : ¬ 2 = σ.2 17 11 ∧ ¬ 3 = σ.2 17 11 ∧ ¬ 4 = σ.2 17 11 ∧ ¬ 17 = σ.2 17 11 ∧ ¬ 18 = σ.2 17 11 ∧ ¬ 19 = σ.2 17 11 ∧ ¬ 20 = σ.2 17 11 ∧ ¬ 21 = σ.2 17 11 ∧ ¬ 22 = σ.2 17 11 ∧ ¬ 23 = σ.2 17 11 ∧ ¬ 24 = σ.2 17 11 ∧ ¬ 35 = σ.2 17 11 ∧ ¬ 36 = σ.2 17 11 ∧ ¬ 37 = σ.2 17 11 := by omega
  refine ⟨⟨by simpa [yw_1, hv] using a0, by simpa [yw_1, hv] using a1, by simpa [yw_1, hv] using a2, fun j hj => ?_⟩, by simpa [yw_1, hv] using f0, ⟨by simpa [yw_1, hv] using e0, by simpa [yw_1, hv] using e1, by simpa [yw_1, hv] using e2, by simpa [yw_1] using b0, by simpa [yw_1] using b1, by simpa [yw_1] using b2, fun d hd => ?_⟩, ⟨fun i hi => ?_, fun j hj => ?_, ⟨?_, fun i hi => ?_⟩, ⟨?_, fun i hi => ?_⟩, ⟨?_, ?_, ?_, ?_⟩, t7⟩, ⟨by simpa [yw_1, hv] using g0, fun i hi => ?_, ?_, fun i hi => ?_, ?_, fun i hi => ?_, ?_, ?_⟩⟩
  · have q := a3 j (by simpa [yw_1, hv] using hj)
    simpa [yw_1, hv] using q
  · have q := hc d (by simpa [yw_1] using hd)
    simpa [yw_1, hv] using q
  · have q := t1 i hi
    simp [yw_1, yw_2, hv, show ¬ i = 77 by omega, show ¬ 7 + i = 77 by omega, show ¬ 14 + i = 77 by omega, show ¬ 21 + i = 77 by omega, show ¬ 28 + i = 77 by omega, show ¬ 35 + i = 77 by omega]
    simpa using q
  · have q := t2 j hj
    simp [yw_1, hv, show ¬ 42 + j = 77 by omega]
    simpa using q
  · simp [yw_1, yw_2]
  · have hi : (i : Int) < n := by simpa [yw_1] using hi
    have q := t4 i (show (i : Int) < τ.1 1 77 by omega)
    simp [yw_1, yw_2, show ¬ 78 + 4 * i = 77 by omega, show ¬ 79 + 4 * i = 77 by omega, show ¬ 80 + 4 * i = 77 by omega, show ¬ 81 + 4 * i = 77 by omega]
    simpa using q
  · simp [yw_1, hv]
    simpa using t5
  · have q := t6 i (by simpa [yw_1] using hi)
    simp [yw_1, hv, show ¬ 119 + 2 * i = 77 by omega, show ¬ 120 + 2 * i = 77 by omega]
    simpa using q
  · simp [yw_1, hv]
    simpa using d0
  · simp [yw_1, hv]
    simpa using d1
  · simp [yw_1, hv]
    simpa using d2
  · simp [yw_1, hv]
    simpa using d3
  · have q := g1 i hi
    simp [yw_1, show ¬ 7 + i = 77 by omega, show ¬ 14 + i = 77 by omega, show ¬ 21 + i = 77 by omega, show ¬ 28 + i = 77 by omega, show ¬ 35 + i = 77 by omega]
    simpa using q
  · have g2 : 0 ≤ τ.1 1 77 ∧ τ.1 1 77 ≤ 10 := g2
    simp [yw_1]
    omega
  · have hi : (i : Int) < n := by simpa [yw_1] using hi
    have q := g3 i (show (i : Int) < τ.1 1 77 by omega)
    simp [yw_1, show ¬ 78 + 4 * i = 77 by omega, show ¬ 79 + 4 * i = 77 by omega, show ¬ 80 + 4 * i = 77 by omega, show ¬ 81 + 4 * i = 77 by omega]
    simpa using q
  · simp [yw_1]
    simpa using g4
  · have q := g5 i (by simpa [yw_1] using hi)
    simp [yw_1, show ¬ 119 + 2 * i = 77 by omega, show ¬ 120 + 2 * i = 77 by omega]
    simpa using q
  · simp [yw_1]
    simpa using g6.1
  · simp [yw_1]
    simpa using g6.2
theorem yRN_dropw {σ τ : yS} (H : yRN σ τ) {n : Int} (hn : 0 ≤ n ∧ n ≤ τ.1 1 118) : yRN (yw σ 35 0 n) (yw τ 1 118 n) := by
  obtain ⟨⟨a0, a1, a2, a3⟩, f0, ⟨e0, e1, e2, b0, b1, b2, hc⟩, ⟨t1, t2, ⟨t3, t4⟩, ⟨t5, t6⟩, ⟨d0, d1, d2, d3⟩, t7⟩, ⟨g0, g1, g2, g3, g4, g5, g6⟩⟩ := H
  have hv : ¬ σ.2 17 11 = 35 ∧ ¬ σ.2 17 11 + 1 = 35 ∧ ¬ σ.2 17 11 + 2 = 35 ∧ ¬ σ.2 17 11 + 3 = 35 ∧ ¬ σ.2 17 11 + 4 = 35 := by omega
  refine ⟨⟨by simpa [yw_1] using a0, by simpa [yw_1] using a1, by simpa [yw_1] using a2, fun j hj => ?_⟩, by simpa [yw_1] using f0, ⟨by simpa [yw_1] using e0, by simpa [yw_1] using e1, by simpa [yw_1] using e2, by simpa [yw_1] using b0, by simpa [yw_1] using b1, by simpa [yw_1] using b2, fun d hd => ?_⟩, ⟨fun i hi => ?_, fun j hj => ?_, ⟨?_, fun i hi => ?_⟩, ⟨?_, fun i hi => ?_⟩, ⟨?_, ?_, ?_, ?_⟩, t7⟩, ⟨by simpa [yw_1] using g0, fun i hi => ?_, ?_, fun i hi => ?_, ?_, fun i hi => ?_, ?_, ?_⟩⟩
  · have q := a3 j (by simpa [yw_1] using hj)
    simpa [yw_1] using q
  · have q := hc d (by simpa [yw_1] using hd)
    simpa [yw_1] using q
  · have q := t1 i hi
    simp [yw_1, yw_2, show ¬ i = 118 by omega, show ¬ 7 + i = 118 by omega, show ¬ 14 + i = 118 by omega, show ¬ 21 + i = 118 by omega, show ¬ 28 + i = 118 by omega, show ¬ 35 + i = 118 by omega]
    simpa using q
  · have q := t2 j hj
    simp [yw_1, show ¬ 42 + j = 118 by omega]
    simpa using q
  · simp [yw_1, yw_2, hv]
    simpa using t3
  · have g2 : 0 ≤ τ.1 1 77 ∧ τ.1 1 77 ≤ 10 := g2
    have hi : (i : Int) < τ.1 1 77 := by simpa [yw_1] using hi
    have q := t4 i hi
    simp [yw_1, yw_2, hv, show ¬ 78 + 4 * i = 118 by omega, show ¬ 79 + 4 * i = 118 by omega, show ¬ 80 + 4 * i = 118 by omega, show ¬ 81 + 4 * i = 118 by omega]
    simpa using q
  · simp [yw_1]
  · have hi : (i : Int) < n := by simpa [yw_1] using hi
    have q := t6 i (show (i : Int) < τ.1 1 118 by omega)
    simp [yw_1, show ¬ 119 + 2 * i = 118 by omega, show ¬ 120 + 2 * i = 118 by omega]
    simpa using q
  · simp [yw_1]
    simpa using d0
  · simp [yw_1]
    simpa using d1
  · simp [yw_1]
    simpa using d2
  · simp [yw_1]
    simpa using d3
  · have q := g1 i hi
    simp [yw_1, show ¬ 7 + i = 118 by omega, show ¬ 14 + i = 118 by omega, show ¬ 21 + i = 118 by omega, show ¬ 28 + i = 118 by omega, show ¬ 35 + i = 118 by omega]
    simpa using q
  · simp [yw_1]
    simpa using g2
  · have g2 : 0 ≤ τ.1 1 77 ∧ τ.1 1 77 ≤ 10 := g2
    have hi : (i : Int) < τ.1 1 77 := by simpa [yw_1] using hi
    have q := g3 i hi
    simp [yw_1, show ¬ 78 + 4 * i = 118 by omega, show ¬ 79 + 4 * i = 118 by omega, show ¬ 80 + 4 * i = 118 by omega, show ¬ 81 + 4 * i = 118 by omega]
    simpa using q
  · have g4 : 0 ≤ τ.1 1 118 ∧ τ.1 1 118 ≤ 4 := g4
    simp [yw_1]
    omega
  · have hi : (i : Int) < n := by simpa [yw_1] using hi
    have q := g5 i (show (i : Int) < τ.1 1 118 by omega)
    simp [yw_1, show ¬ 119 + 2 * i = 118 by omega, show ¬ 120 + 2 * i = 118 by omega]
    simpa using q
  · simp [yw_1]
    simpa using g6.1
  · simp [yw_1]
    simpa using g6.2
theorem p_drop {N : Nat} {σ τ : yS} {w n : Int} (H : yRN σ τ) : ∃ (a : Int) (σ' τ' : yS), f_X7_drop N σ w n = some (a, σ') ∧ f_X8_drop N τ w n = some (a, τ') ∧ yRN σ' τ' ∧ yFs σ σ' ∧ yFo τ τ' := by
  have H0 := H
  obtain ⟨-, -, -, ⟨-, -, ⟨t3, -⟩, ⟨t5, -⟩, -, t7⟩, -⟩ := H0
  have t3 : σ.1 (σ.2 17 11) 0 = τ.1 1 77 := t3
  have t5 : σ.1 35 0 = τ.1 1 118 := t5
  simp only [f_X7_drop, f_X7_drop_b38, f_X7_drop_b79, f_X8_drop, f_X8_drop_b11, f_X8_drop_b47, f_X8_drop_b48, f_X8_becomes, x7_within, x8_in, ycP_eq, ycP_ne, yin_d]
  by_cases h0 : w = 0
  · subst h0
    by_cases hn : 0 ≤ n ∧ n ≤ τ.1 1 77
    · exact ⟨τ.1 1 77, yw σ (σ.2 17 11) 0 n, yw τ 1 77 n, by simp [hn, t3], by simp [hn], yRN_dropv H hn, (by repeat (first | exact yFs_r | refine yFs_w ?_ (by omega))), (by repeat (first | exact yFo_r | refine yFo_w ?_ (by omega)))⟩
    · exact ⟨-1, σ, τ, by simp [hn, t3], by simp [hn], H, yFs_r, yFo_r⟩
  by_cases h1 : w = 1
  · subst h1
    by_cases hn : 0 ≤ n ∧ n ≤ τ.1 1 118
    · exact ⟨τ.1 1 118, yw σ 35 0 n, yw τ 1 118 n, by simp [hn, t5], by simp [hn], yRN_dropw H hn, (by repeat (first | exact yFs_r | refine yFs_w ?_ (by omega))), (by repeat (first | exact yFo_r | refine yFo_w ?_ (by omega)))⟩
    · exact ⟨-1, σ, τ, by simp [hn, t5], by simp [hn], H, yFs_r, yFo_r⟩
  · have hw : ¬ (0 ≤ w ∧ w ≤ 1) := by omega
    exact ⟨-1, σ, τ, by simp [hw], by simp [hw, h0], H, yFs_r, yFo_r⟩
theorem p_want {N : Nat} {σ τ : yS} {i w : Int} (H : yRN σ τ) : ∃ a : Int, f_X7_want N σ i w = some (a, σ) ∧ f_X8_want N τ i w = some (a, τ) := by
  obtain ⟨-, -, -, ⟨-, -, -, ⟨t5, t6⟩, -⟩, ⟨-, -, -, -, g4, -⟩⟩ := H
  have t5 : σ.1 35 0 = τ.1 1 118 := t5
  have g4 : 0 ≤ τ.1 1 118 ∧ τ.1 1 118 ≤ 4 := g4
  have e : ysu (τ.1 1 118) 1 = τ.1 1 118 - 1 := ysu_e (by omega) (by omega)
  simp only [f_X7_want, f_X8_want, f_X8_want_b45, f_X8_want_b46, x7_within, x8_in, ycP_eq, ycP_ne, yin_d, yeq_d, t5, e]
  by_cases hi : 0 ≤ i ∧ i ≤ τ.1 1 118 - 1
  · obtain ⟨n, rfl⟩ : ∃ n : Nat, i = (n : Int) := ⟨i.toNat, by omega⟩
    obtain ⟨q1, q2⟩ := t6 n (show (n : Int) < τ.1 1 118 by omega)
    have q1 : σ.1 36 n = τ.1 1 (119 + 2 * n) := q1
    have q2 : σ.1 37 n = τ.1 1 (120 + 2 * n) := q2
    have em : ymu 2 (n : Int) = 2 * (n : Int) := ymu_e (by omega) (by omega)
    have ea : yad 119 (2 * (n : Int)) = 119 + 2 * (n : Int) := yad_e (by omega) (by omega)
    by_cases w0 : w = 0
    · subst w0
      have eb : yad (119 + 2 * (n : Int)) 0 = 119 + 2 * (n : Int) := by rw [yad_e (by omega) (by omega)]; omega
      have ec : (119 + 2 * (n : Int)).toNat = 119 + 2 * n := by omega
      exact ⟨τ.1 1 (119 + 2 * n), by simp [hi, show (n : Int) < 4 by omega, q1], by simp [hi, em, ea, eb, ec, show (0 : Int) ≤ 119 + 2 * n by omega, show (119 : Int) + 2 * n < 393 by omega]⟩
    by_cases w1 : w = 1
    · subst w1
      have eb : yad (119 + 2 * (n : Int)) 1 = 120 + 2 * (n : Int) := by rw [yad_e (by omega) (by omega)]; omega
      have ec : (120 + 2 * (n : Int)).toNat = 120 + 2 * n := by omega
      exact ⟨τ.1 1 (120 + 2 * n), by simp [hi, show (n : Int) < 4 by omega, q2], by simp [hi, em, ea, eb, ec, show (0 : Int) ≤ 120 + 2 * n by omega, show (120 : Int) + 2 * n < 393 by omega]⟩
    · have hw : ¬ (0 ≤ w ∧ w ≤ 1) := by omega
      exact ⟨-1, by simp [hi, w0, w1], by simp [hi, hw]⟩
  · exact ⟨-1, by simp [hi], by simp [hi]⟩
end
section
theorem yRN_wish {σ τ : yS} (H : yRN σ τ) {m : Nat} (hm : τ.1 1 118 = (m : Int)) (h4 : m < 4) {h d : Int} (hh : 0 ≤ h ∧ h < τ.1 0 3) (hd : 0 ≤ d ∧ d < τ.1 0 5) : yRN (yw (yw (yw σ 36 m h) 37 m d) 35 0 ((m : Int) + 1)) (yw (yw (yw τ 1 (119 + 2 * m) h) 1 (120 + 2 * m) d) 1 118 ((m : Int) + 1)) := by
  obtain ⟨⟨a0, a1, a2, a3⟩, f0, ⟨e0, e1, e2, b0, b1, b2, hc⟩, ⟨t1, t2, ⟨t3, t4⟩, ⟨t5, t6⟩, ⟨d0, d1, d2, d3⟩, t7⟩, ⟨g0, g1, g2, g3, g4, g5, g6⟩⟩ := H
  have hv : (¬ σ.2 17 11 = 35 ∧ ¬ σ.2 17 11 + 1 = 35 ∧ ¬ σ.2 17 11 + 2 = 35 ∧ ¬ σ.2 17 11 + 3 = 35 ∧ ¬ σ.2 17 11 + 4 = 35) ∧ (¬ σ.2 17 11 = 36 ∧ ¬ σ.2 17 11 + 1 = 36 ∧ ¬ σ.2 17 11 + 2 = 36 ∧ ¬ σ.2 17 11 + 3 = 36 ∧ ¬ σ.2 17 11 + 4 = 36) ∧ (¬ σ.2 17 11 = 37 ∧ ¬ σ.2 17 11 + 1 = 37 ∧ ¬ σ.2 17 11 + 2 = 37 ∧ ¬ σ.2 17 11 + 3 = 37 ∧ ¬ σ.2 17 11 + 4 = 37) := by omega
  have low : ∀ k : Nat, k < 118 → (yw (yw (yw τ 1 (119 + 2 * m) h) 1 (120 + 2 * m) d) 1 118 ((m : Int) + 1)).1 1 k = τ.1 1 k := fun k hk => by
    simp [yw_1, show ¬ k = 118 by omega, show ¬ k = 119 + 2 * m by omega, show ¬ k = 120 + 2 * m by omega]
  have hig : ∀ k : Nat, 127 ≤ k → (yw (yw (yw τ 1 (119 + 2 * m) h) 1 (120 + 2 * m) d) 1 118 ((m : Int) + 1)).1 1 k = τ.1 1 k := fun k hk => by
    simp [yw_1, show ¬ k = 118 by omega, show ¬ k = 119 + 2 * m by omega, show ¬ k = 120 + 2 * m by omega]
  have mid : (yw (yw (yw τ 1 (119 + 2 * m) h) 1 (120 + 2 * m) d) 1 118 ((m : Int) + 1)).1 1 118 = (m : Int) + 1 := by simp [yw_1]
  have ent : ∀ i : Nat, i < m + 1 → (yw (yw (yw τ 1 (119 + 2 * m) h) 1 (120 + 2 * m) d) 1 118 ((m : Int) + 1)).1 1 (119 + 2 * i) = (if i = m then h else τ.1 1 (119 + 2 * i)) ∧ (yw (yw (yw τ 1 (119 + 2 * m) h) 1 (120 + 2 * m) d) 1 118 ((m : Int) + 1)).1 1 (120 + 2 * i) = (if i = m then d else τ.1 1 (120 + 2 * i)) := fun i hi => by
    by_cases hq : i = m
    · subst hq
      simp [yw_1, show ¬ 119 + 2 * i = 118 by omega, show ¬ 120 + 2 * i = 118 by omega, show ¬ 119 + 2 * i = 120 + 2 * i by omega]
    · simp [yw_1, hq, show ¬ 119 + 2 * i = 118 by omega, show ¬ 120 + 2 * i = 118 by omega, show ¬ 119 + 2 * i = 120 + 2 * m by omega, show ¬ 120 + 2 * i = 119 + 2 * m by omega, show ¬ 2 * i = 2 * m by omega]
  have g2 : 0 ≤ τ.1 1 77 ∧ τ.1 1 77 ≤ 10 := g2
  refine ⟨⟨by simpa [yw_1] using a0, by simpa [yw_1] using a1, by simpa [yw_1] using a2, fun j hj => ?_⟩, by simpa [yw_1] using f0, ⟨by simpa [yw_1] using e0, by simpa [yw_1] using e1, by simpa [yw_1] using e2, by simpa [yw_1] using b0, by simpa [yw_1] using b1, by simpa [yw_1] using b2, fun d hd => ?_⟩, ⟨fun i hi => ?_, fun j hj => ?_, ⟨?_, fun i hi => ?_⟩, ⟨?_, fun i hi => ?_⟩, ⟨?_, ?_, ?_, ?_⟩, t7⟩, ⟨by simpa [yw_1] using g0, fun i hi => ?_, ?_, fun i hi => ?_, ?_, fun i hi => ?_, ?_, ?_⟩⟩
  · have q := a3 j (by simpa [yw_1] using hj)
    simpa [yw_1] using q
  · have q := hc d (by simpa [yw_1] using hd)
    simpa [yw_1] using q
  · have q := t1 i hi
    dsimp only at q ⊢
    rw [low i (by omega), low (7 + i) (by omega), low (14 + i) (by omega), low (21 + i) (by omega), low (28 + i) (by omega), low (35 + i) (by omega)]
    simpa [yw_1] using q
  · have q := t2 j hj
    dsimp only at q ⊢
    rw [low (42 + j) (by omega)]
    simpa [yw_1] using q
  · dsimp only at t3 ⊢
    rw [low 77 (by omega)]
    simpa [yw_1, yw_2, hv] using t3
  · dsimp only at hi
    rw [low 77 (by omega)] at hi
    have q := t4 i hi
    dsimp only at q ⊢
    rw [low (78 + 4 * i) (by omega), low (79 + 4 * i) (by omega), low (80 + 4 * i) (by omega), low (81 + 4 * i) (by omega)]
    simpa [yw_1, yw_2, hv] using q
  · dsimp only
    rw [mid]
    simp [yw_1]
  · dsimp only at hi ⊢
    rw [mid] at hi
    have hi2 : i < m + 1 := by omega
    rw [(ent i hi2).1, (ent i hi2).2]
    by_cases hq : i = m
    · subst hq
      simp [yw_1]
    · have q := t6 i (show (i : Int) < τ.1 1 118 by omega)
      simp [yw_1, hq]
      simpa using q
  · dsimp only at d0 ⊢
    rw [hig 127 (by omega)]
    simpa [yw_1] using d0
  · dsimp only at d1 ⊢
    rw [hig 128 (by omega)]
    simpa [yw_1] using d1
  · dsimp only at d2 ⊢
    rw [hig 129 (by omega)]
    simpa [yw_1] using d2
  · dsimp only at d3 ⊢
    rw [hig 130 (by omega)]
    simpa [yw_1] using d3
  · have q := g1 i hi
    dsimp only at q ⊢
    rw [low (7 + i) (by omega), low (14 + i) (by omega), low (21 + i) (by omega), low (28 + i) (by omega), low (35 + i) (by omega)]
    exact q
  · dsimp only
    rw [low 77 (by omega)]
    exact g2
  · dsimp only at hi
    rw [low 77 (by omega)] at hi
    have q := g3 i hi
    dsimp only at q ⊢
    rw [low (78 + 4 * i) (by omega), low (79 + 4 * i) (by omega), low (80 + 4 * i) (by omega), low (81 + 4 * i) (by omega)]
    simpa [yw_1] using q
  · dsimp only
    rw [mid]
    omega
  · dsimp only at hi ⊢
    rw [mid] at hi
    have hi2 : i < m + 1 := by omega
    rw [(ent i hi2).1, (ent i hi2).2]
    by_cases hq : i = m
    · simp [yw_1, hq, hh, hd]
    · have q := g5 i (show (i : Int) < τ.1 1 118 by omega)
      simp [yw_1, hq]
      simpa using q
  · dsimp only
    rw [hig 127 (by omega)]
    exact g6.1
  · dsimp only
    rw [hig 127 (by omega)]
    exact g6.2
theorem p_wish {N : Nat} {σ τ : yS} {h d : Int} (H : yRN σ τ) : ∃ (a : Int) (σ' τ' : yS), f_X7_wish N σ h d = some (a, σ') ∧ f_X8_wish N τ h d = some (a, τ') ∧ yRN σ' τ' ∧ yFs σ σ' ∧ yFo τ τ' := by
  have H0 := H
  obtain ⟨-, -, ⟨e0, e1, e2, b0, b1, b2, hc⟩, ⟨-, -, -, ⟨t5, -⟩, -⟩, ⟨-, -, -, -, g4, -⟩⟩ := H0
  have t5 : σ.1 35 0 = τ.1 1 118 := t5
  have g4 : 0 ≤ τ.1 1 118 ∧ τ.1 1 118 ≤ 4 := g4
  simp only [f_X7_wish, f_X7_wish_b22, f_X7_wish_b54, f_X6_append, f_X6_append_b25, f_X6_append_b32, f_X8_wish, f_X8_wish_b16, f_X8_wish_b63, f_X8_wish_b77, f_X8_wish_b87, x4_isHouse (show 2 ≤ σ.1 17 0 ∧ σ.1 17 0 ≤ 7 by rw [e0]; exact b0), x8_isHouse b0, x4_isDeed (show 0 ≤ σ.1 17 2 ∧ σ.1 17 2 ≤ 5 by rw [e2]; exact b2), x8_isDeed b2, ycP_eq, ycP_ne, ycP_lt, yin_d, e0, e2]
  by_cases hh : 0 ≤ h ∧ h < τ.1 0 3
  · by_cases hd : 0 ≤ d ∧ d < τ.1 0 5
    · by_cases hf : τ.1 1 118 = 4
      · exact ⟨-3, σ, τ, by simp [hh, hd, t5, hf], by simp [hh, hd, hf], H, yFs_r, yFo_r⟩
      · obtain ⟨m, hm⟩ : ∃ m : Nat, τ.1 1 118 = (m : Int) := ⟨(τ.1 1 118).toNat, by omega⟩
        have h4 : m < 4 := by omega
        have em : ymu 2 (m : Int) = 2 * (m : Int) := ymu_e (by omega) (by omega)
        have ea : yad 119 (2 * (m : Int)) = 119 + 2 * (m : Int) := yad_e (by omega) (by omega)
        have eb : yad (119 + 2 * (m : Int)) 1 = 120 + 2 * (m : Int) := by rw [yad_e (by omega) (by omega)]; omega
        have ec : (119 + 2 * (m : Int)).toNat = 119 + 2 * m := by omega
        have ed : (120 + 2 * (m : Int)).toNat = 120 + 2 * m := by omega
        have ee : yad (m : Int) 1 = (m : Int) + 1 := yad_e (by omega) (by omega)
        refine ⟨(m : Int) + 1, _, _, ?_, ?_, yRN_wish H hm h4 hh hd, (by repeat (first | exact yFs_r | refine yFs_w ?_ (by omega))), (by repeat (first | exact yFo_r | refine yFo_w ?_ (by omega)))⟩
        · simp [hh, hd, t5, hm, h4, yw_1, ee, show (m : Int) < 4 by omega]
        · simp [hh, hd, hm, em, ea, eb, ec, ed, ee, yw_1, show ¬ (m : Int) = 4 by omega, show (0 : Int) ≤ 119 + 2 * m by omega, show (119 : Int) + 2 * m < 393 by omega, show (0 : Int) ≤ 120 + 2 * m by omega, show (120 : Int) + 2 * m < 393 by omega, show ¬ 118 = 119 + 2 * m by omega, show ¬ 118 = 120 + 2 * m by omega]
    · exact ⟨-1, σ, τ, by simp [hh, hd], by simp [hh, hd], H, yFs_r, yFo_r⟩
  · exact ⟨-1, σ, τ, by simp [hh], by simp [hh], H, yFs_r, yFo_r⟩
end
section
theorem p_vow {N : Nat} {σ τ : yS} {i w : Int} (H : yRN σ τ) : ∃ a : Int, f_X7_vow N σ i w = some (a, σ) ∧ f_X8_vow N τ i w = some (a, τ) := by
  obtain ⟨-, -, -, ⟨-, -, ⟨t3, t4⟩, -⟩, ⟨-, -, g2, -⟩⟩ := H
  have t3 : σ.1 (σ.2 17 11) 0 = τ.1 1 77 := t3
  have g2 : 0 ≤ τ.1 1 77 ∧ τ.1 1 77 ≤ 10 := g2
  have e : ysu (τ.1 1 77) 1 = τ.1 1 77 - 1 := ysu_e (by omega) (by omega)
  simp only [f_X7_vow, f_X8_vow, f_X8_vow_b47, f_X8_vow_b48, x7_within, x8_in, ycP_eq, ycP_ne, yin_d, yeq_d, t3, e]
  by_cases hi : 0 ≤ i ∧ i ≤ τ.1 1 77 - 1
  · obtain ⟨n, rfl⟩ : ∃ n : Nat, i = (n : Int) := ⟨i.toNat, by omega⟩
    obtain ⟨q1, q2, q3, q4⟩ := t4 n (show (n : Int) < τ.1 1 77 by omega)
    dsimp only at q1 q2 q3 q4
    have em : ymu 4 (n : Int) = 4 * (n : Int) := ymu_e (by omega) (by omega)
    have ea : yad 78 (4 * (n : Int)) = 78 + 4 * (n : Int) := yad_e (by omega) (by omega)
    have h10 : (n : Int) < 10 := by omega
    by_cases w0 : w = 0
    · subst w0
      have eb : yad (78 + 4 * (n : Int)) 0 = 78 + 4 * (n : Int) := by rw [yad_e (by omega) (by omega)]; omega
      have ec : (78 + 4 * (n : Int)).toNat = 78 + 4 * n := by omega
      exact ⟨τ.1 1 (78 + 4 * n), by simp [hi, h10, q1], by simp [hi, em, ea, eb, ec, show (0 : Int) ≤ 78 + 4 * n by omega, show (78 : Int) + 4 * n < 393 by omega]⟩
    by_cases w1 : w = 1
    · subst w1
      have eb : yad (78 + 4 * (n : Int)) 1 = 79 + 4 * (n : Int) := by rw [yad_e (by omega) (by omega)]; omega
      have ec : (79 + 4 * (n : Int)).toNat = 79 + 4 * n := by omega
      exact ⟨τ.1 1 (79 + 4 * n), by simp [hi, h10, q2], by simp [hi, em, ea, eb, ec, show (0 : Int) ≤ 79 + 4 * n by omega, show (79 : Int) + 4 * n < 393 by omega]⟩
    by_cases w2 : w = 2
    · subst w2
      have eb : yad (78 + 4 * (n : Int)) 2 = 80 + 4 * (n : Int) := by rw [yad_e (by omega) (by omega)]; omega
      have ec : (80 + 4 * (n : Int)).toNat = 80 + 4 * n := by omega
      exact ⟨τ.1 1 (80 + 4 * n), by simp [hi, h10, q3], by simp [hi, em, ea, eb, ec, show (0 : Int) ≤ 80 + 4 * n by omega, show (80 : Int) + 4 * n < 393 by omega]⟩
    by_cases w3 : w = 3
    · subst w3
      have eb : yad (78 + 4 * (n : Int)) 3 = 81 + 4 * (n : Int) := by rw [yad_e (by omega) (by omega)]; omega
      have ec : (81 + 4 * (n : Int)).toNat = 81 + 4 * n := by omega
      exact ⟨τ.1 1 (81 + 4 * n), by simp [hi, h10, q4], by simp [hi, em, ea, eb, ec, show (0 : Int) ≤ 81 + 4 * n by omega, show (81 : Int) + 4 * n < 393 by omega]⟩
    · have hw : ¬ (0 ≤ w ∧ w ≤ 3) := by omega
      exact ⟨-1, by simp [hi, w0, w1, w2, w3], by simp [hi, hw]⟩
  · exact ⟨-1, by simp [hi], by simp [hi]⟩
theorem ysu_10 {w : Int} (hw : yI w) : (10 ≤ w → ysu w 10 = w - 10) ∧ (w < 10 → ysu w 10 < 0 ∨ 5 ≤ ysu w 10) := by
  obtain ⟨h1, h2⟩ := hw
  constructor
  · intro h
    exact ysu_e (by omega) (by omega)
  · intro h
    by_cases q : -2147483648 ≤ w - 10
    · rw [ysu_e q (by omega)]
      omega
    · have e : ysu w 10 = w - 10 + 4294967296 := by
        unfold ysu
        rw [zq_subW, ← (zq_per (w - 10)).1, zq_of (by omega) (by omega)]
      omega
theorem p_house {N : Nat} {σ τ : yS} {h w : Int} (hw : yI w) (H : yRN σ τ) : ∃ a : Int, f_X7_house N σ h w = some (a, σ) ∧ f_X8_house N τ h w = some (a, τ) := by
  obtain ⟨-, -, ⟨e0, e1, e2, b0, b1, b2, hc⟩, ⟨t1, t2, -⟩, -⟩ := H
  have es : ysu (yad 10 (τ.1 0 5)) 1 = τ.1 0 5 + 9 := by
    rw [yad_e (by omega) (by omega), ysu_e (by omega) (by omega)]
    omega
  simp only [f_X7_house, f_X7_bit, f_X7_doneAt, f_X8_house, f_X8_house_b65, x4_isHouse (show 2 ≤ σ.1 17 0 ∧ σ.1 17 0 ≤ 7 by rw [e0]; exact b0), x8_isHouse b0, x8_isDeed b2, x7_within, x8_in, ycP_eq, ycP_ne, yin_d, yeq_d, e0, e2, es]
  by_cases hh : 0 ≤ h ∧ h < τ.1 0 3
  · obtain ⟨n, rfl⟩ : ∃ n : Nat, h = (n : Int) := ⟨h.toNat, by omega⟩
    obtain ⟨q0, q1, q2, q3, q4, q5⟩ := t1 n (by omega)
    dsimp only at q0 q1 q2 q3 q4 q5
    have h7 : (n : Int) < 7 := by omega
    by_cases w5 : 0 ≤ w ∧ w ≤ 5
    · have em : ymu 7 w = 7 * w := ymu_e (by omega) (by omega)
      have ea : yad (7 * w) (n : Int) = 7 * w + (n : Int) := yad_e (by omega) (by omega)
      refine ⟨τ.1 1 (7 * w + (n : Int)).toNat, ?_, ?_⟩
      · have : w = 0 ∨ w = 1 ∨ w = 2 ∨ w = 3 ∨ w = 4 ∨ w = 5 := by omega
        rcases this with r | r | r | r | r | r <;> subst r
        · simp [hh, h7, q0]
        · simp [hh, h7, q1, show ((7 : Int) + n).toNat = 7 + n by omega]
        · simp [hh, h7, q2, show ((14 : Int) + n).toNat = 14 + n by omega]
        · simp [hh, h7, q3, show ((21 : Int) + n).toNat = 21 + n by omega]
        · simp [hh, h7, q4, show ((28 : Int) + n).toNat = 28 + n by omega]
        · simp [hh, h7, q5, show ((35 : Int) + n).toNat = 35 + n by omega]
      · simp [hh, w5, em, ea, show 0 ≤ 7 * w + (n : Int) by omega, show 7 * w + (n : Int) < 393 by omega]
    · have z : ¬ w = 0 ∧ ¬ w = 1 ∧ ¬ w = 2 ∧ ¬ w = 3 ∧ ¬ w = 4 ∧ ¬ w = 5 := by omega
      by_cases wd : 10 ≤ w ∧ w ≤ τ.1 0 5 + 9
      · have s1 := (ysu_10 hw).1 wd.1
        have em : ymu (n : Int) 5 = 5 * (n : Int) := by rw [ymu_e (by omega) (by omega)]; omega
        have em2 : ymu 5 (n : Int) = 5 * (n : Int) := ymu_e (by omega) (by omega)
        have ea : yad (5 * (n : Int)) (w - 10) = 5 * (n : Int) + (w - 10) := yad_e (by omega) (by omega)
        have eb : ysu (yad (yad 42 (5 * (n : Int))) w) 10 = 42 + 5 * (n : Int) + (w - 10) := by
          rw [yad_e (a := 42) (by omega) (by omega), yad_e (by omega) (by omega), ysu_e (by omega) (by omega)]
          omega
        have q := t2 (5 * (n : Int) + (w - 10)).toNat (by omega)
        dsimp only at q
        have ec : (42 + 5 * (n : Int) + (w - 10)).toNat = 42 + (5 * (n : Int) + (w - 10)).toNat := by omega
        refine ⟨τ.1 1 (42 + (5 * (n : Int) + (w - 10)).toNat), ?_, ?_⟩
        · simp [hh, z, wd, s1, em, ea, q, show 0 ≤ 5 * (n : Int) + (w - 10) by omega, show 5 * (n : Int) + (w - 10) < 35 by omega]
        · simp [hh, w5, s1, em2, eb, ec, show ¬ w < 10 by omega, show 0 ≤ w - 10 by omega, show w - 10 < τ.1 0 5 by omega, show 0 ≤ 42 + 5 * (n : Int) + (w - 10) by omega, show 42 + 5 * (n : Int) + (w - 10) < 393 by omega]
      · have nd : ¬ (0 ≤ ysu w 10 ∧ ysu w 10 < τ.1 0 5) := by
          by_cases c : 10 ≤ w
          · rw [(ysu_10 hw).1 c]
            omega
          · have := (ysu_10 hw).2 (by omega)
            omega
        exact ⟨-1, by simp [hh, z, wd], by simp [hh, w5, nd]⟩
  · exact ⟨-1, by simp [hh], by simp [hh]⟩
end
section
/-- a vow row's places lie apart from all else of the terrace -/
theorem yRN_vows {σ τ : yS} (H : yRN σ τ) {v m : Nat} (hvr : σ.2 17 11 = v) (hm : τ.1 1 77 = (m : Int)) (h4 : m < 10) {h k p d : Int} (hh : 0 ≤ h ∧ h < τ.1 0 3) (hk : 0 ≤ k ∧ k ≤ 4) (hp : 0 ≤ p ∧ p ≤ 9) (hd : 0 ≤ d ∧ d < τ.1 0 5) : yRN (yw (yw (yw (yw (yw σ (v + 1) m h) (v + 2) m k) (v + 3) m p) (v + 4) m d) v 0 ((m : Int) + 1)) (yw (yw (yw (yw (yw τ 1 (78 + 4 * m) h) 1 (79 + 4 * m) k) 1 (80 + 4 * m) p) 1 (81 + 4 * m) d) 1 77 ((m : Int) + 1)) := by
  obtain ⟨⟨a0, a1, a2, a3⟩, f0, ⟨e0, e1, e2, b0, b1, b2, hc⟩, ⟨t1, t2, ⟨t3, t4⟩, ⟨t5, t6⟩, ⟨d0, d1, d2, d3⟩, t7⟩, ⟨g0, g1, g2, g3, g4, g5, g6⟩⟩ := H
  have hv : v = 25 ∨ v = 30 := by omega
  have cl : ∀ a b : Nat, (a < 25 ∨ 35 ≤ a) → (yw (yw (yw (yw (yw σ (v + 1) m h) (v + 2) m k) (v + 3) m p) (v + 4) m d) v 0 ((m : Int) + 1)).1 a b = σ.1 a b := fun a b ha => by
    simp [yw_1, show ¬ a = v by omega, show ¬ a = v + 1 by omega, show ¬ a = v + 2 by omega, show ¬ a = v + 3 by omega, show ¬ a = v + 4 by omega]
  have vs : (yw (yw (yw (yw (yw σ (v + 1) m h) (v + 2) m k) (v + 3) m p) (v + 4) m d) v 0 ((m : Int) + 1)).1 v 0 = (m : Int) + 1 := by simp [yw_1]
  have v1 : ∀ i : Nat, (yw (yw (yw (yw (yw σ (v + 1) m h) (v + 2) m k) (v + 3) m p) (v + 4) m d) v 0 ((m : Int) + 1)).1 (v + 1) i = (if i = m then h else σ.1 (v + 1) i) := fun i => by simp [yw_1]
  have v2 : ∀ i : Nat, (yw (yw (yw (yw (yw σ (v + 1) m h) (v + 2) m k) (v + 3) m p) (v + 4) m d) v 0 ((m : Int) + 1)).1 (v + 2) i = (if i = m then k else σ.1 (v + 2) i) := fun i => by simp [yw_1]
  have v3 : ∀ i : Nat, (yw (yw (yw (yw (yw σ (v + 1) m h) (v + 2) m k) (v + 3) m p) (v + 4) m d) v 0 ((m : Int) + 1)).1 (v + 3) i = (if i = m then p else σ.1 (v + 3) i) := fun i => by simp [yw_1]
  have v4 : ∀ i : Nat, (yw (yw (yw (yw (yw σ (v + 1) m h) (v + 2) m k) (v + 3) m p) (v + 4) m d) v 0 ((m : Int) + 1)).1 (v + 4) i = (if i = m then d else σ.1 (v + 4) i) := fun i => by simp [yw_1]
  have c2 : (yw (yw (yw (yw (yw σ (v + 1) m h) (v + 2) m k) (v + 3) m p) (v + 4) m d) v 0 ((m : Int) + 1)).2 = σ.2 := rfl
  have o1 : ∀ a b : Nat, a ≠ 1 → (yw (yw (yw (yw (yw τ 1 (78 + 4 * m) h) 1 (79 + 4 * m) k) 1 (80 + 4 * m) p) 1 (81 + 4 * m) d) 1 77 ((m : Int) + 1)).1 a b = τ.1 a b := fun a b ha => by
    simp [yw_1, ha]
  have low : ∀ j : Nat, j < 77 → (yw (yw (yw (yw (yw τ 1 (78 + 4 * m) h) 1 (79 + 4 * m) k) 1 (80 + 4 * m) p) 1 (81 + 4 * m) d) 1 77 ((m : Int) + 1)).1 1 j = τ.1 1 j := fun j hj => by
    simp [yw_1, show ¬ j = 77 by omega, show ¬ j = 78 + 4 * m by omega, show ¬ j = 79 + 4 * m by omega, show ¬ j = 80 + 4 * m by omega, show ¬ j = 81 + 4 * m by omega]
  have hig : ∀ j : Nat, 118 ≤ j → (yw (yw (yw (yw (yw τ 1 (78 + 4 * m) h) 1 (79 + 4 * m) k) 1 (80 + 4 * m) p) 1 (81 + 4 * m) d) 1 77 ((m : Int) + 1)).1 1 j = τ.1 1 j := fun j hj => by
    simp [yw_1, show ¬ j = 77 by omega, show ¬ j = 78 + 4 * m by omega, show ¬ j = 79 + 4 * m by omega, show ¬ j = 80 + 4 * m by omega, show ¬ j = 81 + 4 * m by omega]
  have mid : (yw (yw (yw (yw (yw τ 1 (78 + 4 * m) h) 1 (79 + 4 * m) k) 1 (80 + 4 * m) p) 1 (81 + 4 * m) d) 1 77 ((m : Int) + 1)).1 1 77 = (m : Int) + 1 := by simp [yw_1]
  have u1 : ∀ i : Nat, (yw (yw (yw (yw (yw τ 1 (78 + 4 * m) h) 1 (79 + 4 * m) k) 1 (80 + 4 * m) p) 1 (81 + 4 * m) d) 1 77 ((m : Int) + 1)).1 1 (78 + 4 * i) = (if i = m then h else τ.1 1 (78 + 4 * i)) := fun i => by
    by_cases hq : i = m
    · subst hq
      simp [yw_1, show ¬ 78 + 4 * i = 77 by omega, show ¬ 78 + 4 * i = 79 + 4 * i by omega, show ¬ 78 + 4 * i = 80 + 4 * i by omega, show ¬ 78 + 4 * i = 81 + 4 * i by omega]
    · simp [yw_1, hq, show ¬ 78 + 4 * i = 77 by omega, show ¬ 4 * i = 4 * m by omega, show ¬ 78 + 4 * i = 79 + 4 * m by omega, show ¬ 78 + 4 * i = 80 + 4 * m by omega, show ¬ 78 + 4 * i = 81 + 4 * m by omega]
  have u2 : ∀ i : Nat, (yw (yw (yw (yw (yw τ 1 (78 + 4 * m) h) 1 (79 + 4 * m) k) 1 (80 + 4 * m) p) 1 (81 + 4 * m) d) 1 77 ((m : Int) + 1)).1 1 (79 + 4 * i) = (if i = m then k else τ.1 1 (79 + 4 * i)) := fun i => by
    by_cases hq : i = m
    · subst hq
      simp [yw_1, show ¬ 79 + 4 * i = 77 by omega, show ¬ 79 + 4 * i = 80 + 4 * i by omega, show ¬ 79 + 4 * i = 81 + 4 * i by omega]
    · simp [yw_1, hq, show ¬ 79 + 4 * i = 77 by omega, show ¬ 4 * i = 4 * m by omega, show ¬ 79 + 4 * i = 78 + 4 * m by omega, show ¬ 79 + 4 * i = 80 + 4 * m by omega, show ¬ 79 + 4 * i = 81 + 4 * m by omega]
  have u3 : ∀ i : Nat, (yw (yw (yw (yw (yw τ 1 (78 + 4 * m) h) 1 (79 + 4 * m) k) 1 (80 + 4 * m) p) 1 (81 + 4 * m) d) 1 77 ((m : Int) + 1)).1 1 (80 + 4 * i) = (if i = m then p else τ.1 1 (80 + 4 * i)) := fun i => by
    by_cases hq : i = m
    · subst hq
      simp [yw_1, show ¬ 80 + 4 * i = 77 by omega, show ¬ 80 + 4 * i = 81 + 4 * i by omega]
    · simp [yw_1, hq, show ¬ 80 + 4 * i = 77 by omega, show ¬ 4 * i = 4 * m by omega, show ¬ 80 + 4 * i = 78 + 4 * m by omega, show ¬ 80 + 4 * i = 79 + 4 * m by omega, show ¬ 80 + 4 * i = 81 + 4 * m by omega]
  have u4 : ∀ i : Nat, (yw (yw (yw (yw (yw τ 1 (78 + 4 * m) h) 1 (79 + 4 * m) k) 1 (80 + 4 * m) p) 1 (81 + 4 * m) d) 1 77 ((m : Int) + 1)).1 1 (81 + 4 * i) = (if i = m then d else τ.1 1 (81 + 4 * i)) := fun i => by
    by_cases hq : i = m
    · subst hq
      simp [yw_1, show ¬ 81 + 4 * i = 77 by omega]
    · simp [yw_1, hq, show ¬ 81 + 4 * i = 77 by omega, show ¬ 4 * i = 4 * m by omega, show ¬ 81 + 4 * i = 78 + 4 * m by omega, show ¬ 81 + 4 * i = 79 + 4 * m by omega, show ¬ 81 + 4 * i = 80 + 4 * m by omega]
  generalize hS : yw (yw (yw (yw (yw σ (v + 1) m h) (v + 2) m k) (v + 3) m p) (v + 4) m d) v 0 ((m : Int) + 1) = S at cl vs v1 v2 v3 v4 c2 ⊢
  generalize hT : yw (yw (yw (yw (yw τ 1 (78 + 4 * m) h) 1 (79 + 4 * m) k) 1 (80 + 4 * m) p) 1 (81 + 4 * m) d) 1 77 ((m : Int) + 1) = U at o1 low hig mid u1 u2 u3 u4 ⊢
  have g4 : 0 ≤ τ.1 1 118 ∧ τ.1 1 118 ≤ 4 := g4
  refine ⟨⟨?_, ?_, ?_, fun j hj => ?_⟩, ?_, ⟨?_, ?_, ?_, ?_, ?_, ?_, fun d hd => ?_⟩, ⟨fun i hi => ?_, fun j hj => ?_, ⟨?_, fun i hi => ?_⟩, ⟨?_, fun i hi => ?_⟩, ⟨?_, ?_, ?_, ?_⟩, ?_⟩, ⟨?_, fun i hi => ?_, ?_, fun i hi => ?_, ?_, fun i hi => ?_, ?_, ?_⟩⟩
  · rw [cl 3 0 (by omega)]; exact a0
  · rw [cl 3 0 (by omega)]; exact a1
  · rw [cl 3 0 (by omega), o1 0 17 (by omega)]; exact a2
  · rw [cl 3 0 (by omega)] at hj
    rw [cl 4 j (by omega), o1 8 j (by omega)]
    exact a3 j hj
  · rw [cl 2 4 (by omega), o1 0 22 (by omega)]; exact f0
  · rw [cl 17 0 (by omega), o1 0 3 (by omega)]; exact e0
  · rw [cl 17 1 (by omega), o1 0 4 (by omega)]; exact e1
  · rw [cl 17 2 (by omega), o1 0 5 (by omega)]; exact e2
  · rw [o1 0 3 (by omega)]; exact b0
  · rw [o1 0 4 (by omega)]; exact b1
  · rw [o1 0 5 (by omega)]; exact b2
  · rw [o1 0 5 (by omega)] at hd
    rw [cl (17 + 1) d (by omega), o1 4 d (by omega)]
    exact hc d hd
  · have q := t1 i hi
    dsimp only at q ⊢
    rw [cl (17 + 2) i (by omega), cl (17 + 3) i (by omega), cl 17 6 (by omega), cl (17 + 4) i (by omega), cl (17 + 5) i (by omega), cl (17 + 6) i (by omega), low i (by omega), low (7 + i) (by omega), low (14 + i) (by omega), low (21 + i) (by omega), low (28 + i) (by omega), low (35 + i) (by omega)]
    exact q
  · have q := t2 j hj
    dsimp only at q ⊢
    rw [cl (17 + 7) j (by omega), low (42 + j) (by omega)]
    exact q
  · dsimp only
    rw [c2, hvr, vs, mid]
  · dsimp only at hi ⊢
    rw [mid] at hi
    rw [c2, hvr, v1, v2, v3, v4, u1, u2, u3, u4]
    by_cases hq : i = m
    · simp [hq]
    · have q := t4 i (show (i : Int) < τ.1 1 77 by omega)
      rw [hvr] at q
      simp only [hq, if_false]
      exact q
  · dsimp only at t5 ⊢
    rw [cl (17 + 18) 0 (by omega), hig 118 (by omega)]
    exact t5
  · dsimp only at hi ⊢
    rw [hig 118 (by omega)] at hi
    have q := t6 i hi
    rw [cl (17 + 19) i (by omega), cl (17 + 20) i (by omega), hig (119 + 2 * i) (by omega), hig (120 + 2 * i) (by omega)]
    exact q
  · dsimp only
    rw [cl 17 14 (by omega), hig 127 (by omega)]; exact d0
  · dsimp only
    rw [cl 17 15 (by omega), hig 128 (by omega)]; exact d1
  · dsimp only
    rw [cl 17 16 (by omega), hig 129 (by omega)]; exact d2
  · dsimp only
    rw [cl 17 17 (by omega), hig 130 (by omega)]; exact d3
  · rw [c2]; exact t7
  · rw [cl 17 6 (by omega)]; exact g0
  · have q := g1 i hi
    dsimp only at q ⊢
    rw [low (7 + i) (by omega), low (14 + i) (by omega), low (21 + i) (by omega), low (28 + i) (by omega), low (35 + i) (by omega)]
    exact q
  · dsimp only
    rw [mid]
    omega
  · dsimp only at hi ⊢
    rw [mid] at hi
    rw [u1, u2, u3, u4, o1 0 3 (by omega), o1 0 5 (by omega)]
    by_cases hq : i = m
    · simp only [hq, if_true]
      exact ⟨hh, hk, hp, hd⟩
    · have q := g3 i (show (i : Int) < τ.1 1 77 by omega)
      simp only [hq, if_false]
      exact q
  · dsimp only
    rw [hig 118 (by omega)]
    exact g4
  · dsimp only at hi ⊢
    rw [hig 118 (by omega)] at hi
    have q := g5 i hi
    rw [hig (119 + 2 * i) (by omega), hig (120 + 2 * i) (by omega), o1 0 3 (by omega), o1 0 5 (by omega)]
    exact q
  · dsimp only
    rw [hig 127 (by omega)]
    exact g6.1
  · dsimp only
    rw [hig 127 (by omega)]
    exact g6.2
end
section
theorem x7_isDepth {N : Nat} {σ : yS} {p : Int} : f_X7_isDepth N σ p = some (if (0 ≤ p ∧ p ≤ 3) ∨ p = 9 then 1 else 0, σ) := by
  simp only [f_X7_isDepth, f_X7_isDepth_b15, f_X7_isDepth_b20, x7_within, ycP_ne, yb1_d]
  by_cases h : 0 ≤ p ∧ p ≤ 3
  · simp [h]
  · by_cases h9 : p = 9
    · simp [h9]
    · simp [h, h9]
theorem x8_isDeep {N : Nat} {τ : yS} {p : Int} : f_X8_isDeep N τ p = some (if (0 ≤ p ∧ p ≤ 3) ∨ p = 9 then 1 else 0, τ) := by
  simp only [f_X8_isDeep, f_X8_isDeep_b18, f_X8_isDeep_b23, x8_in, ycP_ne, yb1_d]
  by_cases h : 0 ≤ p ∧ p ≤ 3
  · simp [h]
  · by_cases h9 : p = 9
    · simp [h9]
    · simp [h, h9]
theorem p_vows {N : Nat} {σ τ : yS} {h k p d : Int} (H : yRN σ τ) : ∃ (a : Int) (σ' τ' : yS), f_X7_vows N σ h k p d = some (a, σ') ∧ f_X8_vows N τ h k p d = some (a, τ') ∧ yRN σ' τ' ∧ yFs σ σ' ∧ yFo τ τ' ∧ τ.1 1 77 ≤ τ'.1 1 77 := by
  have H0 := H
  obtain ⟨-, -, ⟨e0, e1, e2, b0, b1, b2, hc⟩, ⟨-, -, ⟨t3, -⟩, -, -, t7⟩, ⟨-, -, g2, -⟩⟩ := H0
  have t3 : σ.1 (σ.2 17 11) 0 = τ.1 1 77 := t3
  have g2 : 0 ≤ τ.1 1 77 ∧ τ.1 1 77 ≤ 10 := g2
  obtain ⟨v, hvr⟩ : ∃ v : Nat, σ.2 17 11 = v := ⟨_, rfl⟩
  rw [hvr] at t3
  simp only [f_X7_vows, f_X7_vows_b37, f_X7_vows_b72, f_X5_append, f_X5_append_b26, f_X5_append_b36, f_X5_append_b46, f_X5_append_b54, f_X8_vows, f_X8_vows_b31, f_X8_vows_b108, f_X8_vows_b118, x7_isKind, x8_isKind, x7_isDepth, x8_isDeep, x4_isHouse (show 2 ≤ σ.1 17 0 ∧ σ.1 17 0 ≤ 7 by rw [e0]; exact b0), x8_isHouse b0, x4_isDeed (show 0 ≤ σ.1 17 2 ∧ σ.1 17 2 ≤ 5 by rw [e2]; exact b2), x8_isDeed b2, ycP_eq, ycP_ne, ycP_lt, yin_d, e0, e2, hvr]
  by_cases hh : 0 ≤ h ∧ h < τ.1 0 3
  · by_cases hk : 0 ≤ k ∧ k ≤ 4
    · by_cases hp : (0 ≤ p ∧ p ≤ 3) ∨ p = 9
      · by_cases hd : 0 ≤ d ∧ d < τ.1 0 5
        · by_cases hf : τ.1 1 77 = 10
          · exact ⟨-3, σ, τ, by simp [hh, hk, hp, hd, t3, hf], by simp [hh, hk, hp, hd, hf], H, yFs_r, yFo_r, Int.le_refl _⟩
          · obtain ⟨m, hm⟩ : ∃ m : Nat, τ.1 1 77 = (m : Int) := ⟨(τ.1 1 77).toNat, by omega⟩
            have h4 : m < 10 := by omega
            have em : ymu 4 (m : Int) = 4 * (m : Int) := ymu_e (by omega) (by omega)
            have ea : yad 78 (4 * (m : Int)) = 78 + 4 * (m : Int) := yad_e (by omega) (by omega)
            have eb1 : yad (78 + 4 * (m : Int)) 1 = 79 + 4 * (m : Int) := by rw [yad_e (by omega) (by omega)]; omega
            have eb2 : yad (78 + 4 * (m : Int)) 2 = 80 + 4 * (m : Int) := by rw [yad_e (by omega) (by omega)]; omega
            have eb3 : yad (78 + 4 * (m : Int)) 3 = 81 + 4 * (m : Int) := by rw [yad_e (by omega) (by omega)]; omega
            have ec : (78 + 4 * (m : Int)).toNat = 78 + 4 * m := by omega
            have ec1 : (79 + 4 * (m : Int)).toNat = 79 + 4 * m := by omega
            have ec2 : (80 + 4 * (m : Int)).toNat = 80 + 4 * m := by omega
            have ec3 : (81 + 4 * (m : Int)).toNat = 81 + 4 * m := by omega
            have ee : yad (m : Int) 1 = (m : Int) + 1 := yad_e (by omega) (by omega)
            refine ⟨(m : Int) + 1, _, _, ?_, ?_, yRN_vows H hvr hm h4 hh hk (show 0 ≤ p ∧ p ≤ 9 by omega) hd, (by repeat (first | exact yFs_r | refine yFs_w ?_ (by omega))), (by repeat (first | exact yFo_r | refine yFo_w ?_ (by omega))), ?_⟩
            · simp [hh, hk, hp, hd, t3, hm, h4, yw_1, yw_2, hvr, ee, show (m : Int) < 10 by omega]
            · simp [hh, hk, hp, hd, hm, em, ea, eb1, eb2, eb3, ec, ec1, ec2, ec3, ee, yw_1, show ¬ (m : Int) = 10 by omega, show (0 : Int) ≤ 78 + 4 * m by omega, show (78 : Int) + 4 * m < 393 by omega, show (0 : Int) ≤ 79 + 4 * m by omega, show (79 : Int) + 4 * m < 393 by omega, show (0 : Int) ≤ 80 + 4 * m by omega, show (80 : Int) + 4 * m < 393 by omega, show (0 : Int) ≤ 81 + 4 * m by omega, show (81 : Int) + 4 * m < 393 by omega, show ¬ 77 = 78 + 4 * m by omega, show ¬ 77 = 79 + 4 * m by omega, show ¬ 77 = 80 + 4 * m by omega, show ¬ 77 = 81 + 4 * m by omega]
            · rw [yw_1, if_pos ⟨rfl, rfl⟩, hm]
              omega
        · exact ⟨-1, σ, τ, by simp [hh, hk, hp, hd], by simp [hh, hk, hp, hd], H, yFs_r, yFo_r, Int.le_refl _⟩
      · exact ⟨-1, σ, τ, by simp [hh, hk, hp], by simp [hh, hk, hp], H, yFs_r, yFo_r, Int.le_refl _⟩
    · exact ⟨-1, σ, τ, by simp [hh, hk], by simp [hh, hk], H, yFs_r, yFo_r, Int.le_refl _⟩
  · exact ⟨-1, σ, τ, by simp [hh], by simp [hh], H, yFs_r, yFo_r, Int.le_refl _⟩
end
section
theorem yRN_tape {σ τ : yS} (H : yRN σ τ) {n : Int} (hn : 0 ≤ n ∧ n ≤ τ.1 0 17) : yRN (yw σ 3 0 n) (yw τ 0 17 n) := by
  obtain ⟨⟨a0, a1, a2, a3⟩, f0, ⟨e0, e1, e2, b0, b1, b2, hc⟩, ⟨t1, t2, ⟨t3, t4⟩, ⟨t5, t6⟩, ⟨d0, d1, d2, d3⟩, t7⟩, ⟨g0, g1, g2, g3, g4, g5, g6⟩⟩ := H
  have hv : ¬ σ.2 17 11 = 3 ∧ ¬ σ.2 17 11 + 1 = 3 ∧ ¬ σ.2 17 11 + 2 = 3 ∧ ¬ σ.2 17 11 + 3 = 3 ∧ ¬ σ.2 17 11 + 4 = 3 := by omega
  have cl : ∀ a b : Nat, a ≠ 3 → (yw σ 3 0 n).1 a b = σ.1 a b := fun a b ha => by simp [yw_1, ha]
  have c0 : (yw σ 3 0 n).1 3 0 = n := by simp [yw_1]
  have c2 : (yw σ 3 0 n).2 = σ.2 := rfl
  have o1 : ∀ a b : Nat, (a ≠ 0 ∨ b ≠ 17) → (yw τ 0 17 n).1 a b = τ.1 a b := fun a b ha => by
    by_cases h0 : a = 0
    · simp [yw_1, h0, show ¬ b = 17 by omega]
    · simp [yw_1, h0]
  have o0 : (yw τ 0 17 n).1 0 17 = n := by simp [yw_1]
  have os : (fun j => (yw τ 0 17 n).1 1 j) = (fun j => τ.1 1 j) := funext fun j => o1 1 j (by omega)
  generalize hS : yw σ 3 0 n = S at cl c0 c2 ⊢
  generalize hT : yw τ 0 17 n = U at o1 o0 os ⊢
  refine ⟨⟨?_, ?_, ?_, fun j hj => ?_⟩, ?_, ⟨?_, ?_, ?_, ?_, ?_, ?_, fun d hd => ?_⟩, ?_, ?_⟩
  · rw [c0]; exact hn.1
  · rw [c0]; omega
  · rw [c0, o0]
  · rw [c0] at hj
    rw [cl 4 j (by omega), o1 8 j (by omega)]
    exact a3 j (by omega)
  · rw [cl 2 4 (by omega), o1 0 22 (by omega)]; exact f0
  · rw [cl 17 0 (by omega), o1 0 3 (by omega)]; exact e0
  · rw [cl 17 1 (by omega), o1 0 4 (by omega)]; exact e1
  · rw [cl 17 2 (by omega), o1 0 5 (by omega)]; exact e2
  · rw [o1 0 3 (by omega)]; exact b0
  · rw [o1 0 4 (by omega)]; exact b1
  · rw [o1 0 5 (by omega)]; exact b2
  · rw [o1 0 5 (by omega)] at hd
    rw [cl (17 + 1) d (by omega), o1 4 d (by omega)]
    exact hc d hd
  · rw [os]
    refine ⟨fun i hi => ?_, fun j hj => ?_, ⟨?_, fun i hi => ?_⟩, ⟨?_, fun i hi => ?_⟩, ⟨?_, ?_, ?_, ?_⟩, ?_⟩
    · rw [cl (17 + 2) i (by omega), cl (17 + 3) i (by omega), cl 17 6 (by omega), cl (17 + 4) i (by omega), cl (17 + 5) i (by omega), cl (17 + 6) i (by omega)]
      exact t1 i hi
    · rw [cl (17 + 7) j (by omega)]; exact t2 j hj
    · rw [c2, cl _ _ (by omega)]; exact t3
    · rw [c2, cl _ _ (by omega), cl _ _ (by omega), cl _ _ (by omega), cl _ _ (by omega)]; exact t4 i hi
    · rw [cl _ _ (by omega)]; exact t5
    · rw [cl _ _ (by omega), cl _ _ (by omega)]; exact t6 i hi
    · rw [cl _ _ (by omega)]; exact d0
    · rw [cl _ _ (by omega)]; exact d1
    · rw [cl _ _ (by omega)]; exact d2
    · rw [cl _ _ (by omega)]; exact d3
    · rw [c2]; exact t7
  · rw [os, o1 0 3 (by omega), o1 0 5 (by omega), cl 17 6 (by omega)]
    exact ⟨g0, g1, g2, g3, g4, g5, g6⟩
theorem p_end {N : Nat} {σ τ : yS} {n : Int} (H : yRN σ τ) : ∃ (a : Int) (σ' τ' : yS), f_X7_end N σ n = some (a, σ') ∧ f_X8_end N τ n = some (a, τ') ∧ yRN σ' τ' ∧ yFs σ σ' ∧ yFo τ τ' := by
  have a2 : σ.1 3 0 = τ.1 0 17 := H.1.2.2.1
  simp only [f_X7_end, f_X8_end, x7_within, x8_in, ycP_ne, a2]
  by_cases hn : 0 ≤ n ∧ n ≤ τ.1 0 17
  · exact ⟨τ.1 0 17, yw σ 3 0 n, yw τ 0 17 n, by simp [hn], by simp [hn], yRN_tape H hn, (by repeat (first | exact yFs_r | refine yFs_w ?_ (by omega))), (by repeat (first | exact yFo_r | refine yFo_w ?_ (by omega)))⟩
  · exact ⟨-1, σ, τ, by simp [hn], by simp [hn], H, yFs_r, yFo_r⟩
end
section
theorem yw_c {σ : yS} {i k i' k' : Nat} {a b : Int} (h : i ≠ i') : yw (yw σ i k a) i' k' b = yw (yw σ i' k' b) i k a := by
  refine Prod.ext ?_ rfl
  funext x y
  simp only [yw_1]
  by_cases h1 : x = i
  · have h2 : ¬ x = i' := by omega
    simp [h2]
  · simp [h1]
noncomputable def ybt (x : Int) : Int := yad (yad (yad (yad (yad (yad (yad 0 (yan (ysr x 0) 1)) (yan (ysr x 1) 1)) (yan (ysr x 2) 1)) (yan (ysr x 3) 1)) (yan (ysr x 4) 1)) (yan (ysr x 5) 1)) (yan (ysr x 6) 1)
theorem x8_bits_s (N n : Nat) (τ : yS) (x a i : Int) (h : i < 7) : f_X8_bitsOf_b4 N (n + 1) τ x a i = f_X8_bitsOf_b4 N n τ x (yad a (yan (ysr x i) 1)) (yad i 1) := by
  rw [q_X8_bitsOf_b4]
  simp [ycP_ge, show ¬ 7 ≤ i by omega]
theorem x8_bits {N : Nat} (h8 : 8 ≤ N) {τ : yS} {x : Int} : f_X8_bitsOf N τ x = some (ybt x, τ) := by
  obtain ⟨n, hn⟩ : ∃ n, N = n + 8 := ⟨N - 8, by omega⟩
  have q : f_X8_bitsOf_b4 N (n + 8) τ x 0 0 = some (ybt x, τ) := by
    rw [x8_bits_s N (n + 7) τ x _ 0 (by omega), show yad 0 1 = 1 by decide +kernel, x8_bits_s N (n + 6) τ x _ 1 (by omega), show yad 1 1 = 2 by decide +kernel, x8_bits_s N (n + 5) τ x _ 2 (by omega), show yad 2 1 = 3 by decide +kernel, x8_bits_s N (n + 4) τ x _ 3 (by omega), show yad 3 1 = 4 by decide +kernel, x8_bits_s N (n + 3) τ x _ 4 (by omega), show yad 4 1 = 5 by decide +kernel, x8_bits_s N (n + 2) τ x _ 5 (by omega), show yad 5 1 = 6 by decide +kernel, x8_bits_s N (n + 1) τ x _ 6 (by omega), show yad 6 1 = 7 by decide +kernel, q_X8_bitsOf_b4]
    simp [ycP_ge, ybt]
  rw [← hn] at q
  exact q
theorem ybc5 : ∀ S : Fin 32, (f_J6_bitCount_0f7a4 0 (fun _ _ => 0, fun _ _ => 0) ((S.val : Nat) : Int)).map Prod.fst = some (ybt ((S.val : Nat) : Int)) := by decide +kernel
theorem x7_bits {N : Nat} {σ : yS} {x : Int} (h : 0 ≤ x ∧ x < 32) : f_J6_bitCount_0f7a4 N σ x = some (ybt x, σ) := by
  have q := ybc5 ⟨x.toNat, by omega⟩
  have e1 : ((x.toNat : Nat) : Int) = x := by omega
  simp only [e1, f_J6_bitCount_0f7a4, Option.map_some, Option.some.injEq] at q
  simp only [f_J6_bitCount_0f7a4, q]
theorem p_move {N : Nat} (h8 : 8 ≤ N) {σ τ : yS} {h k : Int} (H : yRN σ τ) : ∃ (a : Int) (σ' τ' : yS), f_X7_move N σ h k = some (a, σ') ∧ f_X8_move N τ h k = some (a, τ') ∧ yRN σ' τ' ∧ yFs σ σ' ∧ yFo τ τ' := by
  have H0 := H
  obtain ⟨-, -, ⟨e0, e1, e2, b0, b1, b2, hc⟩, ⟨t1, -⟩, ⟨-, g1, -⟩⟩ := H0
  simp only [f_X7_move, f_X7_move_b27, f_X4_changeHouses, f_X4_changeHouses_b31, f_X8_move, f_X8_move_b21, f_X8_moves, f_X8_swaps, x8_bits h8, x4_isHouse (show 2 ≤ σ.1 17 0 ∧ σ.1 17 0 ≤ 7 by rw [e0]; exact b0), x8_isHouse b0, ycP_eq, ycP_ne, yin_d, e0]
  by_cases hh : 0 ≤ h ∧ h < τ.1 0 3
  · by_cases hk : 0 ≤ k ∧ k < τ.1 0 3
    · by_cases hq : h = k
      · exact ⟨-1, σ, τ, by simp [hh, hk, hq], by simp [hh, hk, hq], H, yFs_r, yFo_r⟩
      · obtain ⟨n, rfl⟩ : ∃ n : Nat, h = (n : Int) := ⟨h.toNat, by omega⟩
        obtain ⟨m, rfl⟩ : ∃ m : Nat, k = (m : Int) := ⟨k.toNat, by omega⟩
        have hn : n < 7 := by omega
        have hm : m < 7 := by omega
        have hnm : ¬ n = m := by omega
        have p1 : σ.1 19 n = τ.1 1 n := (t1 n hn).1
        have p2 : σ.1 19 m = τ.1 1 m := (t1 m hm).1
        have q1 : σ.1 20 n = τ.1 1 (7 + n) := (t1 n hn).2.1
        have q2 : σ.1 20 m = τ.1 1 (7 + m) := (t1 m hm).2.1
        have r1 : 0 ≤ τ.1 1 (7 + n) ∧ τ.1 1 (7 + n) < 32 := (g1 n hn).1
        have r2 : 0 ≤ τ.1 1 (7 + m) ∧ τ.1 1 (7 + m) < 32 := (g1 m hm).1
        have a1 : yad 7 (n : Int) = 7 + (n : Int) := yad_e (by omega) (by omega)
        have a2 : yad 7 (m : Int) = 7 + (m : Int) := yad_e (by omega) (by omega)
        have a3 : yad 0 (n : Int) = (n : Int) := by rw [yad_e (by omega) (by omega)]; omega
        have a4 : yad 0 (m : Int) = (m : Int) := by rw [yad_e (by omega) (by omega)]; omega
        have c1 : (7 + (n : Int)).toNat = 7 + n := by omega
        have c2 : (7 + (m : Int)).toNat = 7 + m := by omega
        have K := yRN_purse (yRN_purse (yRN_can (yRN_can H hn r2) hm r1) hn (τ.1 1 m)) hm (τ.1 1 n)
        have es : yw (yw (yw (yw σ 20 n (τ.1 1 (7 + m))) 20 m (τ.1 1 (7 + n))) 19 n (τ.1 1 m)) 19 m (τ.1 1 n) = yw (yw (yw (yw σ 19 n (τ.1 1 m)) 19 m (τ.1 1 n)) 20 n (τ.1 1 (7 + m))) 20 m (τ.1 1 (7 + n)) := by
          rw [yw_c (σ := yw σ 20 n (τ.1 1 (7 + m))) (show 20 ≠ 19 by omega), yw_c (σ := σ) (show 20 ≠ 19 by omega), yw_c (show 20 ≠ 19 by omega), yw_c (σ := yw σ 19 n (τ.1 1 m)) (show 20 ≠ 19 by omega)]
        rw [es] at K
        refine ⟨ybt (τ.1 1 (7 + m)), _, _, ?_, ?_, K, (by repeat (first | exact yFs_r | refine yFs_w ?_ (by omega))), (by repeat (first | exact yFo_r | refine yFo_w ?_ (by omega)))⟩
        · simp [hh, hk, hn, hm, hnm, hq, show (n : Int) < 7 by omega, show (m : Int) < 7 by omega, yw_1, p1, p2, q1, q2, x7_bits r2]
        · simp [hh, hk, hnm, hq, a1, a2, a3, a4, c1, c2, yw_1, show (0 : Int) ≤ 7 + (n : Int) by omega, show (7 : Int) + (n : Int) < 393 by omega, show (0 : Int) ≤ 7 + (m : Int) by omega, show (7 : Int) + (m : Int) < 393 by omega, show (n : Int) < 393 by omega, show (m : Int) < 393 by omega, show ¬ n = 7 + m by omega, show ¬ m = 7 + n by omega, show ¬ m = 7 + m by omega, show ¬ n = 7 + n by omega, show ¬ 7 + n = m by omega, show ¬ 7 + m = n by omega]
    · exact ⟨-1, σ, τ, by simp [hh, hk], by simp [hh, hk], H, yFs_r, yFo_r⟩
  · exact ⟨-1, σ, τ, by simp [hh], by simp [hh], H, yFs_r, yFo_r⟩
end
section
theorem ycp_s {τ : yS} {i0 i1 b a i : Nat} (h : i0 ≠ i1 ∨ a + 131 ≤ b ∨ b + 131 ≤ a) (hi : i < 131) : yw (ycp τ i0 i1 b a i) i1 (a + i) ((ycp τ i0 i1 b a i).1 i0 (b + i)) = ycp τ i0 i1 b a (i + 1) := by
  refine Prod.ext ?_ rfl
  funext x y
  rw [yw_1, ycp_1, ycp_1, ycp_1]
  have hs : ¬ (i0 = i1 ∧ a ≤ b + i ∧ b + i < a + i) := by omega
  rw [if_neg hs]
  by_cases h1 : y = a + i ∧ x = i1
  · have h2 : x = i1 ∧ a ≤ y ∧ y < a + (i + 1) := by omega
    rw [if_pos h1, if_pos h2, show b + (y - a) = b + i by omega]
  · rw [if_neg h1]
    by_cases h3 : x = i1 ∧ a ≤ y ∧ y < a + i
    · have h2 : x = i1 ∧ a ≤ y ∧ y < a + (i + 1) := by omega
      rw [if_pos h3, if_pos h2]
    · have h2 : ¬ (x = i1 ∧ a ≤ y ∧ y < a + (i + 1)) := by omega
      rw [if_neg h3, if_neg h2]
theorem ycp_0 {τ : yS} {i0 i1 b a : Nat} : ycp τ i0 i1 b a 0 = τ := by
  refine Prod.ext ?_ rfl
  funext x y
  rw [ycp_1]
  have h : ¬ (x = i1 ∧ a ≤ y ∧ y < a + 0) := by omega
  rw [if_neg h]
theorem x8_copies_l {N n : Nat} {τ : yS} {a b : Nat} (ha : a + 131 ≤ 393) (hb : b + 131 ≤ 393) (hab : a + 131 ≤ b ∨ b + 131 ≤ a) : ∀ j i : Nat, i + j = 131 → f_X8_copies_b2 N (n + j + 1) (ycp τ 1 1 b a i) (a : Int) (b : Int) (i : Int) = some (0, ycp τ 1 1 b a 131)
  | 0, i, h => by
    have : i = 131 := by omega
    subst this
    rw [q_X8_copies_b2]
    simp [ycP_ge]
  | j + 1, i, h => by
    have e1 : yad (b : Int) (i : Int) = (b : Int) + (i : Int) := yad_e (by omega) (by omega)
    have e2 : yad (a : Int) (i : Int) = (a : Int) + (i : Int) := yad_e (by omega) (by omega)
    have e3 : yad (i : Int) 1 = ((i + 1 : Nat) : Int) := by rw [yad_e (by omega) (by omega)]; omega
    have c1 : ((b : Int) + (i : Int)).toNat = b + i := by omega
    have c2 : ((a : Int) + (i : Int)).toNat = a + i := by omega
    rw [q_X8_copies_b2, e1, e2, e3, c1, c2, ycp_s (Or.inr hab) (show i < 131 by omega)]
    simp only [ycP_ge, yin_d]
    rw [decide_eq_false (show ¬ (131 : Int) ≤ (i : Int) by omega)]
    rw [decide_eq_true (show 0 ≤ (b : Int) + (i : Int) ∧ (b : Int) + (i : Int) < ((393 : Nat) : Int) by omega), decide_eq_true (show 0 ≤ (a : Int) + (i : Int) ∧ (a : Int) + (i : Int) < ((393 : Nat) : Int) by omega)]
    simp only [cond_false, cond_true]
    exact x8_copies_l (N := N) (n := n) ha hb hab j (i + 1) (by omega)
theorem x8_copies {N : Nat} (hN : 132 ≤ N) {τ : yS} {a b : Nat} (ha : a + 131 ≤ 393) (hb : b + 131 ≤ 393) (hab : a + 131 ≤ b ∨ b + 131 ≤ a) : f_X8_copies N τ (a : Int) (b : Int) = some (0, ycp τ 1 1 b a 131) := by
  have q := x8_copies_l (N := N) (n := N - 132) (τ := τ) ha hb hab 131 0 (by omega)
  rw [ycp_0, show N - 132 + 131 + 1 = N by omega] at q
  exact q
theorem x8_starts_l {N n : Nat} {τ : yS} : ∀ j i : Nat, i + j = 131 → f_X8_starts_b2 N (n + j + 1) (ycp τ 1 2 0 0 i) (i : Int) = some (0, ycp τ 1 2 0 0 131)
  | 0, i, h => by
    have : i = 131 := by omega
    subst this
    rw [q_X8_starts_b2]
    simp [ycP_ge]
  | j + 1, i, h => by
    have e3 : yad (i : Int) 1 = ((i + 1 : Nat) : Int) := by rw [yad_e (by omega) (by omega)]; omega
    have c1 : (i : Int).toNat = i := by omega
    have s := ycp_s (τ := τ) (i0 := 1) (i1 := 2) (b := 0) (a := 0) (Or.inl (by omega)) (show i < 131 by omega)
    rw [Nat.zero_add] at s
    rw [q_X8_starts_b2, e3, c1, s]
    simp only [ycP_ge, yin_d]
    rw [decide_eq_false (show ¬ (131 : Int) ≤ (i : Int) by omega)]
    rw [decide_eq_true (show 0 ≤ (i : Int) ∧ (i : Int) < ((393 : Nat) : Int) by omega), decide_eq_true (show 0 ≤ (i : Int) ∧ (i : Int) < ((131 : Nat) : Int) by omega)]
    simp only [cond_false, cond_true]
    exact x8_starts_l (N := N) (n := n) j (i + 1) (by omega)
theorem x8_starts {N : Nat} (hN : 132 ≤ N) {τ : yS} : f_X8_starts N τ = some (0, ycp τ 1 2 0 0 131) := by
  have q := x8_starts_l (N := N) (n := N - 132) (τ := τ) 131 0 (by omega)
  rw [ycp_0, show N - 132 + 131 + 1 = N by omega] at q
  exact q
end
section
theorem yw_n {σ : yS} {i k a b : Nat} {z : Int} (h : ¬ (b = k ∧ a = i)) : (yw σ i k z).1 a b = σ.1 a b := by
  rw [yw_1, if_neg h]
theorem yw_p {σ : yS} {i k : Nat} {z : Int} : (yw σ i k z).1 i k = z := by
  rw [yw_1, if_pos ⟨rfl, rfl⟩]
theorem ycp_n {σ : yS} {i0 i1 s d n a b : Nat} (h : ¬ (a = i1 ∧ d ≤ b ∧ b < d + n)) : (ycp σ i0 i1 s d n).1 a b = σ.1 a b := by
  rw [ycp_1, if_neg h]
theorem ycp_p {σ : yS} {i0 i1 n b : Nat} (h : b < n) : (ycp σ i0 i1 0 0 n).1 i1 b = σ.1 i0 b := by
  rw [ycp_1, if_pos ⟨rfl, by omega, by omega⟩, Nat.zero_add, Nat.sub_zero]
theorem x4_copy {N : Nat} {σ : yS} {x y v u : Nat} (hx : x + 21 ≤ y ∨ y + 21 ≤ x) (hv : σ.2 x 11 = v) (hu : σ.2 y 11 = u) (hv2 : v = x + 8 ∨ v = x + 13) (hu2 : u = y + 8 ∨ u = y + 13) (hb : 0 ≤ σ.1 y 1 ∧ σ.1 y 1 ≤ 1) : ∃ σ' : yS, f_X4_copyFrom N σ x y = some (0, σ') ∧ σ'.2 = σ.2 ∧ (∀ a b : Nat, (a < x ∨ x + 21 ≤ a) → σ'.1 a b = σ.1 a b) ∧ (σ'.1 x 0 = σ.1 y 0) ∧ (σ'.1 x 1 = σ.1 y 1) ∧ (σ'.1 x 2 = σ.1 y 2) ∧ (σ'.1 x 6 = σ.1 y 6) ∧ (σ'.1 x 14 = σ.1 y 14) ∧ (σ'.1 x 15 = σ.1 y 15) ∧ (σ'.1 x 16 = σ.1 y 16) ∧ (σ'.1 x 17 = σ.1 y 17) ∧ (∀ b : Nat, b < 5 → σ'.1 (x + 1) b = σ.1 (y + 1) b) ∧ (∀ b : Nat, b < 7 → σ'.1 (x + 2) b = σ.1 (y + 2) b) ∧ (∀ b : Nat, b < 7 → σ'.1 (x + 3) b = σ.1 (y + 3) b) ∧ (∀ b : Nat, b < 7 → σ'.1 (x + 4) b = σ.1 (y + 4) b) ∧ (∀ b : Nat, b < 7 → σ'.1 (x + 5) b = σ.1 (y + 5) b) ∧ (∀ b : Nat, b < 7 → σ'.1 (x + 6) b = σ.1 (y + 6) b) ∧ (∀ b : Nat, b < 35 → σ'.1 (x + 7) b = σ.1 (y + 7) b) ∧ (σ'.1 v 0 = σ.1 u 0) ∧ (∀ b : Nat, b < 10 → σ'.1 (v + 1) b = σ.1 (u + 1) b) ∧ (∀ b : Nat, b < 10 → σ'.1 (v + 2) b = σ.1 (u + 2) b) ∧ (∀ b : Nat, b < 10 → σ'.1 (v + 3) b = σ.1 (u + 3) b) ∧ (∀ b : Nat, b < 10 → σ'.1 (v + 4) b = σ.1 (u + 4) b) ∧ (σ'.1 (x + 18) 0 = σ.1 (y + 18) 0) ∧ (∀ b : Nat, b < 4 → σ'.1 (x + 19) b = σ.1 (y + 19) b) ∧ (∀ b : Nat, b < 4 → σ'.1 (x + 20) b = σ.1 (y + 20) b) := by
  have e1 : (yw σ x 0 (σ.1 y 0)).1 y 1 = σ.1 y 1 := yw_n (by omega)
  have e2 : yb1 (σ.1 y 1) = true := by
    rw [yb1_d]
    exact decide_eq_true hb
  simp only [f_X4_copyFrom, f_X4_copyFrom_b10, f_X4_copyFrom_b18, f_X4_copyFrom_b26, f_X4_copyFrom_b137, f_X4_copyFrom_b168, f_X4_copyFrom_b176, f_X4_copyFrom_b184, f_X5_copyFrom, f_X6_copyFrom, e1, e2, cond_true, yw_2, ycp_2, hv, hu]
  refine ⟨_, rfl, rfl, fun a b h => ?_, ?_, ?_, ?_, ?_, ?_, ?_, ?_, ?_, fun b h => ?_, fun b h => ?_, fun b h => ?_, fun b h => ?_, fun b h => ?_, fun b h => ?_, fun b h => ?_, ?_, fun b h => ?_, fun b h => ?_, fun b h => ?_, fun b h => ?_, ?_, fun b h => ?_, fun b h => ?_⟩
  all_goals repeat (first | rw [yw_n (by omega)] | rw [ycp_n (by omega)] | rw [yw_p] | rw [ycp_p (by omega)])
end
section
theorem yRT_copy {N : Nat} {σ : yS} {x y : Nat} {g : Nat → Int} {hs ds : Int} (hx : x + 21 ≤ y ∨ y + 21 ≤ x) (hr : (σ.2 x 11 = x + 8 ∧ σ.2 x 12 = x + 13) ∨ (σ.2 x 11 = x + 13 ∧ σ.2 x 12 = x + 8)) (hb : 0 ≤ σ.1 y 1 ∧ σ.1 y 1 ≤ 1) (H : yRT σ y g) (G : yGd hs ds (σ.1 y 6) g) : ∃ σ' : yS, f_X4_copyFrom N σ x y = some (0, σ') ∧ σ'.2 = σ.2 ∧ (∀ a b : Nat, (a < x ∨ x + 21 ≤ a) → σ'.1 a b = σ.1 a b) ∧ yRT σ' x g ∧ σ'.1 x 6 = σ.1 y 6 ∧ σ'.1 x 0 = σ.1 y 0 ∧ σ'.1 x 1 = σ.1 y 1 ∧ σ'.1 x 2 = σ.1 y 2 ∧ ∀ d : Nat, d < 5 → σ'.1 (x + 1) d = σ.1 (y + 1) d := by
  obtain ⟨t1, t2, ⟨t3, t4⟩, ⟨t5, t6⟩, ⟨d0, d1, d2, d3⟩, t7⟩ := H
  obtain ⟨-, -, g2, -, g4, -⟩ := G
  obtain ⟨σ', c, s2, fr, k0, k1, k2, k6, k14, k15, k16, k17, r1, r2, r3, r4, r5, r6, r7, v0, v1, v2, v3, v4, w0, w1, w2⟩ := x4_copy (N := N) (σ := σ) hx rfl rfl (by omega) (by omega) hb
  refine ⟨σ', c, s2, fr, ⟨fun i hi => ?_, fun j hj => ?_, ⟨?_, fun i hi => ?_⟩, ⟨?_, fun i hi => ?_⟩, ⟨?_, ?_, ?_, ?_⟩, ?_⟩, k6, k0, k1, k2, r1⟩
  · rw [r2 i hi, r3 i hi, k6, r4 i hi, r5 i hi, r6 i hi]; exact t1 i hi
  · rw [r7 j hj]; exact t2 j hj
  · rw [s2, v0]; exact t3
  · rw [s2, v1 i (by omega), v2 i (by omega), v3 i (by omega), v4 i (by omega)]; exact t4 i hi
  · rw [w0]; exact t5
  · rw [w1 i (by omega), w2 i (by omega)]; exact t6 i hi
  · rw [k14]; exact d0
  · rw [k15]; exact d1
  · rw [k16]; exact d2
  · rw [k17]; exact d3
  · rw [s2]; exact hr
end
section
theorem yRT_cong {σ : yS} {t : Nat} {g g' : Nat → Int} {hs ds L : Int} (h : ∀ j : Nat, j < 131 → g' j = g j) (G : yGd hs ds L g) (H : yRT σ t g) : yRT σ t g' := by
  obtain ⟨t1, t2, ⟨t3, t4⟩, ⟨t5, t6⟩, ⟨d0, d1, d2, d3⟩, t7⟩ := H
  obtain ⟨-, -, g2, -, g4, -⟩ := G
  refine ⟨fun i hi => ?_, fun j hj => ?_, ⟨?_, fun i hi => ?_⟩, ⟨?_, fun i hi => ?_⟩, ⟨?_, ?_, ?_, ?_⟩, t7⟩
  · rw [h i (by omega), h (7 + i) (by omega), h (14 + i) (by omega), h (21 + i) (by omega), h (28 + i) (by omega), h (35 + i) (by omega)]; exact t1 i hi
  · rw [h (42 + j) (by omega)]; exact t2 j hj
  · rw [h 77 (by omega)]; exact t3
  · rw [h 77 (by omega)] at hi
    rw [h (78 + 4 * i) (by omega), h (79 + 4 * i) (by omega), h (80 + 4 * i) (by omega), h (81 + 4 * i) (by omega)]; exact t4 i hi
  · rw [h 118 (by omega)]; exact t5
  · rw [h 118 (by omega)] at hi
    rw [h (119 + 2 * i) (by omega), h (120 + 2 * i) (by omega)]; exact t6 i hi
  · rw [h 127 (by omega)]; exact d0
  · rw [h 128 (by omega)]; exact d1
  · rw [h 129 (by omega)]; exact d2
  · rw [h 130 (by omega)]; exact d3
theorem yGd_cong {g g' : Nat → Int} {hs ds L : Int} (h : ∀ j : Nat, j < 131 → g' j = g j) (G : yGd hs ds L g) : yGd hs ds L g' := by
  obtain ⟨g0, g1, g2, g3, g4, g5, g6⟩ := G
  refine ⟨g0, fun i hi => ?_, ?_, fun i hi => ?_, ?_, fun i hi => ?_, ?_⟩
  · rw [h (7 + i) (by omega), h (14 + i) (by omega), h (21 + i) (by omega), h (28 + i) (by omega), h (35 + i) (by omega)]; exact g1 i hi
  · rw [h 77 (by omega)]; exact g2
  · rw [h 77 (by omega)] at hi
    rw [h (78 + 4 * i) (by omega), h (79 + 4 * i) (by omega), h (80 + 4 * i) (by omega), h (81 + 4 * i) (by omega)]; exact g3 i hi
  · rw [h 118 (by omega)]; exact g4
  · rw [h 118 (by omega)] at hi
    rw [h (119 + 2 * i) (by omega), h (120 + 2 * i) (by omega)]; exact g5 i hi
  · rw [h 127 (by omega)]; exact g6
/-- an image: kept or not, and if kept, one with its slice -/
def yRI (σ τ : yS) (k : Nat) : Prop :=
  σ.2 1 k = 59 + 21 * k ∧ ((σ.2 (59 + 21 * k) 11 = 59 + 21 * k + 8 ∧ σ.2 (59 + 21 * k) 12 = 59 + 21 * k + 13) ∨ (σ.2 (59 + 21 * k) 11 = 59 + 21 * k + 13 ∧ σ.2 (59 + 21 * k) 12 = 59 + 21 * k + 8)) ∧
  (0 ≤ τ.1 3 k ∧ τ.1 3 k ≤ 1) ∧ yan (ysr (σ.1 0 7) (k : Int)) 1 = τ.1 3 k ∧
  (τ.1 3 k = 1 → yRH σ τ (59 + 21 * k) ∧ yRT σ (59 + 21 * k) (fun j => τ.1 1 (131 * (k + 1) + j)) ∧ yGd (τ.1 0 3) (τ.1 0 5) (σ.1 (59 + 21 * k) 6) (fun j => τ.1 1 (131 * (k + 1) + j)))
theorem p_back {N : Nat} (hN : 132 ≤ N) {σ τ : yS} {n : Int} (H : yRN σ τ) (I : ∀ k : Nat, k < 2 → yRI σ τ k) : ∃ (a : Int) (σ' τ' : yS), f_X7_back N σ n = some (a, σ') ∧ f_X8_back N τ n = some (a, τ') ∧ yRN σ' τ' := by
  simp only [f_X7_back, f_X8_back, f_X7_bit, x7_within, x8_in, ycP_ne, yin_d]
  by_cases hn : 0 ≤ n ∧ n ≤ 1
  · obtain ⟨k, rfl⟩ : ∃ k : Nat, n = (k : Int) := ⟨n.toNat, by omega⟩
    have hk : k < 2 := by omega
    obtain ⟨i1, i2, i3, i4, i5⟩ := I k hk
    by_cases hz : τ.1 3 k = 0
    · exact ⟨-2, σ, τ, by simp [hn, i4, hz], by simp [hn, hz, show (k : Int) < 2 by omega], H⟩
    · obtain ⟨⟨e0, e1, e2, b0, b1, b2, hc⟩, T, G⟩ := i5 (by omega)
      obtain ⟨⟨a0, a1, a2, a3⟩, f0, -, ⟨-, -, -, -, -, t7⟩, -⟩ := H
      obtain ⟨σ', c, s2, fr, T', k6, k0, k1, k2, kc⟩ := yRT_copy (N := N) (x := 17) (y := 59 + 21 * k) (by omega) t7 (by rw [e1]; exact b1) T G
      have em : ymu 131 (yad (k : Int) 1) = ((131 * (k + 1) : Nat) : Int) := by
        rw [yad_e (by omega) (by omega), ymu_e (by omega) (by omega)]; omega
      have cc := x8_copies hN (τ := τ) (a := 0) (b := 131 * (k + 1)) (by omega) (by omega) (by omega)
      have sl : ∀ j : Nat, j < 131 → (ycp τ 1 1 (131 * (k + 1)) 0 131).1 1 j = τ.1 1 (131 * (k + 1) + j) := fun j hj => by
        rw [ycp_1, if_pos ⟨rfl, by omega, by omega⟩, Nat.sub_zero]
      have o1 : ∀ a b : Nat, a ≠ 1 → (ycp τ 1 1 (131 * (k + 1)) 0 131).1 a b = τ.1 a b := fun a b h => ycp_n (by omega)
      refine ⟨τ.1 1 (131 * (k + 1) + 127), σ', ycp τ 1 1 (131 * (k + 1)) 0 131, ?_, ?_, ?_⟩
      · have q : σ'.1 17 14 = τ.1 1 (131 * (k + 1) + 127) := T'.2.2.2.2.1.1
        simp [hn, i4, hz, show (k : Int) < 2 by omega, i1, c, q]
      · rw [em]
        have cc' : f_X8_copies N τ 0 ((131 * (k + 1) : Nat) : Int) = some (0, ycp τ 1 1 (131 * (k + 1)) 0 131) := cc
        rw [cc']
        simp [hn, hz, show (k : Int) < 2 by omega, sl 127 (by omega)]
      · generalize ycp τ 1 1 (131 * (k + 1)) 0 131 = U at sl o1
        refine ⟨⟨?_, ?_, ?_, fun j hj => ?_⟩, ?_, ⟨?_, ?_, ?_, ?_, ?_, ?_, fun d hd => ?_⟩, yRT_cong sl G T', ?_⟩
        · rw [fr 3 0 (by omega)]; exact a0
        · rw [fr 3 0 (by omega)]; exact a1
        · rw [fr 3 0 (by omega), o1 0 17 (by omega)]; exact a2
        · rw [fr 3 0 (by omega)] at hj
          rw [fr 4 j (by omega), o1 8 j (by omega)]; exact a3 j hj
        · rw [fr 2 4 (by omega), o1 0 22 (by omega)]; exact f0
        · rw [k0, o1 0 3 (by omega)]; exact e0
        · rw [k1, o1 0 4 (by omega)]; exact e1
        · rw [k2, o1 0 5 (by omega)]; exact e2
        · rw [o1 0 3 (by omega)]; exact b0
        · rw [o1 0 4 (by omega)]; exact b1
        · rw [o1 0 5 (by omega)]; exact b2
        · rw [o1 0 5 (by omega)] at hd
          rw [kc d (by omega), o1 4 d (by omega)]; exact hc d hd
        · rw [k6, o1 0 3 (by omega), o1 0 5 (by omega)]
          exact yGd_cong sl G
  · exact ⟨-1, σ, τ, by simp [hn], by simp [hn], H⟩
end
section
/-- what leaves the images alone keeps them -/
theorem yRI_fr {σ τ σ' τ' : yS} {k : Nat} (hk : k < 2) (r1 : σ'.2 1 k = σ.2 1 k) (r2 : ∀ a b : Nat, 59 ≤ a → σ'.2 a b = σ.2 a b) (c1 : σ'.1 0 7 = σ.1 0 7) (c2 : ∀ a b : Nat, 59 ≤ a → σ'.1 a b = σ.1 a b) (o1 : ∀ b : Nat, τ'.1 3 b = τ.1 3 b) (o2 : ∀ b : Nat, τ'.1 4 b = τ.1 4 b) (o3 : τ'.1 0 3 = τ.1 0 3 ∧ τ'.1 0 4 = τ.1 0 4 ∧ τ'.1 0 5 = τ.1 0 5) (o4 : ∀ j : Nat, 131 ≤ j → τ'.1 1 j = τ.1 1 j) (I : yRI σ τ k) : yRI σ' τ' k := by
  obtain ⟨i1, i2, i3, i4, i5⟩ := I
  have os : (fun j => τ'.1 1 (131 * (k + 1) + j)) = (fun j => τ.1 1 (131 * (k + 1) + j)) := funext fun j => o4 _ (by omega)
  refine ⟨by rw [r1]; exact i1, ?_, ?_, ?_, fun hz => ?_⟩
  · rw [r2 _ _ (by omega), r2 _ _ (by omega)]; exact i2
  · rw [o1]; exact i3
  · rw [c1, o1]; exact i4
  · rw [o1] at hz
    obtain ⟨⟨e0, e1, e2, b0, b1, b2, hc⟩, ⟨t1, t2, ⟨t3, t4⟩, ⟨t5, t6⟩, ⟨d0, d1, d2, d3⟩, t7⟩, G⟩ := i5 hz
    rw [os]
    refine ⟨⟨?_, ?_, ?_, ?_, ?_, ?_, fun d hd => ?_⟩, ⟨fun i hi => ?_, fun j hj => ?_, ⟨?_, fun i hi => ?_⟩, ⟨?_, fun i hi => ?_⟩, ⟨?_, ?_, ?_, ?_⟩, ?_⟩, ?_⟩
    · rw [c2 _ _ (by omega), o3.1]; exact e0
    · rw [c2 _ _ (by omega), o3.2.1]; exact e1
    · rw [c2 _ _ (by omega), o3.2.2]; exact e2
    · rw [o3.1]; exact b0
    · rw [o3.2.1]; exact b1
    · rw [o3.2.2]; exact b2
    · rw [o3.2.2] at hd
      rw [c2 _ _ (by omega), o2]; exact hc d hd
    · rw [c2 (59 + 21 * k + 2) _ (by omega), c2 (59 + 21 * k + 3) _ (by omega), c2 (59 + 21 * k) _ (by omega), c2 (59 + 21 * k + 4) _ (by omega), c2 (59 + 21 * k + 5) _ (by omega), c2 (59 + 21 * k + 6) _ (by omega)]
      exact t1 i hi
    · rw [c2 _ _ (by omega)]; exact t2 j hj
    · rw [r2 _ _ (by omega), c2 _ _ (by omega)]; exact t3
    · rw [r2 _ _ (by omega), c2 _ _ (by omega), c2 _ _ (by omega), c2 _ _ (by omega), c2 _ _ (by omega)]; exact t4 i hi
    · rw [c2 _ _ (by omega)]; exact t5
    · rw [c2 _ _ (by omega), c2 _ _ (by omega)]; exact t6 i hi
    · rw [c2 _ _ (by omega)]; exact d0
    · rw [c2 _ _ (by omega)]; exact d1
    · rw [c2 _ _ (by omega)]; exact d2
    · rw [c2 _ _ (by omega)]; exact d3
    · rw [r2 _ _ (by omega), r2 _ _ (by omega)]; exact t7
    · rw [c2 _ _ (by omega), o3.1, o3.2.2]; exact G
end
section
/-- what leaves the terrace now, the tape and the fault alone keeps yRN -/
theorem yRN_fr {σ τ σ' τ' : yS} (r2 : ∀ b : Nat, σ'.2 17 b = σ.2 17 b) (c1 : ∀ b : Nat, σ'.1 2 b = σ.1 2 b ∧ σ'.1 3 b = σ.1 3 b ∧ σ'.1 4 b = σ.1 4 b) (c2 : ∀ a b : Nat, 17 ≤ a → a < 38 → σ'.1 a b = σ.1 a b) (o1 : ∀ b : Nat, τ'.1 0 b = τ.1 0 b ∧ τ'.1 4 b = τ.1 4 b ∧ τ'.1 8 b = τ.1 8 b) (o4 : ∀ j : Nat, j < 131 → τ'.1 1 j = τ.1 1 j) (H : yRN σ τ) : yRN σ' τ' := by
  obtain ⟨⟨a0, a1, a2, a3⟩, f0, ⟨e0, e1, e2, b0, b1, b2, hc⟩, T, G⟩ := H
  have T1 := yRT_cong (g' := fun j => τ'.1 1 j) o4 G T
  obtain ⟨t1, t2, ⟨t3, t4⟩, ⟨t5, t6⟩, ⟨d0, d1, d2, d3⟩, t7⟩ := T1
  have G1 := yGd_cong (g' := fun j => τ'.1 1 j) o4 G
  refine ⟨⟨?_, ?_, ?_, fun j hj => ?_⟩, ?_, ⟨?_, ?_, ?_, ?_, ?_, ?_, fun d hd => ?_⟩, ⟨fun i hi => ?_, fun j hj => ?_, ⟨?_, fun i hi => ?_⟩, ⟨?_, fun i hi => ?_⟩, ⟨?_, ?_, ?_, ?_⟩, ?_⟩, ?_⟩
  · rw [(c1 0).2.1]; exact a0
  · rw [(c1 0).2.1]; exact a1
  · rw [(c1 0).2.1, (o1 17).1]; exact a2
  · rw [(c1 0).2.1] at hj
    rw [(c1 j).2.2, (o1 j).2.2]; exact a3 j hj
  · rw [(c1 4).1, (o1 22).1]; exact f0
  · rw [c2 17 0 (by omega) (by omega), (o1 3).1]; exact e0
  · rw [c2 17 1 (by omega) (by omega), (o1 4).1]; exact e1
  · rw [c2 17 2 (by omega) (by omega), (o1 5).1]; exact e2
  · rw [(o1 3).1]; exact b0
  · rw [(o1 4).1]; exact b1
  · rw [(o1 5).1]; exact b2
  · rw [(o1 5).1] at hd
    rw [c2 _ _ (by omega) (by omega), (o1 d).2.1]; exact hc d hd
  · rw [c2 (17 + 2) _ (by omega) (by omega), c2 (17 + 3) _ (by omega) (by omega), c2 17 _ (by omega) (by omega), c2 (17 + 4) _ (by omega) (by omega), c2 (17 + 5) _ (by omega) (by omega), c2 (17 + 6) _ (by omega) (by omega)]
    exact t1 i hi
  · rw [c2 _ _ (by omega) (by omega)]; exact t2 j hj
  · rw [r2, c2 _ _ (by omega) (by omega)]; exact t3
  · rw [r2, c2 _ _ (by omega) (by omega), c2 _ _ (by omega) (by omega), c2 _ _ (by omega) (by omega), c2 _ _ (by omega) (by omega)]; exact t4 i hi
  · rw [c2 _ _ (by omega) (by omega)]; exact t5
  · rw [c2 _ _ (by omega) (by omega), c2 _ _ (by omega) (by omega)]; exact t6 i hi
  · rw [c2 _ _ (by omega) (by omega)]; exact d0
  · rw [c2 _ _ (by omega) (by omega)]; exact d1
  · rw [c2 _ _ (by omega) (by omega)]; exact d2
  · rw [c2 _ _ (by omega) (by omega)]; exact d3
  · rw [r2, r2]; exact t7
  · rw [c2 _ _ (by omega) (by omega), (o1 3).1, (o1 5).1]; exact G1
end
section
theorem ybs2 : ∀ (S : Fin 4) (k l : Fin 2), (0 ≤ yor ((S.val : Nat) : Int) (ysl 1 ((k.val : Nat) : Int)) ∧ yor ((S.val : Nat) : Int) (ysl 1 ((k.val : Nat) : Int)) < 4) ∧ yan (ysr (yor ((S.val : Nat) : Int) (ysl 1 ((k.val : Nat) : Int))) ((l.val : Nat) : Int)) 1 = (if l = k then 1 else yan (ysr ((S.val : Nat) : Int) ((l.val : Nat) : Int)) 1) := by decide +kernel
theorem p_keep {N : Nat} (hN : 132 ≤ N) {σ τ : yS} {n : Int} (H : yRN σ τ) (I : ∀ k : Nat, k < 2 → yRI σ τ k) : ∃ (a : Int) (σ' τ' : yS), f_X7_keep N σ n = some (a, σ') ∧ f_X8_keep N τ n = some (a, τ') ∧ yRN σ' τ' := by
  simp only [f_X7_keep, f_X8_keep, f_X7_bit, x7_withBit, x7_within, x8_in, ycP_ne, yinb, yin_d, yb1_d]
  by_cases hn : 0 ≤ n ∧ n ≤ 1
  · obtain ⟨k, rfl⟩ : ∃ k : Nat, n = (k : Int) := ⟨n.toNat, by omega⟩
    have hk : k < 2 := by omega
    obtain ⟨i1, i2, i3, i4, i5⟩ := I k hk
    have H0 := H
    obtain ⟨-, -, ⟨e0, e1, e2, b0, b1, b2, hc⟩, T, G⟩ := H0
    obtain ⟨σ', c, s2, fr, T', k6, k0, k1, k2, kc⟩ := yRT_copy (N := N) (x := 59 + 21 * k) (y := 17) (by omega) i2 (by rw [e1]; exact b1) T G
    have em : ymu 131 (yad (k : Int) 1) = ((131 * (k + 1) : Nat) : Int) := by
      rw [yad_e (by omega) (by omega), ymu_e (by omega) (by omega)]; omega
    have cc : f_X8_copies N (yw τ 3 k 1) ((131 * (k + 1) : Nat) : Int) 0 = some (0, ycp (yw τ 3 k 1) 1 1 0 (131 * (k + 1)) 131) := x8_copies hN (τ := yw τ 3 k 1) (a := 131 * (k + 1)) (b := 0) (by omega) (by omega) (by omega)
    have ct : ((k : Int)).toNat = k := by omega
    refine ⟨τ.1 3 k, yw σ' 0 7 (yor (σ'.1 0 7) (ysl 1 (k : Int))), ycp (yw τ 3 k 1) 1 1 0 (131 * (k + 1)) 131, ?_, ?_, ?_⟩
    · simp [hn, i4, show (k : Int) < 2 by omega, i1, c]
    · rw [em, ct, x8_flag i3]
      simp only [cc]
      simp [hn, show (k : Int) < 2 by omega]
    · refine yRN_fr (fun b => ?_) (fun b => ⟨?_, ?_, ?_⟩) (fun a b h1 h2 => ?_) (fun b => ⟨?_, ?_, ?_⟩) (fun j hj => ?_) H
      · rw [yw_2, s2]
      · rw [yw_n (by omega), fr _ _ (by omega)]
      · rw [yw_n (by omega), fr _ _ (by omega)]
      · rw [yw_n (by omega), fr _ _ (by omega)]
      · rw [yw_n (by omega), fr _ _ (by omega)]
      · rw [ycp_n (by omega), yw_n (by omega)]
      · rw [ycp_n (by omega), yw_n (by omega)]
      · rw [ycp_n (by omega), yw_n (by omega)]
      · rw [ycp_n (by omega), yw_n (by omega)]
  · exact ⟨-1, σ, τ, by simp [hn], by simp [hn], H⟩
end
section
theorem yRT_fr {σ σ' : yS} {t : Nat} {g : Nat → Int} (r : ∀ b : Nat, σ'.2 t b = σ.2 t b) (c : ∀ a b : Nat, t ≤ a → a < t + 21 → σ'.1 a b = σ.1 a b) (H : yRT σ t g) : yRT σ' t g := by
  obtain ⟨t1, t2, ⟨t3, t4⟩, ⟨t5, t6⟩, ⟨d0, d1, d2, d3⟩, t7⟩ := H
  refine ⟨fun i hi => ?_, fun j hj => ?_, ⟨?_, fun i hi => ?_⟩, ⟨?_, fun i hi => ?_⟩, ⟨?_, ?_, ?_, ?_⟩, ?_⟩
  · rw [c (t + 2) _ (by omega) (by omega), c (t + 3) _ (by omega) (by omega), c t _ (by omega) (by omega), c (t + 4) _ (by omega) (by omega), c (t + 5) _ (by omega) (by omega), c (t + 6) _ (by omega) (by omega)]
    exact t1 i hi
  · rw [c _ _ (by omega) (by omega)]; exact t2 j hj
  · rw [r, c _ _ (by omega) (by omega)]; exact t3
  · rw [r, c _ _ (by omega) (by omega), c _ _ (by omega) (by omega), c _ _ (by omega) (by omega), c _ _ (by omega) (by omega)]; exact t4 i hi
  · rw [c _ _ (by omega) (by omega)]; exact t5
  · rw [c _ _ (by omega) (by omega), c _ _ (by omega) (by omega)]; exact t6 i hi
  · rw [c _ _ (by omega) (by omega)]; exact d0
  · rw [c _ _ (by omega) (by omega)]; exact d1
  · rw [c _ _ (by omega) (by omega)]; exact d2
  · rw [c _ _ (by omega) (by omega)]; exact d3
  · rw [r, r]; exact t7
end
section
theorem p_keepI {N : Nat} (hN : 132 ≤ N) {σ τ : yS} {n : Int} (H : yRN σ τ) (hS : 0 ≤ σ.1 0 7 ∧ σ.1 0 7 < 4) (I : ∀ k : Nat, k < 2 → yRI σ τ k) : ∃ (a : Int) (σ' τ' : yS), f_X7_keep N σ n = some (a, σ') ∧ f_X8_keep N τ n = some (a, τ') ∧ yRN σ' τ' ∧ (0 ≤ σ'.1 0 7 ∧ σ'.1 0 7 < 4) ∧ (∀ k : Nat, k < 2 → yRI σ' τ' k) ∧ σ'.2 = σ.2 ∧ (∀ a b : Nat, a < 59 → ¬ a = 0 → σ'.1 a b = σ.1 a b) ∧ (∀ a b : Nat, ¬ a = 1 → ¬ a = 3 → τ'.1 a b = τ.1 a b) ∧ (∀ j : Nat, j < 131 → τ'.1 1 j = τ.1 1 j) ∧ (∀ l : Nat, l < 2 → (τ'.1 3 l = τ.1 3 l ∧ ∀ j : Nat, j < 131 → τ'.1 1 (131 * (l + 1) + j) = τ.1 1 (131 * (l + 1) + j)) ∨ (∀ j : Nat, j < 131 → τ'.1 1 (131 * (l + 1) + j) = τ.1 1 j)) := by
  simp only [f_X7_keep, f_X8_keep, f_X7_bit, x7_withBit, x7_within, x8_in, ycP_ne, yinb, yin_d, yb1_d]
  by_cases hn : 0 ≤ n ∧ n ≤ 1
  · obtain ⟨k, rfl⟩ : ∃ k : Nat, n = (k : Int) := ⟨n.toNat, by omega⟩
    have hk : k < 2 := by omega
    obtain ⟨i1, i2, i3, i4, i5⟩ := I k hk
    have H0 := H
    obtain ⟨-, -, ⟨e0, e1, e2, b0, b1, b2, hc⟩, T, G⟩ := H0
    obtain ⟨σ', c, s2, fr, T', k6, k0, k1, k2, kc⟩ := yRT_copy (N := N) (x := 59 + 21 * k) (y := 17) (by omega) i2 (by rw [e1]; exact b1) T G
    have em : ymu 131 (yad (k : Int) 1) = ((131 * (k + 1) : Nat) : Int) := by
      rw [yad_e (by omega) (by omega), ymu_e (by omega) (by omega)]; omega
    have cc : f_X8_copies N (yw τ 3 k 1) ((131 * (k + 1) : Nat) : Int) 0 = some (0, ycp (yw τ 3 k 1) 1 1 0 (131 * (k + 1)) 131) := x8_copies hN (τ := yw τ 3 k 1) (a := 131 * (k + 1)) (b := 0) (by omega) (by omega) (by omega)
    have ct : ((k : Int)).toNat = k := by omega
    refine ⟨τ.1 3 k, yw σ' 0 7 (yor (σ'.1 0 7) (ysl 1 (k : Int))), ycp (yw τ 3 k 1) 1 1 0 (131 * (k + 1)) 131, ?_, ?_, ?_, ?_, fun l hl => ?_, by rw [yw_2, s2], fun a b h1 h2 => by rw [yw_n (by omega), fr a b (by omega)], fun a b h1 h3 => by rw [ycp_n (by omega), yw_n (by omega)], fun j hj => by rw [ycp_n (by omega), yw_n (by omega)], fun l hl => ?_⟩
    · simp [hn, i4, show (k : Int) < 2 by omega, i1, c]
    · rw [em, ct, x8_flag i3]
      simp only [cc]
      simp [hn, show (k : Int) < 2 by omega]
    · refine yRN_fr (fun b => ?_) (fun b => ⟨?_, ?_, ?_⟩) (fun a b h1 h2 => ?_) (fun b => ⟨?_, ?_, ?_⟩) (fun j hj => ?_) H
      · rw [yw_2, s2]
      · rw [yw_n (by omega), fr _ _ (by omega)]
      · rw [yw_n (by omega), fr _ _ (by omega)]
      · rw [yw_n (by omega), fr _ _ (by omega)]
      · rw [yw_n (by omega), fr _ _ (by omega)]
      · rw [ycp_n (by omega), yw_n (by omega)]
      · rw [ycp_n (by omega), yw_n (by omega)]
      · rw [ycp_n (by omega), yw_n (by omega)]
      · rw [ycp_n (by omega), yw_n (by omega)]
    · rw [yw_p, fr 0 7 (by omega)]
      have q := (ybs2 ⟨(σ.1 0 7).toNat, by omega⟩ ⟨k, hk⟩ ⟨k, hk⟩).1
      simp only [show (((σ.1 0 7).toNat : Nat) : Int) = σ.1 0 7 by omega] at q
      exact q
    · have q := (ybs2 ⟨(σ.1 0 7).toNat, by omega⟩ ⟨k, hk⟩ ⟨l, hl⟩).2
      simp only [show (((σ.1 0 7).toNat : Nat) : Int) = σ.1 0 7 by omega, Fin.mk.injEq] at q
      have o3 : ∀ b : Nat, (ycp (yw τ 3 k 1) 1 1 0 (131 * (k + 1)) 131).1 3 b = (if b = k then 1 else τ.1 3 b) := fun b => by
        rw [ycp_n (by omega), yw_1]
        simp
      have o0 : ∀ a b : Nat, a ≠ 1 → a ≠ 3 → (ycp (yw τ 3 k 1) 1 1 0 (131 * (k + 1)) 131).1 a b = τ.1 a b := fun a b h1 h3 => by
        rw [ycp_n (by omega), yw_n (by omega)]
      have os : ∀ j : Nat, j < 131 → (ycp (yw τ 3 k 1) 1 1 0 (131 * (k + 1)) 131).1 1 (131 * (k + 1) + j) = τ.1 1 j := fun j hj => by
        rw [ycp_1, if_pos ⟨rfl, by omega, by omega⟩, yw_n (by omega), show 0 + (131 * (k + 1) + j - 131 * (k + 1)) = j by omega]
      have on : ∀ j : Nat, ¬ (131 * (k + 1) ≤ j ∧ j < 131 * (k + 1) + 131) → (ycp (yw τ 3 k 1) 1 1 0 (131 * (k + 1)) 131).1 1 j = τ.1 1 j := fun j hj => by
        rw [ycp_n (by omega), yw_n (by omega)]
      generalize ycp (yw τ 3 k 1) 1 1 0 (131 * (k + 1)) 131 = U at o3 o0 os on
      have cb : (yw σ' 0 7 (yor (σ'.1 0 7) (ysl 1 (k : Int)))).1 0 7 = yor (σ.1 0 7) (ysl 1 (k : Int)) := by rw [yw_p, fr 0 7 (by omega)]
      have ca : ∀ a b : Nat, a ≠ 0 → (yw σ' 0 7 (yor (σ'.1 0 7) (ysl 1 (k : Int)))).1 a b = σ'.1 a b := fun a b h => yw_n (by omega)
      have c2 : (yw σ' 0 7 (yor (σ'.1 0 7) (ysl 1 (k : Int)))).2 = σ.2 := by rw [yw_2, s2]
      generalize yw σ' 0 7 (yor (σ'.1 0 7) (ysl 1 (k : Int))) = V at cb ca c2
      by_cases hlk : l = k
      · subst hlk
        refine ⟨by rw [c2]; exact i1, by rw [c2]; exact i2, by rw [o3]; simp, ?_, fun _ => ⟨⟨?_, ?_, ?_, ?_, ?_, ?_, fun d hd => ?_⟩, ?_, ?_⟩⟩
        · rw [cb, q, o3]
          simp
        · rw [ca _ _ (by omega), k0, o0 _ _ (by omega) (by omega)]; exact e0
        · rw [ca _ _ (by omega), k1, o0 _ _ (by omega) (by omega)]; exact e1
        · rw [ca _ _ (by omega), k2, o0 _ _ (by omega) (by omega)]; exact e2
        · rw [o0 _ _ (by omega) (by omega)]; exact b0
        · rw [o0 _ _ (by omega) (by omega)]; exact b1
        · rw [o0 _ _ (by omega) (by omega)]; exact b2
        · rw [o0 _ _ (by omega) (by omega)] at hd
          rw [ca _ _ (by omega), kc d (by omega), o0 _ _ (by omega) (by omega)]; exact hc d hd
        · exact yRT_fr (fun b => by rw [c2, s2]) (fun a b h1 h2 => ca a b (by omega)) (yRT_cong os G T')
        · rw [ca _ _ (by omega), k6, o0 _ _ (by omega) (by omega), o0 _ _ (by omega) (by omega)]
          exact yGd_cong os G
      · obtain ⟨j1, j2, j3, j4, j5⟩ := I l hl
        rw [if_neg hlk] at q
        have ol : U.1 3 l = τ.1 3 l := by rw [o3, if_neg hlk]
        have cs : ∀ a b : Nat, 59 + 21 * l ≤ a → a < 59 + 21 * l + 21 → V.1 a b = σ.1 a b := fun a b h1 h2 => by
          rw [ca a b (by omega), fr a b (by omega)]
        refine ⟨by rw [c2]; exact j1, by rw [c2]; exact j2, by rw [ol]; exact j3, by rw [cb, q, ol]; exact j4, fun hz => ?_⟩
        rw [ol] at hz
        obtain ⟨⟨e0, e1, e2, -, -, -, hc⟩, T2, G2⟩ := j5 hz
        have os2 : ∀ j : Nat, j < 131 → U.1 1 (131 * (l + 1) + j) = τ.1 1 (131 * (l + 1) + j) := fun j hj => on _ (by omega)
        refine ⟨⟨?_, ?_, ?_, ?_, ?_, ?_, fun d hd => ?_⟩, ?_, ?_⟩
        · rw [cs _ _ (by omega) (by omega), o0 _ _ (by omega) (by omega)]; exact e0
        · rw [cs _ _ (by omega) (by omega), o0 _ _ (by omega) (by omega)]; exact e1
        · rw [cs _ _ (by omega) (by omega), o0 _ _ (by omega) (by omega)]; exact e2
        · rw [o0 _ _ (by omega) (by omega)]; exact b0
        · rw [o0 _ _ (by omega) (by omega)]; exact b1
        · rw [o0 _ _ (by omega) (by omega)]; exact b2
        · rw [o0 _ _ (by omega) (by omega)] at hd
          rw [cs _ _ (by omega) (by omega), o0 _ _ (by omega) (by omega)]; exact hc d hd
        · exact yRT_fr (fun b => by rw [c2]) cs (yRT_cong os2 G2 T2)
        · rw [cs _ _ (by omega) (by omega), o0 _ _ (by omega) (by omega), o0 _ _ (by omega) (by omega)]
          exact yGd_cong os2 G2
    · by_cases hlk : l = k
      · subst hlk
        exact Or.inr (fun j hj => by rw [ycp_1, if_pos ⟨rfl, by omega, by omega⟩, yw_n (by omega), show 0 + (131 * (l + 1) + j - 131 * (l + 1)) = j by omega])
      · exact Or.inl ⟨by rw [ycp_n (by omega), yw_n (by omega)], fun j hj => by rw [ycp_n (by omega), yw_n (by omega)]⟩
  · exact ⟨-1, σ, τ, by simp [hn], by simp [hn], H, hS, I, rfl, fun _ _ _ _ => rfl, fun _ _ _ _ => rfl, fun _ _ => rfl, fun _ _ => Or.inl ⟨rfl, fun _ _ => rfl⟩⟩
end
section
theorem p_backI {N : Nat} (hN : 132 ≤ N) {σ τ : yS} {n : Int} (H : yRN σ τ) (I : ∀ k : Nat, k < 2 → yRI σ τ k) : ∃ (a : Int) (σ' τ' : yS), f_X7_back N σ n = some (a, σ') ∧ f_X8_back N τ n = some (a, τ') ∧ yRN σ' τ' ∧ σ'.1 0 7 = σ.1 0 7 ∧ (∀ k : Nat, k < 2 → yRI σ' τ' k) ∧ σ'.2 = σ.2 ∧ (∀ a b : Nat, a < 17 ∨ 38 ≤ a → σ'.1 a b = σ.1 a b) ∧ (∀ a b : Nat, ¬ a = 1 → τ'.1 a b = τ.1 a b) ∧ (∀ j : Nat, 131 ≤ j → τ'.1 1 j = τ.1 1 j) ∧ ((∀ j : Nat, j < 131 → τ'.1 1 j = τ.1 1 j) ∨ ∃ k : Nat, k < 2 ∧ τ.1 3 k = 1 ∧ ∀ j : Nat, j < 131 → τ'.1 1 j = τ.1 1 (131 * (k + 1) + j)) := by
  simp only [f_X7_back, f_X8_back, f_X7_bit, x7_within, x8_in, ycP_ne, yin_d]
  by_cases hn : 0 ≤ n ∧ n ≤ 1
  · obtain ⟨k, rfl⟩ : ∃ k : Nat, n = (k : Int) := ⟨n.toNat, by omega⟩
    have hk : k < 2 := by omega
    obtain ⟨i1, i2, i3, i4, i5⟩ := I k hk
    by_cases hz : τ.1 3 k = 0
    · exact ⟨-2, σ, τ, by simp [hn, i4, hz], by simp [hn, hz, show (k : Int) < 2 by omega], H, rfl, I, rfl, fun _ _ _ => rfl, fun _ _ _ => rfl, fun _ _ => rfl, Or.inl (fun _ _ => rfl)⟩
    · obtain ⟨⟨e0, e1, e2, b0, b1, b2, hc⟩, T, G⟩ := i5 (by omega)
      obtain ⟨⟨a0, a1, a2, a3⟩, f0, -, ⟨-, -, -, -, -, t7⟩, -⟩ := H
      obtain ⟨σ', c, s2, fr, T', k6, k0, k1, k2, kc⟩ := yRT_copy (N := N) (x := 17) (y := 59 + 21 * k) (by omega) t7 (by rw [e1]; exact b1) T G
      have em : ymu 131 (yad (k : Int) 1) = ((131 * (k + 1) : Nat) : Int) := by
        rw [yad_e (by omega) (by omega), ymu_e (by omega) (by omega)]; omega
      have cc := x8_copies hN (τ := τ) (a := 0) (b := 131 * (k + 1)) (by omega) (by omega) (by omega)
      have sl : ∀ j : Nat, j < 131 → (ycp τ 1 1 (131 * (k + 1)) 0 131).1 1 j = τ.1 1 (131 * (k + 1) + j) := fun j hj => by
        rw [ycp_1, if_pos ⟨rfl, by omega, by omega⟩, Nat.sub_zero]
      have o1 : ∀ a b : Nat, a ≠ 1 → (ycp τ 1 1 (131 * (k + 1)) 0 131).1 a b = τ.1 a b := fun a b h => ycp_n (by omega)
      refine ⟨τ.1 1 (131 * (k + 1) + 127), σ', ycp τ 1 1 (131 * (k + 1)) 0 131, ?_, ?_, ?_, fr 0 7 (by omega), fun l hl => ?_, s2, fun a b h => fr a b (by omega), fun a b h => ycp_n (by omega), fun j hj => ycp_n (by omega), Or.inr ⟨k, hk, by omega, sl⟩⟩
      · have q : σ'.1 17 14 = τ.1 1 (131 * (k + 1) + 127) := T'.2.2.2.2.1.1
        simp [hn, i4, hz, show (k : Int) < 2 by omega, i1, c, q]
      · rw [em]
        have cc' : f_X8_copies N τ 0 ((131 * (k + 1) : Nat) : Int) = some (0, ycp τ 1 1 (131 * (k + 1)) 0 131) := cc
        rw [cc']
        simp [hn, hz, show (k : Int) < 2 by omega, sl 127 (by omega)]
      · generalize ycp τ 1 1 (131 * (k + 1)) 0 131 = U at sl o1
        refine ⟨⟨?_, ?_, ?_, fun j hj => ?_⟩, ?_, ⟨?_, ?_, ?_, ?_, ?_, ?_, fun d hd => ?_⟩, yRT_cong sl G T', ?_⟩
        · rw [fr 3 0 (by omega)]; exact a0
        · rw [fr 3 0 (by omega)]; exact a1
        · rw [fr 3 0 (by omega), o1 0 17 (by omega)]; exact a2
        · rw [fr 3 0 (by omega)] at hj
          rw [fr 4 j (by omega), o1 8 j (by omega)]; exact a3 j hj
        · rw [fr 2 4 (by omega), o1 0 22 (by omega)]; exact f0
        · rw [k0, o1 0 3 (by omega)]; exact e0
        · rw [k1, o1 0 4 (by omega)]; exact e1
        · rw [k2, o1 0 5 (by omega)]; exact e2
        · rw [o1 0 3 (by omega)]; exact b0
        · rw [o1 0 4 (by omega)]; exact b1
        · rw [o1 0 5 (by omega)]; exact b2
        · rw [o1 0 5 (by omega)] at hd
          rw [kc d (by omega), o1 4 d (by omega)]; exact hc d hd
        · rw [k6, o1 0 3 (by omega), o1 0 5 (by omega)]
          exact yGd_cong sl G
      · have oh : ∀ j : Nat, 131 ≤ j → (ycp τ 1 1 (131 * (k + 1)) 0 131).1 1 j = τ.1 1 j := fun j hj => ycp_n (by omega)
        exact yRI_fr hl (by rw [s2]) (fun a b h => by rw [s2]) (fr 0 7 (by omega)) (fun a b h => fr a b (by omega)) (fun b => o1 _ _ (by omega)) (fun b => o1 _ _ (by omega)) ⟨o1 _ _ (by omega), o1 _ _ (by omega), o1 _ _ (by omega)⟩ oh (I l hl)
  · exact ⟨-1, σ, τ, by simp [hn], by simp [hn], H, rfl, I, rfl, fun _ _ _ => rfl, fun _ _ _ => rfl, fun _ _ => rfl, Or.inl (fun _ _ => rfl)⟩
end
