section
/-- a row with one place changed -/
noncomputable def yup (g : Nat → Int) (k : Nat) (v : Int) : Nat → Int := fun j => if j = k then v else g j
theorem yup_n {g : Nat → Int} {k j : Nat} {v : Int} (h : ¬ j = k) : yup g k v j = g j := if_neg h
theorem yup_p {g : Nat → Int} {k : Nat} {v : Int} : yup g k v k = v := if_pos rfl
theorem yup_w {τ : yS} {c k : Nat} {v : Int} : (fun j => (yw τ c k v).1 c j) = yup (fun j => τ.1 c j) k v := by
  funext j
  rw [yw_1]
  unfold yup
  simp
theorem yRT_purse {σ : yS} {t h : Nat} {g : Nat → Int} {v : Int} (hh : h < 7) (H : yRT σ t g) : yRT (yw σ (t + 2) h v) t (yup g h v) := by
  obtain ⟨t1, t2, ⟨t3, t4⟩, ⟨t5, t6⟩, ⟨d0, d1, d2, d3⟩, t7⟩ := H
  refine ⟨fun i hi => ?_, fun j hj => ?_, ⟨?_, fun i hi => ?_⟩, ⟨?_, fun i hi => ?_⟩, ⟨?_, ?_, ?_, ?_⟩, t7⟩
  · obtain ⟨q0, q1, q2, q3, q4, q5⟩ := t1 i hi
    refine ⟨?_, ?_, ?_, ?_, ?_, ?_⟩
    · by_cases e : i = h
      · subst e
        rw [yw_p, yup_p]
      · rw [yw_n (by omega), yup_n (by omega)]; exact q0
    · rw [yw_n (by omega), yup_n (by omega)]; exact q1
    · rw [yw_n (by omega), yup_n (by omega)]; exact q2
    · rw [yw_n (by omega), yup_n (by omega)]; exact q3
    · rw [yw_n (by omega), yup_n (by omega)]; exact q4
    · rw [yw_n (by omega), yup_n (by omega)]; exact q5
  · rw [yw_n (by omega), yup_n (by omega)]; exact t2 j hj
  · rw [yw_2, yw_n (by omega), yup_n (by omega)]; exact t3
  · rw [yup_n (by omega)] at hi
    rw [yw_2, yw_n (by omega), yw_n (by omega), yw_n (by omega), yw_n (by omega), yup_n (by omega), yup_n (by omega), yup_n (by omega), yup_n (by omega)]; exact t4 i hi
  · rw [yw_n (by omega), yup_n (by omega)]; exact t5
  · rw [yup_n (by omega)] at hi
    rw [yw_n (by omega), yw_n (by omega), yup_n (by omega), yup_n (by omega)]; exact t6 i hi
  · rw [yw_n (by omega), yup_n (by omega)]; exact d0
  · rw [yw_n (by omega), yup_n (by omega)]; exact d1
  · rw [yw_n (by omega), yup_n (by omega)]; exact d2
  · rw [yw_n (by omega), yup_n (by omega)]; exact d3
theorem yRT_done {σ : yS} {t k : Nat} {g : Nat → Int} {v : Int} (hk : k < 35) (H : yRT σ t g) : yRT (yw σ (t + 7) k v) t (yup g (42 + k) v) := by
  obtain ⟨t1, t2, ⟨t3, t4⟩, ⟨t5, t6⟩, ⟨d0, d1, d2, d3⟩, t7⟩ := H
  refine ⟨fun i hi => ?_, fun j hj => ?_, ⟨?_, fun i hi => ?_⟩, ⟨?_, fun i hi => ?_⟩, ⟨?_, ?_, ?_, ?_⟩, t7⟩
  · obtain ⟨q0, q1, q2, q3, q4, q5⟩ := t1 i hi
    refine ⟨?_, ?_, ?_, ?_, ?_, ?_⟩
    · rw [yw_n (by omega), yup_n (by omega)]; exact q0
    · rw [yw_n (by omega), yup_n (by omega)]; exact q1
    · rw [yw_n (by omega), yup_n (by omega)]; exact q2
    · rw [yw_n (by omega), yup_n (by omega)]; exact q3
    · rw [yw_n (by omega), yup_n (by omega)]; exact q4
    · rw [yw_n (by omega), yup_n (by omega)]; exact q5
  · by_cases e : j = k
    · subst e
      rw [yw_p, yup_p]
    · rw [yw_n (by omega), yup_n (by omega)]; exact t2 j hj
  · rw [yw_2, yw_n (by omega), yup_n (by omega)]; exact t3
  · rw [yup_n (by omega)] at hi
    rw [yw_2, yw_n (by omega), yw_n (by omega), yw_n (by omega), yw_n (by omega), yup_n (by omega), yup_n (by omega), yup_n (by omega), yup_n (by omega)]; exact t4 i hi
  · rw [yw_n (by omega), yup_n (by omega)]; exact t5
  · rw [yup_n (by omega)] at hi
    rw [yw_n (by omega), yw_n (by omega), yup_n (by omega), yup_n (by omega)]; exact t6 i hi
  · rw [yw_n (by omega), yup_n (by omega)]; exact d0
  · rw [yw_n (by omega), yup_n (by omega)]; exact d1
  · rw [yw_n (by omega), yup_n (by omega)]; exact d2
  · rw [yw_n (by omega), yup_n (by omega)]; exact d3
/-- day, lost, struck, failed -/
theorem yRT_cnt {σ : yS} {t b : Nat} {g : Nat → Int} {v : Int} (hb : 14 ≤ b ∧ b < 18) (hs : ∀ i : Nat, (i : Int) < g 77 → i < 10) (hw : ∀ i : Nat, (i : Int) < g 118 → i < 4) (H : yRT σ t g) : yRT (yw σ t b v) t (yup g (113 + b) v) := by
  obtain ⟨t1, t2, ⟨t3, t4⟩, ⟨t5, t6⟩, ⟨d0, d1, d2, d3⟩, t7⟩ := H
  refine ⟨fun i hi => ?_, fun j hj => ?_, ⟨?_, fun i hi => ?_⟩, ⟨?_, fun i hi => ?_⟩, ⟨?_, ?_, ?_, ?_⟩, t7⟩
  · obtain ⟨q0, q1, q2, q3, q4, q5⟩ := t1 i hi
    refine ⟨?_, ?_, ?_, ?_, ?_, ?_⟩
    · rw [yw_n (by omega), yup_n (by omega)]; exact q0
    · rw [yw_n (by omega), yup_n (by omega)]; exact q1
    · rw [yw_n (by omega), yup_n (by omega)]; exact q2
    · rw [yw_n (by omega), yup_n (by omega)]; exact q3
    · rw [yw_n (by omega), yup_n (by omega)]; exact q4
    · rw [yw_n (by omega), yup_n (by omega)]; exact q5
  · rw [yw_n (by omega), yup_n (by omega)]; exact t2 j hj
  · rw [yw_2, yw_n (by omega), yup_n (by omega)]; exact t3
  · rw [yup_n (by omega)] at hi
    have hi2 := hs i hi
    rw [yw_2, yw_n (by omega), yw_n (by omega), yw_n (by omega), yw_n (by omega), yup_n (by omega), yup_n (by omega), yup_n (by omega), yup_n (by omega)]; exact t4 i hi
  · rw [yw_n (by omega), yup_n (by omega)]; exact t5
  · rw [yup_n (by omega)] at hi
    have hi2 := hw i hi
    rw [yw_n (by omega), yw_n (by omega), yup_n (by omega), yup_n (by omega)]; exact t6 i hi
  · by_cases e : b = 14
    · subst e
      exact yw_p.trans yup_p.symm
    · rw [yw_n (by omega), yup_n (by omega)]; exact d0
  · by_cases e : b = 15
    · subst e
      exact yw_p.trans yup_p.symm
    · rw [yw_n (by omega), yup_n (by omega)]; exact d1
  · by_cases e : b = 16
    · subst e
      exact yw_p.trans yup_p.symm
    · rw [yw_n (by omega), yup_n (by omega)]; exact d2
  · by_cases e : b = 17
    · subst e
      exact yw_p.trans yup_p.symm
    · rw [yw_n (by omega), yup_n (by omega)]; exact d3
/-- what leaves all but the fallen row alone keeps yRT -/
theorem yRT_fl {σ σ' : yS} {t : Nat} {g : Nat → Int} (r : ∀ b : Nat, σ'.2 t b = σ.2 t b) (c : ∀ a b : Nat, t ≤ a → a < t + 21 → ¬ (σ.2 t 12 ≤ a ∧ a < σ.2 t 12 + 5) → σ'.1 a b = σ.1 a b) (H : yRT σ t g) : yRT σ' t g := by
  obtain ⟨t1, t2, ⟨t3, t4⟩, ⟨t5, t6⟩, ⟨d0, d1, d2, d3⟩, t7⟩ := H
  refine ⟨fun i hi => ?_, fun j hj => ?_, ⟨?_, fun i hi => ?_⟩, ⟨?_, fun i hi => ?_⟩, ⟨?_, ?_, ?_, ?_⟩, ?_⟩
  · rw [c (t + 2) _ (by omega) (by omega) (by omega), c (t + 3) _ (by omega) (by omega) (by omega), c t _ (by omega) (by omega) (by omega), c (t + 4) _ (by omega) (by omega) (by omega), c (t + 5) _ (by omega) (by omega) (by omega), c (t + 6) _ (by omega) (by omega) (by omega)]
    exact t1 i hi
  · rw [c _ _ (by omega) (by omega) (by omega)]; exact t2 j hj
  · rw [r, c _ _ (by omega) (by omega) (by omega)]; exact t3
  · rw [r, c _ _ (by omega) (by omega) (by omega), c _ _ (by omega) (by omega) (by omega), c _ _ (by omega) (by omega) (by omega), c _ _ (by omega) (by omega) (by omega)]; exact t4 i hi
  · rw [c _ _ (by omega) (by omega) (by omega)]; exact t5
  · rw [c _ _ (by omega) (by omega) (by omega), c _ _ (by omega) (by omega) (by omega)]; exact t6 i hi
  · rw [c _ _ (by omega) (by omega) (by omega)]; exact d0
  · rw [c _ _ (by omega) (by omega) (by omega)]; exact d1
  · rw [c _ _ (by omega) (by omega) (by omega)]; exact d2
  · rw [c _ _ (by omega) (by omega) (by omega)]; exact d3
  · rw [r, r]; exact t7
/-- the bounds without that of the day -/
def yGe (hs ds : Int) (L : Int) (g : Nat → Int) : Prop :=
  (0 ≤ L ∧ L < 128) ∧ (∀ h : Nat, h < 7 → (0 ≤ g (7 + h) ∧ g (7 + h) < 32) ∧ (0 ≤ g (14 + h) ∧ g (14 + h) ≤ 1) ∧ (0 ≤ g (21 + h) ∧ g (21 + h) ≤ 4) ∧ (0 ≤ g (28 + h) ∧ g (28 + h) ≤ 4) ∧ (0 ≤ g (35 + h) ∧ g (35 + h) ≤ 10)) ∧
  (0 ≤ g 77 ∧ g 77 ≤ 10) ∧ (∀ i : Nat, (i : Int) < g 77 → (0 ≤ g (78 + 4 * i) ∧ g (78 + 4 * i) < hs) ∧ (0 ≤ g (79 + 4 * i) ∧ g (79 + 4 * i) ≤ 4) ∧ (0 ≤ g (80 + 4 * i) ∧ g (80 + 4 * i) ≤ 9) ∧ (0 ≤ g (81 + 4 * i) ∧ g (81 + 4 * i) < ds)) ∧
  (0 ≤ g 118 ∧ g 118 ≤ 4) ∧ (∀ i : Nat, (i : Int) < g 118 → (0 ≤ g (119 + 2 * i) ∧ g (119 + 2 * i) < hs) ∧ (0 ≤ g (120 + 2 * i) ∧ g (120 + 2 * i) < ds))
theorem yGd_e {hs ds L : Int} {g : Nat → Int} (H : yGd hs ds L g) : yGe hs ds L g := ⟨H.1, H.2.1, H.2.2.1, H.2.2.2.1, H.2.2.2.2.1, H.2.2.2.2.2.1⟩
theorem yGe_d {hs ds L : Int} {g : Nat → Int} (H : yGe hs ds L g) (h : 0 ≤ g 127 ∧ g 127 ≤ 999) : yGd hs ds L g := ⟨H.1, H.2.1, H.2.2.1, H.2.2.2.1, H.2.2.2.2.1, H.2.2.2.2.2, h⟩
theorem yGe_cong {g g' : Nat → Int} {hs ds L : Int} (h : ∀ j : Nat, (7 ≤ j ∧ j < 42) ∨ (77 ≤ j ∧ j < 127) → g' j = g j) (G : yGe hs ds L g) : yGe hs ds L g' := by
  obtain ⟨g0, g1, g2, g3, g4, g5⟩ := G
  refine ⟨g0, fun i hi => ?_, ?_, fun i hi => ?_, ?_, fun i hi => ?_⟩
  · rw [h (7 + i) (by omega), h (14 + i) (by omega), h (21 + i) (by omega), h (28 + i) (by omega), h (35 + i) (by omega)]; exact g1 i hi
  · rw [h 77 (by omega)]; exact g2
  · rw [h 77 (by omega)] at hi
    rw [h (78 + 4 * i) (by omega), h (79 + 4 * i) (by omega), h (80 + 4 * i) (by omega), h (81 + 4 * i) (by omega)]; exact g3 i hi
  · rw [h 118 (by omega)]; exact g4
  · rw [h 118 (by omega)] at hi
    rw [h (119 + 2 * i) (by omega), h (120 + 2 * i) (by omega)]; exact g5 i hi
/-- what is done is at most 99; who vows by habit vows a deed that there is -/
def yGk (hs ds : Int) (g : Nat → Int) : Prop := (∀ j : Nat, j < 35 → 0 ≤ g (42 + j) ∧ g (42 + j) ≤ 99) ∧ (∀ h : Nat, h < 7 → ¬ g (35 + h) = 0 → g (28 + h) < ds) ∧ (∀ h : Nat, h < 7 → hs ≤ (h : Int) → g (14 + h) = 0)
theorem yGk_cong {g g' : Nat → Int} {hs ds : Int} (h : ∀ j : Nat, (14 ≤ j ∧ j < 21) ∨ (28 ≤ j ∧ j < 77) → g' j = g j) (G : yGk hs ds g) : yGk hs ds g' := by
  refine ⟨fun j hj => ?_, fun i hi => ?_, fun i hi => ?_⟩
  · rw [h (42 + j) (by omega)]; exact G.1 j hj
  · rw [h (35 + i) (by omega), h (28 + i) (by omega)]; exact G.2.1 i hi
  · rw [h (14 + i) (by omega)]; exact G.2.2 i hi
/-- the row of what has fallen today -/
def yFal (σ τ : yS) (f : Nat) : Prop := σ.1 f 0 = τ.1 0 25 ∧ (0 ≤ τ.1 0 25 ∧ τ.1 0 25 ≤ 10) ∧ ∀ i : Nat, (i : Int) < τ.1 0 25 → (σ.1 (f + 1) i = τ.1 9 (4 * i) ∧ σ.1 (f + 2) i = τ.1 9 (4 * i + 1) ∧ σ.1 (f + 3) i = τ.1 9 (4 * i + 2) ∧ σ.1 (f + 4) i = τ.1 9 (4 * i + 3)) ∧ (0 ≤ τ.1 9 (4 * i) ∧ τ.1 9 (4 * i) < τ.1 0 3) ∧ (0 ≤ τ.1 9 (4 * i + 1) ∧ τ.1 9 (4 * i + 1) ≤ 4) ∧ (0 ≤ τ.1 9 (4 * i + 2) ∧ τ.1 9 (4 * i + 2) ≤ 9) ∧ (0 ≤ τ.1 9 (4 * i + 3) ∧ τ.1 9 (4 * i + 3) < τ.1 0 5)
/-- a terrace whose days pass, against the row at -/
def yDY (σ τ : yS) (t : Nat) : Prop := yRH σ τ t ∧ yRT σ t (fun j => τ.1 2 j) ∧ yGe (τ.1 0 3) (τ.1 0 5) (σ.1 t 6) (fun j => τ.1 2 j) ∧ yGk (τ.1 0 3) (τ.1 0 5) (fun j => τ.1 2 j)
/-- what a day leaves alone -/
def yF7 (t : Nat) (σ σ' : yS) : Prop := (∀ a b : Nat, a < t ∨ t + 21 ≤ a → σ'.1 a b = σ.1 a b) ∧ (∀ a b : Nat, ¬ a = t → σ'.2 a b = σ.2 a b)
def yF8 (τ τ' : yS) : Prop := ∀ a b : Nat, ¬ a = 2 → ¬ a = 9 → ¬ (a = 0 ∧ (b = 25 ∨ b = 26)) → τ'.1 a b = τ.1 a b
theorem yF7_r {t : Nat} {σ : yS} : yF7 t σ σ := ⟨fun _ _ _ => rfl, fun _ _ _ => rfl⟩
theorem yF7_t {t : Nat} {σ1 σ2 σ3 : yS} (h : yF7 t σ1 σ2) (k : yF7 t σ2 σ3) : yF7 t σ1 σ3 := ⟨fun a b z => by rw [k.1 a b z, h.1 a b z], fun a b z => by rw [k.2 a b z, h.2 a b z]⟩
theorem yF7_w {t i k : Nat} {σ1 σ2 : yS} {z : Int} (h : yF7 t σ1 σ2) (hi : t ≤ i ∧ i < t + 21) : yF7 t σ1 (yw σ2 i k z) := ⟨fun a b q => by rw [yw_n (by omega), h.1 a b q], fun a b q => by rw [yw_2, h.2 a b q]⟩
theorem yF8_r {τ : yS} : yF8 τ τ := fun _ _ _ _ _ => rfl
theorem yF8_t {τ1 τ2 τ3 : yS} (h : yF8 τ1 τ2) (k : yF8 τ2 τ3) : yF8 τ1 τ3 := fun a b x y z => by rw [k a b x y z, h a b x y z]
theorem yF8_w {i k : Nat} {τ1 τ2 : yS} {z : Int} (h : yF8 τ1 τ2) (hi : i = 2 ∨ i = 9 ∨ (i = 0 ∧ (k = 25 ∨ k = 26))) : yF8 τ1 (yw τ2 i k z) := fun a b x y q => by rw [yw_n (by omega), h a b x y q]
theorem yRH_f {σ τ σ' τ' : yS} {t : Nat} (h0 : σ'.1 t 0 = σ.1 t 0 ∧ σ'.1 t 1 = σ.1 t 1 ∧ σ'.1 t 2 = σ.1 t 2) (h1 : ∀ b : Nat, σ'.1 (t + 1) b = σ.1 (t + 1) b) (k : τ'.1 0 3 = τ.1 0 3 ∧ τ'.1 0 4 = τ.1 0 4 ∧ τ'.1 0 5 = τ.1 0 5) (k1 : ∀ b : Nat, τ'.1 4 b = τ.1 4 b) (H : yRH σ τ t) : yRH σ' τ' t := by
  obtain ⟨e0, e1, e2, b0, b1, b2, hc⟩ := H
  refine ⟨by rw [h0.1, k.1]; exact e0, by rw [h0.2.1, k.2.1]; exact e1, by rw [h0.2.2, k.2.2]; exact e2, by rw [k.1]; exact b0, by rw [k.2.1]; exact b1, by rw [k.2.2]; exact b2, fun d hd => ?_⟩
  rw [k.2.2] at hd
  rw [h1, k1]
  exact hc d hd
/-- one place changed on both sides -/
theorem yDY_x {σ τ : yS} {t A B K : Nat} {v : Int} (H : yDY σ τ t) (hT : yRT (yw σ A B v) t (yup (fun j => τ.1 2 j) K v)) (hA : ¬ A = t + 1) (hB : A = t → 14 ≤ B) (hK : K < 7 ∨ (42 ≤ K ∧ K < 77) ∨ 127 ≤ K) (hv : 42 ≤ K → K < 77 → 0 ≤ v ∧ v ≤ 99) : yDY (yw σ A B v) (yw τ 2 K v) t := by
  obtain ⟨R, T, G, K0⟩ := H
  refine ⟨yRH_f ⟨?_, ?_, ?_⟩ (fun b => ?_) ⟨?_, ?_, ?_⟩ (fun b => ?_) R, by rw [yup_w]; exact hT, ?_, ?_⟩
  · exact yw_n (by omega)
  · exact yw_n (by omega)
  · exact yw_n (by omega)
  · exact yw_n (by omega)
  · exact yw_n (by omega)
  · exact yw_n (by omega)
  · exact yw_n (by omega)
  · exact yw_n (by omega)
  · rw [yup_w, yw_n (by omega), yw_n (by omega), yw_n (by omega)]
    exact yGe_cong (fun j hj => yup_n (by omega)) G
  · rw [yup_w, yw_n (by omega), yw_n (by omega)]
    refine ⟨fun j hj => ?_, fun i hi => ?_, fun i hi => ?_⟩
    · by_cases e : 42 + j = K
      · subst e
        rw [yup_p]
        exact hv (by omega) (by omega)
      · rw [yup_n e]
        exact K0.1 j hj
    · rw [yup_n (by omega), yup_n (by omega)]
      exact K0.2.1 i hi
    · rw [yup_n (by omega)]
      exact K0.2.2 i hi
theorem yFal_f {σ τ σ' τ' : yS} {f : Nat} (h : ∀ a b : Nat, f ≤ a → a < f + 5 → σ'.1 a b = σ.1 a b) (k : τ'.1 0 25 = τ.1 0 25 ∧ τ'.1 0 3 = τ.1 0 3 ∧ τ'.1 0 5 = τ.1 0 5) (k9 : ∀ b : Nat, τ'.1 9 b = τ.1 9 b) (H : yFal σ τ f) : yFal σ' τ' f := by
  obtain ⟨h1, h2, h3⟩ := H
  refine ⟨by rw [h _ _ (by omega) (by omega), k.1]; exact h1, by rw [k.1]; exact h2, fun i hi => ?_⟩
  rw [k.1] at hi
  rw [h (f + 1) _ (by omega) (by omega), h (f + 2) _ (by omega) (by omega), h (f + 3) _ (by omega) (by omega), h (f + 4) _ (by omega) (by omega), k9, k9, k9, k9, k.2.1, k.2.2]
  exact h3 i hi
end
section
theorem yDY_o {σ τ τ' : yS} {t : Nat} (h2 : ∀ j : Nat, τ'.1 2 j = τ.1 2 j) (k : τ'.1 0 3 = τ.1 0 3 ∧ τ'.1 0 4 = τ.1 0 4 ∧ τ'.1 0 5 = τ.1 0 5) (k1 : ∀ b : Nat, τ'.1 4 b = τ.1 4 b) (H : yDY σ τ t) : yDY σ τ' t := by
  obtain ⟨R, T, G, K0⟩ := H
  have e : (fun j => τ'.1 2 j) = (fun j => τ.1 2 j) := funext h2
  refine ⟨yRH_f ⟨rfl, rfl, rfl⟩ (fun _ => rfl) k k1 R, ?_, ?_, ?_⟩
  · rw [e]; exact T
  · rw [e, k.1, k.2.2]; exact G
  · rw [e, k.1, k.2.2]; exact K0
theorem yDY_purse {σ τ : yS} {t h : Nat} {v : Int} (H : yDY σ τ t) (hh : h < 7) : yDY (yw σ (t + 2) h v) (yw τ 2 h v) t :=
  yDY_x H (yRT_purse hh H.2.1) (by omega) (by omega) (by omega) (by omega)
theorem yDY_done {σ τ : yS} {t k : Nat} {v : Int} (H : yDY σ τ t) (hk : k < 35) (hv : 0 ≤ v ∧ v ≤ 99) : yDY (yw σ (t + 7) k v) (yw τ 2 (42 + k) v) t :=
  yDY_x H (yRT_done hk H.2.1) (by omega) (by omega) (by omega) (fun _ _ => hv)
theorem yDY_cnt {σ τ : yS} {t b : Nat} {v : Int} (H : yDY σ τ t) (hb : 14 ≤ b ∧ b < 18) : yDY (yw σ t b v) (yw τ 2 (113 + b) v) t := by
  have q1 : 0 ≤ τ.1 2 77 ∧ τ.1 2 77 ≤ 10 := H.2.2.1.2.2.1
  have q2 : 0 ≤ τ.1 2 118 ∧ τ.1 2 118 ≤ 4 := H.2.2.1.2.2.2.2.1
  exact yDY_x H (yRT_cnt hb (fun i hi => by have hi : (i : Int) < τ.1 2 77 := hi; omega) (fun i hi => by have hi : (i : Int) < τ.1 2 118 := hi; omega) H.2.1) (by omega) (by omega) (by omega) (by omega)
theorem ybit5 : ∀ S : Fin 32, ∀ d : Fin 5, yan (ysr ((S.val : Nat) : Int) ((d.val : Nat) : Int)) 1 = 0 ∨ yan (ysr ((S.val : Nat) : Int) ((d.val : Nat) : Int)) 1 = 1 := by decide +kernel
def yFD (t : Nat) (σ τ σ' τ' : yS) (r : Int) : Prop := σ'.2 = σ.2 ∧ (∀ a b : Nat, ¬ (a = t ∨ a = t + 2 ∨ a = t + 7) → σ'.1 a b = σ.1 a b) ∧ (∀ a b : Nat, ¬ a = 2 → ¬ (a = 0 ∧ b = 26) → τ'.1 a b = τ.1 a b) ∧ (∀ j : Nat, 77 ≤ j → j < 128 → τ'.1 2 j = τ.1 2 j) ∧ ((r = 0 ∧ τ'.1 0 26 = τ.1 0 26) ∨ (r = 1 ∧ τ'.1 0 26 = yad (τ.1 0 26) 1))
theorem p_does {N : Nat} {σ τ : yS} {t h d : Nat} {k : Int} (H : yDY σ τ t) (hh : (h : Int) < τ.1 0 3) (hd : (d : Int) < τ.1 0 5) : ∃ (r : Int) (σ' τ' : yS), f_X4_comesTrue N σ t h k d = some (r, σ') ∧ f_X8_does N τ h k d = some (0, τ') ∧ yDY σ' τ' t ∧ yFD t σ τ σ' τ' r := by
  have H0 := H
  obtain ⟨⟨e0, e1, e2, b0, b1, b2, hc⟩, ⟨t1, t2, -⟩, ⟨-, g1, -⟩, ⟨k1, -⟩⟩ := H0
  have h7 : h < 7 := by omega
  have d5 : d < 5 := by omega
  obtain ⟨q0, q1, -⟩ := t1 h h7
  have q0 : σ.1 (t + 2) h = τ.1 2 h := q0
  have q1 : σ.1 (t + 3) h = τ.1 2 (7 + h) := q1
  have q2 : σ.1 (t + 7) (5 * h + d) = τ.1 2 (42 + (5 * h + d)) := t2 (5 * h + d) (by omega)
  have k2 : 0 ≤ τ.1 2 (42 + (5 * h + d)) ∧ τ.1 2 (42 + (5 * h + d)) ≤ 99 := k1 (5 * h + d) (by omega)
  have s1 : 0 ≤ τ.1 2 (7 + h) ∧ τ.1 2 (7 + h) < 32 := (g1 h h7).1
  have c1 : σ.1 (t + 1) d = τ.1 4 d := (hc d hd).1
  have m1 : yad (ymu (h : Int) 5) (d : Int) = ((5 * h + d : Nat) : Int) := by
    rw [ymu_e (by omega) (by omega), yad_e (by omega) (by omega)]; omega
  have m2 : yad (yad 42 (ymu 5 (h : Int))) (d : Int) = ((42 + (5 * h + d) : Nat) : Int) := by
    rw [ymu_e (by omega) (by omega), yad_e (a := 42) (by omega) (by omega), yad_e (by omega) (by omega)]; omega
  have m3 : yad 7 (h : Int) = ((7 + h : Nat) : Int) := by rw [yad_e (by omega) (by omega)]; omega
  have m4 : yad 0 (h : Int) = (h : Int) := by rw [yad_e (by omega) (by omega)]; omega
  have bt := ybit5 ⟨(τ.1 2 (7 + h)).toNat, by omega⟩ ⟨d, d5⟩
  simp only [show (((τ.1 2 (7 + h)).toNat : Nat) : Int) = τ.1 2 (7 + h) by omega] at bt
  have i1 : yin ((5 * h + d : Nat) : Int) 35 = true := by rw [yin_d]; exact decide_eq_true (by omega)
  have i2 : yin ((42 + (5 * h + d) : Nat) : Int) 131 = true := by rw [yin_d]; exact decide_eq_true (by omega)
  have i3 : yin ((7 + h : Nat) : Int) 131 = true := by rw [yin_d]; exact decide_eq_true (by omega)
  have i4 : yin (h : Int) 131 = true := by rw [yin_d]; exact decide_eq_true (by omega)
  have i5 : yin (h : Int) 7 = true := by rw [yin_d]; exact decide_eq_true (by omega)
  have i6 : yin (d : Int) 5 = true := by rw [yin_d]; exact decide_eq_true (by omega)
  simp only [f_X4_comesTrue, f_X4_comesTrue_b62, f_X4_comesTrue_b101, f_X7_doneAt, f_X7_bit, f_X8_does, f_X8_does_b152, f_X8_does_b140, f_X8_does_b129, f_X8_does_b118, f_X8_does_b105, f_X8_does_b38, m1, m2, m3, m4, i1, i2, i3, i4, i5, i6, cond_true, Int.toNat_natCast, x8_flag (show (0 : Int) ≤ 0 ∧ (0 : Int) ≤ 1 by omega), x8_flag (show (0 : Int) ≤ 1 ∧ (1 : Int) ≤ 1 by omega), ycP_ne, ycP_eq, ycP_le, ycP_lt, ycP_ge, q1]
  by_cases hk : k = 4
  · obtain ⟨x, hx⟩ : ∃ x : Int, τ.1 2 (42 + (5 * h + d)) = x := ⟨_, rfl⟩
    rw [hx] at k2 q2
    have v1 : ymx 0 (ysu x 1) = (if x ≤ 0 then ysu x 0 else ysu x 1) := by
      unfold ymx
      by_cases hz : x ≤ 0
      · have : x = 0 := by omega
        subst this
        decide +kernel
      · rw [if_neg hz, ysu_e (by omega) (by omega)]
        by_cases hz1 : x = 1
        · subst hz1
          decide +kernel
        · rw [show zle (0 + 1) (x - 1) = true from decide_eq_true (by omega)]
          rfl
    have v2 : 0 ≤ ymx 0 (ysu x 1) ∧ ymx 0 (ysu x 1) ≤ 99 := by
      rw [v1]
      split
      · rw [ysu_e (by omega) (by omega)]; omega
      · rw [ysu_e (by omega) (by omega)]; omega
    refine ⟨0, yw σ (t + 7) (5 * h + d) (ymx 0 (ysu x 1)), yw τ 2 (42 + (5 * h + d)) (ymx 0 (ysu x 1)), ?_, ?_, yDY_done H (by omega) v2, rfl, fun a b z => yw_n (by omega), fun a b z y => yw_n (by omega), fun j z y => yw_n (by omega), Or.inl ⟨rfl, yw_n (by omega)⟩⟩
    · simp [hk, q2]
    · rw [v1]
      by_cases hz : x ≤ 0
      · simp [hk, hx, hz]
      · simp [hk, hx, hz]
  · by_cases hb : yan (ysr (τ.1 2 (7 + h)) (d : Int)) 1 = 1
    · by_cases hp : τ.1 4 d ≤ τ.1 2 h
      · obtain ⟨x, hx⟩ : ∃ x : Int, τ.1 2 (42 + (5 * h + d)) = x := ⟨_, rfl⟩
        rw [hx] at k2 q2
        have v1 : ymn 99 (yad x 1) = (if 99 ≤ x then yad x 0 else yad x 1) := by
          unfold ymn
          by_cases hz : 99 ≤ x
          · have : x = 99 := by omega
            subst this
            decide +kernel
          · rw [if_neg hz, yad_e (by omega) (by omega)]
            by_cases hz1 : x = 98
            · subst hz1
              decide +kernel
            · rw [show zle (x + 1 + 1) 99 = true from decide_eq_true (by omega)]
              rfl
        have v2 : 0 ≤ ymn 99 (yad x 1) ∧ ymn 99 (yad x 1) ≤ 99 := by
          rw [v1]
          split
          · rw [yad_e (by omega) (by omega)]; omega
          · rw [yad_e (by omega) (by omega)]; omega
        have K1 := yDY_done H (show 5 * h + d < 35 by omega) v2
        have K2 := yDY_purse (v := ysu (τ.1 2 h) (τ.1 4 d)) K1 h7
        have K3 := yDY_o (τ' := yw (yw (yw τ 2 (42 + (5 * h + d)) (ymn 99 (yad x 1))) 2 h (ysu (τ.1 2 h) (τ.1 4 d))) 0 26 (yad (τ.1 0 26) 1)) (fun j => yw_n (by omega)) ⟨yw_n (by omega), yw_n (by omega), yw_n (by omega)⟩ (fun b => yw_n (by omega)) K2
        refine ⟨1, _, _, ?_, ?_, K3, rfl, fun a b z => ?_, fun a b z y => ?_, fun j z y => ?_, Or.inr ⟨rfl, yw_p⟩⟩
        · simp [hk, hb, q0, c1, hp, q2, yw_1]
        · have r1 : (yw τ 2 (42 + (5 * h + d)) (ymn 99 (yad x 1))).1 2 h = τ.1 2 h := yw_n (by omega)
          rw [v1] at r1 ⊢
          have hp' : ¬ τ.1 2 h < τ.1 4 d := by omega
          by_cases hz : 99 ≤ x
          · rw [if_pos hz] at r1 ⊢
            simp [hk, hb, hp', hx, hz, r1]
            simp [yw_1]
          · rw [if_neg hz] at r1 ⊢
            simp [hk, hb, hp', hx, hz, r1]
            simp [yw_1]
        · rw [yw_n (by omega), yw_n (by omega)]
        · rw [yw_n (by omega), yw_n (by omega), yw_n (by omega)]
        · rw [yw_n (by omega), yw_n (by omega), yw_n (by omega)]
      · have f1 : σ.1 t 17 = τ.1 2 130 := H.2.1.2.2.2.2.1.2.2.2
        refine ⟨0, yw σ t 17 (yad (τ.1 2 130) 1), yw τ 2 (113 + 17) (yad (τ.1 2 130) 1), ?_, ?_, yDY_cnt H (by omega), rfl, fun a b z => yw_n (by omega), fun a b z y => yw_n (by omega), fun j z y => yw_n (by omega), Or.inl ⟨rfl, yw_n (by omega)⟩⟩
        · simp [hk, hb, q0, c1, hp, f1]
        · simp [hk, hb, show τ.1 2 h < τ.1 4 d by omega]
    · have hb0 : yan (ysr (τ.1 2 (7 + h)) (d : Int)) 1 = 0 := by omega
      have f1 : σ.1 t 17 = τ.1 2 130 := H.2.1.2.2.2.2.1.2.2.2
      refine ⟨0, yw σ t 17 (yad (τ.1 2 130) 1), yw τ 2 (113 + 17) (yad (τ.1 2 130) 1), ?_, ?_, yDY_cnt H (by omega), rfl, fun a b z => yw_n (by omega), fun a b z y => yw_n (by omega), fun j z y => yw_n (by omega), Or.inl ⟨rfl, yw_n (by omega)⟩⟩
      · simp [hk, hb0, f1]
      · simp [hk, hb0]
end
section
/-- what changes the fallen row alone keeps yDY -/
theorem yDY_fl {σ τ σ' τ' : yS} {t : Nat} (c2 : σ'.2 = σ.2) (c : ∀ a b : Nat, ¬ (σ.2 t 12 ≤ a ∧ a < σ.2 t 12 + 5) → σ'.1 a b = σ.1 a b) (o : ∀ a b : Nat, ¬ a = 9 → ¬ (a = 0 ∧ b = 25) → τ'.1 a b = τ.1 a b) (H : yDY σ τ t) : yDY σ' τ' t := by
  have t7 := H.2.1.2.2.2.2.2
  refine yDY_o (τ := τ) (fun j => o 2 j (by omega) (by omega)) ⟨o _ _ (by omega) (by omega), o _ _ (by omega) (by omega), o _ _ (by omega) (by omega)⟩ (fun b => o _ _ (by omega) (by omega)) ?_
  obtain ⟨R, T, G, K0⟩ := H
  refine ⟨yRH_f ⟨c _ _ (by omega), c _ _ (by omega), c _ _ (by omega)⟩ (fun b => c _ _ (by omega)) ⟨rfl, rfl, rfl⟩ (fun _ => rfl) R, yRT_fl (fun b => by rw [c2]) (fun a b _ _ h => c a b h) T, ?_, K0⟩
  rw [c t 6 (by omega)]
  exact G
theorem p_comes {N : Nat} {σ τ : yS} {t f : Nat} (H : yDY σ τ t) (hf : σ.2 t 12 = f) (F : yFal σ τ f) {h k p d : Int} (hh : 0 ≤ h ∧ h < τ.1 0 3) (hk : 0 ≤ k ∧ k ≤ 4) (hp : 0 ≤ p ∧ p ≤ 9) (hd : 0 ≤ d ∧ d < τ.1 0 5) : (f_X5_append N σ f h k p d = some (0, σ) ∧ f_X8_comes N τ h k p d = some (0, yw τ 2 128 (yad (τ.1 2 128) 1))) ∨ ∃ (σ' τ' : yS), f_X5_append N σ f h k p d = some (1, σ') ∧ f_X8_comes N τ h k p d = some (0, τ') ∧ yDY σ' τ' t ∧ yFal σ' τ' f ∧ σ'.2 = σ.2 ∧ (∀ a b : Nat, ¬ (f ≤ a ∧ a < f + 5) → σ'.1 a b = σ.1 a b) ∧ (∀ a b : Nat, ¬ a = 9 → ¬ (a = 0 ∧ b = 25) → τ'.1 a b = τ.1 a b) := by
  obtain ⟨F1, F2, F3⟩ := F
  simp only [f_X5_append, f_X5_append_b26, f_X5_append_b36, f_X5_append_b46, f_X5_append_b54, f_X8_comes, f_X8_comes_b40, f_X8_comes_b54, f_X8_comes_b68, f_X8_comes_b79, ycP_ne, ycP_lt, yin_d]
  by_cases h10 : τ.1 0 25 = 10
  · exact Or.inl ⟨by simp [F1, h10], by simp [h10]⟩
  · refine Or.inr ?_
    obtain ⟨m, hm⟩ : ∃ m : Nat, τ.1 0 25 = (m : Int) := ⟨(τ.1 0 25).toNat, by omega⟩
    rw [hm] at F1
    have m10 : m < 10 := by omega
    have em : ymu 4 (m : Int) = 4 * (m : Int) := ymu_e (by omega) (by omega)
    have eb1 : yad (4 * (m : Int)) 1 = 4 * (m : Int) + 1 := yad_e (by omega) (by omega)
    have eb2 : yad (4 * (m : Int)) 2 = 4 * (m : Int) + 2 := yad_e (by omega) (by omega)
    have eb3 : yad (4 * (m : Int)) 3 = 4 * (m : Int) + 3 := yad_e (by omega) (by omega)
    have ec : (4 * (m : Int)).toNat = 4 * m := by omega
    have ec1 : (4 * (m : Int) + 1).toNat = 4 * m + 1 := by omega
    have ec2 : (4 * (m : Int) + 2).toNat = 4 * m + 2 := by omega
    have ec3 : (4 * (m : Int) + 3).toNat = 4 * m + 3 := by omega
    have ee : yad (m : Int) 1 = (m : Int) + 1 := yad_e (by omega) (by omega)
    refine ⟨yw (yw (yw (yw (yw σ (f + 1) m h) (f + 2) m k) (f + 3) m p) (f + 4) m d) f 0 ((m : Int) + 1), yw (yw (yw (yw (yw τ 9 (4 * m) h) 9 (4 * m + 1) k) 9 (4 * m + 2) p) 9 (4 * m + 3) d) 0 25 ((m : Int) + 1), ?_, ?_, ?_⟩
    · simp [F1, yw_1, ee, show (m : Int) < 10 by omega]
    · simp [hm, yw_1, em, eb1, eb2, eb3, ec, ec1, ec2, ec3, ee, show ¬ (m : Int) = 10 by omega, show (0 : Int) ≤ 4 * m by omega, show (4 : Int) * m < 40 by omega, show (0 : Int) ≤ 4 * m + 1 by omega, show (4 : Int) * m + 1 < 40 by omega, show (0 : Int) ≤ 4 * m + 2 by omega, show (4 : Int) * m + 2 < 40 by omega, show (0 : Int) ≤ 4 * m + 3 by omega, show (4 : Int) * m + 3 < 40 by omega]
    · have cl : ∀ a b : Nat, ¬ (f ≤ a ∧ a < f + 5) → (yw (yw (yw (yw (yw σ (f + 1) m h) (f + 2) m k) (f + 3) m p) (f + 4) m d) f 0 ((m : Int) + 1)).1 a b = σ.1 a b := fun a b ha => by
        rw [yw_n (by omega), yw_n (by omega), yw_n (by omega), yw_n (by omega), yw_n (by omega)]
      have vs : (yw (yw (yw (yw (yw σ (f + 1) m h) (f + 2) m k) (f + 3) m p) (f + 4) m d) f 0 ((m : Int) + 1)).1 f 0 = (m : Int) + 1 := by simp [yw_1]
      have v1 : ∀ i : Nat, (yw (yw (yw (yw (yw σ (f + 1) m h) (f + 2) m k) (f + 3) m p) (f + 4) m d) f 0 ((m : Int) + 1)).1 (f + 1) i = (if i = m then h else σ.1 (f + 1) i) := fun i => by simp [yw_1]
      have v2 : ∀ i : Nat, (yw (yw (yw (yw (yw σ (f + 1) m h) (f + 2) m k) (f + 3) m p) (f + 4) m d) f 0 ((m : Int) + 1)).1 (f + 2) i = (if i = m then k else σ.1 (f + 2) i) := fun i => by simp [yw_1]
      have v3 : ∀ i : Nat, (yw (yw (yw (yw (yw σ (f + 1) m h) (f + 2) m k) (f + 3) m p) (f + 4) m d) f 0 ((m : Int) + 1)).1 (f + 3) i = (if i = m then p else σ.1 (f + 3) i) := fun i => by simp [yw_1]
      have v4 : ∀ i : Nat, (yw (yw (yw (yw (yw σ (f + 1) m h) (f + 2) m k) (f + 3) m p) (f + 4) m d) f 0 ((m : Int) + 1)).1 (f + 4) i = (if i = m then d else σ.1 (f + 4) i) := fun i => by simp [yw_1]
      have c2 : (yw (yw (yw (yw (yw σ (f + 1) m h) (f + 2) m k) (f + 3) m p) (f + 4) m d) f 0 ((m : Int) + 1)).2 = σ.2 := rfl
      have o1 : ∀ a b : Nat, ¬ a = 9 → ¬ (a = 0 ∧ b = 25) → (yw (yw (yw (yw (yw τ 9 (4 * m) h) 9 (4 * m + 1) k) 9 (4 * m + 2) p) 9 (4 * m + 3) d) 0 25 ((m : Int) + 1)).1 a b = τ.1 a b := fun a b ha hb => by
        rw [yw_n (by omega), yw_n (by omega), yw_n (by omega), yw_n (by omega), yw_n (by omega)]
      have us : (yw (yw (yw (yw (yw τ 9 (4 * m) h) 9 (4 * m + 1) k) 9 (4 * m + 2) p) 9 (4 * m + 3) d) 0 25 ((m : Int) + 1)).1 0 25 = (m : Int) + 1 := yw_p
      have u1 : ∀ i : Nat, (yw (yw (yw (yw (yw τ 9 (4 * m) h) 9 (4 * m + 1) k) 9 (4 * m + 2) p) 9 (4 * m + 3) d) 0 25 ((m : Int) + 1)).1 9 (4 * i) = (if i = m then h else τ.1 9 (4 * i)) := fun i => by
        by_cases hq : i = m
        · subst hq
          rw [if_pos rfl, yw_n (by omega), yw_n (by omega), yw_n (by omega), yw_n (by omega), yw_p]
        · rw [if_neg hq, yw_n (by omega), yw_n (by omega), yw_n (by omega), yw_n (by omega), yw_n (by omega)]
      have u2 : ∀ i : Nat, (yw (yw (yw (yw (yw τ 9 (4 * m) h) 9 (4 * m + 1) k) 9 (4 * m + 2) p) 9 (4 * m + 3) d) 0 25 ((m : Int) + 1)).1 9 (4 * i + 1) = (if i = m then k else τ.1 9 (4 * i + 1)) := fun i => by
        by_cases hq : i = m
        · subst hq
          rw [if_pos rfl, yw_n (by omega), yw_n (by omega), yw_n (by omega), yw_p]
        · rw [if_neg hq, yw_n (by omega), yw_n (by omega), yw_n (by omega), yw_n (by omega), yw_n (by omega)]
      have u3 : ∀ i : Nat, (yw (yw (yw (yw (yw τ 9 (4 * m) h) 9 (4 * m + 1) k) 9 (4 * m + 2) p) 9 (4 * m + 3) d) 0 25 ((m : Int) + 1)).1 9 (4 * i + 2) = (if i = m then p else τ.1 9 (4 * i + 2)) := fun i => by
        by_cases hq : i = m
        · subst hq
          rw [if_pos rfl, yw_n (by omega), yw_n (by omega), yw_p]
        · rw [if_neg hq, yw_n (by omega), yw_n (by omega), yw_n (by omega), yw_n (by omega), yw_n (by omega)]
      have u4 : ∀ i : Nat, (yw (yw (yw (yw (yw τ 9 (4 * m) h) 9 (4 * m + 1) k) 9 (4 * m + 2) p) 9 (4 * m + 3) d) 0 25 ((m : Int) + 1)).1 9 (4 * i + 3) = (if i = m then d else τ.1 9 (4 * i + 3)) := fun i => by
        by_cases hq : i = m
        · subst hq
          rw [if_pos rfl, yw_n (by omega), yw_p]
        · rw [if_neg hq, yw_n (by omega), yw_n (by omega), yw_n (by omega), yw_n (by omega), yw_n (by omega)]
      generalize yw (yw (yw (yw (yw σ (f + 1) m h) (f + 2) m k) (f + 3) m p) (f + 4) m d) f 0 ((m : Int) + 1) = S at cl vs v1 v2 v3 v4 c2 ⊢
      generalize yw (yw (yw (yw (yw τ 9 (4 * m) h) 9 (4 * m + 1) k) 9 (4 * m + 2) p) 9 (4 * m + 3) d) 0 25 ((m : Int) + 1) = U at o1 us u1 u2 u3 u4 ⊢
      refine ⟨yDY_fl c2 (fun a b z => cl a b (by rw [← hf]; exact z)) o1 H, ⟨by rw [vs, us], by rw [us]; omega, fun i hi => ?_⟩, c2, cl, o1⟩
      rw [us] at hi
      rw [v1, v2, v3, v4, u1, u2, u3, u4, o1 0 3 (by omega) (by omega), o1 0 5 (by omega) (by omega)]
      by_cases hq : i = m
      · simp only [hq, if_true]
        exact ⟨⟨trivial, trivial, trivial, trivial⟩, hh, hk, hp, hd⟩
      · simp only [hq, if_false]
        exact F3 i (by omega)
end
section
/-- one fall: what it leaves alone, and whether a deed is done -/
def yFW (t : Nat) (σ τ σ' τ' : yS) (r : Int) : Prop := σ'.2 = σ.2 ∧ (∀ a b : Nat, a < t ∨ t + 21 ≤ a → σ'.1 a b = σ.1 a b) ∧ yF8 τ τ' ∧ (∀ j : Nat, 77 ≤ j → j < 128 → τ'.1 2 j = τ.1 2 j) ∧ ((r = 0 ∧ τ'.1 0 26 = τ.1 0 26) ∨ (r = 1 ∧ τ'.1 0 26 = yad (τ.1 0 26) 1))
theorem yFal_cnt {σ τ : yS} {t f b k : Nat} {v w : Int} (hf : ¬ (f ≤ t ∧ t < f + 5)) (F : yFal σ τ f) : yFal (yw σ t b v) (yw τ 2 k w) f :=
  yFal_f (fun a b h1 h2 => yw_n (by omega)) ⟨yw_n (by omega), yw_n (by omega), yw_n (by omega)⟩ (fun b => yw_n (by omega)) F
theorem p_fall {N : Nat} {σ τ : yS} {t f i : Nat} (H : yDY σ τ t) (hf : σ.2 t 12 = f) (F : yFal σ τ f) (hi : (i : Int) < τ.1 2 77) {x y : Int} (hx : (x = -1 ∧ y = -4) ∨ (x = y ∧ 0 ≤ x ∧ x < τ.1 0 3)) : ∃ (r : Int) (σ' τ' : yS), f_X4_letFall N σ t i x = some (r, σ') ∧ f_X8_falls N τ y (τ.1 2 (79 + 4 * i)) (τ.1 2 (80 + 4 * i)) (τ.1 2 (81 + 4 * i)) = some (0, τ') ∧ yDY σ' τ' t ∧ yFal σ' τ' f ∧ yFW t σ τ σ' τ' r := by
  have H0 := H
  obtain ⟨⟨e0, e1, e2, b0, b1, b2, hc⟩, ⟨t1, t2, ⟨t3, t4⟩, -, ⟨d0, d1, d2, d3⟩, t7⟩, ⟨-, g1, g2, g3, -⟩, -⟩ := H0
  have hf2 : f = t + 8 ∨ f = t + 13 := by omega
  have g2 : 0 ≤ τ.1 2 77 ∧ τ.1 2 77 ≤ 10 := g2
  obtain ⟨v1, v2, v3, v4⟩ := t4 i hi
  obtain ⟨w1, w2, w3, w4⟩ := g3 i hi
  dsimp only at v1 v2 v3 v4 w1 w2 w3 w4 d1 d2
  rcases hx with ⟨rfl, rfl⟩ | ⟨rfl, hx0, hx1⟩
  · refine ⟨0, yw σ t 15 (yad (τ.1 2 128) 1), yw τ 2 (113 + 15) (yad (τ.1 2 128) 1), ?_, ?_, yDY_cnt H (by omega), yFal_cnt (by omega) F, rfl, fun a b z => yw_n (by omega), yF8_w yF8_r (by omega), fun j z y => yw_n (by omega), Or.inl ⟨rfl, yw_n (by omega)⟩⟩
    · simp [f_X4_letFall, ycP_ne, d1]
    · simp [f_X8_falls, f_X8_falls_b86, ycP_ne]
  · obtain ⟨h, rfl⟩ : ∃ h : Nat, x = (h : Int) := ⟨x.toNat, by omega⟩
    have h7 : h < 7 := by omega
    have l1 : yan (ysr (σ.1 t 6) (h : Int)) 1 = τ.1 2 (14 + h) := (t1 h h7).2.2.1
    have m1 : yad 14 (h : Int) = 14 + (h : Int) := yad_e (by omega) (by omega)
    have i1 : yin (14 + (h : Int)) 131 = true := by rw [yin_d]; exact decide_eq_true (by omega)
    have c1 : (14 + (h : Int)).toNat = 14 + h := by omega
    have i2 : yin (i : Int) 10 = true := by rw [yin_d]; exact decide_eq_true (by omega)
    have n1 : ¬ (h : Int) = -1 := by omega
    have n4 : ¬ (h : Int) = -4 := by omega
    by_cases hl : τ.1 2 (14 + h) = 1
    · refine ⟨0, yw σ t 16 (yad (τ.1 2 129) 1), yw τ 2 (113 + 16) (yad (τ.1 2 129) 1), ?_, ?_, yDY_cnt H (by omega), yFal_cnt (by omega) F, rfl, fun a b z => yw_n (by omega), yF8_w yF8_r (by omega), fun j z y => yw_n (by omega), Or.inl ⟨rfl, yw_n (by omega)⟩⟩
      · simp [f_X4_letFall, f_X4_letFall_b112, f_X4_letFall_b69, f_X7_bit, ycP_ne, ycP_le, i2, l1, n1, v2, v3, v4, hf, hl, d2]
      · simp [f_X8_falls, f_X8_falls_b86, f_X8_falls_b70, ycP_ne, ycP_le, m1, i1, c1, n4, hl]
    · by_cases hz : τ.1 2 (80 + 4 * i) ≤ 0
      · obtain ⟨d, hd⟩ : ∃ d : Nat, τ.1 2 (81 + 4 * i) = (d : Int) := ⟨(τ.1 2 (81 + 4 * i)).toNat, by omega⟩
        obtain ⟨r, σ', τ', c7, c8, K, k1, k2, k3, k4, k5⟩ := p_does (N := N) (k := τ.1 2 (79 + 4 * i)) H hx1 (show (d : Int) < τ.1 0 5 by omega)
        refine ⟨r, σ', τ', ?_, ?_, K, yFal_f (fun a b z y => k2 a b (by omega)) ⟨k3 _ _ (by omega) (by omega), k3 _ _ (by omega) (by omega), k3 _ _ (by omega) (by omega)⟩ (fun b => k3 _ _ (by omega) (by omega)) F, k1, fun a b z => k2 a b (by omega), fun a b z1 z2 z3 => k3 a b z1 (by omega), k4, k5⟩
        · have hr : yb1 r = true := by
            rw [yb1_d]
            exact decide_eq_true (by omega)
          simp [f_X4_letFall, f_X4_letFall_b112, f_X4_letFall_b69, f_X7_bit, ycP_ne, ycP_le, i2, l1, n1, v2, v3, v4, hf, hl, hz, hd, c7, hr]
        · simp [f_X8_falls, f_X8_falls_b86, f_X8_falls_b70, ycP_ne, ycP_le, m1, i1, c1, n4, hl, hz, hd, c8]
      · by_cases h9 : τ.1 2 (80 + 4 * i) = 9
        · rcases p_comes (N := N) H hf F (h := (h : Int)) (k := τ.1 2 (79 + 4 * i)) (p := 9) (d := τ.1 2 (81 + 4 * i)) (by omega) w2 (by omega) w4 with ⟨c7, c8⟩ | ⟨σ', τ', c7, c8, K, F', k1, k2, k3⟩
          · refine ⟨0, yw σ t 15 (yad (τ.1 2 128) 1), yw τ 2 (113 + 15) (yad (τ.1 2 128) 1), ?_, ?_, yDY_cnt H (by omega), yFal_cnt (by omega) F, rfl, fun a b z => yw_n (by omega), yF8_w yF8_r (by omega), fun j z y => yw_n (by omega), Or.inl ⟨rfl, yw_n (by omega)⟩⟩
            · simp [f_X4_letFall, f_X4_letFall_b112, f_X4_letFall_b69, f_X7_bit, ycP_ne, ycP_le, i2, l1, n1, v2, v3, v4, hf, hl, hz, h9, c7, d1]
            · simp [f_X8_falls, f_X8_falls_b86, f_X8_falls_b70, ycP_ne, ycP_le, m1, i1, c1, n4, hl, hz, h9, c8]
          · refine ⟨0, σ', τ', ?_, ?_, K, F', k1, fun a b z => k2 a b (by omega), fun a b z1 z2 z3 => k3 a b z2 (by omega), fun j z y => k3 2 j (by omega) (by omega), Or.inl ⟨rfl, k3 _ _ (by omega) (by omega)⟩⟩
            · simp [f_X4_letFall, f_X4_letFall_b112, f_X4_letFall_b69, f_X7_bit, ycP_ne, ycP_le, i2, l1, n1, v2, v3, v4, hf, hl, hz, h9, c7]
            · simp [f_X8_falls, f_X8_falls_b86, f_X8_falls_b70, ycP_ne, ycP_le, m1, i1, c1, n4, hl, hz, h9, c8]
        · rcases p_comes (N := N) H hf F (h := (h : Int)) (k := τ.1 2 (79 + 4 * i)) (p := ysu (τ.1 2 (80 + 4 * i)) 1) (d := τ.1 2 (81 + 4 * i)) (by omega) w2 (by rw [ysu_e (by omega) (by omega)]; omega) w4 with ⟨c7, c8⟩ | ⟨σ', τ', c7, c8, K, F', k1, k2, k3⟩
          · refine ⟨0, yw σ t 15 (yad (τ.1 2 128) 1), yw τ 2 (113 + 15) (yad (τ.1 2 128) 1), ?_, ?_, yDY_cnt H (by omega), yFal_cnt (by omega) F, rfl, fun a b z => yw_n (by omega), yF8_w yF8_r (by omega), fun j z y => yw_n (by omega), Or.inl ⟨rfl, yw_n (by omega)⟩⟩
            · simp [f_X4_letFall, f_X4_letFall_b112, f_X4_letFall_b69, f_X7_bit, ycP_ne, ycP_le, i2, l1, n1, v2, v3, v4, hf, hl, hz, h9, c7, d1]
            · simp [f_X8_falls, f_X8_falls_b86, f_X8_falls_b70, ycP_ne, ycP_le, m1, i1, c1, n4, hl, hz, h9, c8]
          · refine ⟨0, σ', τ', ?_, ?_, K, F', k1, fun a b z => k2 a b (by omega), fun a b z1 z2 z3 => k3 a b z2 (by omega), fun j z y => k3 2 j (by omega) (by omega), Or.inl ⟨rfl, k3 _ _ (by omega) (by omega)⟩⟩
            · simp [f_X4_letFall, f_X4_letFall_b112, f_X4_letFall_b69, f_X7_bit, ycP_ne, ycP_le, i2, l1, n1, v2, v3, v4, hf, hl, hz, h9, c7]
            · simp [f_X8_falls, f_X8_falls_b86, f_X8_falls_b70, ycP_ne, ycP_le, m1, i1, c1, n4, hl, hz, h9, c8]
end
section
theorem yrm7 : ∀ H : Fin 8, ∀ h : Fin 7, 2 ≤ H.val → h.val < H.val → (0 ≤ yrm (yad (yad ((h.val : Nat) : Int) (-1)) ((H.val : Nat) : Int)) ((H.val : Nat) : Int) ∧ yrm (yad (yad ((h.val : Nat) : Int) (-1)) ((H.val : Nat) : Int)) ((H.val : Nat) : Int) < ((H.val : Nat) : Int)) ∧ (0 ≤ yrm (yad (yad ((h.val : Nat) : Int) 1) ((H.val : Nat) : Int)) ((H.val : Nat) : Int) ∧ yrm (yad (yad ((h.val : Nat) : Int) 1) ((H.val : Nat) : Int)) ((H.val : Nat) : Int) < ((H.val : Nat) : Int)) ∧ (0 ≤ yrm (yad (yad ((h.val : Nat) : Int) 2) ((H.val : Nat) : Int)) ((H.val : Nat) : Int) ∧ yrm (yad (yad ((h.val : Nat) : Int) 2) ((H.val : Nat) : Int)) ((H.val : Nat) : Int) < ((H.val : Nat) : Int)) := by decide +kernel
theorem p_where {N : Nat} {σ τ : yS} {t : Nat} (R : yRH σ τ t) {h s : Int} (hh : 0 ≤ h ∧ h < τ.1 0 3) (hs : s = -1 ∨ s = 1 ∨ s = 2) : ∃ x y : Int, f_X4_whereFalls N σ t h s = some (x, σ) ∧ f_X8_off N τ h s = some (y, τ) ∧ ((x = -1 ∧ y = -4) ∨ (x = y ∧ 0 ≤ x ∧ x < τ.1 0 3)) := by
  obtain ⟨e0, e1, e2, b0, b1, b2, hc⟩ := R
  have ea : yad h s = h + s := yad_e (by omega) (by omega)
  have eb : ysu (τ.1 0 3) 1 = τ.1 0 3 - 1 := ysu_e (by omega) (by omega)
  by_cases hr : τ.1 0 4 = 0
  · simp only [f_X4_whereFalls, f_X4_whereFalls_b30, f_X4_whereFalls_b47, f_X4_whereFalls_b48, f_X8_off, f_X8_off_b45, ycP_eq, ycP_gt, ycP_ge, e0, e1, hr, decide_true, cond_true, x8_in, ea, eb]
    by_cases h1 : 0 ≤ h + s ∧ h + s ≤ τ.1 0 3 - 1
    · exact ⟨h + s, h + s, by simp [show ¬ h + s < 0 by omega, show ¬ τ.1 0 3 ≤ h + s by omega], by simp [h1], Or.inr ⟨rfl, by omega, by omega⟩⟩
    · refine ⟨-1, -4, ?_, by simp [h1], Or.inl ⟨rfl, rfl⟩⟩
      by_cases h2 : h + s < 0
      · simp [h2]
      · simp [h2, show τ.1 0 3 ≤ h + s by omega]
  · have hnz : ynz (τ.1 0 3) = true := by
      rw [ynz_d]
      exact decide_eq_true (by omega)
    have q := yrm7 ⟨(τ.1 0 3).toNat, by omega⟩ ⟨h.toNat, by omega⟩ (by show 2 ≤ (τ.1 0 3).toNat; omega) (by show h.toNat < (τ.1 0 3).toNat; omega)
    simp only [show (((τ.1 0 3).toNat : Nat) : Int) = τ.1 0 3 by omega, show ((h.toNat : Nat) : Int) = h by omega] at q
    refine ⟨yrm (yad (yad h s) (τ.1 0 3)) (τ.1 0 3), yrm (yad (yad h s) (τ.1 0 3)) (τ.1 0 3), ?_, ?_, Or.inr ⟨rfl, ?_⟩⟩
    · simp [f_X4_whereFalls, ycP_eq, ycP_le, e0, e1, hr, hnz, show ¬ τ.1 0 3 ≤ 0 by omega]
    · simp [f_X8_off, ycP_eq, hr, hnz]
    · rcases hs with rfl | rfl | rfl
      · exact q.1
      · exact q.2.1
      · exact q.2.2
theorem p_step {N : Nat} {σ τ : yS} {k i : Int} : ∃ s : Int, f_X4_stepOf N σ k i = some (s, σ) ∧ f_X8_byOf N τ k i = some (s, τ) ∧ (s = -1 ∨ s = 1 ∨ s = 2) := by
  simp only [f_X4_stepOf, f_X4_stepOf_b14, f_X4_stepOf_b16, f_X4_stepOf_b26, f_X8_byOf, f_X8_byOf_b14, f_X8_byOf_b34, ycP_eq, ycP_ne]
  by_cases h1 : k = 1
  · exact ⟨-1, by simp [h1], by simp [h1], by omega⟩
  by_cases h3 : k = 3
  · by_cases hi : i = 0
    · exact ⟨-1, by simp [h3, hi], by simp [h3, hi], by omega⟩
    · exact ⟨1, by simp [h3, hi], by simp [h3, hi], by omega⟩
  by_cases h2 : k = 2
  · exact ⟨2, by simp [h2], by simp [h2], by omega⟩
  · exact ⟨1, by simp [h1, h2, h3], by simp [h1, h2, h3], by omega⟩
theorem x4_fallsOf {N : Nat} {σ : yS} {k : Int} : f_X4_fallsOf N σ k = some (if k = 3 then 2 else 1, σ) := by
  simp only [f_X4_fallsOf, f_X4_fallsOf_b10, ycP_ne]
  by_cases h : k = 3
  · simp [h]
  · simp [h]
theorem x8_fallsOf {N : Nat} {σ : yS} {k : Int} : f_X8_fallsOf N σ k = some (if k = 3 then 2 else 1, σ) := by
  simp only [f_X8_fallsOf, f_X8_fallsOf_b10, ycP_ne]
  by_cases h : k = 3
  · simp [h]
  · simp [h]
/-- many falls: what they leave alone, and how many deeds are done -/
def yAc (t : Nat) (σ τ σ' τ' : yS) (c z : Int) : Prop := σ'.2 = σ.2 ∧ (∀ a b : Nat, a < t ∨ t + 21 ≤ a → σ'.1 a b = σ.1 a b) ∧ yF8 τ τ' ∧ (∀ j : Nat, 77 ≤ j → j < 128 → τ'.1 2 j = τ.1 2 j) ∧ (0 ≤ z ∧ z ≤ c) ∧ (0 ≤ τ.1 0 26 → τ.1 0 26 + c ≤ 2147483647 → τ'.1 0 26 = τ.1 0 26 + z)
theorem yAc_r {t : Nat} {σ τ : yS} : yAc t σ τ σ τ 0 0 := ⟨rfl, fun _ _ _ => rfl, yF8_r, fun _ _ _ => rfl, by omega, fun _ _ => by omega⟩
theorem yAc_s {t : Nat} {σ τ σ' τ' : yS} {r : Int} (h : yFW t σ τ σ' τ' r) : yAc t σ τ σ' τ' 1 r := by
  obtain ⟨h1, h2, h3, h4, h5⟩ := h
  refine ⟨h1, h2, h3, h4, by omega, fun k1 k2 => ?_⟩
  rcases h5 with ⟨rfl, h5⟩ | ⟨rfl, h5⟩
  · rw [h5]; omega
  · rw [h5, yad_e (by omega) (by omega)]
theorem yAc_t {t : Nat} {σ τ σ1 τ1 σ2 τ2 : yS} {c z c2 z2 : Int} (h : yAc t σ τ σ1 τ1 c z) (k : yAc t σ1 τ1 σ2 τ2 c2 z2) : yAc t σ τ σ2 τ2 (c + c2) (z + z2) := by
  obtain ⟨h1, h2, h3, h4, h5, h6⟩ := h
  obtain ⟨k1, k2, k3, k4, k5, k6⟩ := k
  refine ⟨k1.trans h1, fun a b q => by rw [k2 a b q, h2 a b q], yF8_t h3 k3, fun j x y => by rw [k4 j x y, h4 j x y], by omega, fun x y => ?_⟩
  have e := h6 x (by omega)
  have e2 := k6 (by omega) (by omega)
  omega
theorem yAc_w {t : Nat} {σ τ σ1 τ1 : yS} {c c2 z : Int} (h : yAc t σ τ σ1 τ1 c z) (hc : c ≤ c2) : yAc t σ τ σ1 τ1 c2 z := by
  obtain ⟨h1, h2, h3, h4, h5, h6⟩ := h
  exact ⟨h1, h2, h3, h4, by omega, fun x y => h6 x (by omega)⟩
/-- one turn of the inner loops -/
theorem p_turn {N : Nat} {σ τ : yS} {t f i k : Nat} {o : Int} (k12 : yS → Nat → Int → Int → Option (Int × yS)) (k7 : yS → Int → Option (Int × yS)) (H : yDY σ τ t) (hf : σ.2 t 12 = f) (F : yFal σ τ f) (hi : (i : Int) < τ.1 2 77) (hk : (k : Int) < (if τ.1 2 (79 + 4 * i) = 3 then 2 else 1)) (ho : 0 ≤ o ∧ o ≤ 1000) : ∃ (r : Int) (σ' τ' : yS), (∀ n : Nat, f_X4_passDay_b36 N k12 (n + 1) σ t o i (τ.1 2 (79 + 4 * i)) k = f_X4_passDay_b36 N k12 n σ' t (o + r) i (τ.1 2 (79 + 4 * i)) ((k + 1 : Nat) : Int)) ∧ (∀ n : Nat, f_X8_days_b27 N k7 (n + 1) τ i ((78 + 4 * i : Nat) : Int) k = f_X8_days_b27 N k7 n τ' i ((78 + 4 * i : Nat) : Int) ((k + 1 : Nat) : Int)) ∧ yDY σ' τ' t ∧ yFal σ' τ' f ∧ yAc t σ τ σ' τ' 1 r := by
  have H0 := H
  obtain ⟨R, ⟨t1, t2, ⟨t3, t4⟩, -, -, t7⟩, ⟨-, g1, g2, g3, -⟩, -⟩ := H0
  have g2 : 0 ≤ τ.1 2 77 ∧ τ.1 2 77 ≤ 10 := g2
  obtain ⟨v1, v2, v3, v4⟩ := t4 i hi
  obtain ⟨w1, w2, w3, w4⟩ := g3 i hi
  dsimp only at v1 v2 v3 v4 w1 w2 w3 w4
  obtain ⟨s, s7, s8, hs⟩ := p_step (N := N) (σ := σ) (τ := τ) (k := τ.1 2 (79 + 4 * i)) (i := (k : Int))
  obtain ⟨x, y, x7, x8, hxy⟩ := p_where (N := N) R w1 hs
  obtain ⟨r, σ', τ', c7, c8, K, F', W⟩ := p_fall (N := N) H hf F hi hxy
  have hr := W.2.2.2.2
  have hk2 : k < 2 := by
    by_cases q : τ.1 2 (79 + 4 * i) = 3
    · rw [if_pos q] at hk; omega
    · rw [if_neg q] at hk; omega
  have ek : yad (k : Int) 1 = ((k + 1 : Nat) : Int) := by rw [yad_e (by omega) (by omega)]; omega
  have i2 : yin (i : Int) 10 = true := by rw [yin_d]; exact decide_eq_true (by omega)
  have m1 : yad ((78 + 4 * i : Nat) : Int) 1 = ((79 + 4 * i : Nat) : Int) := by rw [yad_e (by omega) (by omega)]; omega
  have m2 : yad ((78 + 4 * i : Nat) : Int) 2 = ((80 + 4 * i : Nat) : Int) := by rw [yad_e (by omega) (by omega)]; omega
  have m3 : yad ((78 + 4 * i : Nat) : Int) 3 = ((81 + 4 * i : Nat) : Int) := by rw [yad_e (by omega) (by omega)]; omega
  have j0 : yin ((78 + 4 * i : Nat) : Int) 131 = true := by rw [yin_d]; exact decide_eq_true (by omega)
  have j1 : yin ((79 + 4 * i : Nat) : Int) 131 = true := by rw [yin_d]; exact decide_eq_true (by omega)
  have j2 : yin ((80 + 4 * i : Nat) : Int) 131 = true := by rw [yin_d]; exact decide_eq_true (by omega)
  have j3 : yin ((81 + 4 * i : Nat) : Int) 131 = true := by rw [yin_d]; exact decide_eq_true (by omega)
  have hg : decide ((if τ.1 2 (79 + 4 * i) = 3 then 2 else 1) ≤ (k : Int)) = false := decide_eq_false (by omega)
  refine ⟨r, σ', τ', fun n => ?_, fun n => ?_, K, F', yAc_s W⟩
  · rw [q_X4_passDay_b36]
    simp only [x4_fallsOf, ycP_ge, ycP_eq, hg, cond_false, i2, cond_true, Int.toNat_natCast, v1, s7, x7, c7, f_X4_passDay_b82, ek]
    rcases hr with ⟨rfl, -⟩ | ⟨rfl, -⟩
    · rw [yad_e (a := o) (b := 0) (by omega) (by omega)]; rfl
    · rw [yad_e (a := o) (b := 1) (by omega) (by omega)]; rfl
  · rw [q_X8_days_b27]
    simp only [m1, m2, m3, j0, j1, j2, j3, cond_true, Int.toNat_natCast, x8_fallsOf, ycP_ge, hg, cond_false, s8, x8, c8, ek]
end
section
theorem p_vowf {N : Nat} (hN : 3 ≤ N) {σ τ : yS} {t f i : Nat} {o : Int} (k12 : yS → Nat → Int → Int → Option (Int × yS)) (k7 : yS → Int → Option (Int × yS)) (H : yDY σ τ t) (hf : σ.2 t 12 = f) (F : yFal σ τ f) (hi : (i : Int) < τ.1 2 77) (ho : 0 ≤ o ∧ o ≤ 900) : ∃ (z : Int) (σ' τ' : yS), f_X4_passDay_b36 N k12 N σ t o i (τ.1 2 (79 + 4 * i)) 0 = k12 σ' t (o + z) ((i + 1 : Nat) : Int) ∧ f_X8_days_b27 N k7 N τ i ((78 + 4 * i : Nat) : Int) 0 = k7 τ' ((i + 1 : Nat) : Int) ∧ yDY σ' τ' t ∧ yFal σ' τ' f ∧ yAc t σ τ σ' τ' 2 z := by
  obtain ⟨n, hn⟩ : ∃ n, N = n + 3 := ⟨N - 3, by omega⟩
  have g2 : 0 ≤ τ.1 2 77 ∧ τ.1 2 77 ≤ 10 := H.2.2.1.2.2.1
  have ei : yad (i : Int) 1 = ((i + 1 : Nat) : Int) := by rw [yad_e (by omega) (by omega)]; omega
  have m1 : yad ((78 + 4 * i : Nat) : Int) 1 = ((79 + 4 * i : Nat) : Int) := by rw [yad_e (by omega) (by omega)]; omega
  have j1 : yin ((79 + 4 * i : Nat) : Int) 131 = true := by rw [yin_d]; exact decide_eq_true (by omega)
  have x7 : ∀ (m : Nat) (σ1 : yS) (o1 k : Int), (if τ.1 2 (79 + 4 * i) = 3 then 2 else 1) ≤ k → f_X4_passDay_b36 N k12 (m + 1) σ1 t o1 i (τ.1 2 (79 + 4 * i)) k = k12 σ1 t o1 ((i + 1 : Nat) : Int) := fun m σ1 o1 k hk => by
    rw [q_X4_passDay_b36]
    simp only [x4_fallsOf, ycP_ge, decide_eq_true hk, cond_true, ei]
  have x8 : ∀ (m : Nat) (τ1 : yS) (k : Int), τ1.1 2 (79 + 4 * i) = τ.1 2 (79 + 4 * i) → (if τ.1 2 (79 + 4 * i) = 3 then 2 else 1) ≤ k → f_X8_days_b27 N k7 (m + 1) τ1 i ((78 + 4 * i : Nat) : Int) k = k7 τ1 ((i + 1 : Nat) : Int) := fun m τ1 k hq hk => by
    rw [q_X8_days_b27]
    simp only [m1, j1, cond_true, Int.toNat_natCast, x8_fallsOf, ycP_ge, hq, decide_eq_true hk, ei]
  obtain ⟨r, σ1, τ1, c7, c8, K1, F1, A1⟩ := p_turn (N := N) (i := i) (k := 0) (o := o) k12 k7 H hf F hi (by split <;> simp) (by omega)
  have a1 := A1.2.2.2.2.1
  have e1 : τ1.1 2 (79 + 4 * i) = τ.1 2 (79 + 4 * i) := A1.2.2.2.1 _ (by omega) (by omega)
  have e77 : τ1.1 2 77 = τ.1 2 77 := A1.2.2.2.1 _ (by omega) (by omega)
  by_cases h3 : τ.1 2 (79 + 4 * i) = 3
  · obtain ⟨r2, σ2, τ2, d7, d8, K2, F2, A2⟩ := p_turn (N := N) (i := i) (k := 1) (o := o + r) k12 k7 K1 (by rw [A1.1]; exact hf) F1 (by rw [e77]; exact hi) (by rw [e1, if_pos h3]; simp) (by omega)
    have e2 : τ2.1 2 (79 + 4 * i) = τ1.1 2 (79 + 4 * i) := A2.2.2.2.1 _ (by omega) (by omega)
    rw [e1] at d7
    refine ⟨r + r2, σ2, τ2, ?_, ?_, K2, F2, yAc_t A1 A2⟩
    · have q := c7 (n + 2)
      rw [show n + 2 + 1 = N by omega] at q
      refine q.trans ((d7 (n + 1)).trans ?_)
      rw [x7 n σ2 _ _ (by rw [if_pos h3]; simp), Int.add_assoc]
    · have q := c8 (n + 2)
      rw [show n + 2 + 1 = N by omega] at q
      refine q.trans ((d8 (n + 1)).trans ?_)
      exact x8 n τ2 _ (e2.trans e1) (by rw [if_pos h3]; simp)
  · refine ⟨r, σ1, τ1, ?_, ?_, K1, F1, yAc_w A1 (by omega)⟩
    · have q := c7 (n + 2)
      rw [show n + 2 + 1 = N by omega] at q
      refine q.trans ?_
      exact x7 (n + 1) σ1 _ _ (by rw [if_neg h3]; simp)
    · have q := c8 (n + 2)
      rw [show n + 2 + 1 = N by omega] at q
      refine q.trans ?_
      exact x8 (n + 1) τ1 _ e1 (by rw [if_neg h3]; simp)
theorem p_vowsf {N : Nat} (hN : 3 ≤ N) {t f : Nat} : ∀ (c n m i : Nat) (σ τ : yS) (o : Int), yDY σ τ t → σ.2 t 12 = f → yFal σ τ f → ((i + c : Nat) : Int) = τ.1 2 77 → 0 ≤ o → o + 2 * c ≤ 900 → ∃ (z : Int) (σ' τ' : yS), f_X4_passDay_b12 N (n + c) σ t o i = f_X4_passDay_b12 N n σ' t (o + z) ((i + c : Nat) : Int) ∧ f_X8_days_b7 N (m + c) τ i = f_X8_days_b7 N m τ' ((i + c : Nat) : Int) ∧ yDY σ' τ' t ∧ yFal σ' τ' f ∧ yAc t σ τ σ' τ' (2 * c) z
  | 0, n, m, i, σ, τ, o, H, hf, F, hi, h0, h9 => ⟨0, σ, τ, by rw [Int.add_zero, Nat.add_zero, Nat.add_zero], by rw [Nat.add_zero, Nat.add_zero], H, F, yAc_r⟩
  | c + 1, n, m, i, σ, τ, o, H, hf, F, hi, h0, h9 => by
    have g2 : 0 ≤ τ.1 2 77 ∧ τ.1 2 77 ≤ 10 := H.2.2.1.2.2.1
    have t3 : σ.1 (σ.2 t 11) 0 = τ.1 2 77 := H.2.1.2.2.1.1
    have hlt : (i : Int) < τ.1 2 77 := by omega
    have v2 : σ.1 (σ.2 t 11 + 2) i = τ.1 2 (79 + 4 * i) := (H.2.1.2.2.1.2 i hlt).2.1
    obtain ⟨z, σ1, τ1, c7, c8, K1, F1, A1⟩ := p_vowf (N := N) hN (i := i) (o := o) (f_X4_passDay_b12 N (n + c)) (f_X8_days_b7 N (m + c)) H hf F hlt (by omega)
    have a1 := A1.2.2.2.2.1
    have e77 : τ1.1 2 77 = τ.1 2 77 := A1.2.2.2.1 _ (by omega) (by omega)
    obtain ⟨z2, σ2, τ2, d7, d8, K2, F2, A2⟩ := p_vowsf hN c n m (i + 1) σ1 τ1 (o + z) K1 (by rw [A1.1]; exact hf) F1 (by rw [e77]; omega) (by omega) (by omega)
    have em : yad 78 (ymu 4 (i : Int)) = ((78 + 4 * i : Nat) : Int) := by
      rw [ymu_e (by omega) (by omega), yad_e (by omega) (by omega)]; omega
    have i2 : yin (i : Int) 10 = true := by rw [yin_d]; exact decide_eq_true (by omega)
    have A3 := yAc_w (c2 := 2 * ((c + 1 : Nat) : Int)) (yAc_t A1 A2) (by omega)
    rw [show i + (c + 1) = i + 1 + c by omega]
    refine ⟨z + z2, σ2, τ2, ?_, ?_, K2, F2, A3⟩
    · rw [show n + (c + 1) = (n + c) + 1 by omega, q_X4_passDay_b12]
      simp only [ycP_ge, t3, decide_eq_false (show ¬ τ.1 2 77 ≤ (i : Int) by omega), cond_false, i2, cond_true, Int.toNat_natCast, v2, c7, d7]
      rw [Int.add_assoc]
    · rw [show m + (c + 1) = (m + c) + 1 by omega, q_X8_days_b7]
      simp only [ycP_ge, decide_eq_false (show ¬ τ.1 2 77 ≤ (i : Int) by omega), cond_false, em, c8, d8]
end
section
theorem x8_dcopy_l {N n : Nat} {τ : yS} {c : Nat} (hc : c ≤ 40) (h25 : ymu 4 (τ.1 0 25) = (c : Int)) : ∀ j i : Nat, i + j = c → f_X8_days_b117 N (n + j + 1) (ycp τ 9 2 0 78 i) (i : Int) = some (0, yw (ycp τ 9 2 0 78 c) 2 127 (yad ((ycp τ 9 2 0 78 c).1 2 127) 1))
  | 0, i, h => by
    have e : i = c := by omega
    subst e
    rw [q_X8_days_b117, ycp_n (a := 0) (b := 25) (by omega), h25]
    simp [ycP_ge]
  | j + 1, i, h => by
    have e3 : yad (i : Int) 1 = ((i + 1 : Nat) : Int) := by rw [yad_e (by omega) (by omega)]; omega
    have e4 : yad 78 (i : Int) = ((78 + i : Nat) : Int) := by rw [yad_e (by omega) (by omega)]; omega
    have s := ycp_s (τ := τ) (i0 := 9) (i1 := 2) (b := 0) (a := 78) (Or.inl (by omega)) (show i < 131 by omega)
    rw [Nat.zero_add] at s
    rw [q_X8_days_b117, ycp_n (a := 0) (b := 25) (by omega), h25, e3, e4, Int.toNat_natCast, Int.toNat_natCast, s]
    simp only [ycP_ge, yin_d]
    rw [decide_eq_false (show ¬ (c : Int) ≤ (i : Int) by omega), decide_eq_true (show 0 ≤ (i : Int) ∧ (i : Int) < ((40 : Nat) : Int) by omega), decide_eq_true (show 0 ≤ ((78 + i : Nat) : Int) ∧ ((78 + i : Nat) : Int) < ((131 : Nat) : Int) by omega)]
    simp only [cond_false, cond_true]
    exact x8_dcopy_l (N := N) (n := n) hc h25 j (i + 1) (by omega)
/-- the fallen row becomes the vows -/
theorem yDY_turn {σ τ σ' τ' : yS} {t f v : Nat} {D : Int} (H : yDY σ τ t) (hf : σ.2 t 12 = f) (hv : σ.2 t 11 = v) (F : yFal σ τ f) (c11 : σ'.2 t 11 = f) (c12 : σ'.2 t 12 = v) (c : ∀ a b : Nat, ¬ (a = t ∧ b = 14) → σ'.1 a b = σ.1 a b) (cd : σ'.1 t 14 = D) (o : ∀ a b : Nat, ¬ a = 2 → τ'.1 a b = τ.1 a b) (o2 : ∀ j : Nat, j < 77 ∨ (118 ≤ j ∧ ¬ j = 127) → τ'.1 2 j = τ.1 2 j) (o77 : τ'.1 2 77 = τ.1 0 25) (o78 : ∀ j : Nat, (j : Int) < 4 * τ.1 0 25 → τ'.1 2 (78 + j) = τ.1 9 j) (od : τ'.1 2 127 = D) : yDY σ' τ' t := by
  obtain ⟨R, ⟨t1, t2, ⟨t3, t4⟩, ⟨t5, t6⟩, ⟨d0, d1, d2, d3⟩, t7⟩, ⟨g0, g1, g2, g3, g4, g5⟩, K0⟩ := H
  obtain ⟨F1, F2, F3⟩ := F
  have hf2 : f = t + 8 ∨ f = t + 13 := by omega
  have g4 : 0 ≤ τ.1 2 118 ∧ τ.1 2 118 ≤ 4 := g4
  have w1 : ∀ i : Nat, (i : Int) < τ.1 0 25 → τ'.1 2 (78 + 4 * i) = τ.1 9 (4 * i) ∧ τ'.1 2 (79 + 4 * i) = τ.1 9 (4 * i + 1) ∧ τ'.1 2 (80 + 4 * i) = τ.1 9 (4 * i + 2) ∧ τ'.1 2 (81 + 4 * i) = τ.1 9 (4 * i + 3) := fun i hi =>
    ⟨o78 _ (by omega), by rw [show 79 + 4 * i = 78 + (4 * i + 1) by omega]; exact o78 _ (by omega), by rw [show 80 + 4 * i = 78 + (4 * i + 2) by omega]; exact o78 _ (by omega), by rw [show 81 + 4 * i = 78 + (4 * i + 3) by omega]; exact o78 _ (by omega)⟩
  refine ⟨yRH_f ⟨c _ _ (by omega), c _ _ (by omega), c _ _ (by omega)⟩ (fun b => c _ _ (by omega)) ⟨o _ _ (by omega), o _ _ (by omega), o _ _ (by omega)⟩ (fun b => o _ _ (by omega)) R, ⟨fun i hi => ?_, fun j hj => ?_, ⟨?_, fun i hi => ?_⟩, ⟨?_, fun i hi => ?_⟩, ⟨?_, ?_, ?_, ?_⟩, ?_⟩, ⟨?_, fun i hi => ?_, ?_, fun i hi => ?_, ?_, fun i hi => ?_⟩, ?_⟩
  all_goals try dsimp only
  · rw [c (t + 2) _ (by omega), c (t + 3) _ (by omega), c t 6 (by omega), c (t + 4) _ (by omega), c (t + 5) _ (by omega), c (t + 6) _ (by omega), o2 i (by omega), o2 (7 + i) (by omega), o2 (14 + i) (by omega), o2 (21 + i) (by omega), o2 (28 + i) (by omega), o2 (35 + i) (by omega)]
    exact t1 i hi
  · rw [c _ _ (by omega), o2 _ (by omega)]; exact t2 j hj
  · rw [c11, c _ _ (by omega), o77]; exact F1
  · dsimp only at hi
    rw [o77] at hi
    rw [c11, c _ _ (by omega), c _ _ (by omega), c _ _ (by omega), c _ _ (by omega), (w1 i hi).1, (w1 i hi).2.1, (w1 i hi).2.2.1, (w1 i hi).2.2.2]
    exact (F3 i hi).1
  · rw [c _ _ (by omega), o2 _ (by omega)]; exact t5
  · dsimp only at hi
    rw [o2 _ (by omega)] at hi
    rw [c _ _ (by omega), c _ _ (by omega), o2 _ (by omega), o2 _ (by omega)]; exact t6 i hi
  · rw [cd, od]
  · rw [c _ _ (by omega), o2 _ (by omega)]; exact d1
  · rw [c _ _ (by omega), o2 _ (by omega)]; exact d2
  · rw [c _ _ (by omega), o2 _ (by omega)]; exact d3
  · rw [c11, c12]; omega
  · rw [c _ _ (by omega)]; exact g0
  · rw [o2 (7 + i) (by omega), o2 (14 + i) (by omega), o2 (21 + i) (by omega), o2 (28 + i) (by omega), o2 (35 + i) (by omega)]; exact g1 i hi
  · rw [o77]; exact F2
  · dsimp only at hi
    rw [o77] at hi
    rw [(w1 i hi).1, (w1 i hi).2.1, (w1 i hi).2.2.1, (w1 i hi).2.2.2, o 0 3 (by omega), o 0 5 (by omega)]
    exact (F3 i hi).2
  · rw [o2 _ (by omega)]; exact g4
  · dsimp only at hi
    rw [o2 118 (by omega)] at hi
    have hi2 : (i : Int) < τ.1 2 118 := hi
    rw [o2 _ (by omega), o2 _ (by omega), o 0 3 (by omega), o 0 5 (by omega)]; exact g5 i hi
  · rw [o 0 3 (by omega), o 0 5 (by omega)]
    exact yGk_cong (fun j hj => o2 j (by omega)) K0
/-- a day -/
theorem p_day {N : Nat} (hN : 42 ≤ N) {σ τ : yS} {t : Nat} (H : yDY σ τ t) : ∃ (z : Int) (σ' τ' : yS), f_X4_passDay N σ t = some (z, σ') ∧ f_X8_days N τ = some (0, τ') ∧ yDY σ' τ' t ∧ yF7 t σ σ' ∧ yF8 τ τ' ∧ (0 ≤ z ∧ z ≤ 20) ∧ (0 ≤ τ.1 0 26 → τ.1 0 26 ≤ 2000000000 → τ'.1 0 26 = τ.1 0 26 + z) ∧ τ'.1 2 127 = yad (τ.1 2 127) 1 := by
  obtain ⟨f, hf⟩ : ∃ f : Nat, σ.2 t 12 = f := ⟨_, rfl⟩
  obtain ⟨v, hv⟩ : ∃ v : Nat, σ.2 t 11 = v := ⟨_, rfl⟩
  have g2 : 0 ≤ τ.1 2 77 ∧ τ.1 2 77 ≤ 10 := H.2.2.1.2.2.1
  have t7 := H.2.1.2.2.2.2.2
  rw [hf, hv] at t7
  have H1 : yDY (yw σ f 0 0) (yw τ 0 25 0) t := yDY_fl (σ := σ) (τ := τ) rfl (fun a b z => yw_n (by omega)) (fun a b x y => yw_n (by omega)) H
  have F1 : yFal (yw σ f 0 0) (yw τ 0 25 0) f := ⟨by rw [yw_p, yw_p], by rw [yw_p]; omega, fun i hi => by rw [yw_p] at hi; omega⟩
  obtain ⟨c, hc⟩ : ∃ c : Nat, τ.1 2 77 = (c : Int) := ⟨(τ.1 2 77).toNat, by omega⟩
  have e77 : (yw τ 0 25 0).1 2 77 = (c : Int) := by rw [yw_n (by omega)]; exact hc
  obtain ⟨z, σ1, τ1, c7, c8, K1, F2, A1⟩ := p_vowsf (N := N) (by omega) c (N - c) (N - c) 0 (yw σ f 0 0) (yw τ 0 25 0) 0 H1 hf F1 (by rw [e77]; omega) (by omega) (by omega)
  obtain ⟨a1, a2, a3, a4, a5, a6⟩ := A1
  have d77 : τ1.1 2 77 = (c : Int) := by rw [a4 77 (by omega) (by omega)]; exact e77
  have s11 : σ1.2 t 11 = v := by rw [a1, yw_2]; exact hv
  have s12 : σ1.2 t 12 = f := by rw [a1, yw_2]; exact hf
  have t3 : σ1.1 v 0 = (c : Int) := by
    have q : σ1.1 (σ1.2 t 11) 0 = τ1.1 2 77 := K1.2.1.2.2.1.1
    rw [s11, d77] at q
    exact q
  have m25 := F2.2.1
  obtain ⟨m, hm⟩ : ∃ m : Nat, τ1.1 0 25 = (m : Int) := ⟨(τ1.1 0 25).toNat, by omega⟩
  have e25 : ymu 4 ((yw τ1 2 77 (m : Int)).1 0 25) = ((4 * m : Nat) : Int) := by
    rw [yw_n (by omega), hm, ymu_e (by omega) (by omega)]; omega
  have cp := x8_dcopy_l (N := N) (n := N - (4 * m + 1)) (τ := yw τ1 2 77 (m : Int)) (c := 4 * m) (by omega) e25 (4 * m) 0 (by omega)
  rw [ycp_0, show N - (4 * m + 1) + 4 * m + 1 = N by omega] at cp
  have d14 : σ1.1 t 14 = τ1.1 2 127 := K1.2.1.2.2.2.2.1.1
  have r27 : (ycp (yw τ1 2 77 (m : Int)) 9 2 0 78 (4 * m)).1 2 127 = τ1.1 2 127 := by rw [ycp_n (by omega), yw_n (by omega)]
  rw [r27] at cp
  rw [Int.zero_add, Nat.zero_add, show N - c + c = N by omega] at c7
  rw [Nat.zero_add, show N - c + c = N by omega] at c8
  have D27 : τ1.1 2 127 = τ.1 2 127 := by rw [a4 127 (by omega) (by omega), yw_n (by omega)]
  refine ⟨z, yw (yq (yq σ1 t 11 f) t 12 v) t 14 (yad (τ1.1 2 127) 1), yw (ycp (yw τ1 2 77 (m : Int)) 9 2 0 78 (4 * m)) 2 127 (yad (τ1.1 2 127) 1), ?_, ?_, ?_, ⟨fun a b q => ?_, fun a b q => ?_⟩, fun a b x y q => ?_, ?_, fun x y => ?_, ?_⟩
  · unfold f_X4_passDay
    rw [hf]
    refine c7.trans ?_
    rw [show N - c = (N - c - 1) + 1 by omega, q_X4_passDay_b12, s11, s12, t3]
    simp only [ycP_ge, decide_eq_true (Int.le_refl (c : Int)), cond_true, f_X4_passDay_b116, yq_1, d14]
  · unfold f_X8_days
    refine c8.trans ?_
    rw [show N - c = (N - c - 1) + 1 by omega, q_X8_days_b7, d77]
    simp only [ycP_ge, decide_eq_true (Int.le_refl (c : Int)), cond_true, hm]
    exact cp
  · refine yDY_turn (D := yad (τ1.1 2 127) 1) K1 s12 s11 F2 ?_ ?_ (fun a b q => ?_) yw_p (fun a b q => ?_) (fun j q => ?_) ?_ (fun j q => ?_) yw_p
    · simp [yw_2, yq_2]
    · simp [yw_2, yq_2]
    · rw [yw_n (by omega)]; rfl
    · rw [yw_n (by omega), ycp_n (by omega), yw_n (by omega)]
    · rw [yw_n (by omega), ycp_n (by omega), yw_n (by omega)]
    · rw [yw_n (by omega), ycp_n (by omega), yw_p, hm]
    · rw [hm] at q
      rw [yw_n (by omega), ycp_1, if_pos ⟨rfl, by omega, by omega⟩, yw_n (by omega), show 0 + (78 + j - 78) = j by omega]
  · rw [yw_n (by omega)]
    show σ1.1 a b = σ.1 a b
    rw [a2 a b q, yw_n (by omega)]
  · show (yq (yq σ1 t 11 f) t 12 v).2 a b = σ.2 a b
    rw [yq_2, if_neg (by omega), yq_2, if_neg (by omega), a1, yw_2]
  · rw [yw_n (by omega), ycp_n (by omega), yw_n (by omega), a3 a b x y q, yw_n (by omega)]
  · omega
  · rw [yw_n (by omega), ycp_n (by omega), yw_n (by omega)]
    have q := a6 (by rw [yw_n (by omega)]; exact x) (by rw [yw_n (by omega)]; omega)
    rw [yw_n (by omega)] at q
    exact q
  · rw [yw_p, D27]
end
section
/-- a sheet against lanes, sizes, cells -/
def yRS (σ τ : yS) (k : Nat) : Prop := σ.2 8 k = 9 + 2 * k ∧ ((σ.1 (9 + 2 * k) 0 = -1 ∧ τ.1 12 k = -4) ∨ (σ.1 (9 + 2 * k) 0 = τ.1 12 k ∧ (0 ≤ τ.1 12 k ∧ τ.1 12 k ≤ 2) ∧ σ.1 (9 + 2 * k) 1 = τ.1 13 k ∧ (0 ≤ τ.1 13 k ∧ τ.1 13 k ≤ 40) ∧ ∀ i : Nat, i < 40 → σ.1 (10 + 2 * k) i = τ.1 14 (40 * k + i)))
def yTr (σ : yS) : Prop := (σ.2 38 11 = 38 + 8 ∧ σ.2 38 12 = 38 + 13) ∨ (σ.2 38 11 = 38 + 13 ∧ σ.2 38 12 = 38 + 8)
/-- all that the calls show of both objects -/
def yRR (σ τ : yS) : Prop := yRN σ τ ∧ yGk (τ.1 0 3) (τ.1 0 5) (fun j => τ.1 1 j) ∧ (0 ≤ σ.1 0 7 ∧ σ.1 0 7 < 4) ∧ (∀ k : Nat, k < 2 → yRI σ τ k) ∧ (∀ k : Nat, k < 2 → τ.1 3 k = 1 → yGk (τ.1 0 3) (τ.1 0 5) (fun j => τ.1 1 (131 * (k + 1) + j))) ∧ (∀ k : Nat, k < 4 → yRS σ τ k) ∧ yTr σ
theorem yRS_fr {σ τ σ' τ' : yS} {k : Nat} (hk : k < 4) (r : ∀ b : Nat, σ'.2 8 b = σ.2 8 b) (c : ∀ a b : Nat, 9 ≤ a → a < 17 → σ'.1 a b = σ.1 a b) (o : ∀ a b : Nat, a = 12 ∨ a = 13 ∨ a = 14 → τ'.1 a b = τ.1 a b) (H : yRS σ τ k) : yRS σ' τ' k := by
  obtain ⟨h1, h2⟩ := H
  refine ⟨by rw [r]; exact h1, ?_⟩
  rw [c _ _ (by omega) (by omega), c (9 + 2 * k) 1 (by omega) (by omega), o 12 _ (by omega), o 13 _ (by omega)]
  rcases h2 with h | ⟨a1, a2, a3, a4, a5⟩
  · exact Or.inl h
  · exact Or.inr ⟨a1, a2, a3, a4, fun i hi => by rw [c _ _ (by omega) (by omega), o 14 _ (by omega)]; exact a5 i hi⟩
theorem yRR_fr {σ τ σ' τ' : yS} (H : yRR σ τ) (N' : yRN σ' τ') (K' : yGk (τ'.1 0 3) (τ'.1 0 5) (fun j => τ'.1 1 j)) (r : ∀ a b : Nat, ¬ a = 17 → ¬ a = 38 → σ'.2 a b = σ.2 a b) (r38 : yTr σ') (c0 : σ'.1 0 7 = σ.1 0 7) (c : ∀ a b : Nat, (9 ≤ a ∧ a < 17) ∨ 59 ≤ a → σ'.1 a b = σ.1 a b) (o : ∀ a b : Nat, a = 3 ∨ a = 4 ∨ a = 12 ∨ a = 13 ∨ a = 14 ∨ (a = 0 ∧ 3 ≤ b ∧ b ≤ 5) ∨ (a = 1 ∧ 131 ≤ b) → τ'.1 a b = τ.1 a b) : yRR σ' τ' := by
  obtain ⟨-, -, B, I, Ik, S, -⟩ := H
  refine ⟨N', K', by rw [c0]; exact B, fun k hk => yRI_fr hk (r _ _ (by omega) (by omega)) (fun a b h => r _ _ (by omega) (by omega)) c0 (fun a b h => c a b (by omega)) (fun b => o _ _ (by omega)) (fun b => o _ _ (by omega)) ⟨o _ _ (by omega), o _ _ (by omega), o _ _ (by omega)⟩ (fun j h => o _ _ (by omega)) (I k hk), fun k hk h1 => ?_, fun k hk => yRS_fr hk (fun b => r _ _ (by omega) (by omega)) (fun a b h1 h2 => c a b (by omega)) (fun a b h => o a b (by omega)) (S k hk), r38⟩
  rw [o 3 k (by omega)] at h1
  rw [o 0 3 (by omega), o 0 5 (by omega)]
  exact yGk_cong (fun j hj => o 1 _ (by omega)) (Ik k hk h1)
theorem yRR_s {σ τ σ' τ' : yS} (H : yRR σ τ) (N' : yRN σ' τ') (F : yFs σ σ') (O : yFo τ τ') : yRR σ' τ' := by
  refine yRR_fr H N' ?_ (fun a b _ _ => by rw [F.1]) ?_ (F.2 0 7 (by omega)) (fun a b h => F.2 a b (by omega)) (fun a b h => O a b (by omega) (by omega) (by omega))
  · rw [O 0 3 (by omega) (by omega) (by omega), O 0 5 (by omega) (by omega) (by omega)]
    exact yGk_cong (fun j hj => O 1 j (by omega) (by omega) (by omega)) H.2.1
  · have q := H.2.2.2.2.2.2
    unfold yTr at q ⊢
    rw [F.1]
    exact q
/-- what changes scratch alone -/
theorem yRR_scr {σ τ σ' τ' : yS} (H : yRR σ τ) (r : ∀ a b : Nat, ¬ a = 38 → σ'.2 a b = σ.2 a b) (r38 : yTr σ') (c : ∀ a b : Nat, (a = 0 ∧ b = 7) ∨ (2 ≤ a ∧ a < 5) ∨ (9 ≤ a ∧ a < 38) ∨ 59 ≤ a → σ'.1 a b = σ.1 a b) (o : ∀ a b : Nat, ¬ a = 2 → ¬ a = 9 → ¬ a = 10 → ¬ a = 11 → ¬ (a = 0 ∧ 25 ≤ b) → τ'.1 a b = τ.1 a b) : yRR σ' τ' := by
  have e : (fun j => τ'.1 1 j) = (fun j => τ.1 1 j) := funext fun j => o 1 j (by omega) (by omega) (by omega) (by omega) (by omega)
  have o0 : ∀ b : Nat, b < 25 → 0 = 0 → τ'.1 0 b = τ.1 0 b := fun b h1 h2 => o 0 b (by omega) (by omega) (by omega) (by omega) (by omega)
  refine yRR_fr H ?_ ?_ (fun a b _ h => r a b h) r38 (c 0 7 (by omega)) (fun a b h => c a b (by omega)) (fun a b h => o a b (by omega) (by omega) (by omega) (by omega) (by omega))
  · obtain ⟨⟨a0, a1, a2, a3⟩, f0, R, T, G⟩ := H.1
    refine ⟨⟨?_, ?_, ?_, fun j hj => ?_⟩, ?_, yRH_f ⟨c _ _ (by omega), c _ _ (by omega), c _ _ (by omega)⟩ (fun b => c _ _ (by omega)) ⟨o0 _ (by omega) (by omega), o0 _ (by omega) (by omega), o0 _ (by omega) (by omega)⟩ (fun b => o _ _ (by omega) (by omega) (by omega) (by omega) (by omega)) R, ?_, ?_⟩
    · rw [c _ _ (by omega)]; exact a0
    · rw [c _ _ (by omega)]; exact a1
    · rw [c _ _ (by omega), o0 _ (by omega) (by omega)]; exact a2
    · rw [c _ _ (by omega)] at hj
      rw [c _ _ (by omega), o _ _ (by omega) (by omega) (by omega) (by omega) (by omega)]; exact a3 j hj
    · rw [c _ _ (by omega), o0 _ (by omega) (by omega)]; exact f0
    · rw [e]; exact yRT_fr (fun b => r _ _ (by omega)) (fun a b h1 h2 => c a b (by omega)) T
    · rw [e, c _ _ (by omega), o0 _ (by omega) (by omega), o0 _ (by omega) (by omega)]; exact G
  · rw [e, o0 3 (by omega) rfl, o0 5 (by omega) rfl]; exact H.2.1
theorem P_fault {N : Nat} {σ τ : yS} (H : yRR σ τ) : ∃ (a : Int) (σ' τ' : yS), f_X7_fault N σ = some (a, σ') ∧ f_X8_fault N τ = some (a, τ') ∧ yRR σ' τ' := by
  obtain ⟨a, h1, h2⟩ := p_fault (N := N) H.1
  exact ⟨a, σ, τ, h1, h2, H⟩
theorem P_cost {N : Nat} {σ τ : yS} {d : Int} (H : yRR σ τ) : ∃ (a : Int) (σ' τ' : yS), f_X7_cost N σ d = some (a, σ') ∧ f_X8_cost N τ d = some (a, τ') ∧ yRR σ' τ' := by
  obtain ⟨a, h1, h2⟩ := p_cost (N := N) (d := d) H.1
  exact ⟨a, σ, τ, h1, h2, H⟩
theorem P_rule {N : Nat} {σ τ : yS} {w : Int} (H : yRR σ τ) : ∃ (a : Int) (σ' τ' : yS), f_X7_rule N σ w = some (a, σ') ∧ f_X8_rule N τ w = some (a, τ') ∧ yRR σ' τ' := by
  obtain ⟨a, h1, h2⟩ := p_rule (N := N) (w := w) H.1
  exact ⟨a, σ, τ, h1, h2, H⟩
theorem P_want {N : Nat} {σ τ : yS} {i w : Int} (H : yRR σ τ) : ∃ (a : Int) (σ' τ' : yS), f_X7_want N σ i w = some (a, σ') ∧ f_X8_want N τ i w = some (a, τ') ∧ yRR σ' τ' := by
  obtain ⟨a, h1, h2⟩ := p_want (N := N) (i := i) (w := w) H.1
  exact ⟨a, σ, τ, h1, h2, H⟩
theorem P_vow {N : Nat} {σ τ : yS} {i w : Int} (H : yRR σ τ) : ∃ (a : Int) (σ' τ' : yS), f_X7_vow N σ i w = some (a, σ') ∧ f_X8_vow N τ i w = some (a, τ') ∧ yRR σ' τ' := by
  obtain ⟨a, h1, h2⟩ := p_vow (N := N) (i := i) (w := w) H.1
  exact ⟨a, σ, τ, h1, h2, H⟩
theorem P_house {N : Nat} {σ τ : yS} {h w : Int} (hw : yI w) (H : yRR σ τ) : ∃ (a : Int) (σ' τ' : yS), f_X7_house N σ h w = some (a, σ') ∧ f_X8_house N τ h w = some (a, τ') ∧ yRR σ' τ' := by
  obtain ⟨a, h1, h2⟩ := p_house (N := N) (h := h) hw H.1
  exact ⟨a, σ, τ, h1, h2, H⟩
theorem P_fund {N : Nat} {σ τ : yS} {h v : Int} (H : yRR σ τ) : ∃ (a : Int) (σ' τ' : yS), f_X7_fund N σ h v = some (a, σ') ∧ f_X8_fund N τ h v = some (a, τ') ∧ yRR σ' τ' := by
  obtain ⟨a, σ', τ', h1, h2, h3, h4, h5⟩ := p_fund (N := N) (h := h) (v := v) H.1
  exact ⟨a, σ', τ', h1, h2, yRR_s H h3 h4 h5⟩
theorem P_can {N : Nat} {σ τ : yS} {h d z : Int} (H : yRR σ τ) : ∃ (a : Int) (σ' τ' : yS), f_X7_can N σ h d z = some (a, σ') ∧ f_X8_can N τ h d z = some (a, τ') ∧ yRR σ' τ' := by
  obtain ⟨a, σ', τ', h1, h2, h3, h4, h5⟩ := p_can (N := N) (h := h) (d := d) (z := z) H.1
  exact ⟨a, σ', τ', h1, h2, yRR_s H h3 h4 h5⟩
theorem P_lawyer {N : Nat} {σ τ : yS} {h z : Int} (hz : 0 ≤ z ∧ z ≤ 1) (H : yRR σ τ) : ∃ (a : Int) (σ' τ' : yS), f_X7_lawyer N σ h z = some (a, σ') ∧ f_X8_lawyer N τ h z = some (a, τ') ∧ yRR σ' τ' := by
  obtain ⟨a, σ', τ', h1, h2, h3, h4, h5, h6⟩ := p_lawyer (N := N) (h := h) hz H.1
  refine ⟨a, σ', τ', h1, h2, yRR_fr H h3 ⟨fun j hj => ?_, fun i hi => ?_, fun i hi q => ?_⟩ (fun a b _ _ => by rw [h4.1]) ?_ (h4.2 0 7 (by omega)) (fun a b h => h4.2 a b (by omega)) (fun a b h => h5 a b (by omega))⟩
  · dsimp only
    rw [h5 1 (42 + j) (by omega)]
    exact H.2.1.1 j hj
  · dsimp only
    rw [h5 0 5 (by omega), h5 1 (35 + i) (by omega), h5 1 (28 + i) (by omega)]
    exact H.2.1.2.1 i hi
  · rw [h5 0 3 (by omega)] at q
    dsimp only
    rw [h6 i q]
    exact H.2.1.2.2 i hi q
  · have q := H.2.2.2.2.2.2
    unfold yTr at q ⊢
    rw [h4.1]
    exact q
theorem P_drop {N : Nat} {σ τ : yS} {w n : Int} (H : yRR σ τ) : ∃ (a : Int) (σ' τ' : yS), f_X7_drop N σ w n = some (a, σ') ∧ f_X8_drop N τ w n = some (a, τ') ∧ yRR σ' τ' := by
  obtain ⟨a, σ', τ', h1, h2, h3, h4, h5⟩ := p_drop (N := N) (w := w) (n := n) H.1
  exact ⟨a, σ', τ', h1, h2, yRR_s H h3 h4 h5⟩
theorem P_wish {N : Nat} {σ τ : yS} {h d : Int} (H : yRR σ τ) : ∃ (a : Int) (σ' τ' : yS), f_X7_wish N σ h d = some (a, σ') ∧ f_X8_wish N τ h d = some (a, τ') ∧ yRR σ' τ' := by
  obtain ⟨a, σ', τ', h1, h2, h3, h4, h5⟩ := p_wish (N := N) (h := h) (d := d) H.1
  exact ⟨a, σ', τ', h1, h2, yRR_s H h3 h4 h5⟩
theorem P_vows {N : Nat} {σ τ : yS} {h k p d : Int} (H : yRR σ τ) : ∃ (a : Int) (σ' τ' : yS), f_X7_vows N σ h k p d = some (a, σ') ∧ f_X8_vows N τ h k p d = some (a, τ') ∧ yRR σ' τ' := by
  obtain ⟨a, σ', τ', h1, h2, h3, h4, h5, -⟩ := p_vows (N := N) (h := h) (k := k) (p := p) (d := d) H.1
  exact ⟨a, σ', τ', h1, h2, yRR_s H h3 h4 h5⟩
theorem P_end {N : Nat} {σ τ : yS} {n : Int} (H : yRR σ τ) : ∃ (a : Int) (σ' τ' : yS), f_X7_end N σ n = some (a, σ') ∧ f_X8_end N τ n = some (a, τ') ∧ yRR σ' τ' := by
  obtain ⟨a, σ', τ', h1, h2, h3, h4, h5⟩ := p_end (N := N) (n := n) H.1
  exact ⟨a, σ', τ', h1, h2, yRR_s H h3 h4 h5⟩
theorem P_move {N : Nat} (h8 : 8 ≤ N) {σ τ : yS} {h k : Int} (H : yRR σ τ) : ∃ (a : Int) (σ' τ' : yS), f_X7_move N σ h k = some (a, σ') ∧ f_X8_move N τ h k = some (a, τ') ∧ yRR σ' τ' := by
  obtain ⟨a, σ', τ', h1, h2, h3, h4, h5⟩ := p_move (N := N) h8 (h := h) (k := k) H.1
  exact ⟨a, σ', τ', h1, h2, yRR_s H h3 h4 h5⟩
theorem P_habit {N : Nat} {σ τ : yS} {h k d o : Int} (H : yRR σ τ) : ∃ (a : Int) (σ' τ' : yS), f_X7_habit N σ h k d o = some (a, σ') ∧ f_X8_habit N τ h k d o = some (a, τ') ∧ yRR σ' τ' := by
  obtain ⟨a, σ', τ', h1, h2, h3, h4, h5, h6⟩ := p_habit (N := N) (h := h) (k := k) (d := d) (o := o) H.1
  refine ⟨a, σ', τ', h1, h2, yRR_fr H h3 ⟨fun j hj => ?_, fun i hi => ?_, fun i hi => ?_⟩ (fun a b _ _ => by rw [h4.1]) ?_ (h4.2 0 7 (by omega)) (fun a b h => h4.2 a b (by omega)) (fun a b h => h5 a b (by omega))⟩
  · dsimp only
    rw [h5 1 (42 + j) (by omega)]
    exact H.2.1.1 j hj
  · rw [h5 0 5 (by omega)]
    exact h6 (fun i hi => H.2.1.2.1 i hi) i hi
  · rw [h5 0 3 (by omega)]
    dsimp only
    rw [h5 1 (14 + i) (by omega)]
    exact H.2.1.2.2 i hi
  · have q := H.2.2.2.2.2.2
    unfold yTr at q ⊢
    rw [h4.1]
    exact q
theorem yRN_tp {σ τ σ' τ' : yS} (T' : yTp σ' τ') (r : ∀ b : Nat, σ'.2 17 b = σ.2 17 b) (c : ∀ a b : Nat, a = 2 ∨ (17 ≤ a ∧ a < 38) → σ'.1 a b = σ.1 a b) (o : ∀ a b : Nat, ¬ (a = 0 ∧ b = 17) → ¬ a = 8 → τ'.1 a b = τ.1 a b) (H : yRN σ τ) : yRN σ' τ' := by
  obtain ⟨-, f0, R, T, G⟩ := H
  have e : (fun j => τ'.1 1 j) = (fun j => τ.1 1 j) := funext fun j => o 1 j (by omega) (by omega)
  refine ⟨T', by rw [c _ _ (by omega), o 0 22 (by omega) (by omega)]; exact f0, yRH_f ⟨c _ _ (by omega), c _ _ (by omega), c _ _ (by omega)⟩ (fun b => c _ _ (by omega)) ⟨o _ _ (by omega) (by omega), o _ _ (by omega) (by omega), o _ _ (by omega) (by omega)⟩ (fun b => o _ _ (by omega) (by omega)) R, ?_, ?_⟩
  · rw [e]; exact yRT_fr r (fun a b h1 h2 => c a b (by omega)) T
  · rw [e, c _ _ (by omega), o 0 3 (by omega) (by omega), o 0 5 (by omega) (by omega)]; exact G
theorem P_feed {N : Nat} {σ τ : yS} {c : Int} (H : yRR σ τ) : ∃ (a : Int) (σ' τ' : yS), f_X7_feed N σ c = some (a, σ') ∧ f_X8_feed N τ c = some (a, τ') ∧ yRR σ' τ' := by
  obtain ⟨h0, h1, h2, h3⟩ := H.1.1
  rw [x7_feed h0 h1, x8_feed (h2 ▸ h0) (h2 ▸ h1), ← h2]
  by_cases hc : 0 ≤ c ∧ c ≤ 127
  · by_cases hf : σ.1 3 0 = 160
    · simp only [hc, hf, and_self, if_true]
      exact ⟨_, _, _, rfl, rfl, H⟩
    · simp only [hc, hf, and_self, if_true, if_false]
      refine ⟨_, _, _, rfl, rfl, yRR_s H (yRN_tp (σ := σ) (τ := τ) ⟨?_, ?_, ?_, fun j hj => ?_⟩ (fun b => rfl) (fun a b h => ?_) (fun a b x y => ?_) H.1) (by repeat (first | exact yFs_r | refine yFs_w ?_ (by omega))) (by repeat (first | exact yFo_r | refine yFo_w ?_ (by omega)))⟩
      · simp [yw_1]; omega
      · simp [yw_1]; omega
      · simp [yw_1]
      · simp [yw_1] at hj ⊢
        by_cases hjj : j = (σ.1 3 0).toNat
        · simp [hjj]
          exact hc.1
        · simp [hjj]
          exact h3 j (by omega)
      · rw [yw_n (by omega), yw_n (by omega)]
      · rw [yw_n (by omega), yw_n (by omega)]
  · simp only [hc, if_false]
    exact ⟨_, _, _, rfl, rfl, H⟩
end
section
theorem P_keep {N : Nat} (hN : 132 ≤ N) {σ τ : yS} {n : Int} (H : yRR σ τ) : ∃ (a : Int) (σ' τ' : yS), f_X7_keep N σ n = some (a, σ') ∧ f_X8_keep N τ n = some (a, τ') ∧ yRR σ' τ' := by
  obtain ⟨h1, h2, h3, h4, h5, h6, h7⟩ := H
  obtain ⟨a, σ', τ', c7, c8, k1, k2, k3, k4, k5, k6, k7, k8⟩ := p_keepI (N := N) hN (n := n) h1 h3 h4
  refine ⟨a, σ', τ', c7, c8, k1, ?_, k2, k3, fun k hk hz => ?_, fun k hk => yRS_fr hk (fun b => by rw [k4]) (fun a b z1 z2 => k5 a b (by omega) (by omega)) (fun a b z => k6 a b (by omega) (by omega)) (h6 k hk), ?_⟩
  · rw [k6 0 3 (by omega) (by omega), k6 0 5 (by omega) (by omega)]
    exact yGk_cong (fun j hj => k7 j (by omega)) h2
  · rw [k6 0 3 (by omega) (by omega), k6 0 5 (by omega) (by omega)]
    rcases k8 k hk with ⟨e1, e2⟩ | e2
    · rw [e1] at hz
      exact yGk_cong (fun j hj => e2 j (by omega)) (h5 k hk hz)
    · exact yGk_cong (fun j hj => e2 j (by omega)) h2
  · unfold yTr at h7 ⊢
    rw [k4]
    exact h7
theorem P_back {N : Nat} (hN : 132 ≤ N) {σ τ : yS} {n : Int} (H : yRR σ τ) : ∃ (a : Int) (σ' τ' : yS), f_X7_back N σ n = some (a, σ') ∧ f_X8_back N τ n = some (a, τ') ∧ yRR σ' τ' := by
  obtain ⟨h1, h2, h3, h4, h5, h6, h7⟩ := H
  obtain ⟨a, σ', τ', c7, c8, k1, k2, k3, k4, k5, k6, k7, k8⟩ := p_backI (N := N) hN (n := n) h1 h4
  refine ⟨a, σ', τ', c7, c8, k1, ?_, by rw [k2]; exact h3, k3, fun k hk hz => ?_, fun k hk => yRS_fr hk (fun b => by rw [k4]) (fun a b z1 z2 => k5 a b (by omega)) (fun a b z => k6 a b (by omega)) (h6 k hk), ?_⟩
  · rw [k6 0 3 (by omega), k6 0 5 (by omega)]
    rcases k8 with e | ⟨k, hk, hz, e⟩
    · exact yGk_cong (fun j hj => e j (by omega)) h2
    · exact yGk_cong (fun j hj => e j (by omega)) (h5 k hk hz)
  · rw [k6 3 k (by omega)] at hz
    rw [k6 0 3 (by omega), k6 0 5 (by omega)]
    exact yGk_cong (fun j hj => k7 _ (by omega)) (h5 k hk hz)
  · unfold yTr at h7 ⊢
    rw [k4]
    exact h7
/-- so many days -/
theorem p_days_l {N : Nat} (hN : 62 ≤ N) {t n : Nat} (hn : n ≤ 60) : ∀ (c m k i : Nat) (σ τ : yS) (o : Int), i + c = n → yDY σ τ t → (0 ≤ o ∧ o ≤ 20 * i) → τ.1 0 26 = o → ∃ (z : Int) (σ' τ' : yS), f_X4_passDays_b4 N (m + c + 1) σ t n o i = some (z, σ') ∧ f_X8_daysAll_b7 N (k + c + 1) τ n i = some (0, τ') ∧ yDY σ' τ' t ∧ yF7 t σ σ' ∧ yF8 τ τ' ∧ τ'.1 0 26 = z ∧ (0 ≤ z ∧ z ≤ 20 * n) ∧ (0 ≤ τ.1 2 127 → τ.1 2 127 + c ≤ 2000 → τ'.1 2 127 = τ.1 2 127 + c)
  | 0, m, k, i, σ, τ, o, hi, H, ho, h26 => by
    have e : i = n := by omega
    subst e
    refine ⟨o, σ, τ, ?_, ?_, H, yF7_r, yF8_r, h26, ho, fun _ _ => by omega⟩
    · rw [Nat.add_zero, q_X4_passDays_b4]
      simp [ycP_ge]
    · rw [Nat.add_zero, q_X8_daysAll_b7]
      simp [ycP_ge]
  | c + 1, m, k, i, σ, τ, o, hi, H, ho, h26 => by
    obtain ⟨z, σ1, τ1, c7, c8, K, f7, f8, hz, d26, d27⟩ := p_day (N := N) (by omega) H
    have e26 := d26 (by omega) (by omega)
    have e3 : yad (i : Int) 1 = ((i + 1 : Nat) : Int) := by rw [yad_e (by omega) (by omega)]; omega
    have eo : yad o z = o + z := yad_e (by omega) (by omega)
    obtain ⟨z2, σ2, τ2, g7, g8, K2, l7, l8, q1, q2, q3⟩ := p_days_l hN hn c m k (i + 1) σ1 τ1 (o + z) (by omega) K (by omega) (by omega)
    refine ⟨z2, σ2, τ2, ?_, ?_, K2, yF7_t f7 l7, yF8_t f8 l8, q1, q2, fun x y => ?_⟩
    · rw [show m + (c + 1) + 1 = (m + c + 1) + 1 by omega, q_X4_passDays_b4]
      simp only [ycP_ge, decide_eq_false (show ¬ (n : Int) ≤ (i : Int) by omega), cond_false, c7, eo, e3, g7]
    · rw [show k + (c + 1) + 1 = (k + c + 1) + 1 by omega, q_X8_daysAll_b7]
      simp only [ycP_ge, decide_eq_false (show ¬ (n : Int) ≤ (i : Int) by omega), cond_false, c8, e3, g8]
    · have e : τ1.1 2 127 = τ.1 2 127 + 1 := by rw [d27, yad_e (by omega) (by omega)]
      have := q3 (by omega) (by omega)
      omega
theorem p_days {N : Nat} (hN : 62 ≤ N) {t n : Nat} (hn : n ≤ 60) {σ τ : yS} (H : yDY σ τ t) : ∃ (z : Int) (σ' τ' : yS), f_X4_passDays N σ t n = some (z, σ') ∧ f_X8_daysAll N τ n = some (0, τ') ∧ yDY σ' τ' t ∧ yF7 t σ σ' ∧ yF8 τ τ' ∧ τ'.1 0 26 = z ∧ (0 ≤ z ∧ z ≤ 20 * n) ∧ (0 ≤ τ.1 2 127 → τ.1 2 127 + n ≤ 2000 → τ'.1 2 127 = τ.1 2 127 + n) := by
  have H1 : yDY σ (yw τ 0 26 0) t := yDY_o (τ := τ) (fun j => yw_n (by omega)) ⟨yw_n (by omega), yw_n (by omega), yw_n (by omega)⟩ (fun b => yw_n (by omega)) H
  obtain ⟨z, σ', τ', c7, c8, K, f7, f8, q1, q2, q3⟩ := p_days_l (N := N) hN hn n (N - n - 1) (N - n - 1) 0 σ (yw τ 0 26 0) 0 (by omega) H1 (by omega) yw_p
  rw [show N - n - 1 + n + 1 = N by omega] at c7 c8
  rw [yw_n (by omega)] at q3
  exact ⟨z, σ', τ', c7, c8, K, f7, yF8_t (yF8_w yF8_r (by omega)) f8, q1, q2, q3⟩
theorem yDY_c {σ τ τ' : yS} {t : Nat} {g : Nat → Int} (R : yRH σ τ t) (T : yRT σ t g) (G : yGd (τ.1 0 3) (τ.1 0 5) (σ.1 t 6) g) (K : yGk (τ.1 0 3) (τ.1 0 5) g) (h2 : ∀ j : Nat, j < 131 → τ'.1 2 j = g j) (h : ∀ a b : Nat, ¬ a = 2 → τ'.1 a b = τ.1 a b) : yDY σ τ' t := by
  refine ⟨yRH_f ⟨rfl, rfl, rfl⟩ (fun _ => rfl) ⟨h _ _ (by omega), h _ _ (by omega), h _ _ (by omega)⟩ (fun b => h _ _ (by omega)) R, yRT_cong h2 G T, ?_, ?_⟩
  · rw [h 0 3 (by omega), h 0 5 (by omega)]
    exact yGe_cong (fun j hj => h2 j (by omega)) (yGd_e G)
  · rw [h 0 3 (by omega), h 0 5 (by omega)]
    exact yGk_cong (fun j hj => h2 j (by omega)) K
theorem yDY_start {σ τ : yS} (H : yRR σ τ) : yDY σ (ycp τ 1 2 0 0 131) 17 :=
  yDY_c H.1.2.2.1 H.1.2.2.2.1 H.1.2.2.2.2 H.2.1 (fun j hj => ycp_p hj) (fun a b h => ycp_n (by omega))
theorem yDY_trial {N : Nat} {σ τ : yS} (H : yRR σ τ) : ∃ σ1 : yS, f_X4_copyFrom N σ 38 17 = some (0, σ1) ∧ yF7 38 σ σ1 ∧ yTr σ1 ∧ yDY σ1 (ycp τ 1 2 0 0 131) 38 := by
  obtain ⟨⟨-, -, ⟨e0, e1, e2, b0, b1, b2, hc⟩, T, G⟩, K, -, -, -, -, tr⟩ := H
  obtain ⟨σ', c, s2, fr, T', k6, k0, k1, k2, kc⟩ := yRT_copy (N := N) (x := 38) (y := 17) (by omega) tr (by rw [e1]; exact b1) T G
  refine ⟨σ', c, ⟨fun a b h => fr a b (by omega), fun a b h => by rw [s2]⟩, ?_, yDY_c (τ := τ) ⟨by rw [k0]; exact e0, by rw [k1]; exact e1, by rw [k2]; exact e2, b0, b1, b2, fun d hd => ?_⟩ T' (by rw [k6]; exact G) K (fun j hj => ycp_p hj) (fun a b h => ycp_n (by omega))⟩
  · unfold yTr at tr ⊢
    rw [s2]
    exact tr
  · rw [kc d (by omega)]
    exact hc d hd
theorem x8_go_l {N n : Nat} {τ : yS} : ∀ j i : Nat, i + j = 131 → f_X8_go_b43 N (n + j + 1) (ycp τ 2 1 0 0 i) (i : Int) = some (τ.1 0 26, ycp τ 2 1 0 0 131)
  | 0, i, h => by
    have : i = 131 := by omega
    subst this
    rw [q_X8_go_b43, ycp_n (a := 0) (b := 26) (by omega)]
    simp [ycP_ge]
  | j + 1, i, h => by
    have e3 : yad (i : Int) 1 = ((i + 1 : Nat) : Int) := by rw [yad_e (by omega) (by omega)]; omega
    have s := ycp_s (τ := τ) (i0 := 2) (i1 := 1) (b := 0) (a := 0) (Or.inl (by omega)) (show i < 131 by omega)
    rw [Nat.zero_add] at s
    rw [q_X8_go_b43, e3, Int.toNat_natCast, s]
    simp only [ycP_ge, yin_d]
    rw [decide_eq_false (show ¬ (131 : Int) ≤ (i : Int) by omega)]
    rw [decide_eq_true (show 0 ≤ (i : Int) ∧ (i : Int) < ((393 : Nat) : Int) by omega), decide_eq_true (show 0 ≤ (i : Int) ∧ (i : Int) < ((131 : Nat) : Int) by omega)]
    simp only [cond_false, cond_true]
    exact x8_go_l (N := N) (n := n) j (i + 1) (by omega)
theorem P_go {N : Nat} (hN : 132 ≤ N) {σ τ : yS} {n : Int} (H : yRR σ τ) : ∃ (a : Int) (σ' τ' : yS), f_X7_go N σ n = some (a, σ') ∧ f_X8_go N τ n = some (a, τ') ∧ yRR σ' τ' := by
  have d0 : σ.1 17 14 = τ.1 1 127 := H.1.2.2.2.1.2.2.2.2.1.1
  have g6 : 0 ≤ τ.1 1 127 ∧ τ.1 1 127 ≤ 999 := H.1.2.2.2.2.2.2.2.2.2.2
  simp only [f_X7_go, f_X8_go, x7_within, x8_in, ycP_ne, ycP_lt, ycP_le, d0]
  by_cases hn : 0 ≤ n ∧ n ≤ 60
  · obtain ⟨m, rfl⟩ : ∃ m : Nat, n = (m : Int) := ⟨n.toNat, by omega⟩
    have ea : yad (τ.1 1 127) (m : Int) = τ.1 1 127 + m := yad_e (by omega) (by omega)
    by_cases hf : τ.1 1 127 + m ≤ 999
    · obtain ⟨z, σ', τ1, c7, c8, K, f7, f8, q1, q2, q3⟩ := p_days (N := N) (by omega) (show m ≤ 60 by omega) (yDY_start H)
      have s8 := x8_starts (N := N) hN (τ := τ)
      have g8 := x8_go_l (N := N) (n := N - 132) (τ := τ1) 131 0 (by omega)
      rw [ycp_0, show N - 132 + 131 + 1 = N by omega, show ((0 : Nat) : Int) = 0 from rfl] at g8
      have e27 : (ycp τ 1 2 0 0 131).1 2 127 = τ.1 1 127 := ycp_p (by omega)
      have q4 : τ1.1 2 127 = τ.1 1 127 + m := by rw [q3 (by omega) (by omega), e27]
      have oo : ∀ a b : Nat, ¬ a = 2 → ¬ a = 9 → ¬ (a = 0 ∧ (b = 25 ∨ b = 26)) → τ1.1 a b = τ.1 a b := fun a b x y w => by rw [f8 a b x y w, ycp_n (by omega)]
      have os : ∀ a b : Nat, ¬ a = 1 → (ycp τ1 2 1 0 0 131).1 a b = τ1.1 a b := fun a b x => ycp_n (by omega)
      have o1 : ∀ j : Nat, j < 131 → (ycp τ1 2 1 0 0 131).1 1 j = τ1.1 2 j := fun j hj => ycp_p hj
      obtain ⟨R, T, G, Kk⟩ := K
      have G1 : yGd (τ1.1 0 3) (τ1.1 0 5) (σ'.1 17 6) (fun j => τ1.1 2 j) := yGe_d G (by show 0 ≤ τ1.1 2 127 ∧ τ1.1 2 127 ≤ 999; omega)
      obtain ⟨⟨a0, a1, a2, a3⟩, f0, -⟩ := H.1
      refine ⟨z, σ', ycp τ1 2 1 0 0 131, ?_, ?_, yRR_fr H ⟨⟨?_, ?_, ?_, fun j hj => ?_⟩, ?_, yRH_f ⟨rfl, rfl, rfl⟩ (fun _ => rfl) ⟨os _ _ (by omega), os _ _ (by omega), os _ _ (by omega)⟩ (fun b => os _ _ (by omega)) R, yRT_cong o1 G1 T, ?_⟩ ?_ (fun a b x _ => f7.2 a b x) ?_ (f7.1 0 7 (by omega)) (fun a b h => f7.1 a b (by omega)) (fun a b h => ?_)⟩
      · simp [hn, ea, show τ.1 1 127 + (m : Int) < 1000 by omega, c7]
      · simp [hn, ea, hf, s8, c8, g8, q1]
      · rw [f7.1 _ _ (by omega)]; exact a0
      · rw [f7.1 _ _ (by omega)]; exact a1
      · rw [f7.1 _ _ (by omega), os _ _ (by omega), oo _ _ (by omega) (by omega) (by omega)]; exact a2
      · rw [f7.1 _ _ (by omega)] at hj
        rw [f7.1 _ _ (by omega), os _ _ (by omega), oo _ _ (by omega) (by omega) (by omega)]; exact a3 j hj
      · rw [f7.1 _ _ (by omega), os _ _ (by omega), oo _ _ (by omega) (by omega) (by omega)]; exact f0
      · rw [os 0 3 (by omega), os 0 5 (by omega)]
        exact yGd_cong o1 G1
      · rw [os 0 3 (by omega), os 0 5 (by omega)]
        exact yGk_cong (fun j hj => o1 j (by omega)) Kk
      · have tr := H.2.2.2.2.2.2
        unfold yTr at tr ⊢
        rw [f7.2 38 11 (by omega), f7.2 38 12 (by omega)]
        exact tr
      · by_cases h1 : a = 1
        · subst h1
          rw [ycp_n (by omega), oo _ _ (by omega) (by omega) (by omega)]
        · rw [os _ _ h1, oo _ _ (by omega) (by omega) (by omega)]
    · exact ⟨-3, σ, τ, by simp [hn, ea, show ¬ τ.1 1 127 + (m : Int) < 1000 by omega], by simp [hn, ea, hf], H⟩
  · exact ⟨-1, σ, τ, by simp [hn], by simp [hn], H⟩
end
section
theorem yRR_tr {σ τ σ' τ' : yS} (H : yRR σ τ) (f : yF7 38 σ σ') (D : yDY σ' τ' 38) (o : yF8 τ τ') : yRR σ' τ' :=
  yRR_scr H (fun a b h => f.2 a b h) D.2.1.2.2.2.2.2 (fun a b h => f.1 a b (by omega)) (fun a b h1 h2 _ _ h5 => o a b h1 h2 (by omega))
theorem yF8_c {τ : yS} : yF8 τ (ycp τ 1 2 0 0 131) := fun a b _ _ _ => ycp_n (by omega)
theorem P_ahead {N : Nat} (hN : 132 ≤ N) {σ τ : yS} {h d n : Int} (H : yRR σ τ) : ∃ (a : Int) (σ' τ' : yS), f_X7_ahead N σ h d n = some (a, σ') ∧ f_X8_ahead N τ h d n = some (a, τ') ∧ yRR σ' τ' := by
  obtain ⟨e0, e1, e2, b0, b1, b2, hc⟩ := H.1.2.2.1
  simp only [f_X7_ahead, f_X7_ahead_b32, f_X8_ahead, f_X8_ahead_b28, f_X7_doneAt, x4_isHouse (show 2 ≤ σ.1 17 0 ∧ σ.1 17 0 ≤ 7 by rw [e0]; exact b0), x8_isHouse b0, x4_isDeed (show 0 ≤ σ.1 17 2 ∧ σ.1 17 2 ≤ 5 by rw [e2]; exact b2), x8_isDeed b2, x7_within, x8_in, ycP_ne, ycP_eq, e0, e2]
  by_cases hh : 0 ≤ h ∧ h < τ.1 0 3
  · by_cases hd : 0 ≤ d ∧ d < τ.1 0 5
    · by_cases hn : 0 ≤ n ∧ n ≤ 60
      · obtain ⟨m, rfl⟩ : ∃ m : Nat, n = (m : Int) := ⟨n.toNat, by omega⟩
        obtain ⟨h, rfl⟩ : ∃ m : Nat, h = (m : Int) := ⟨h.toNat, by omega⟩
        obtain ⟨d, rfl⟩ : ∃ m : Nat, d = (m : Int) := ⟨d.toNat, by omega⟩
        obtain ⟨σ1, c0, f1, -, D1⟩ := yDY_trial (N := N) H
        obtain ⟨z, σ2, τ2, c7, c8, K, f7, f8, q1, q2, q3⟩ := p_days (N := N) (by omega) (show m ≤ 60 by omega) D1
        have s8 := x8_starts (N := N) hN (τ := τ)
        have m1 : yad (ymu (h : Int) 5) (d : Int) = 5 * (h : Int) + d := by
          rw [ymu_e (by omega) (by omega), yad_e (by omega) (by omega)]; omega
        have m2 : yad (yad 42 (ymu 5 (h : Int))) (d : Int) = 42 + (5 * (h : Int) + d) := by
          rw [ymu_e (by omega) (by omega), yad_e (a := 42) (by omega) (by omega), yad_e (by omega) (by omega)]; omega
        have n1 : (5 * (h : Int) + d).toNat = 5 * h + d := by omega
        have n2 : (42 + (5 * (h : Int) + d)).toNat = 42 + (5 * h + d) := by omega
        have i1 : yin (5 * (h : Int) + d) 35 = true := by rw [yin_d]; exact decide_eq_true (by omega)
        have i2 : yin (42 + (5 * (h : Int) + d)) 131 = true := by rw [yin_d]; exact decide_eq_true (by omega)
        have q : σ2.1 45 (5 * h + d) = τ2.1 2 (42 + (5 * h + d)) := K.2.1.2.1 (5 * h + d) (by omega)
        refine ⟨τ2.1 2 (42 + (5 * h + d)), σ2, τ2, ?_, ?_, yRR_tr H (yF7_t f1 f7) K (yF8_t yF8_c f8)⟩
        · simp [hh, hd, hn, c0, c7, m1, n1, i1, q]
        · simp [hh, hd, hn, s8, c8, m2, n2, i2]
      · exact ⟨-1, σ, τ, by simp [hh, hd, hn], by simp [hh, hd, hn], H⟩
    · exact ⟨-1, σ, τ, by simp [hh, hd], by simp [hh, hd], H⟩
  · exact ⟨-1, σ, τ, by simp [hh], by simp [hh], H⟩
theorem p_rest_l {N : Nat} (hN : 62 ≤ N) : ∀ (c m k i : Nat) (σ τ : yS), i + c = 61 → yDY σ τ 38 → ∃ (a : Int) (σ' τ' : yS), f_X7_rest_b13 N (m + c + 1) σ i = some (a, σ') ∧ f_X8_rest_b6 N (k + c + 1) τ i = some (a, τ') ∧ yDY σ' τ' 38 ∧ yF7 38 σ σ' ∧ yF8 τ τ'
  | 0, m, k, i, σ, τ, hi, H => by
    have e : i = 61 := by omega
    subst e
    refine ⟨-4, σ, τ, ?_, ?_, H, yF7_r, yF8_r⟩
    · rw [q_X7_rest_b13]
      simp [ycP_gt]
    · rw [q_X8_rest_b6]
      simp [ycP_gt]
  | c + 1, m, k, i, σ, τ, hi, H => by
    have t3 : σ.1 (σ.2 38 11) 0 = τ.1 2 77 := H.2.1.2.2.1.1
    by_cases hz : τ.1 2 77 = 0
    · refine ⟨i, σ, τ, ?_, ?_, H, yF7_r, yF8_r⟩
      · rw [q_X7_rest_b13, t3]
        simp [ycP_gt, ycP_ne, hz, show ¬ (60 : Int) < (i : Int) by omega]
      · rw [q_X8_rest_b6]
        simp [ycP_gt, ycP_ne, hz, show ¬ (60 : Int) < (i : Int) by omega]
    · obtain ⟨z, σ1, τ1, c7, c8, K, f7, f8, -⟩ := p_day (N := N) (by omega) H
      have e3 : yad (i : Int) 1 = ((i + 1 : Nat) : Int) := by rw [yad_e (by omega) (by omega)]; omega
      obtain ⟨a, σ2, τ2, g7, g8, K2, l7, l8⟩ := p_rest_l hN c m k (i + 1) σ1 τ1 (by omega) K
      refine ⟨a, σ2, τ2, ?_, ?_, K2, yF7_t f7 l7, yF8_t f8 l8⟩
      · rw [show m + (c + 1) + 1 = (m + c + 1) + 1 by omega, q_X7_rest_b13, t3]
        simp only [ycP_gt, ycP_ne, decide_eq_false (show ¬ (60 : Int) < (i : Int) by omega), decide_eq_true hz, cond_false, cond_true, c7, e3, g7]
      · rw [show k + (c + 1) + 1 = (k + c + 1) + 1 by omega, q_X8_rest_b6]
        simp only [ycP_gt, ycP_ne, decide_eq_false (show ¬ (60 : Int) < (i : Int) by omega), decide_eq_true hz, cond_false, cond_true, c8, e3, g8]
theorem P_rest {N : Nat} (hN : 132 ≤ N) {σ τ : yS} (H : yRR σ τ) : ∃ (a : Int) (σ' τ' : yS), f_X7_rest N σ = some (a, σ') ∧ f_X8_rest N τ = some (a, τ') ∧ yRR σ' τ' := by
  obtain ⟨σ1, c0, f1, -, D1⟩ := yDY_trial (N := N) H
  have s8 := x8_starts (N := N) hN (τ := τ)
  obtain ⟨a, σ2, τ2, g7, g8, K2, l7, l8⟩ := p_rest_l (N := N) (by omega) 61 (N - 62) (N - 62) 0 σ1 _ (by omega) D1
  rw [show N - 62 + 61 + 1 = N by omega, show ((0 : Nat) : Int) = 0 from rfl] at g7 g8
  refine ⟨a, σ2, τ2, ?_, ?_, yRR_tr H (yF7_t f1 l7) K2 (yF8_t yF8_c l8)⟩
  · simp only [f_X7_rest, c0, g7]
  · simp only [f_X8_rest, s8, g8]
end
section
theorem zxor_b (x y : Int32) (h1 : 0 ≤ x.toInt) (h3 : 0 ≤ y.toInt) : 0 ≤ (x ^^^ y).toInt := by
  have e1 : y.toInt = y.toBitVec.toInt := rfl
  have e3 : x.toInt = x.toBitVec.toInt := rfl
  have e2 : (x ^^^ y).toInt = (x.toBitVec ^^^ y.toBitVec).toInt := rfl
  rw [e1] at h3
  rw [e3] at h1
  rw [e2]
  rw [BitVec.toInt_eq_toNat_cond] at h1 h3
  rw [BitVec.toInt_eq_toNat_cond, BitVec.toNat_xor]
  have l1 := x.toBitVec.isLt
  have l2 := y.toBitVec.isLt
  have x1 : x.toBitVec.toNat < 2 ^ 31 := by split at h1 <;> omega
  have y1 : y.toBitVec.toNat < 2 ^ 31 := by split at h3 <;> omega
  have o1 := Nat.xor_lt_two_pow x1 y1
  split <;> omega
theorem yan15 (x : Int) : 0 ≤ yan x 32767 ∧ yan x 32767 ≤ 32767 := by
  have e : (Int32.ofInt 32767).toInt = 32767 := by decide +kernel
  have q := zand_r (Int32.ofInt x) (Int32.ofInt 32767) (by omega)
  rw [e] at q
  exact q
theorem yus16 (x : Int) : yan (yus x 16) 32767 = yan (ysr x 16) 32767 := by
  unfold yan yus ysr
  rw [Int32.ofInt_toInt, Int32.ofInt_toInt]
  refine congrArg Int32.toInt ?_
  apply Int32.toBitVec_inj.1
  generalize Int32.ofInt x = X
  have k1 : ((Int32.ofInt 16 &&& 31).toBitVec.smod 32).toNat = 16 := by decide +kernel
  have k2 : (((Int32.ofInt 16).toUInt32 &&& Int32.toUInt32 31).toBitVec % 32).toNat = 16 := by decide +kernel
  have e1 : (X >>> (Int32.ofInt 16 &&& 31)).toBitVec = X.toBitVec.sshiftRight 16 := by
    show X.toBitVec.sshiftRight ((Int32.ofInt 16 &&& 31).toBitVec.smod 32).toNat = _
    rw [k1]
  have e2 : (X.toUInt32 >>> ((Int32.ofInt 16).toUInt32 &&& Int32.toUInt32 31)).toInt32.toBitVec = X.toBitVec >>> 16 := by
    show X.toBitVec >>> (((Int32.ofInt 16).toUInt32 &&& Int32.toUInt32 31).toBitVec % 32).toNat = _
    rw [k2]
  rw [Int32.toBitVec_and, Int32.toBitVec_and, e1, e2]
  apply BitVec.eq_of_getLsbD_eq
  intro i hi
  rw [BitVec.getLsbD_and, BitVec.getLsbD_and, BitVec.getLsbD_ushiftRight, BitVec.getLsbD_sshiftRight]
  by_cases h : i < 15
  · simp [show ¬ 32 ≤ i by omega, show 16 + i < 32 by omega]
  · have z : (Int32.ofInt 32767).toBitVec.getLsbD i = false := by
      have q : ∀ j : Fin 32, 15 ≤ j.val → (Int32.ofInt 32767).toBitVec.getLsbD j.val = false := by decide +kernel
      exact q ⟨i, hi⟩ (by show 15 ≤ i; omega)
    rw [z, Bool.and_false, Bool.and_false]
theorem yrm_e {a b : Int} (h1 : 0 ≤ a) (h2 : a ≤ 2147483647) (h3 : 0 < b) (h4 : b ≤ 2147483647) : yrm a b = a % b := by
  unfold yrm
  have e1 := zq_of (z := a) (by omega) (by omega)
  have e2 := zq_of (z := b) (by omega) (by omega)
  rw [zrem_b _ _ (by omega) (by omega), e1, e2]
theorem x9_floorMod {N : Nat} {σ : yS} {a b : Int} (h1 : 0 ≤ a) (h2 : a ≤ 2147483647) (h3 : 0 < b) (h4 : b ≤ 2147483647) : f_J9_floorMod_7cf53 N σ a b = some (yrm a b, σ) := by
  have e1 := zq_of (z := a) (by omega) (by omega)
  have e2 := zq_of (z := b) (by omega) (by omega)
  have q : 0 ≤ yxo a b := zxor_b _ _ (by omega) (by omega)
  simp only [f_J9_floorMod_7cf53, f_J9_floorMod_7cf53_b18, ynz_d, ycP_ge, decide_eq_true (show ¬ b = 0 by omega), decide_eq_true q, cond_true]
/-- one more vow on both sides -/
theorem yDY_app {σ τ σ' τ' : yS} {t v m : Nat} {h k p d : Int} (H : yDY σ τ t) (hv : σ.2 t 11 = v) (hm : τ.1 2 77 = (m : Int)) (h10 : m < 10) (hh : 0 ≤ h ∧ h < τ.1 0 3) (hk : 0 ≤ k ∧ k ≤ 4) (hp : 0 ≤ p ∧ p ≤ 9) (hd : 0 ≤ d ∧ d < τ.1 0 5)
    (c2 : σ'.2 = σ.2) (c : ∀ a b : Nat, ¬ (v ≤ a ∧ a < v + 5) → σ'.1 a b = σ.1 a b) (vs : σ'.1 v 0 = (m : Int) + 1) (v1 : ∀ i : Nat, σ'.1 (v + 1) i = if i = m then h else σ.1 (v + 1) i) (v2 : ∀ i : Nat, σ'.1 (v + 2) i = if i = m then k else σ.1 (v + 2) i) (v3 : ∀ i : Nat, σ'.1 (v + 3) i = if i = m then p else σ.1 (v + 3) i) (v4 : ∀ i : Nat, σ'.1 (v + 4) i = if i = m then d else σ.1 (v + 4) i)
    (o : ∀ a b : Nat, ¬ a = 2 → τ'.1 a b = τ.1 a b) (o2 : ∀ j : Nat, j < 77 ∨ 118 ≤ j → τ'.1 2 j = τ.1 2 j) (o77 : τ'.1 2 77 = (m : Int) + 1) (u1 : ∀ i : Nat, i < 10 → τ'.1 2 (78 + 4 * i) = if i = m then h else τ.1 2 (78 + 4 * i)) (u2 : ∀ i : Nat, i < 10 → τ'.1 2 (79 + 4 * i) = if i = m then k else τ.1 2 (79 + 4 * i)) (u3 : ∀ i : Nat, i < 10 → τ'.1 2 (80 + 4 * i) = if i = m then p else τ.1 2 (80 + 4 * i)) (u4 : ∀ i : Nat, i < 10 → τ'.1 2 (81 + 4 * i) = if i = m then d else τ.1 2 (81 + 4 * i)) : yDY σ' τ' t := by
  obtain ⟨R, ⟨t1, t2, ⟨t3, t4⟩, ⟨t5, t6⟩, ⟨d0, d1, d2, d3⟩, t7⟩, ⟨g0, g1, g2, g3, g4, g5⟩, K0⟩ := H
  have hf2 : v = t + 8 ∨ v = t + 13 := by omega
  have g4 : 0 ≤ τ.1 2 118 ∧ τ.1 2 118 ≤ 4 := g4
  refine ⟨yRH_f ⟨c _ _ (by omega), c _ _ (by omega), c _ _ (by omega)⟩ (fun b => c _ _ (by omega)) ⟨o _ _ (by omega), o _ _ (by omega), o _ _ (by omega)⟩ (fun b => o _ _ (by omega)) R, ⟨fun i hi => ?_, fun j hj => ?_, ⟨?_, fun i hi => ?_⟩, ⟨?_, fun i hi => ?_⟩, ⟨?_, ?_, ?_, ?_⟩, ?_⟩, ⟨?_, fun i hi => ?_, ?_, fun i hi => ?_, ?_, fun i hi => ?_⟩, ?_⟩
  all_goals try dsimp only
  · rw [c (t + 2) _ (by omega), c (t + 3) _ (by omega), c t 6 (by omega), c (t + 4) _ (by omega), c (t + 5) _ (by omega), c (t + 6) _ (by omega), o2 i (by omega), o2 (7 + i) (by omega), o2 (14 + i) (by omega), o2 (21 + i) (by omega), o2 (28 + i) (by omega), o2 (35 + i) (by omega)]
    exact t1 i hi
  · rw [c _ _ (by omega), o2 _ (by omega)]; exact t2 j hj
  · rw [c2, hv, vs, o77]
  · dsimp only at hi
    rw [o77] at hi
    rw [c2, hv, v1, v2, v3, v4, u1 i (by omega), u2 i (by omega), u3 i (by omega), u4 i (by omega)]
    by_cases hq : i = m
    · simp [hq]
    · have q := t4 i (show (i : Int) < τ.1 2 77 by omega)
      rw [hv] at q
      simp only [hq, if_false]
      exact q
  · rw [c _ _ (by omega), o2 _ (by omega)]; exact t5
  · dsimp only at hi
    rw [o2 _ (by omega)] at hi
    rw [c _ _ (by omega), c _ _ (by omega), o2 _ (by omega), o2 _ (by omega)]; exact t6 i hi
  · rw [c _ _ (by omega), o2 _ (by omega)]; exact d0
  · rw [c _ _ (by omega), o2 _ (by omega)]; exact d1
  · rw [c _ _ (by omega), o2 _ (by omega)]; exact d2
  · rw [c _ _ (by omega), o2 _ (by omega)]; exact d3
  · rw [c2]; exact t7
  · rw [c _ _ (by omega)]; exact g0
  · rw [o2 (7 + i) (by omega), o2 (14 + i) (by omega), o2 (21 + i) (by omega), o2 (28 + i) (by omega), o2 (35 + i) (by omega)]; exact g1 i hi
  · rw [o77]; omega
  · dsimp only at hi
    rw [o77] at hi
    rw [u1 i (by omega), u2 i (by omega), u3 i (by omega), u4 i (by omega), o 0 3 (by omega), o 0 5 (by omega)]
    by_cases hq : i = m
    · simp only [hq, if_true]
      exact ⟨hh, hk, hp, hd⟩
    · have q := g3 i (show (i : Int) < τ.1 2 77 by omega)
      simp only [hq, if_false]
      exact q
  · rw [o2 _ (by omega)]; exact g4
  · dsimp only at hi
    rw [o2 118 (by omega)] at hi
    rw [o2 _ (by omega), o2 _ (by omega), o 0 3 (by omega), o 0 5 (by omega)]; exact g5 i hi
  · rw [o 0 3 (by omega), o 0 5 (by omega)]
    exact yGk_cong (fun j hj => o2 j (by omega)) K0
end
section
theorem p_vbh {N : Nat} {σ τ : yS} {t h : Nat} (H : yDY σ τ t) (hh : (h : Int) < τ.1 0 3) : ∃ (σ' τ' : yS), f_X4_vowByHabit N σ t h = some (0, σ') ∧ (∀ (k49 : yS → Int → Int → Int → Int → Int → Option (Int × yS)) (x2 x3 x4 x5 x6 : Int), f_X8_drift_b83 N k49 τ x2 x3 x4 x5 x6 h = f_X8_drift_b190 N k49 τ' x2 x3 x4 x5 x6) ∧ yDY σ' τ' t ∧ yF7 t σ σ' ∧ yF8 τ τ' ∧ τ'.1 0 26 = τ.1 0 26 := by
  have H0 := H
  obtain ⟨⟨e0, e1, e2, b0, b1, b2, hc⟩, ⟨t1, t2, ⟨t3, t4⟩, -, -, t7⟩, ⟨-, g1, g2, -⟩, ⟨-, kk, -⟩⟩ := H0
  have g2 : 0 ≤ τ.1 2 77 ∧ τ.1 2 77 ≤ 10 := g2
  have t3 : σ.1 (σ.2 t 11) 0 = τ.1 2 77 := t3
  have h7 : h < 7 := by omega
  obtain ⟨-, -, -, q3, q4, q5⟩ := t1 h h7
  have q3 : σ.1 (t + 4) h = τ.1 2 (21 + h) := q3
  have q4 : σ.1 (t + 5) h = τ.1 2 (28 + h) := q4
  have q5 : σ.1 (t + 6) h = τ.1 2 (35 + h) := q5
  obtain ⟨-, -, w3, w4, w5⟩ := g1 h h7
  dsimp only at w3 w4 w5
  have kd : ¬ τ.1 2 (35 + h) = 0 → τ.1 2 (28 + h) < τ.1 0 5 := kk h h7
  have a1 : yad 35 (h : Int) = 35 + (h : Int) := yad_e (by omega) (by omega)
  have a2 : yad 28 (h : Int) = 28 + (h : Int) := yad_e (by omega) (by omega)
  have a3 : yad 21 (h : Int) = 21 + (h : Int) := yad_e (by omega) (by omega)
  have n1 : (35 + (h : Int)).toNat = 35 + h := by omega
  have n2 : (28 + (h : Int)).toNat = 28 + h := by omega
  have n3 : (21 + (h : Int)).toNat = 21 + h := by omega
  have i1 : yin (35 + (h : Int)) 131 = true := by rw [yin_d]; exact decide_eq_true (by omega)
  have i2 : yin (28 + (h : Int)) 131 = true := by rw [yin_d]; exact decide_eq_true (by omega)
  have i3 : yin (21 + (h : Int)) 131 = true := by rw [yin_d]; exact decide_eq_true (by omega)
  have i7 : yin (h : Int) 7 = true := by rw [yin_d]; exact decide_eq_true (by omega)
  have ih : f_X4_isHouse N σ t (h : Int) = some (1, σ) := by
    rw [x4_isHouse (by rw [e0]; exact b0), e0, if_pos (by omega)]
  obtain ⟨v, hv⟩ : ∃ v : Nat, σ.2 t 11 = v := ⟨_, rfl⟩
  rw [hv] at t3 t7
  by_cases ho : τ.1 2 (35 + h) = 0
  · refine ⟨σ, τ, ?_, fun k49 x2 x3 x4 x5 x6 => ?_, H, yF7_r, yF8_r, rfl⟩
    · simp [f_X4_vowByHabit, f_X4_vowByHabit_b39, ih, ycP_eq, i7, q5, ho]
    · simp [f_X8_drift_b83, a1, n1, i1, ycP_le, ho]
  · have hl : ¬ τ.1 2 (35 + h) ≤ 0 := by omega
    by_cases hf : τ.1 2 77 = 10
    · refine ⟨σ, τ, ?_, fun k49 x2 x3 x4 x5 x6 => ?_, H, yF7_r, yF8_r, rfl⟩
      · simp [f_X4_vowByHabit, f_X4_vowByHabit_b39, ih, ycP_eq, ycP_lt, i7, q5, ho, f_X5_append, hv, t3, hf]
      · simp [f_X8_drift_b83, a1, n1, i1, ycP_le, ycP_ge, hl, hf]
    · obtain ⟨m, hm⟩ : ∃ m : Nat, τ.1 2 77 = (m : Int) := ⟨(τ.1 2 77).toNat, by omega⟩
      have h10 : m < 10 := by omega
      rw [hm] at t3
      have em : ymu 4 (m : Int) = 4 * (m : Int) := ymu_e (by omega) (by omega)
      have ea : yad 78 (4 * (m : Int)) = 78 + 4 * (m : Int) := yad_e (by omega) (by omega)
      have eb1 : yad (78 + 4 * (m : Int)) 1 = 79 + 4 * (m : Int) := by rw [yad_e (by omega) (by omega)]; omega
      have eb2 : yad (78 + 4 * (m : Int)) 2 = 80 + 4 * (m : Int) := by rw [yad_e (by omega) (by omega)]; omega
      have eb3 : yad (78 + 4 * (m : Int)) 3 = 81 + 4 * (m : Int) := by rw [yad_e (by omega) (by omega)]; omega
      have ec : (78 + 4 * (m : Int)).toNat = 78 + 4 * m := by omega
      have ec1 : (79 + 4 * (m : Int)).toNat = 79 + 4 * m := by omega
      have ec2 : (80 + 4 * (m : Int)).toNat = 80 + 4 * m := by omega
      have ec3 : (81 + 4 * (m : Int)).toNat = 81 + 4 * m := by omega
      have j0 : yin (78 + 4 * (m : Int)) 131 = true := by rw [yin_d]; exact decide_eq_true (by omega)
      have j1 : yin (79 + 4 * (m : Int)) 131 = true := by rw [yin_d]; exact decide_eq_true (by omega)
      have j2 : yin (80 + 4 * (m : Int)) 131 = true := by rw [yin_d]; exact decide_eq_true (by omega)
      have j3 : yin (81 + 4 * (m : Int)) 131 = true := by rw [yin_d]; exact decide_eq_true (by omega)
      have j77 : yin 77 131 = true := by decide +kernel
      have jm : yin (m : Int) 10 = true := by rw [yin_d]; exact decide_eq_true (by omega)
      have ee : yad (m : Int) 1 = (m : Int) + 1 := yad_e (by omega) (by omega)
      refine ⟨yw (yw (yw (yw (yw σ (v + 1) m h) (v + 2) m (τ.1 2 (21 + h))) (v + 3) m 0) (v + 4) m (τ.1 2 (28 + h))) v 0 ((m : Int) + 1), yw (yw (yw (yw (yw τ 2 (78 + 4 * m) h) 2 (79 + 4 * m) (τ.1 2 (21 + h))) 2 (80 + 4 * m) 0) 2 (81 + 4 * m) (τ.1 2 (28 + h))) 2 77 ((m : Int) + 1), ?_, fun k49 x2 x3 x4 x5 x6 => ?_, ?_, ?_, ?_, ?_⟩
      · simp [f_X4_vowByHabit, f_X4_vowByHabit_b39, ih, ycP_eq, ycP_lt, i7, q3, q4, q5, ho, f_X5_append, f_X5_append_b26, f_X5_append_b36, f_X5_append_b46, f_X5_append_b54, hv, t3, show (m : Int) < 10 by omega, jm, yw_1, ee]
      · have r1 : (yw τ 2 (78 + 4 * m) (h : Int)).1 2 (21 + h) = τ.1 2 (21 + h) := yw_n (by omega)
        have r2 : (yw (yw (yw τ 2 (78 + 4 * m) (h : Int)) 2 (79 + 4 * m) (τ.1 2 (21 + h))) 2 (80 + 4 * m) 0).1 2 (28 + h) = τ.1 2 (28 + h) := by rw [yw_n (by omega), yw_n (by omega), yw_n (by omega)]
        have r3 : (yw (yw (yw (yw τ 2 (78 + 4 * m) (h : Int)) 2 (79 + 4 * m) (τ.1 2 (21 + h))) 2 (80 + 4 * m) 0) 2 (81 + 4 * m) (τ.1 2 (28 + h))).1 2 77 = (m : Int) := by rw [yw_n (by omega), yw_n (by omega), yw_n (by omega), yw_n (by omega)]; exact hm
        simp only [f_X8_drift_b83, f_X8_drift_b148, f_X8_drift_b177, f_X8_drift_b186, a1, n1, i1, ycP_le, ycP_ge, decide_eq_false hl, hm, decide_eq_false (show ¬ (10 : Int) ≤ (m : Int) by omega), cond_true, cond_false, em, ea, eb1, eb2, eb3, ec, ec1, ec2, ec3, j0, j1, j2, j3, a2, a3, n2, n3, i2, i3, r1, r2, j77, show (77 : Int).toNat = 77 from rfl, r3, ee]
      · refine yDY_app (m := m) (h := (h : Int)) (k := τ.1 2 (21 + h)) (p := 0) (d := τ.1 2 (28 + h)) H hv hm h10 (by omega) w3 (by omega) (by omega) rfl (fun a b z => ?_) (by simp [yw_1]) (fun i => by simp [yw_1]) (fun i => by simp [yw_1]) (fun i => by simp [yw_1]) (fun i => by simp [yw_1]) (fun a b z => ?_) (fun j z => ?_) yw_p (fun i hi => ?_) (fun i hi => ?_) (fun i hi => ?_) (fun i hi => ?_)
        · rw [yw_n (by omega), yw_n (by omega), yw_n (by omega), yw_n (by omega), yw_n (by omega)]
        · rw [yw_n (by omega), yw_n (by omega), yw_n (by omega), yw_n (by omega), yw_n (by omega)]
        · rw [yw_n (by omega), yw_n (by omega), yw_n (by omega), yw_n (by omega), yw_n (by omega)]
        · by_cases hq : i = m
          · subst hq
            rw [if_pos rfl, yw_n (by omega), yw_n (by omega), yw_n (by omega), yw_n (by omega), yw_p]
          · rw [if_neg hq, yw_n (by omega), yw_n (by omega), yw_n (by omega), yw_n (by omega), yw_n (by omega)]
        · by_cases hq : i = m
          · subst hq
            rw [if_pos rfl, yw_n (by omega), yw_n (by omega), yw_n (by omega), yw_p]
          · rw [if_neg hq, yw_n (by omega), yw_n (by omega), yw_n (by omega), yw_n (by omega), yw_n (by omega)]
        · by_cases hq : i = m
          · subst hq
            rw [if_pos rfl, yw_n (by omega), yw_n (by omega), yw_p]
          · rw [if_neg hq, yw_n (by omega), yw_n (by omega), yw_n (by omega), yw_n (by omega), yw_n (by omega)]
        · by_cases hq : i = m
          · subst hq
            rw [if_pos rfl, yw_n (by omega), yw_p]
          · rw [if_neg hq, yw_n (by omega), yw_n (by omega), yw_n (by omega), yw_n (by omega), yw_n (by omega)]
      · repeat (first | exact yF7_r | refine yF7_w ?_ (by omega))
      · repeat (first | exact yF8_r | refine yF8_w ?_ (by omega))
      · rw [yw_n (by omega), yw_n (by omega), yw_n (by omega), yw_n (by omega), yw_n (by omega)]
theorem p_idx {N : Nat} {σ : yS} {A H : Int} (h0 : 0 ≤ A ∧ A ≤ 32767) (hH : 2 ≤ H ∧ H ≤ 7) : ∃ h : Nat, (h : Int) < H ∧ yrm A H = (h : Int) ∧ f_J9_floorMod_7cf53 N σ A H = some ((h : Int), σ) := by
  have hr : yrm A H = A % H := yrm_e h0.1 (by omega) (by omega) (by omega)
  have l1 := Int.emod_nonneg A (show H ≠ 0 by omega)
  have l2 := Int.emod_lt_of_pos A (show 0 < H by omega)
  have e : yrm A H = ((A % H).toNat : Int) := by rw [hr]; omega
  exact ⟨(A % H).toNat, by omega, e, by rw [x9_floorMod h0.1 (by omega) (by omega) (by omega), e]⟩
/-- one day of drift -/
theorem p_drift_s {N : Nat} (hN : 62 ≤ N) {n i : Nat} {w F S o : Int} {σ τ : yS} (hi : i ≤ 60) (H : yDY σ τ 38) (ho : 0 ≤ o ∧ o ≤ 20 * i) (h26 : τ.1 0 26 = o) : ∃ (z : Int) (σ' τ' : yS), (∀ k41 : yS → Int → Int → Int → Int → Int → Option (Int × yS), f_X7_drift_b58 N k41 σ n w S o i = k41 σ' n w S (o + z) ((i + 1 : Nat) : Int)) ∧ (∀ k49 : yS → Int → Int → Int → Int → Int → Option (Int × yS), f_X8_drift_b67 N k49 τ n w F S i = k49 τ' n w F S ((i + 1 : Nat) : Int)) ∧ yDY σ' τ' 38 ∧ yF7 38 σ σ' ∧ yF8 τ τ' ∧ τ'.1 0 26 = o + z ∧ (0 ≤ o + z ∧ o + z ≤ 20 * ((i + 1 : Nat) : Int)) := by
  obtain ⟨e0, e1, e2, b0, b1, b2, hc⟩ := H.1
  have y0 := yan15 (ysr S 16)
  simp only [f_X7_drift_b58, f_X8_drift_b67, yus16]
  generalize yan (ysr S 16) 32767 = A at y0 ⊢
  have hmx : ymx 1 (σ.1 38 0) = τ.1 0 3 := by
    rw [e0]
    unfold ymx
    rw [show zle (1 + 1) (τ.1 0 3) = true from decide_eq_true (by omega)]
    rfl
  obtain ⟨h, l2, hr, fm⟩ := p_idx (N := N) (σ := σ) y0 b0
  have hz : ynz (τ.1 0 3) = true := by rw [ynz_d]; exact decide_eq_true (by omega)
  obtain ⟨σ1, τ1, v7, v8, K1, f1, o1, h261⟩ := p_vbh (N := N) H l2
  obtain ⟨z, σ2, τ2, c7, c8, K2, f7, f8, hzz, d26, -⟩ := p_day (N := N) (by omega) K1
  have e26 := d26 (by omega) (by omega)
  have e3 : yad (i : Int) 1 = ((i + 1 : Nat) : Int) := by rw [yad_e (by omega) (by omega)]; omega
  have eo : yad o z = o + z := yad_e (by omega) (by omega)
  refine ⟨z, σ2, τ2, fun k41 => ?_, fun k49 => ?_, K2, yF7_t f1 f7, yF8_t o1 f8, by omega, by omega⟩
  · simp only [hmx, fm, v7, c7, eo, e3]
  · simp only [hz, cond_true, hr, v8, f_X8_drift_b190, c8, e3]
/-- the loop of drift -/
theorem p_drift_l {N : Nat} (hN : 62 ≤ N) {n : Nat} (hn : n ≤ 60) {w F : Int} : ∀ (c m k i : Nat) (σ τ : yS) (s o : Int), i + c = n → yDY σ τ 38 → (0 ≤ o ∧ o ≤ 20 * i) → τ.1 0 26 = o → σ.1 17 17 = F → ∃ (a : Int) (σ' τ' : yS), f_X7_drift_b41 N (m + c + 1) σ n w s o i = some (a, σ') ∧ f_X8_drift_b49 N (k + c + 1) τ n w F s i = some (a, τ') ∧ yDY σ' τ' 38 ∧ yF7 38 σ σ' ∧ yF8 τ τ'
  | 0, m, k, i, σ, τ, s, o, hi, H, ho, h26, hF => by
    have e : i = n := by omega
    subst e
    have d3 : σ.1 38 17 = τ.1 2 130 := H.2.1.2.2.2.2.1.2.2.2
    by_cases hw : w = 0
    · refine ⟨o, σ, τ, ?_, ?_, H, yF7_r, yF8_r⟩
      · rw [q_X7_drift_b41]
        simp [ycP_ge, ycP_ne, hw, f_X7_drift_b130]
      · rw [q_X8_drift_b49]
        simp [ycP_ge, ycP_ne, hw, f_X8_drift_b222, h26]
    · refine ⟨ysu (τ.1 2 130) F, σ, τ, ?_, ?_, H, yF7_r, yF8_r⟩
      · rw [q_X7_drift_b41]
        simp [ycP_ge, ycP_ne, hw, f_X7_drift_b130, d3, hF]
      · rw [q_X8_drift_b49]
        simp [ycP_ge, ycP_ne, hw, f_X8_drift_b222]
  | c + 1, m, k, i, σ, τ, s, o, hi, H, ho, h26, hF => by
    obtain ⟨z, σ2, τ2, c7, c8, K2, f7, f8, h2, h3⟩ := p_drift_s (N := N) (n := n) (w := w) (F := F) (S := yad (ymu s 1103515245) 12345) hN (show i ≤ 60 by omega) H ho h26
    obtain ⟨a, σ3, τ3, g7, g8, K3, l7, l8⟩ := p_drift_l hN hn (w := w) (F := F) c m k (i + 1) σ2 τ2 (yad (ymu s 1103515245) 12345) (o + z) (by omega) K2 h3 h2 (by rw [f7.1 17 17 (by omega)]; exact hF)
    refine ⟨a, σ3, τ3, ?_, ?_, K3, yF7_t f7 l7, yF8_t f8 l8⟩
    · rw [show m + (c + 1) + 1 = (m + c + 1) + 1 by omega, q_X7_drift_b41]
      simp only [ycP_ge, decide_eq_false (show ¬ (n : Int) ≤ (i : Int) by omega), cond_false, c7, g7]
    · rw [show k + (c + 1) + 1 = (k + c + 1) + 1 by omega, q_X8_drift_b49]
      simp only [ycP_ge, decide_eq_false (show ¬ (n : Int) ≤ (i : Int) by omega), cond_false, c8, g8]
theorem P_drift {N : Nat} (hN : 132 ≤ N) {σ τ : yS} {s n w : Int} (H : yRR σ τ) : ∃ (a : Int) (σ' τ' : yS), f_X7_drift N σ s n w = some (a, σ') ∧ f_X8_drift N τ s n w = some (a, τ') ∧ yRR σ' τ' := by
  simp only [f_X7_drift, f_X7_drift_b19, f_X8_drift, f_X8_drift_b22, f_X8_drift_b40, x7_within, x8_in, ycP_ne, ycP_eq]
  by_cases hn : 1 ≤ n ∧ n ≤ 60
  · by_cases hw : 0 ≤ w ∧ w ≤ 1
    · obtain ⟨m, rfl⟩ : ∃ m : Nat, n = (m : Int) := ⟨n.toNat, by omega⟩
      obtain ⟨σ1, c0, f1, -, D1⟩ := yDY_trial (N := N) H
      have s8 := x8_starts (N := N) hN (τ := τ)
      have D2 : yDY σ1 (yw (ycp τ 1 2 0 0 131) 0 26 0) 38 := yDY_o (τ := ycp τ 1 2 0 0 131) (fun j => yw_n (by omega)) ⟨yw_n (by omega), yw_n (by omega), yw_n (by omega)⟩ (fun b => yw_n (by omega)) D1
      have r30 : (yw (ycp τ 1 2 0 0 131) 0 26 0).1 2 130 = τ.1 1 130 := by rw [yw_n (by omega), ycp_p (by omega)]
      have d3 : σ.1 17 17 = τ.1 1 130 := H.1.2.2.2.1.2.2.2.2.1.2.2.2
      obtain ⟨a, σ2, τ2, g7, g8, K2, l7, l8⟩ := p_drift_l (N := N) (by omega) (show m ≤ 60 by omega) (w := w) (F := τ.1 1 130) m (N - m - 1) (N - m - 1) 0 σ1 _ s 0 (by omega) D2 (by omega) yw_p (by rw [f1.1 17 17 (by omega)]; exact d3)
      rw [show N - m - 1 + m + 1 = N by omega, show ((0 : Nat) : Int) = 0 from rfl] at g7 g8
      have j30 : yin 130 131 = true := by decide +kernel
      refine ⟨a, σ2, τ2, ?_, ?_, yRR_tr H (yF7_t f1 l7) K2 (yF8_t (yF8_w yF8_c (by omega)) l8)⟩
      · simp [hn, hw, c0, g7]
      · simp [hn, hw, s8, j30, r30, g8]
    · exact ⟨-1, σ, τ, by simp [hn, hw], by simp [hn, hw], H⟩
  · exact ⟨-1, σ, τ, by simp [hn], by simp [hn], H⟩
end
section
theorem yRT_can {σ : yS} {t h : Nat} {g : Nat → Int} {v : Int} (hh : h < 7) (H : yRT σ t g) : yRT (yw σ (t + 3) h v) t (yup g (7 + h) v) := by
  obtain ⟨t1, t2, ⟨t3, t4⟩, ⟨t5, t6⟩, ⟨d0, d1, d2, d3⟩, t7⟩ := H
  refine ⟨fun i hi => ?_, fun j hj => ?_, ⟨?_, fun i hi => ?_⟩, ⟨?_, fun i hi => ?_⟩, ⟨?_, ?_, ?_, ?_⟩, t7⟩
  · obtain ⟨q0, q1, q2, q3, q4, q5⟩ := t1 i hi
    refine ⟨?_, ?_, ?_, ?_, ?_, ?_⟩
    · rw [yw_n (by omega), yup_n (by omega)]; exact q0
    · by_cases e : i = h
      · subst e
        rw [yw_p, yup_p]
      · rw [yw_n (by omega), yup_n (by omega)]; exact q1
    · rw [yw_n (by omega), yup_n (by omega)]; exact q2
    · rw [yw_n (by omega), yup_n (by omega)]; exact q3
    · rw [yw_n (by omega), yup_n (by omega)]; exact q4
    · rw [yw_n (by omega), yup_n (by omega)]; exact q5
  · rw [yw_n (by omega), yup_n (by omega)]; exact t2 j hj
  · rw [yw_2, yw_n (by omega), yup_n (by omega)]; exact t3
  · rw [yup_n (by omega)] at hi
    rw [yw_2, yw_n (by omega), yw_n (by omega), yw_n (by omega), yw_n (by omega), yup_n (by omega), yup_n (by omega), yup_n (by omega), yup_n (by omega)]; exact t4 i hi
  · rw [yw_n (by omega), yup_n (by omega)]; exact t5
  · rw [yup_n (by omega)] at hi
    rw [yw_n (by omega), yw_n (by omega), yup_n (by omega), yup_n (by omega)]; exact t6 i hi
  · rw [yw_n (by omega), yup_n (by omega)]; exact d0
  · rw [yw_n (by omega), yup_n (by omega)]; exact d1
  · rw [yw_n (by omega), yup_n (by omega)]; exact d2
  · rw [yw_n (by omega), yup_n (by omega)]; exact d3
theorem yDY_can {σ τ : yS} {t h : Nat} {v : Int} (H : yDY σ τ t) (hh : h < 7) (hv : 0 ≤ v ∧ v < 32) : yDY (yw σ (t + 3) h v) (yw τ 2 (7 + h) v) t := by
  obtain ⟨R, T, ⟨g0, g1, g2, g3, g4, g5⟩, K0⟩ := H
  refine ⟨yRH_f ⟨yw_n (by omega), yw_n (by omega), yw_n (by omega)⟩ (fun b => yw_n (by omega)) ⟨yw_n (by omega), yw_n (by omega), yw_n (by omega)⟩ (fun b => yw_n (by omega)) R, by rw [yup_w]; exact yRT_can hh T, ?_, ?_⟩
  · rw [yup_w, yw_n (a := t) (by omega), yw_n (a := 0) (by omega), yw_n (a := 0) (by omega)]
    refine ⟨g0, fun i hi => ?_, ?_, fun i hi => ?_, ?_, fun i hi => ?_⟩
    · obtain ⟨q1, q2, q3, q4, q5⟩ := g1 i hi
      refine ⟨?_, by rw [yup_n (by omega)]; exact q2, by rw [yup_n (by omega)]; exact q3, by rw [yup_n (by omega)]; exact q4, by rw [yup_n (by omega)]; exact q5⟩
      by_cases e : i = h
      · subst e
        rw [yup_p]; exact hv
      · rw [yup_n (by omega)]; exact q1
    · rw [yup_n (by omega)]; exact g2
    · rw [yup_n (by omega)] at hi
      rw [yup_n (by omega), yup_n (by omega), yup_n (by omega), yup_n (by omega)]; exact g3 i hi
    · rw [yup_n (by omega)]; exact g4
    · rw [yup_n (by omega)] at hi
      rw [yup_n (by omega), yup_n (by omega)]; exact g5 i hi
  · rw [yup_w, yw_n (by omega), yw_n (by omega)]
    exact yGk_cong (fun j hj => yup_n (by omega)) K0
theorem x8_moves {N : Nat} {τ : yS} {a b : Nat} (ha : a < 7) (hb : b < 7) (hab : ¬ a = b) : f_X8_moves N τ a b = some (0, yw (yw (yw (yw τ 1 (7 + a) (τ.1 1 (7 + b))) 1 (7 + b) (τ.1 1 (7 + a))) 1 a (τ.1 1 b)) 1 b (τ.1 1 a)) := by
  have a1 : yad 7 (a : Int) = 7 + (a : Int) := yad_e (by omega) (by omega)
  have a2 : yad 7 (b : Int) = 7 + (b : Int) := yad_e (by omega) (by omega)
  have a3 : yad 0 (a : Int) = (a : Int) := by rw [yad_e (by omega) (by omega)]; omega
  have a4 : yad 0 (b : Int) = (b : Int) := by rw [yad_e (by omega) (by omega)]; omega
  have c1 : (7 + (a : Int)).toNat = 7 + a := by omega
  have c2 : (7 + (b : Int)).toNat = 7 + b := by omega
  have i1 : yin (7 + (a : Int)) 393 = true := by rw [yin_d]; exact decide_eq_true (by omega)
  have i2 : yin (7 + (b : Int)) 393 = true := by rw [yin_d]; exact decide_eq_true (by omega)
  have i3 : yin (a : Int) 393 = true := by rw [yin_d]; exact decide_eq_true (by omega)
  have i4 : yin (b : Int) 393 = true := by rw [yin_d]; exact decide_eq_true (by omega)
  have r1 : (yw (yw τ 1 (7 + a) (τ.1 1 (7 + b))) 1 (7 + b) (τ.1 1 (7 + a))).1 1 a = τ.1 1 a := by rw [yw_n (by omega), yw_n (by omega)]
  have r2 : (yw (yw τ 1 (7 + a) (τ.1 1 (7 + b))) 1 (7 + b) (τ.1 1 (7 + a))).1 1 b = τ.1 1 b := by rw [yw_n (by omega), yw_n (by omega)]
  simp only [f_X8_moves, f_X8_swaps, a1, a2, a3, a4, c1, c2, i1, i2, i3, i4, cond_true, Int.toNat_natCast, r1, r2]
theorem x4_change {N : Nat} {σ : yS} {t a b : Nat} (ha : a < 7) (hb : b < 7) (hab : ¬ a = b) : f_X4_changeHouses N σ t a b = some (0, yw (yw (yw (yw σ (t + 2) a (σ.1 (t + 2) b)) (t + 2) b (σ.1 (t + 2) a)) (t + 3) a (σ.1 (t + 3) b)) (t + 3) b (σ.1 (t + 3) a)) := by
  have i3 : yin (a : Int) 7 = true := by rw [yin_d]; exact decide_eq_true (by omega)
  have i4 : yin (b : Int) 7 = true := by rw [yin_d]; exact decide_eq_true (by omega)
  have r1 : (yw (yw σ (t + 2) a (σ.1 (t + 2) b)) (t + 2) b (σ.1 (t + 2) a)).1 (t + 3) a = σ.1 (t + 3) a := by rw [yw_n (by omega), yw_n (by omega)]
  have r2 : (yw (yw σ (t + 2) a (σ.1 (t + 2) b)) (t + 2) b (σ.1 (t + 2) a)).1 (t + 3) b = σ.1 (t + 3) b := by rw [yw_n (by omega), yw_n (by omega)]
  simp only [f_X4_changeHouses, f_X4_changeHouses_b31, i3, i4, cond_true, Int.toNat_natCast, r1, r2]
/-- one pair of houses tried -/
theorem p_best_s {N : Nat} (hN : 132 ≤ N) {σ τ : yS} {a b n : Nat} (ha : (a : Int) < τ.1 0 3) (hb : (b : Int) < τ.1 0 3) (hab : ¬ a = b) (hn : n ≤ 60) (H : yRR σ τ) : ∃ (z : Int) (σ1 σ2 σ' τ1 τ2 τ3 τ' : yS), f_X4_copyFrom N σ 38 17 = some (0, σ1) ∧ f_X4_changeHouses N σ1 38 a b = some (0, σ2) ∧ f_X4_passDays N σ2 38 n = some (z, σ') ∧ f_X8_moves N τ a b = some (0, τ1) ∧ f_X8_starts N τ1 = some (0, τ2) ∧ f_X8_daysAll N τ2 n = some (0, τ3) ∧ f_X8_moves N τ3 a b = some (0, τ') ∧ τ'.1 0 26 = z ∧ yRR σ' τ' ∧ τ'.1 0 3 = τ.1 0 3 := by
  obtain ⟨e0, e1, e2, b0, b1, b2, hc⟩ := H.1.2.2.1
  have ha7 : a < 7 := by omega
  have hb7 : b < 7 := by omega
  obtain ⟨σ1, c0, f1, -, D1⟩ := yDY_trial (N := N) H
  have pa : σ1.1 40 a = τ.1 1 a := by
    have q : σ1.1 40 a = (ycp τ 1 2 0 0 131).1 2 a := (D1.2.1.1 a ha7).1
    rw [q, ycp_p (by omega)]
  have pb : σ1.1 40 b = τ.1 1 b := by
    have q : σ1.1 40 b = (ycp τ 1 2 0 0 131).1 2 b := (D1.2.1.1 b hb7).1
    rw [q, ycp_p (by omega)]
  have sa : σ1.1 41 a = τ.1 1 (7 + a) := by
    have q : σ1.1 41 a = (ycp τ 1 2 0 0 131).1 2 (7 + a) := (D1.2.1.1 a ha7).2.1
    rw [q, ycp_p (by omega)]
  have sb : σ1.1 41 b = τ.1 1 (7 + b) := by
    have q : σ1.1 41 b = (ycp τ 1 2 0 0 131).1 2 (7 + b) := (D1.2.1.1 b hb7).2.1
    rw [q, ycp_p (by omega)]
  have ba : 0 ≤ τ.1 1 (7 + a) ∧ τ.1 1 (7 + a) < 32 := (H.1.2.2.2.2.2.1 a ha7).1
  have bb : 0 ≤ τ.1 1 (7 + b) ∧ τ.1 1 (7 + b) < 32 := (H.1.2.2.2.2.2.1 b hb7).1
  have D2 := yDY_can (yDY_can (yDY_purse (v := τ.1 1 a) (yDY_purse (v := τ.1 1 b) D1 ha7) hb7) ha7 bb) hb7 ba
  have c1 := x4_change (N := N) (σ := σ1) (t := 38) ha7 hb7 hab
  rw [show 38 + 2 = 40 from rfl, show 38 + 3 = 41 from rfl, pa, pb, sa, sb] at c1
  rw [show 38 + 2 = 40 from rfl, show 38 + 3 = 41 from rfl] at D2
  have m1 := x8_moves (N := N) (τ := τ) ha7 hb7 hab
  generalize hU : yw (yw (yw (yw τ 1 (7 + a) (τ.1 1 (7 + b))) 1 (7 + b) (τ.1 1 (7 + a))) 1 a (τ.1 1 b)) 1 b (τ.1 1 a) = U at m1
  have uo : ∀ x y : Nat, ¬ (x = 1 ∧ (y = a ∨ y = b ∨ y = 7 + a ∨ y = 7 + b)) → U.1 x y = τ.1 x y := fun x y h => by
    rw [← hU, yw_n (by omega), yw_n (by omega), yw_n (by omega), yw_n (by omega)]
  have ua : U.1 1 a = τ.1 1 b := by rw [← hU, yw_n (by omega), yw_p]
  have ub : U.1 1 b = τ.1 1 a := by rw [← hU, yw_p]
  have uc : U.1 1 (7 + a) = τ.1 1 (7 + b) := by rw [← hU, yw_n (by omega), yw_n (by omega), yw_n (by omega), yw_p]
  have ud : U.1 1 (7 + b) = τ.1 1 (7 + a) := by rw [← hU, yw_n (by omega), yw_n (by omega), yw_p]
  have s8 := x8_starts (N := N) hN (τ := U)
  have D3 : yDY (yw (yw (yw (yw σ1 40 a (τ.1 1 b)) 40 b (τ.1 1 a)) 41 a (τ.1 1 (7 + b))) 41 b (τ.1 1 (7 + a))) (ycp U 1 2 0 0 131) 38 := by
    refine yDY_o (fun j => ?_) ⟨?_, ?_, ?_⟩ (fun j => ?_) D2
    · by_cases hj : j < 131
      · rw [ycp_p hj]
        by_cases h1 : j = 7 + b
        · subst h1
          rw [ud, yw_p]
        · rw [yw_n (by omega)]
          by_cases h2 : j = 7 + a
          · subst h2
            rw [uc, yw_p]
          · rw [yw_n (by omega)]
            by_cases h3 : j = b
            · subst h3
              rw [ub, yw_p]
            · rw [yw_n (by omega)]
              by_cases h4 : j = a
              · subst h4
                rw [ua, yw_p]
              · rw [yw_n (by omega), ycp_p hj, uo _ _ (by omega)]
      · rw [ycp_n (by omega), yw_n (by omega), yw_n (by omega), yw_n (by omega), yw_n (by omega), ycp_n (by omega), uo _ _ (by omega)]
    · rw [ycp_n (by omega), yw_n (by omega), yw_n (by omega), yw_n (by omega), yw_n (by omega), ycp_n (by omega), uo _ _ (by omega)]
    · rw [ycp_n (by omega), yw_n (by omega), yw_n (by omega), yw_n (by omega), yw_n (by omega), ycp_n (by omega), uo _ _ (by omega)]
    · rw [ycp_n (by omega), yw_n (by omega), yw_n (by omega), yw_n (by omega), yw_n (by omega), ycp_n (by omega), uo _ _ (by omega)]
    · rw [ycp_n (by omega), yw_n (by omega), yw_n (by omega), yw_n (by omega), yw_n (by omega), ycp_n (by omega), uo _ _ (by omega)]
  have f2 : yF7 38 σ (yw (yw (yw (yw σ1 40 a (τ.1 1 b)) 40 b (τ.1 1 a)) 41 a (τ.1 1 (7 + b))) 41 b (τ.1 1 (7 + a))) := yF7_w (yF7_w (yF7_w (yF7_w f1 (by omega)) (by omega)) (by omega)) (by omega)
  obtain ⟨z, σ', τ3, c7, c8, K, f7, f8, q1, q2, -⟩ := p_days (N := N) (by omega) hn D3
  have oo : ∀ x y : Nat, ¬ x = 2 → ¬ x = 9 → ¬ (x = 0 ∧ (y = 25 ∨ y = 26)) → τ3.1 x y = U.1 x y := fun x y h1 h2 h3 => by rw [f8 x y h1 h2 h3, ycp_n (by omega)]
  have m3 := x8_moves (N := N) (τ := τ3) ha7 hb7 hab
  rw [oo 1 a (by omega) (by omega) (by omega), oo 1 b (by omega) (by omega) (by omega), oo 1 (7 + a) (by omega) (by omega) (by omega), oo 1 (7 + b) (by omega) (by omega) (by omega), ua, ub, uc, ud] at m3
  generalize hV : yw (yw (yw (yw τ3 1 (7 + a) (τ.1 1 (7 + a))) 1 (7 + b) (τ.1 1 (7 + b))) 1 a (τ.1 1 a)) 1 b (τ.1 1 b) = V at m3
  have vo : ∀ x y : Nat, ¬ x = 2 → ¬ x = 9 → ¬ (x = 0 ∧ (y = 25 ∨ y = 26)) → V.1 x y = τ.1 x y := fun x y h1 h2 h3 => by
    rw [← hV]
    by_cases k1 : x = 1 ∧ y = b
    · obtain ⟨rfl, rfl⟩ := k1
      rw [yw_p]
    · rw [yw_n (by omega)]
      by_cases k2 : x = 1 ∧ y = a
      · obtain ⟨rfl, rfl⟩ := k2
        rw [yw_p]
      · rw [yw_n (by omega)]
        by_cases k3 : x = 1 ∧ y = 7 + b
        · obtain ⟨rfl, rfl⟩ := k3
          rw [yw_p]
        · rw [yw_n (by omega)]
          by_cases k4 : x = 1 ∧ y = 7 + a
          · obtain ⟨rfl, rfl⟩ := k4
            rw [yw_p]
          · rw [yw_n (by omega), oo x y h1 h2 h3, uo x y (by omega)]
  have v26 : V.1 0 26 = z := by rw [← hV, yw_n (by omega), yw_n (by omega), yw_n (by omega), yw_n (by omega), q1]
  have ff := yF7_t f2 f7
  exact ⟨z, σ1, _, σ', U, _, τ3, V, c0, c1, c7, m1, s8, c8, m3, v26, yRR_scr H (fun a b h => ff.2 a b h) K.2.1.2.2.2.2.2 (fun a b h => ff.1 a b (by omega)) (fun x y h1 h2 _ _ h5 => vo x y h1 h2 (by omega)), vo 0 3 (by omega) (by omega) (by omega)⟩
end
section
theorem p_best_i {N : Nat} (hN : 132 ≤ N) {a n H3 : Nat} {w : Int} (hn : n ≤ 60) (h7 : H3 ≤ 7) (k48 k45 : yS → Int → Int → Int → Int → Int → Option (Int × yS)) : ∀ (c m k b : Nat) (σ τ : yS) (o p : Int), b + c = H3 → a < b → τ.1 0 3 = (H3 : Int) → yRR σ τ → ∃ (o' p' : Int) (σ' τ' : yS), f_X7_best_b66 N k48 (m + c + 1) σ n w o p a b = k48 σ' n w o' p' ((a + 1 : Nat) : Int) ∧ f_X8_best_b60 N k45 (k + c + 1) τ n w o p a b = k45 τ' n w o' p' ((a + 1 : Nat) : Int) ∧ yRR σ' τ' ∧ τ'.1 0 3 = (H3 : Int)
  | 0, m, k, b, σ, τ, o, p, hb, hab, h3, H => by
    have e0 : σ.1 17 0 = τ.1 0 3 := H.1.2.2.1.1
    have ea : yad (a : Int) 1 = ((a + 1 : Nat) : Int) := by rw [yad_e (by omega) (by omega)]; omega
    have hle : (H3 : Int) ≤ (b : Int) := by omega
    refine ⟨o, p, σ, τ, ?_, ?_, H, h3⟩
    · rw [q_X7_best_b66, e0, h3]
      simp only [ycP_ge, decide_eq_true hle, cond_true, ea]
    · rw [q_X8_best_b60, h3]
      simp only [ycP_ge, decide_eq_true hle, cond_true, ea]
  | c + 1, m, k, b, σ, τ, o, p, hb, hab, h3, H => by
    have e0 : σ.1 17 0 = τ.1 0 3 := H.1.2.2.1.1
    have eb : yad (b : Int) 1 = ((b + 1 : Nat) : Int) := by rw [yad_e (by omega) (by omega)]; omega
    have hle : ¬ (H3 : Int) ≤ (b : Int) := by omega
    obtain ⟨z, σ1, σ2, σ3, τ1, τ2, τ3, τ4, s1, s2, s3, s4, s5, s6, s7, q1, K, q3⟩ := p_best_s (N := N) hN (a := a) (b := b) (n := n) (by omega) (by omega) (by omega) hn H
    by_cases hz : z ≤ o
    · obtain ⟨o', p', σ', τ', g7, g8, K', r3⟩ := p_best_i hN (a := a) (n := n) (H3 := H3) (w := w) hn h7 k48 k45 c m k (b + 1) σ3 τ4 o p (by omega) (by omega) (by rw [q3]; exact h3) K
      refine ⟨o', p', σ', τ', ?_, ?_, K', r3⟩
      · rw [show m + (c + 1) + 1 = (m + c + 1) + 1 by omega, q_X7_best_b66, e0, h3]
        simp only [ycP_ge, ycP_le, decide_eq_false hle, cond_false, s1, s2, s3, decide_eq_true hz, cond_true, f_X7_best_b129, eb, g7]
      · rw [show k + (c + 1) + 1 = (k + c + 1) + 1 by omega, q_X8_best_b60, h3]
        simp only [ycP_ge, ycP_le, decide_eq_false hle, cond_false, s4, s5, s6, s7, q1, decide_eq_true hz, cond_true, f_X8_best_b115, f_X8_best_b133, eb, g8]
    · obtain ⟨o', p', σ', τ', g7, g8, K', r3⟩ := p_best_i hN (a := a) (n := n) (H3 := H3) (w := w) hn h7 k48 k45 c m k (b + 1) σ3 τ4 z (yad (ymu 10 (a : Int)) (b : Int)) (by omega) (by omega) (by rw [q3]; exact h3) K
      refine ⟨o', p', σ', τ', ?_, ?_, K', r3⟩
      · rw [show m + (c + 1) + 1 = (m + c + 1) + 1 by omega, q_X7_best_b66, e0, h3]
        simp only [ycP_ge, ycP_le, decide_eq_false hle, cond_false, s1, s2, s3, decide_eq_false hz, f_X7_best_b129, eb, g7]
      · rw [show k + (c + 1) + 1 = (k + c + 1) + 1 by omega, q_X8_best_b60, h3]
        simp only [ycP_ge, ycP_le, decide_eq_false hle, cond_false, s4, s5, s6, s7, q1, decide_eq_false hz, f_X8_best_b115, f_X8_best_b133, eb, g8]
theorem p_best_o {N : Nat} (hN : 132 ≤ N) {n H3 : Nat} {w : Int} (hn : n ≤ 60) (h7 : H3 ≤ 7) : ∀ (c m k a : Nat) (σ τ : yS) (o p : Int), a + c = H3 → τ.1 0 3 = (H3 : Int) → yRR σ τ → ∃ (z : Int) (σ' τ' : yS), f_X7_best_b48 N (m + c + 1) σ n w o p a = some (z, σ') ∧ f_X8_best_b45 N (k + c + 1) τ n w o p a = some (z, τ') ∧ yRR σ' τ'
  | 0, m, k, a, σ, τ, o, p, ha, h3, H => by
    have e0 : σ.1 17 0 = τ.1 0 3 := H.1.2.2.1.1
    have hle : (H3 : Int) ≤ (a : Int) := by omega
    by_cases hp : p = -4
    · refine ⟨-4, σ, τ, ?_, ?_, H⟩
      · rw [q_X7_best_b48, e0, h3]
        by_cases hw : w = 0
        · simp [ycP_ge, ycP_eq, ycP_ne, hle, f_X7_best_b152, f_X7_best_b158, hw, hp]
        · simp [ycP_ge, ycP_eq, ycP_ne, hle, f_X7_best_b152, f_X7_best_b158, hw, hp]
      · rw [q_X8_best_b45, h3]
        simp [ycP_ge, ycP_ne, hle, f_X8_best_b168, hp]
    · by_cases hw : w = 0
      · refine ⟨p, σ, τ, ?_, ?_, H⟩
        · rw [q_X7_best_b48, e0, h3]
          simp [ycP_ge, ycP_eq, ycP_ne, hle, f_X7_best_b152, f_X7_best_b158, hw]
        · rw [q_X8_best_b45, h3]
          simp [ycP_ge, ycP_ne, hle, f_X8_best_b168, hp, hw]
      · refine ⟨o, σ, τ, ?_, ?_, H⟩
        · rw [q_X7_best_b48, e0, h3]
          simp [ycP_ge, ycP_eq, ycP_ne, hle, f_X7_best_b152, f_X7_best_b158, hw, hp]
        · rw [q_X8_best_b45, h3]
          simp [ycP_ge, ycP_ne, hle, f_X8_best_b168, hp, hw]
  | c + 1, m, k, a, σ, τ, o, p, ha, h3, H => by
    have e0 : σ.1 17 0 = τ.1 0 3 := H.1.2.2.1.1
    have hle : ¬ (H3 : Int) ≤ (a : Int) := by omega
    have ea : yad (a : Int) 1 = ((a + 1 : Nat) : Int) := by rw [yad_e (by omega) (by omega)]; omega
    obtain ⟨o', p', σ1, τ1, g7, g8, K, r3⟩ := p_best_i (N := N) hN (a := a) (n := n) (H3 := H3) (w := w) hn h7 (f_X7_best_b48 N (m + c + 1)) (f_X8_best_b45 N (k + c + 1)) c (N - c - 1) (N - c - 1) (a + 1) σ τ o p (by omega) (by omega) h3 H
    rw [show N - c - 1 + c + 1 = N by omega] at g7 g8
    obtain ⟨z, σ2, τ2, l7, l8, K2⟩ := p_best_o hN (n := n) (H3 := H3) (w := w) hn h7 c m k (a + 1) σ1 τ1 o' p' (by omega) r3 K
    refine ⟨z, σ2, τ2, ?_, ?_, K2⟩
    · rw [show m + (c + 1) + 1 = (m + c + 1) + 1 by omega, q_X7_best_b48, e0, h3]
      simp only [ycP_ge, decide_eq_false hle, cond_false, ea, g7, l7]
    · rw [show k + (c + 1) + 1 = (k + c + 1) + 1 by omega, q_X8_best_b45, h3]
      simp only [ycP_ge, decide_eq_false hle, cond_false, ea, g8, l8]
theorem P_best {N : Nat} (hN : 132 ≤ N) {σ τ : yS} {n w : Int} (H : yRR σ τ) : ∃ (a : Int) (σ' τ' : yS), f_X7_best N σ n w = some (a, σ') ∧ f_X8_best N τ n w = some (a, τ') ∧ yRR σ' τ' := by
  obtain ⟨e0, e1, e2, b0, b1, b2, hc⟩ := H.1.2.2.1
  simp only [f_X7_best, f_X7_best_b19, f_X8_best, f_X8_best_b22, x7_within, x8_in, ycP_ne, ycP_eq]
  by_cases hn : 1 ≤ n ∧ n ≤ 20
  · by_cases hw : 0 ≤ w ∧ w ≤ 1
    · obtain ⟨m, rfl⟩ : ∃ m : Nat, n = (m : Int) := ⟨n.toNat, by omega⟩
      obtain ⟨H3, h3⟩ : ∃ m : Nat, τ.1 0 3 = (m : Int) := ⟨(τ.1 0 3).toNat, by omega⟩
      obtain ⟨σ1, c0, f1, -, D1⟩ := yDY_trial (N := N) H
      have s8 := x8_starts (N := N) hN (τ := τ)
      obtain ⟨z, σ2, τ2, c7, c8, K, f7, f8, q1, q2, q3⟩ := p_days (N := N) (by omega) (show m ≤ 60 by omega) D1
      have H2 := yRR_tr H (yF7_t f1 f7) K (yF8_t yF8_c f8)
      have r3 : τ2.1 0 3 = (H3 : Int) := by rw [f8 0 3 (by omega) (by omega) (by omega), ycp_n (by omega)]; exact h3
      obtain ⟨y, σ3, τ3, g7, g8, K3⟩ := p_best_o (N := N) hN (n := m) (H3 := H3) (w := w) (by omega) (by omega) H3 (N - H3 - 1) (N - H3 - 1) 0 σ2 τ2 z (-4) (by omega) r3 H2
      rw [show N - H3 - 1 + H3 + 1 = N by omega, show ((0 : Nat) : Int) = 0 from rfl] at g7 g8
      refine ⟨y, σ3, τ3, ?_, ?_, K3⟩
      · simp [hn, hw, c0, c7, g7]
      · simp [hn, hw, s8, c8, q1, g8]
    · exact ⟨-1, σ, τ, by simp [hn, hw], by simp [hn, hw], H⟩
  · exact ⟨-1, σ, τ, by simp [hn], by simp [hn], H⟩
end
