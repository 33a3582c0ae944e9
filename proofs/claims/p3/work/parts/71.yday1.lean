/-- a row with one place changed -/
noncomputable def yup (g : Nat → Int) (k : Nat) (v : Int) : Nat → Int := fun j => if j = k then v else g j
theorem yup_n {g : Nat → Int} {k j : Nat} {v : Int} (h : ¬ j = k) : yup g k v j = g j := if_neg h
theorem yup_p {g : Nat → Int} {k : Nat} {v : Int} : yup g k v k = v := if_pos rfl
theorem yup_w {τ : yS} {c k : Nat} {v : Int} : (fun j => (yw τ c k v).1 c j) = yup (fun j => τ.1 c j) k v := by
  funext j
  rw [yw_1]
  unfold yup
  simp
theorem yRT_purse {σ : yS} {t h : Nat} {g : Nat → Int} {v : Int} (hh : h < 7) (H : yRT σ t g) : yRT (yw σ (t + 2) h v) t (yup g h v) := by
  obtain ⟨t1, t2, ⟨t3, t4⟩, ⟨t5, t6⟩, ⟨d0, d1, d2, d3⟩, t7⟩ := H
  refine ⟨fun i hi => ?_, fun j hj => ?_, ⟨?_, fun i hi => ?_⟩, ⟨?_, fun i hi => ?_⟩, ⟨?_, ?_, ?_, ?_⟩, t7⟩
  · obtain ⟨q0, q1, q2, q3, q4, q5⟩ := t1 i hi
    refine ⟨?_, ?_, ?_, ?_, ?_, ?_⟩
    · by_cases e : i = h
      · subst e
        rw [yw_p, yup_p]
      · rw [yw_n (by omega), yup_n (by omega)]; exact q0
    · rw [yw_n (by omega), yup_n (by omega)]; exact q1
    · rw [yw_n (by omega), yup_n (by omega)]; exact q2
    · rw [yw_n (by omega), yup_n (by omega)]; exact q3
    · rw [yw_n (by omega), yup_n (by omega)]; exact q4
    · rw [yw_n (by omega), yup_n (by omega)]; exact q5
  · rw [yw_n (by omega), yup_n (by omega)]; exact t2 j hj
  · rw [yw_2, yw_n (by omega), yup_n (by omega)]; exact t3
  · rw [yup_n (by omega)] at hi
    rw [yw_2, yw_n (by omega), yw_n (by omega), yw_n (by omega), yw_n (by omega), yup_n (by omega), yup_n (by omega), yup_n (by omega), yup_n (by omega)]; exact t4 i hi
  · rw [yw_n (by omega), yup_n (by omega)]; exact t5
  · rw [yup_n (by omega)] at hi
    rw [yw_n (by omega), yw_n (by omega), yup_n (by omega), yup_n (by omega)]; exact t6 i hi
  · rw [yw_n (by omega), yup_n (by omega)]; exact d0
  · rw [yw_n (by omega), yup_n (by omega)]; exact d1
  · rw [yw_n (by omega), yup_n (by omega)]; exact d2
  · rw [yw_n (by omega), yup_n (by omega)]; exact d3
theorem yRT_done {σ : yS} {t k : Nat} {g : Nat → Int} {v : Int} (hk : k < 35) (H : yRT σ t g) : yRT (yw σ (t + 7) k v) t (yup g (42 + k) v) := by
  obtain ⟨t1, t2, ⟨t3, t4⟩, ⟨t5, t6⟩, ⟨d0, d1, d2, d3⟩, t7⟩ := H
  refine ⟨fun i hi => ?_, fun j hj => ?_, ⟨?_, fun i hi => ?_⟩, ⟨?_, fun i hi => ?_⟩, ⟨?_, ?_, ?_, ?_⟩, t7⟩
  · obtain ⟨q0, q1, q2, q3, q4, q5⟩ := t1 i hi
    refine ⟨?_, ?_, ?_, ?_, ?_, ?_⟩
    · rw [yw_n (by omega), yup_n (by omega)]; exact q0
    · rw [yw_n (by omega), yup_n (by omega)]; exact q1
    · rw [yw_n (by omega), yup_n (by omega)]; exact q2
    · rw [yw_n (by omega), yup_n (by omega)]; exact q3
    · rw [yw_n (by omega), yup_n (by omega)]; exact q4
    · rw [yw_n (by omega), yup_n (by omega)]; exact q5
  · by_cases e : j = k
    · subst e
      rw [yw_p, yup_p]
    · rw [yw_n (by omega), yup_n (by omega)]; exact t2 j hj
  · rw [yw_2, yw_n (by omega), yup_n (by omega)]; exact t3
  · rw [yup_n (by omega)] at hi
    rw [yw_2, yw_n (by omega), yw_n (by omega), yw_n (by omega), yw_n (by omega), yup_n (by omega), yup_n (by omega), yup_n (by omega), yup_n (by omega)]; exact t4 i hi
  · rw [yw_n (by omega), yup_n (by omega)]; exact t5
  · rw [yup_n (by omega)] at hi
    rw [yw_n (by omega), yw_n (by omega), yup_n (by omega), yup_n (by omega)]; exact t6 i hi
  · rw [yw_n (by omega), yup_n (by omega)]; exact d0
  · rw [yw_n (by omega), yup_n (by omega)]; exact d1
  · rw [yw_n (by omega), yup_n (by omega)]; exact d2
  · rw [yw_n (by omega), yup_n (by omega)]; exact d3
/-- day, lost, struck, failed -/
theorem yRT_cnt {σ : yS} {t b : Nat} {g : Nat → Int} {v : Int} (hb : 14 ≤ b ∧ b < 18) (hs : ∀ i : Nat, (i : Int) < g 77 → i < 10) (hw : ∀ i : Nat, (i : Int) < g 118 → i < 4) (H : yRT σ t g) : yRT (yw σ t b v) t (yup g (113 + b) v) := by
  obtain ⟨t1, t2, ⟨t3, t4⟩, ⟨t5, t6⟩, ⟨d0, d1, d2, d3⟩, t7⟩ := H
  refine ⟨fun i hi => ?_, fun j hj => ?_, ⟨?_, fun i hi => ?_⟩, ⟨?_, fun i hi => ?_⟩, ⟨?_, ?_, ?_, ?_⟩, t7⟩
  · obtain ⟨q0, q1, q2, q3, q4, q5⟩ := t1 i hi
    refine ⟨?_, ?_, ?_, ?_, ?_, ?_⟩
    · rw [yw_n (by omega), yup_n (by omega)]; exact q0
    · rw [yw_n (by omega), yup_n (by omega)]; exact q1
    · rw [yw_n (by omega), yup_n (by omega)]; exact q2
    · rw [yw_n (by omega), yup_n (by omega)]; exact q3
    · rw [yw_n (by omega), yup_n (by omega)]; exact q4
    · rw [yw_n (by omega), yup_n (by omega)]; exact q5
  · rw [yw_n (by omega), yup_n (by omega)]; exact t2 j hj
  · rw [yw_2, yw_n (by omega), yup_n (by omega)]; exact t3
  · rw [yup_n (by omega)] at hi
    have hi2 := hs i hi
    rw [yw_2, yw_n (by omega), yw_n (by omega), yw_n (by omega), yw_n (by omega), yup_n (by omega), yup_n (by omega), yup_n (by omega), yup_n (by omega)]; exact t4 i hi
  · rw [yw_n (by omega), yup_n (by omega)]; exact t5
  · rw [yup_n (by omega)] at hi
    have hi2 := hw i hi
    rw [yw_n (by omega), yw_n (by omega), yup_n (by omega), yup_n (by omega)]; exact t6 i hi
  · by_cases e : b = 14
    · subst e
      exact yw_p.trans yup_p.symm
    · rw [yw_n (by omega), yup_n (by omega)]; exact d0
  · by_cases e : b = 15
    · subst e
      exact yw_p.trans yup_p.symm
    · rw [yw_n (by omega), yup_n (by omega)]; exact d1
  · by_cases e : b = 16
    · subst e
      exact yw_p.trans yup_p.symm
    · rw [yw_n (by omega), yup_n (by omega)]; exact d2
  · by_cases e : b = 17
    · subst e
      exact yw_p.trans yup_p.symm
    · rw [yw_n (by omega), yup_n (by omega)]; exact d3
/-- what leaves all but the fallen row alone keeps yRT -/
theorem yRT_fl {σ σ' : yS} {t : Nat} {g : Nat → Int} (r : ∀ b : Nat, σ'.2 t b = σ.2 t b) (c : ∀ a b : Nat, t ≤ a → a < t + 21 → ¬ (σ.2 t 12 ≤ a ∧ a < σ.2 t 12 + 5) → σ'.1 a b = σ.1 a b) (H : yRT σ t g) : yRT σ' t g := by
  obtain ⟨t1, t2, ⟨t3, t4⟩, ⟨t5, t6⟩, ⟨d0, d1, d2, d3⟩, t7⟩ := H
  refine ⟨fun i hi => ?_, fun j hj => ?_, ⟨?_, fun i hi => ?_⟩, ⟨?_, fun i hi => ?_⟩, ⟨?_, ?_, ?_, ?_⟩, ?_⟩
  · rw [c (t + 2) _ (by omega) (by omega) (by omega), c (t + 3) _ (by omega) (by omega) (by omega), c t _ (by omega) (by omega) (by omega), c (t + 4) _ (by omega) (by omega) (by omega), c (t + 5) _ (by omega) (by omega) (by omega), c (t + 6) _ (by omega) (by omega) (by omega)]
    exact t1 i hi
  · rw [c _ _ (by omega) (by omega) (by omega)]; exact t2 j hj
  · rw [r, c _ _ (by omega) (by omega) (by omega)]; exact t3
  · rw [r, c _ _ (by omega) (by omega) (by omega), c _ _ (by omega) (by omega) (by omega), c _ _ (by omega) (by omega) (by omega), c _ _ (by omega) (by omega) (by omega)]; exact t4 i hi
  · rw [c _ _ (by omega) (by omega) (by omega)]; exact t5
  · rw [c _ _ (by omega) (by omega) (by omega), c _ _ (by omega) (by omega) (by omega)]; exact t6 i hi
  · rw [c _ _ (by omega) (by omega) (by omega)]; exact d0
  · rw [c _ _ (by omega) (by omega) (by omega)]; exact d1
  · rw [c _ _ (by omega) (by omega) (by omega)]; exact d2
  · rw [c _ _ (by omega) (by omega) (by omega)]; exact d3
  · rw [r, r]; exact t7
/-- the bounds without that of the day -/
def yGe (hs ds : Int) (L : Int) (g : Nat → Int) : Prop :=
  (0 ≤ L ∧ L < 128) ∧ (∀ h : Nat, h < 7 → (0 ≤ g (7 + h) ∧ g (7 + h) < 32) ∧ (0 ≤ g (14 + h) ∧ g (14 + h) ≤ 1) ∧ (0 ≤ g (21 + h) ∧ g (21 + h) ≤ 4) ∧ (0 ≤ g (28 + h) ∧ g (28 + h) ≤ 4) ∧ (0 ≤ g (35 + h) ∧ g (35 + h) ≤ 10)) ∧
  (0 ≤ g 77 ∧ g 77 ≤ 10) ∧ (∀ i : Nat, (i : Int) < g 77 → (0 ≤ g (78 + 4 * i) ∧ g (78 + 4 * i) < hs) ∧ (0 ≤ g (79 + 4 * i) ∧ g (79 + 4 * i) ≤ 4) ∧ (0 ≤ g (80 + 4 * i) ∧ g (80 + 4 * i) ≤ 9) ∧ (0 ≤ g (81 + 4 * i) ∧ g (81 + 4 * i) < ds)) ∧
  (0 ≤ g 118 ∧ g 118 ≤ 4) ∧ (∀ i : Nat, (i : Int) < g 118 → (0 ≤ g (119 + 2 * i) ∧ g (119 + 2 * i) < hs) ∧ (0 ≤ g (120 + 2 * i) ∧ g (120 + 2 * i) < ds))
theorem yGd_e {hs ds L : Int} {g : Nat → Int} (H : yGd hs ds L g) : yGe hs ds L g := ⟨H.1, H.2.1, H.2.2.1, H.2.2.2.1, H.2.2.2.2.1, H.2.2.2.2.2.1⟩
theorem yGe_d {hs ds L : Int} {g : Nat → Int} (H : yGe hs ds L g) (h : 0 ≤ g 127 ∧ g 127 ≤ 999) : yGd hs ds L g := ⟨H.1, H.2.1, H.2.2.1, H.2.2.2.1, H.2.2.2.2.1, H.2.2.2.2.2, h⟩
theorem yGe_cong {g g' : Nat → Int} {hs ds L : Int} (h : ∀ j : Nat, (7 ≤ j ∧ j < 42) ∨ (77 ≤ j ∧ j < 127) → g' j = g j) (G : yGe hs ds L g) : yGe hs ds L g' := by
  obtain ⟨g0, g1, g2, g3, g4, g5⟩ := G
  refine ⟨g0, fun i hi => ?_, ?_, fun i hi => ?_, ?_, fun i hi => ?_⟩
  · rw [h (7 + i) (by omega), h (14 + i) (by omega), h (21 + i) (by omega), h (28 + i) (by omega), h (35 + i) (by omega)]; exact g1 i hi
  · rw [h 77 (by omega)]; exact g2
  · rw [h 77 (by omega)] at hi
    rw [h (78 + 4 * i) (by omega), h (79 + 4 * i) (by omega), h (80 + 4 * i) (by omega), h (81 + 4 * i) (by omega)]; exact g3 i hi
  · rw [h 118 (by omega)]; exact g4
  · rw [h 118 (by omega)] at hi
    rw [h (119 + 2 * i) (by omega), h (120 + 2 * i) (by omega)]; exact g5 i hi
/-- what is done is at most 99; who vows by habit vows a deed that there is -/
def yGk (hs ds : Int) (g : Nat → Int) : Prop := (∀ j : Nat, j < 35 → 0 ≤ g (42 + j) ∧ g (42 + j) ≤ 99) ∧ (∀ h : Nat, h < 7 → ¬ g (35 + h) = 0 → g (28 + h) < ds) ∧ (∀ h : Nat, h < 7 → hs ≤ (h : Int) → g (14 + h) = 0)
theorem yGk_cong {g g' : Nat → Int} {hs ds : Int} (h : ∀ j : Nat, (14 ≤ j ∧ j < 21) ∨ (28 ≤ j ∧ j < 77) → g' j = g j) (G : yGk hs ds g) : yGk hs ds g' := by
  refine ⟨fun j hj => ?_, fun i hi => ?_, fun i hi => ?_⟩
  · rw [h (42 + j) (by omega)]; exact G.1 j hj
  · rw [h (35 + i) (by omega), h (28 + i) (by omega)]; exact G.2.1 i hi
  · rw [h (14 + i) (by omega)]; exact G.2.2 i hi
/-- the row of what has fallen today -/
def yFal (σ τ : yS) (f : Nat) : Prop := σ.1 f 0 = τ.1 0 25 ∧ (0 ≤ τ.1 0 25 ∧ τ.1 0 25 ≤ 10) ∧ ∀ i : Nat, (i : Int) < τ.1 0 25 → (σ.1 (f + 1) i = τ.1 9 (4 * i) ∧ σ.1 (f + 2) i = τ.1 9 (4 * i + 1) ∧ σ.1 (f + 3) i = τ.1 9 (4 * i + 2) ∧ σ.1 (f + 4) i = τ.1 9 (4 * i + 3)) ∧ (0 ≤ τ.1 9 (4 * i) ∧ τ.1 9 (4 * i) < τ.1 0 3) ∧ (0 ≤ τ.1 9 (4 * i + 1) ∧ τ.1 9 (4 * i + 1) ≤ 4) ∧ (0 ≤ τ.1 9 (4 * i + 2) ∧ τ.1 9 (4 * i + 2) ≤ 9) ∧ (0 ≤ τ.1 9 (4 * i + 3) ∧ τ.1 9 (4 * i + 3) < τ.1 0 5)
/-- a terrace whose days pass, against the row at -/
def yDY (σ τ : yS) (t : Nat) : Prop := yRH σ τ t ∧ yRT σ t (fun j => τ.1 2 j) ∧ yGe (τ.1 0 3) (τ.1 0 5) (σ.1 t 6) (fun j => τ.1 2 j) ∧ yGk (τ.1 0 3) (τ.1 0 5) (fun j => τ.1 2 j)
/-- what a day leaves alone -/
def yF7 (t : Nat) (σ σ' : yS) : Prop := (∀ a b : Nat, a < t ∨ t + 21 ≤ a → σ'.1 a b = σ.1 a b) ∧ (∀ a b : Nat, ¬ a = t → σ'.2 a b = σ.2 a b)
def yF8 (τ τ' : yS) : Prop := ∀ a b : Nat, ¬ a = 2 → ¬ a = 9 → ¬ (a = 0 ∧ (b = 25 ∨ b = 26)) → τ'.1 a b = τ.1 a b
theorem yF7_r {t : Nat} {σ : yS} : yF7 t σ σ := ⟨fun _ _ _ => rfl, fun _ _ _ => rfl⟩
theorem yF7_t {t : Nat} {σ1 σ2 σ3 : yS} (h : yF7 t σ1 σ2) (k : yF7 t σ2 σ3) : yF7 t σ1 σ3 := ⟨fun a b z => by rw [k.1 a b z, h.1 a b z], fun a b z => by rw [k.2 a b z, h.2 a b z]⟩
theorem yF7_w {t i k : Nat} {σ1 σ2 : yS} {z : Int} (h : yF7 t σ1 σ2) (hi : t ≤ i ∧ i < t + 21) : yF7 t σ1 (yw σ2 i k z) := ⟨fun a b q => by rw [yw_n (by omega), h.1 a b q], fun a b q => by rw [yw_2, h.2 a b q]⟩
theorem yF8_r {τ : yS} : yF8 τ τ := fun _ _ _ _ _ => rfl
theorem yF8_t {τ1 τ2 τ3 : yS} (h : yF8 τ1 τ2) (k : yF8 τ2 τ3) : yF8 τ1 τ3 := fun a b x y z => by rw [k a b x y z, h a b x y z]
theorem yF8_w {i k : Nat} {τ1 τ2 : yS} {z : Int} (h : yF8 τ1 τ2) (hi : i = 2 ∨ i = 9 ∨ (i = 0 ∧ (k = 25 ∨ k = 26))) : yF8 τ1 (yw τ2 i k z) := fun a b x y q => by rw [yw_n (by omega), h a b x y q]
theorem yRH_f {σ τ σ' τ' : yS} {t : Nat} (h0 : σ'.1 t 0 = σ.1 t 0 ∧ σ'.1 t 1 = σ.1 t 1 ∧ σ'.1 t 2 = σ.1 t 2) (h1 : ∀ b : Nat, σ'.1 (t + 1) b = σ.1 (t + 1) b) (k : τ'.1 0 3 = τ.1 0 3 ∧ τ'.1 0 4 = τ.1 0 4 ∧ τ'.1 0 5 = τ.1 0 5) (k1 : ∀ b : Nat, τ'.1 4 b = τ.1 4 b) (H : yRH σ τ t) : yRH σ' τ' t := by
  obtain ⟨e0, e1, e2, b0, b1, b2, hc⟩ := H
  refine ⟨by rw [h0.1, k.1]; exact e0, by rw [h0.2.1, k.2.1]; exact e1, by rw [h0.2.2, k.2.2]; exact e2, by rw [k.1]; exact b0, by rw [k.2.1]; exact b1, by rw [k.2.2]; exact b2, fun d hd => ?_⟩
  rw [k.2.2] at hd
  rw [h1, k1]
  exact hc d hd
/-- one place changed on both sides -/
theorem yDY_x {σ τ : yS} {t A B K : Nat} {v : Int} (H : yDY σ τ t) (hT : yRT (yw σ A B v) t (yup (fun j => τ.1 2 j) K v)) (hA : ¬ A = t + 1) (hB : A = t → 14 ≤ B) (hK : K < 7 ∨ (42 ≤ K ∧ K < 77) ∨ 127 ≤ K) (hv : 42 ≤ K → K < 77 → 0 ≤ v ∧ v ≤ 99) : yDY (yw σ A B v) (yw τ 2 K v) t := by
  obtain ⟨R, T, G, K0⟩ := H
  refine ⟨yRH_f ⟨?_, ?_, ?_⟩ (fun b => ?_) ⟨?_, ?_, ?_⟩ (fun b => ?_) R, by rw [yup_w]; exact hT, ?_, ?_⟩
  · exact yw_n (by omega)
  · exact yw_n (by omega)
  · exact yw_n (by omega)
  · exact yw_n (by omega)
  · exact yw_n (by omega)
  · exact yw_n (by omega)
  · exact yw_n (by omega)
  · exact yw_n (by omega)
  · rw [yup_w, yw_n (by omega), yw_n (by omega), yw_n (by omega)]
    exact yGe_cong (fun j hj => yup_n (by omega)) G
  · rw [yup_w, yw_n (by omega), yw_n (by omega)]
    refine ⟨fun j hj => ?_, fun i hi => ?_, fun i hi => ?_⟩
    · by_cases e : 42 + j = K
      · subst e
        rw [yup_p]
        exact hv (by omega) (by omega)
      · rw [yup_n e]
        exact K0.1 j hj
    · rw [yup_n (by omega), yup_n (by omega)]
      exact K0.2.1 i hi
    · rw [yup_n (by omega)]
      exact K0.2.2 i hi
theorem yFal_f {σ τ σ' τ' : yS} {f : Nat} (h : ∀ a b : Nat, f ≤ a → a < f + 5 → σ'.1 a b = σ.1 a b) (k : τ'.1 0 25 = τ.1 0 25 ∧ τ'.1 0 3 = τ.1 0 3 ∧ τ'.1 0 5 = τ.1 0 5) (k9 : ∀ b : Nat, τ'.1 9 b = τ.1 9 b) (H : yFal σ τ f) : yFal σ' τ' f := by
  obtain ⟨h1, h2, h3⟩ := H
  refine ⟨by rw [h _ _ (by omega) (by omega), k.1]; exact h1, by rw [k.1]; exact h2, fun i hi => ?_⟩
  rw [k.1] at hi
  rw [h (f + 1) _ (by omega) (by omega), h (f + 2) _ (by omega) (by omega), h (f + 3) _ (by omega) (by omega), h (f + 4) _ (by omega) (by omega), k9, k9, k9, k9, k.2.1, k.2.2]
  exact h3 i hi
