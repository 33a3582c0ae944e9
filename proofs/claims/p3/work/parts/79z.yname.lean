/-- the letters from a place on -/
def yMt (g : Nat → Int) : List Int → Nat → Prop
  | [], _ => True
  | c :: cs, j => g j = c ∧ yMt g cs (j + 1)
theorem x1_isName_l {σ : yS} : ∀ (w : List Int) (j : Nat), j + w.length ≤ 160 → ∃ e : Int, f_X1_isName_l σ w j = some (e, σ) ∧ (e = 0 ∨ e = 1) ∧ (e = 1 ↔ yMt (fun i => σ.1 4 i) w j)
  | [], j, _ => ⟨1, rfl, Or.inr rfl, ⟨fun _ => trivial, fun _ => rfl⟩⟩
  | c :: cs, j, h => by
    have h : j + (cs.length + 1) ≤ 160 := h
    have ij : yin (j : Int) 160 = true := by rw [yin_d]; exact decide_eq_true (by omega)
    by_cases hc : σ.1 4 j = c
    · obtain ⟨e, g, e01, ei⟩ := x1_isName_l (σ := σ) cs (j + 1) (by omega)
      refine ⟨e, ?_, e01, ei.trans ⟨fun q => ⟨hc, q⟩, fun q => q.2⟩⟩
      unfold f_X1_isName_l
      rw [ij, cond_true, Int.toNat_natCast, ycP_eq, decide_eq_true hc, cond_true]
      exact g
    · refine ⟨0, ?_, Or.inl rfl, ⟨fun q => by omega, fun q => absurd q.1 hc⟩⟩
      unfold f_X1_isName_l
      rw [ij, cond_true, Int.toNat_natCast, ycP_eq, decide_eq_false hc, cond_false]
theorem x1_isName {σ : yS} {s P : Nat} (w : List Int) (hs : σ.1 2 3 = (s : Int)) (hP : σ.1 2 1 = (P : Int)) (h1 : s ≤ P) (h2 : P ≤ 160) : ∃ e : Int, f_X1_isName w σ 2 = some (e, σ) ∧ (e = 0 ∨ e = 1) ∧ (e = 1 ↔ (σ.1 2 2 = 1 ∧ P = s + w.length ∧ yMt (fun i => σ.1 4 i) w s)) := by
  have es : ysu (P : Int) (s : Int) = (P : Int) - s := ysu_e (by omega) (by omega)
  unfold f_X1_isName
  rw [show Nat.beq 2 2 = true from rfl, cond_true, hs, hP, es]
  by_cases ht : σ.1 2 2 = 1
  · rw [ycP_ne, decide_eq_false (show ¬ ¬ σ.1 2 2 = 1 from fun q => q ht), cond_false]
    by_cases hl : P = s + w.length
    · rw [ycP_ne, decide_eq_false (show ¬ ¬ (P : Int) - s = (w.length : Int) by omega), cond_false]
      obtain ⟨e, g, e01, ei⟩ := x1_isName_l (σ := σ) w s (by omega)
      exact ⟨e, g, e01, ei.trans ⟨fun q => ⟨ht, hl, q⟩, fun q => q.2.2⟩⟩
    · rw [ycP_ne, decide_eq_true (show ¬ (P : Int) - s = (w.length : Int) by omega), cond_true]
      exact ⟨0, rfl, Or.inl rfl, ⟨fun q => by omega, fun q => absurd q.2.1 hl⟩⟩
  · rw [ycP_ne, decide_eq_true ht, cond_true]
    exact ⟨0, rfl, Or.inl rfl, ⟨fun q => by omega, fun q => absurd q.1 ht⟩⟩
theorem x8_look_e {N : Nat} {τ : yS} {p : Nat} (h1 : (p : Int) < τ.1 0 17) (h2 : τ.1 0 17 ≤ 160) : f_X8_look N τ (p : Int) = some (τ.1 8 p, τ) := by
  rw [x8_look N τ (p : Int) (by omega) h2, if_pos h1, Int.toNat_natCast]
theorem x8_is {N : Nat} {τ : yS} {s P n : Nat} {a b c : Int} (hs : τ.1 0 19 = (s : Int)) (hP : τ.1 0 18 = (P : Int)) (h1 : s ≤ P) (h2 : (P : Int) ≤ τ.1 0 17) (h3 : τ.1 0 17 ≤ 160) (hn : 3 ≤ n) : f_X8_is N τ (n : Int) a b c = some (if P = s + n ∧ τ.1 8 s = a ∧ τ.1 8 (s + 1) = b ∧ τ.1 8 (s + 2) = c then 1 else 0, τ) := by
  have es : ysu (P : Int) (s : Int) = (P : Int) - s := ysu_e (by omega) (by omega)
  unfold f_X8_is f_X8_is_b58 f_X8_is_b59
  rw [hs, hP, es, ycP_ne]
  by_cases h : P = s + n
  · rw [decide_eq_false (show ¬ ¬ (P : Int) - s = (n : Int) by omega), cond_false, x8_look_e (p := s) (by omega) h3]
    simp only [ycP_ne, hs]
    by_cases ha : τ.1 8 s = a
    · have e1 : yad (s : Int) 1 = ((s + 1 : Nat) : Int) := by rw [yad_e (by omega) (by omega)]; omega
      have e2 : yad (s : Int) 2 = ((s + 2 : Nat) : Int) := by rw [yad_e (by omega) (by omega)]; omega
      rw [decide_eq_false (show ¬ ¬ τ.1 8 s = a from fun q => q ha), cond_false, e1, x8_look_e (p := s + 1) (by omega) h3]
      simp only [hs]
      by_cases hb : τ.1 8 (s + 1) = b
      · rw [decide_eq_false (show ¬ ¬ τ.1 8 (s + 1) = b from fun q => q hb), cond_false, e2, x8_look_e (p := s + 2) (by omega) h3]
        dsimp only
        by_cases hc : τ.1 8 (s + 2) = c
        · rw [decide_eq_false (show ¬ ¬ τ.1 8 (s + 2) = c from fun q => q hc), cond_false, if_pos ⟨h, ha, hb, hc⟩]
          rfl
        · rw [decide_eq_true hc, cond_true, if_neg (fun q => hc q.2.2.2)]
          rfl
      · rw [decide_eq_true hb, cond_true, if_neg (fun q => hb q.2.2.1)]
        rfl
    · rw [decide_eq_true ha, cond_true, if_neg (fun q => ha q.2.1)]
      rfl
  · rw [decide_eq_true (show ¬ (P : Int) - s = (n : Int) by omega), cond_true, if_neg (fun q => h q.1)]
    rfl
theorem x8_ends4 {N : Nat} {τ : yS} {s : Nat} {d : Int} (hs : τ.1 0 19 = (s : Int)) (h2 : (s : Int) + 3 < τ.1 0 17) (h3 : τ.1 0 17 ≤ 160) : f_X8_ends N τ d 0 0 = some (if τ.1 8 (s + 3) = d then 1 else 0, τ) := by
  have e1 : yad (s : Int) 3 = ((s + 3 : Nat) : Int) := by rw [yad_e (by omega) (by omega)]; omega
  unfold f_X8_ends
  rw [hs, e1, x8_look_e (p := s + 3) (by omega) h3]
  dsimp only
  by_cases ha : τ.1 8 (s + 3) = d
  · rw [ycP_ne, decide_eq_false (show ¬ ¬ τ.1 8 (s + 3) = d from fun q => q ha), cond_false, if_pos ha]
    rfl
  · rw [ycP_ne, decide_eq_true ha, cond_true, if_neg ha]
    rfl
theorem x8_ends5 {N : Nat} {τ : yS} {s : Nat} {d e : Int} (hs : τ.1 0 19 = (s : Int)) (h2 : (s : Int) + 4 < τ.1 0 17) (h3 : τ.1 0 17 ≤ 160) (he : ¬ e = 0) : f_X8_ends N τ d e 0 = some (if τ.1 8 (s + 3) = d ∧ τ.1 8 (s + 4) = e then 1 else 0, τ) := by
  have e1 : yad (s : Int) 3 = ((s + 3 : Nat) : Int) := by rw [yad_e (by omega) (by omega)]; omega
  have e2 : yad (s : Int) 4 = ((s + 4 : Nat) : Int) := by rw [yad_e (by omega) (by omega)]; omega
  unfold f_X8_ends
  rw [hs, e1, x8_look_e (p := s + 3) (by omega) h3]
  dsimp only
  by_cases ha : τ.1 8 (s + 3) = d
  · rw [ycP_ne, decide_eq_false (show ¬ ¬ τ.1 8 (s + 3) = d from fun q => q ha), cond_false, ycP_eq, decide_eq_false he, cond_false, hs, e2, x8_look_e (p := s + 4) (by omega) h3]
    dsimp only
    by_cases hb : τ.1 8 (s + 4) = e
    · rw [ycP_ne, decide_eq_false (show ¬ ¬ τ.1 8 (s + 4) = e from fun q => q hb), cond_false, if_pos ⟨ha, hb⟩]
      rfl
    · rw [ycP_ne, decide_eq_true hb, cond_true, if_neg (fun q => hb q.2)]
      rfl
  · rw [ycP_ne, decide_eq_true ha, cond_true, if_neg (fun q => ha q.1)]
    rfl
theorem x8_ends6 {N : Nat} {τ : yS} {s : Nat} {d e f : Int} (hs : τ.1 0 19 = (s : Int)) (h2 : (s : Int) + 5 < τ.1 0 17) (h3 : τ.1 0 17 ≤ 160) (he : ¬ e = 0) (hf : ¬ f = 0) : f_X8_ends N τ d e f = some (if τ.1 8 (s + 3) = d ∧ τ.1 8 (s + 4) = e ∧ τ.1 8 (s + 5) = f then 1 else 0, τ) := by
  have e1 : yad (s : Int) 3 = ((s + 3 : Nat) : Int) := by rw [yad_e (by omega) (by omega)]; omega
  have e2 : yad (s : Int) 4 = ((s + 4 : Nat) : Int) := by rw [yad_e (by omega) (by omega)]; omega
  have e5 : yad (s : Int) 5 = ((s + 5 : Nat) : Int) := by rw [yad_e (by omega) (by omega)]; omega
  unfold f_X8_ends
  rw [hs, e1, x8_look_e (p := s + 3) (by omega) h3]
  dsimp only
  by_cases ha : τ.1 8 (s + 3) = d
  · rw [ycP_ne, decide_eq_false (show ¬ ¬ τ.1 8 (s + 3) = d from fun q => q ha), cond_false, ycP_eq, decide_eq_false he, cond_false, hs, e2, x8_look_e (p := s + 4) (by omega) h3]
    dsimp only
    by_cases hb : τ.1 8 (s + 4) = e
    · rw [ycP_ne, decide_eq_false (show ¬ ¬ τ.1 8 (s + 4) = e from fun q => q hb), cond_false]
      unfold f_X8_ends_b32
      rw [ycP_eq, decide_eq_false hf, cond_false, hs, e5, x8_look_e (p := s + 5) (by omega) h3]
      dsimp only
      by_cases hc : τ.1 8 (s + 5) = f
      · rw [ycP_ne, decide_eq_false (show ¬ ¬ τ.1 8 (s + 5) = f from fun q => q hc), cond_false, if_pos ⟨ha, hb, hc⟩]
        rfl
      · rw [ycP_ne, decide_eq_true hc, cond_true, if_neg (fun q => hc q.2.2)]
        rfl
    · rw [ycP_ne, decide_eq_true hb, cond_true, if_neg (fun q => hb q.2.1)]
      rfl
  · rw [ycP_ne, decide_eq_true ha, cond_true, if_neg (fun q => ha q.1)]
    rfl
/-- the token is this word -/
def yWd (τ : yS) (w : List Int) (s P : Nat) : Prop := P = s + w.length ∧ yMt (fun i => τ.1 8 i) w s
theorem x8_w3 {N : Nat} {τ : yS} {s P : Nat} {a b c : Int} (hs : τ.1 0 19 = (s : Int)) (hP : τ.1 0 18 = (P : Int)) (h1 : s ≤ P) (h2 : (P : Int) ≤ τ.1 0 17) (h3 : τ.1 0 17 ≤ 160) (K Y : yS → Option (Int × yS)) : (yWd τ [a, b, c] s P → (match f_X8_is N τ 3 a b c with
  | none => none
  | some r => bif ycP .eq r.1 0 then K r.2 else Y r.2) = Y τ) ∧ (¬ yWd τ [a, b, c] s P → (match f_X8_is N τ 3 a b c with
  | none => none
  | some r => bif ycP .eq r.1 0 then K r.2 else Y r.2) = K τ) := by
  have q := x8_is (N := N) (n := 3) (a := a) (b := b) (c := c) hs hP h1 h2 h3 (by omega)
  have q : f_X8_is N τ 3 a b c = _ := q
  rw [q]
  refine ⟨fun ⟨z1, z2, z3, z4, _⟩ => ?_, fun z => ?_⟩
  · rw [if_pos ⟨z1, z2, z3, z4⟩]
    rfl
  · rw [if_neg (fun ⟨y1, y2, y3, y4⟩ => z ⟨y1, y2, y3, y4, trivial⟩)]
    rfl
theorem x8_w4 {N : Nat} {τ : yS} {s P : Nat} {a b c d : Int} (hs : τ.1 0 19 = (s : Int)) (hP : τ.1 0 18 = (P : Int)) (h1 : s ≤ P) (h2 : (P : Int) ≤ τ.1 0 17) (h3 : τ.1 0 17 ≤ 160) (K Y : yS → Option (Int × yS)) : (yWd τ [a, b, c, d] s P → (match f_X8_is N τ 4 a b c with
  | none => none
  | some r => bif ycP .eq r.1 0 then K r.2 else match f_X8_ends N r.2 d 0 0 with
    | none => none
    | some r' => bif ycP .eq r'.1 0 then K r'.2 else Y r'.2) = Y τ) ∧ (¬ yWd τ [a, b, c, d] s P → (match f_X8_is N τ 4 a b c with
  | none => none
  | some r => bif ycP .eq r.1 0 then K r.2 else match f_X8_ends N r.2 d 0 0 with
    | none => none
    | some r' => bif ycP .eq r'.1 0 then K r'.2 else Y r'.2) = K τ) := by
  have q := x8_is (N := N) (n := 4) (a := a) (b := b) (c := c) hs hP h1 h2 h3 (by omega)
  have q : f_X8_is N τ 4 a b c = _ := q
  rw [q]
  refine ⟨fun ⟨z1, z2, z3, z4, z5, _⟩ => ?_, fun z => ?_⟩
  · have z1 : P = s + 4 := z1
    rw [if_pos ⟨z1, z2, z3, z4⟩]
    show (match f_X8_ends N τ d 0 0 with
    | none => none
    | some r' => bif ycP .eq r'.1 0 then K r'.2 else Y r'.2) = _
    rw [x8_ends4 hs (by omega) h3, if_pos z5]
    rfl
  · by_cases y : P = s + 4 ∧ τ.1 8 s = a ∧ τ.1 8 (s + 1) = b ∧ τ.1 8 (s + 2) = c
    · rw [if_pos y]
      show (match f_X8_ends N τ d 0 0 with
      | none => none
      | some r' => bif ycP .eq r'.1 0 then K r'.2 else Y r'.2) = _
      rw [x8_ends4 hs (by omega) h3, if_neg (fun y5 => z ⟨y.1, y.2.1, y.2.2.1, y.2.2.2, y5, trivial⟩)]
      rfl
    · rw [if_neg y]
      rfl
theorem x8_w5 {N : Nat} {τ : yS} {s P : Nat} {a b c d e : Int} (hs : τ.1 0 19 = (s : Int)) (hP : τ.1 0 18 = (P : Int)) (h1 : s ≤ P) (h2 : (P : Int) ≤ τ.1 0 17) (h3 : τ.1 0 17 ≤ 160) (he : ¬ e = 0) (K Y : yS → Option (Int × yS)) : (yWd τ [a, b, c, d, e] s P → (match f_X8_is N τ 5 a b c with
  | none => none
  | some r => bif ycP .eq r.1 0 then K r.2 else match f_X8_ends N r.2 d e 0 with
    | none => none
    | some r' => bif ycP .eq r'.1 0 then K r'.2 else Y r'.2) = Y τ) ∧ (¬ yWd τ [a, b, c, d, e] s P → (match f_X8_is N τ 5 a b c with
  | none => none
  | some r => bif ycP .eq r.1 0 then K r.2 else match f_X8_ends N r.2 d e 0 with
    | none => none
    | some r' => bif ycP .eq r'.1 0 then K r'.2 else Y r'.2) = K τ) := by
  have q := x8_is (N := N) (n := 5) (a := a) (b := b) (c := c) hs hP h1 h2 h3 (by omega)
  have q : f_X8_is N τ 5 a b c = _ := q
  rw [q]
  refine ⟨fun ⟨z1, z2, z3, z4, z5, z6, _⟩ => ?_, fun z => ?_⟩
  · have z1 : P = s + 5 := z1
    rw [if_pos ⟨z1, z2, z3, z4⟩]
    show (match f_X8_ends N τ d e 0 with
    | none => none
    | some r' => bif ycP .eq r'.1 0 then K r'.2 else Y r'.2) = _
    rw [x8_ends5 hs (by omega) h3 he, if_pos ⟨z5, z6⟩]
    rfl
  · by_cases y : P = s + 5 ∧ τ.1 8 s = a ∧ τ.1 8 (s + 1) = b ∧ τ.1 8 (s + 2) = c
    · rw [if_pos y]
      show (match f_X8_ends N τ d e 0 with
      | none => none
      | some r' => bif ycP .eq r'.1 0 then K r'.2 else Y r'.2) = _
      rw [x8_ends5 hs (by omega) h3 he, if_neg (fun y5 => z ⟨y.1, y.2.1, y.2.2.1, y.2.2.2, y5.1, y5.2, trivial⟩)]
      rfl
    · rw [if_neg y]
      rfl
theorem x8_w6 {N : Nat} {τ : yS} {s P : Nat} {a b c d e f : Int} (hs : τ.1 0 19 = (s : Int)) (hP : τ.1 0 18 = (P : Int)) (h1 : s ≤ P) (h2 : (P : Int) ≤ τ.1 0 17) (h3 : τ.1 0 17 ≤ 160) (he : ¬ e = 0) (hf : ¬ f = 0) (K Y : yS → Option (Int × yS)) : (yWd τ [a, b, c, d, e, f] s P → (match f_X8_is N τ 6 a b c with
  | none => none
  | some r => bif ycP .eq r.1 0 then K r.2 else match f_X8_ends N r.2 d e f with
    | none => none
    | some r' => bif ycP .eq r'.1 0 then K r'.2 else Y r'.2) = Y τ) ∧ (¬ yWd τ [a, b, c, d, e, f] s P → (match f_X8_is N τ 6 a b c with
  | none => none
  | some r => bif ycP .eq r.1 0 then K r.2 else match f_X8_ends N r.2 d e f with
    | none => none
    | some r' => bif ycP .eq r'.1 0 then K r'.2 else Y r'.2) = K τ) := by
  have q := x8_is (N := N) (n := 6) (a := a) (b := b) (c := c) hs hP h1 h2 h3 (by omega)
  have q : f_X8_is N τ 6 a b c = _ := q
  rw [q]
  refine ⟨fun ⟨z1, z2, z3, z4, z5, z6, z7, _⟩ => ?_, fun z => ?_⟩
  · have z1 : P = s + 6 := z1
    rw [if_pos ⟨z1, z2, z3, z4⟩]
    show (match f_X8_ends N τ d e f with
    | none => none
    | some r' => bif ycP .eq r'.1 0 then K r'.2 else Y r'.2) = _
    rw [x8_ends6 hs (by omega) h3 he hf, if_pos ⟨z5, z6, z7⟩]
    rfl
  · by_cases y : P = s + 6 ∧ τ.1 8 s = a ∧ τ.1 8 (s + 1) = b ∧ τ.1 8 (s + 2) = c
    · rw [if_pos y]
      show (match f_X8_ends N τ d e f with
      | none => none
      | some r' => bif ycP .eq r'.1 0 then K r'.2 else Y r'.2) = _
      rw [x8_ends6 hs (by omega) h3 he hf, if_neg (fun y5 => z ⟨y.1, y.2.1, y.2.2.1, y.2.2.2, y5.1, y5.2.1, y5.2.2, trivial⟩)]
      rfl
    · rw [if_neg y]
      rfl
