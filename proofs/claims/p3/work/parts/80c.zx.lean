noncomputable def zni : List (String × Nat × MethodName × String) := [(RX7, 9, yX4_init, RX7), (RX7, 25, yX1_init, RX7), (RX7, 37, yX0_init, RX7), (RX7, 48, yX2_init, RX7), (RX1, 11, yX3_init, RX7), (RX4, 39, yX5_init, RX7), (RX4, 49, yX6_init, RX7)]
/-- what is known of the start, whatever runs -/
noncomputable def zX : zXT := fun A U H => (∀ q ∈ znst ++ zni, va_Nw (.methodLinkNest q.1 q.2.1 q.2.2.1 q.2.2.2) U) ∧ va_AO RX4 U ∧ va_AO RX2 U ∧ ∀ q ∈ ystrs, ∃ a : Nat, vk_R RX1 q.1 q.2.1 a U ∧ yStr (fun j => q.2.2.1.getD j 0) q.2.2.2.length a A U H
theorem zX_ok : zXok zX := by
  refine ⟨fun A s U H hW h => ?_, fun A u U H hv h => ?_, fun A U H H1 hq h => ?_, fun A B U H hAB h => ?_⟩
  · refine ⟨fun q hq => va_Nw.warmM hW (h.1 q hq), va_AO.moved hW.alike h.2.1, va_AO.moved hW.alike h.2.2.1, fun q hq => ?_⟩
    obtain ⟨a, h1, h2⟩ := h.2.2.2 q hq
    exact ⟨a, h1.warm hW, h2.moved hW.alike⟩
  · have hal : u.vm.Alike U.vm := by rw [hv]; exact Vm.Alike.refl _
    refine ⟨fun q hq => va_Nw.same rfl hv (h.1 q hq), va_AO.moved hal h.2.1, va_AO.moved hal h.2.2.1, fun q hq => ?_⟩
    obtain ⟨a, h1, h2⟩ := h.2.2.2 q hq
    exact ⟨a, h1.same hv.symm, h2.moved hal⟩
  · refine ⟨h.1, h.2.1, h.2.2.1, fun q hq2 => ?_⟩
    obtain ⟨a, h1, h2⟩ := h.2.2.2 q hq2
    exact ⟨a, h1, h2.kept hq⟩
  · refine ⟨h.1, h.2.1, h.2.2.1, fun q hq => ?_⟩
    obtain ⟨a, h1, h2⟩ := h.2.2.2 q hq
    exact ⟨a, h1, h2.narrow hAB⟩
theorem zX_n : zXn zX := fun A U H h a i y ho hm => h.1 (a, i, y, ho) (List.mem_append_left _ hm)
theorem zX_s : yXs zX := fun A U H h => h.2.2.2
theorem zX_i {A : Nat → Prop} {U : State} {H : Heap} (h : zX A U H) {a : String} {i : Nat} {y : MethodName} {ho : String} (hm : (a, i, y, ho) ∈ zni) : va_Nw (.methodLinkNest a i y ho) U := h.1 (a, i, y, ho) (List.mem_append_right _ hm)
noncomputable def zlens : List Nat := [3, 4, 4, 5, 6, 5, 3, 4, 5, 4, 5, 5, 6]
noncomputable def zbyts : List (List Int32) := [[114, 111, 119], [114, 105, 110, 103], [100, 101, 101, 100], [104, 111, 117, 115, 101], [108, 97, 119, 121, 101, 114], [104, 97, 98, 105, 116], [118, 111, 119], [119, 97, 110, 116], [112, 108, 97, 105, 110], [108, 101, 102, 116], [100, 114, 117, 110, 107], [106, 111, 105, 110, 116], [116, 104, 114, 101, 97, 116]]
noncomputable def zsix : List Nat := [81, 91, 93, 98, 103, 108, 113, 118, 214, 216, 218, 220, 222]
/-- one text of the start -/
theorem zstr_of {args : Array Value} {s : State} {A : Nat → Prop} {own tx : String} {x n : Nat} {byt : List Int32} (hn : n < 2147483648) (hr : (Cond.stringRef own x tx).before args s = true) (hex : (Cond.exactly (.string own x) "java/lang/String").before args s = true) (hco : (Cond.eq (.field (.string own x) "java/lang/String" "coder" "B") (.int 0)).before args s = true)
    (har : (Cond.arrayOf (.field (.string own x) "java/lang/String" "value" "[B") .byte).before args s = true) (hle : (Cond.eq (.length (.field (.string own x) "java/lang/String" "value" "[B")) (.int (Int32.ofNat n))).before args s = true)
    (hel : ∀ j : Nat, j < n → (Cond.eq (.elem (.field (.string own x) "java/lang/String" "value" "[B") (.int (Int32.ofNat j))) (.int (byt.getD j 0))).before args s = true) (hA : ∀ a : Nat, a < s.heap.size → ¬ A a) (hz : va_Z "java/lang/String" "COMPACT_STRINGS" "Z" (.int 1) A s s.heap) (hq : va_Zq "jdk/internal/util/Preconditions" "SIOOBE_FORMATTER" "Ljava/util/function/BiFunction;" A s s.heap) : ∃ a : Nat, vk_R own x tx a s ∧ yStr (fun j => byt.getD j 0) n a A s s.heap := by
  obtain ⟨adK, adV, h1, h2⟩ := vk_Sof (N := 1) (tm := fun _ => .string own x) (len := [n]) (byt := [byt]) (A := A) (args := args) (s := s) (fun i hi => by rw [show i = 0 by omega]; show n < 2 ^ 31; omega) (fun i _ => hex) (fun i _ => hco) (fun i _ => har) (fun i hi => by rw [show i = 0 by omega]; exact hle) (fun i hi j hj => by
    have hi : i = 0 := by omega
    subst hi
    exact hel j hj) (fun i j hi hj hij => absurd (show i = j by omega) hij) hA
  obtain ⟨g1, g2, g3, g4⟩ := h1.1 0 (by omega)
  have e := h2 0 (by omega)
  exact ⟨adK 0, vk_R.of hr e, hn, g1, g2, hz, hq, adV 0, g3, g4⟩
noncomputable def zR_law : String := "VowTerraceLaw"
set_option maxRecDepth 20000 in
theorem zst_81 {args : Array Value} {s : State} {A : Nat → Prop} (hgv : (Jvm.Cond.and given_1 narrow_1).before args s = true) (hts : ∀ w ∈ lw_tbl, w.before args s = true) (hA : ∀ a : Nat, a < s.heap.size → ¬ A a) (hz : va_Z "java/lang/String" "COMPACT_STRINGS" "Z" (.int 1) A s s.heap) (hq : va_Zq "jdk/internal/util/Preconditions" "SIOOBE_FORMATTER" "Ljava/util/function/BiFunction;" A s s.heap) : ∃ a : Nat, vk_R RX1 81 "row" a s ∧ yStr (fun j => ([114, 111, 119] : List Int32).getD j 0) 3 a A s s.heap := by
  have hs := flat_of_before _ hgv
  exact zstr_of (byt := [114, 111, 119]) (by omega) (hts (.stringRef RX1 81 "row") (by decide +kernel)) (hs (.exactly (.string RX1 81) "java/lang/String") (by decide +kernel)) (hs (.eq (.field (.string RX1 81) "java/lang/String" "coder" "B") (.int 0)) (by decide +kernel)) (hs (.arrayOf (.field (.string RX1 81) "java/lang/String" "value" "[B") .byte) (by decide +kernel)) (hs (.eq (.length (.field (.string RX1 81) "java/lang/String" "value" "[B")) (.int 3)) (by decide +kernel)) (fun j hj => by
      match j, hj with
      | 0, _ => exact hs (.eq (.elem (.field (.string RX1 81) "java/lang/String" "value" "[B") (.int 0)) (.int 114)) (by decide +kernel)
      | 1, _ => exact hs (.eq (.elem (.field (.string RX1 81) "java/lang/String" "value" "[B") (.int 1)) (.int 111)) (by decide +kernel)
      | 2, _ => exact hs (.eq (.elem (.field (.string RX1 81) "java/lang/String" "value" "[B") (.int 2)) (.int 119)) (by decide +kernel)
      | j + 3, hj => omega) hA hz hq
set_option maxRecDepth 20000 in
theorem zst_91 {args : Array Value} {s : State} {A : Nat → Prop} (hgv : (Jvm.Cond.and given_1 narrow_1).before args s = true) (hts : ∀ w ∈ lw_tbl, w.before args s = true) (hA : ∀ a : Nat, a < s.heap.size → ¬ A a) (hz : va_Z "java/lang/String" "COMPACT_STRINGS" "Z" (.int 1) A s s.heap) (hq : va_Zq "jdk/internal/util/Preconditions" "SIOOBE_FORMATTER" "Ljava/util/function/BiFunction;" A s s.heap) : ∃ a : Nat, vk_R RX1 91 "ring" a s ∧ yStr (fun j => ([114, 105, 110, 103] : List Int32).getD j 0) 4 a A s s.heap := by
  have hs := flat_of_before _ hgv
  exact zstr_of (byt := [114, 105, 110, 103]) (by omega) (hts (.stringRef RX1 91 "ring") (by decide +kernel)) (hs (.exactly (.string RX1 91) "java/lang/String") (by decide +kernel)) (hs (.eq (.field (.string RX1 91) "java/lang/String" "coder" "B") (.int 0)) (by decide +kernel)) (hs (.arrayOf (.field (.string RX1 91) "java/lang/String" "value" "[B") .byte) (by decide +kernel)) (hs (.eq (.length (.field (.string RX1 91) "java/lang/String" "value" "[B")) (.int 4)) (by decide +kernel)) (fun j hj => by
      match j, hj with
      | 0, _ => exact hs (.eq (.elem (.field (.string RX1 91) "java/lang/String" "value" "[B") (.int 0)) (.int 114)) (by decide +kernel)
      | 1, _ => exact hs (.eq (.elem (.field (.string RX1 91) "java/lang/String" "value" "[B") (.int 1)) (.int 105)) (by decide +kernel)
      | 2, _ => exact hs (.eq (.elem (.field (.string RX1 91) "java/lang/String" "value" "[B") (.int 2)) (.int 110)) (by decide +kernel)
      | 3, _ => exact hs (.eq (.elem (.field (.string RX1 91) "java/lang/String" "value" "[B") (.int 3)) (.int 103)) (by decide +kernel)
      | j + 4, hj => omega) hA hz hq
set_option maxRecDepth 20000 in
theorem zst_93 {args : Array Value} {s : State} {A : Nat → Prop} (hgv : (Jvm.Cond.and given_1 narrow_1).before args s = true) (hts : ∀ w ∈ lw_tbl, w.before args s = true) (hA : ∀ a : Nat, a < s.heap.size → ¬ A a) (hz : va_Z "java/lang/String" "COMPACT_STRINGS" "Z" (.int 1) A s s.heap) (hq : va_Zq "jdk/internal/util/Preconditions" "SIOOBE_FORMATTER" "Ljava/util/function/BiFunction;" A s s.heap) : ∃ a : Nat, vk_R RX1 93 "deed" a s ∧ yStr (fun j => ([100, 101, 101, 100] : List Int32).getD j 0) 4 a A s s.heap := by
  have hs := flat_of_before _ hgv
  exact zstr_of (byt := [100, 101, 101, 100]) (by omega) (hts (.stringRef RX1 93 "deed") (by decide +kernel)) (hs (.exactly (.string RX1 93) "java/lang/String") (by decide +kernel)) (hs (.eq (.field (.string RX1 93) "java/lang/String" "coder" "B") (.int 0)) (by decide +kernel)) (hs (.arrayOf (.field (.string RX1 93) "java/lang/String" "value" "[B") .byte) (by decide +kernel)) (hs (.eq (.length (.field (.string RX1 93) "java/lang/String" "value" "[B")) (.int 4)) (by decide +kernel)) (fun j hj => by
      match j, hj with
      | 0, _ => exact hs (.eq (.elem (.field (.string RX1 93) "java/lang/String" "value" "[B") (.int 0)) (.int 100)) (by decide +kernel)
      | 1, _ => exact hs (.eq (.elem (.field (.string RX1 93) "java/lang/String" "value" "[B") (.int 1)) (.int 101)) (by decide +kernel)
      | 2, _ => exact hs (.eq (.elem (.field (.string RX1 93) "java/lang/String" "value" "[B") (.int 2)) (.int 101)) (by decide +kernel)
      | 3, _ => exact hs (.eq (.elem (.field (.string RX1 93) "java/lang/String" "value" "[B") (.int 3)) (.int 100)) (by decide +kernel)
      | j + 4, hj => omega) hA hz hq
set_option maxRecDepth 20000 in
theorem zst_98 {args : Array Value} {s : State} {A : Nat → Prop} (hgv : (Jvm.Cond.and given_1 narrow_1).before args s = true) (hts : ∀ w ∈ lw_tbl, w.before args s = true) (hA : ∀ a : Nat, a < s.heap.size → ¬ A a) (hz : va_Z "java/lang/String" "COMPACT_STRINGS" "Z" (.int 1) A s s.heap) (hq : va_Zq "jdk/internal/util/Preconditions" "SIOOBE_FORMATTER" "Ljava/util/function/BiFunction;" A s s.heap) : ∃ a : Nat, vk_R RX1 98 "house" a s ∧ yStr (fun j => ([104, 111, 117, 115, 101] : List Int32).getD j 0) 5 a A s s.heap := by
  have hs := flat_of_before _ hgv
  exact zstr_of (byt := [104, 111, 117, 115, 101]) (by omega) (hts (.stringRef RX1 98 "house") (by decide +kernel)) (hs (.exactly (.string RX1 98) "java/lang/String") (by decide +kernel)) (hs (.eq (.field (.string RX1 98) "java/lang/String" "coder" "B") (.int 0)) (by decide +kernel)) (hs (.arrayOf (.field (.string RX1 98) "java/lang/String" "value" "[B") .byte) (by decide +kernel)) (hs (.eq (.length (.field (.string RX1 98) "java/lang/String" "value" "[B")) (.int 5)) (by decide +kernel)) (fun j hj => by
      match j, hj with
      | 0, _ => exact hs (.eq (.elem (.field (.string RX1 98) "java/lang/String" "value" "[B") (.int 0)) (.int 104)) (by decide +kernel)
      | 1, _ => exact hs (.eq (.elem (.field (.string RX1 98) "java/lang/String" "value" "[B") (.int 1)) (.int 111)) (by decide +kernel)
      | 2, _ => exact hs (.eq (.elem (.field (.string RX1 98) "java/lang/String" "value" "[B") (.int 2)) (.int 117)) (by decide +kernel)
      | 3, _ => exact hs (.eq (.elem (.field (.string RX1 98) "java/lang/String" "value" "[B") (.int 3)) (.int 115)) (by decide +kernel)
      | 4, _ => exact hs (.eq (.elem (.field (.string RX1 98) "java/lang/String" "value" "[B") (.int 4)) (.int 101)) (by decide +kernel)
      | j + 5, hj => omega) hA hz hq
set_option maxRecDepth 20000 in
theorem zst_103 {args : Array Value} {s : State} {A : Nat → Prop} (hgv : (Jvm.Cond.and given_1 narrow_1).before args s = true) (hts : ∀ w ∈ lw_tbl, w.before args s = true) (hA : ∀ a : Nat, a < s.heap.size → ¬ A a) (hz : va_Z "java/lang/String" "COMPACT_STRINGS" "Z" (.int 1) A s s.heap) (hq : va_Zq "jdk/internal/util/Preconditions" "SIOOBE_FORMATTER" "Ljava/util/function/BiFunction;" A s s.heap) : ∃ a : Nat, vk_R RX1 103 "lawyer" a s ∧ yStr (fun j => ([108, 97, 119, 121, 101, 114] : List Int32).getD j 0) 6 a A s s.heap := by
  have hs := flat_of_before _ hgv
  exact zstr_of (byt := [108, 97, 119, 121, 101, 114]) (by omega) (hts (.stringRef RX1 103 "lawyer") (by decide +kernel)) (hs (.exactly (.string RX1 103) "java/lang/String") (by decide +kernel)) (hs (.eq (.field (.string RX1 103) "java/lang/String" "coder" "B") (.int 0)) (by decide +kernel)) (hs (.arrayOf (.field (.string RX1 103) "java/lang/String" "value" "[B") .byte) (by decide +kernel)) (hs (.eq (.length (.field (.string RX1 103) "java/lang/String" "value" "[B")) (.int 6)) (by decide +kernel)) (fun j hj => by
      match j, hj with
      | 0, _ => exact hs (.eq (.elem (.field (.string RX1 103) "java/lang/String" "value" "[B") (.int 0)) (.int 108)) (by decide +kernel)
      | 1, _ => exact hs (.eq (.elem (.field (.string RX1 103) "java/lang/String" "value" "[B") (.int 1)) (.int 97)) (by decide +kernel)
      | 2, _ => exact hs (.eq (.elem (.field (.string RX1 103) "java/lang/String" "value" "[B") (.int 2)) (.int 119)) (by decide +kernel)
      | 3, _ => exact hs (.eq (.elem (.field (.string RX1 103) "java/lang/String" "value" "[B") (.int 3)) (.int 121)) (by decide +kernel)
      | 4, _ => exact hs (.eq (.elem (.field (.string RX1 103) "java/lang/String" "value" "[B") (.int 4)) (.int 101)) (by decide +kernel)
      | 5, _ => exact hs (.eq (.elem (.field (.string RX1 103) "java/lang/String" "value" "[B") (.int 5)) (.int 114)) (by decide +kernel)
      | j + 6, hj => omega) hA hz hq
set_option maxRecDepth 20000 in
theorem zst_108 {args : Array Value} {s : State} {A : Nat → Prop} (hgv : (Jvm.Cond.and given_1 narrow_1).before args s = true) (hts : ∀ w ∈ lw_tbl, w.before args s = true) (hA : ∀ a : Nat, a < s.heap.size → ¬ A a) (hz : va_Z "java/lang/String" "COMPACT_STRINGS" "Z" (.int 1) A s s.heap) (hq : va_Zq "jdk/internal/util/Preconditions" "SIOOBE_FORMATTER" "Ljava/util/function/BiFunction;" A s s.heap) : ∃ a : Nat, vk_R RX1 108 "habit" a s ∧ yStr (fun j => ([104, 97, 98, 105, 116] : List Int32).getD j 0) 5 a A s s.heap := by
  have hs := flat_of_before _ hgv
  exact zstr_of (byt := [104, 97, 98, 105, 116]) (by omega) (hts (.stringRef RX1 108 "habit") (by decide +kernel)) (hs (.exactly (.string RX1 108) "java/lang/String") (by decide +kernel)) (hs (.eq (.field (.string RX1 108) "java/lang/String" "coder" "B") (.int 0)) (by decide +kernel)) (hs (.arrayOf (.field (.string RX1 108) "java/lang/String" "value" "[B") .byte) (by decide +kernel)) (hs (.eq (.length (.field (.string RX1 108) "java/lang/String" "value" "[B")) (.int 5)) (by decide +kernel)) (fun j hj => by
      match j, hj with
      | 0, _ => exact hs (.eq (.elem (.field (.string RX1 108) "java/lang/String" "value" "[B") (.int 0)) (.int 104)) (by decide +kernel)
      | 1, _ => exact hs (.eq (.elem (.field (.string RX1 108) "java/lang/String" "value" "[B") (.int 1)) (.int 97)) (by decide +kernel)
      | 2, _ => exact hs (.eq (.elem (.field (.string RX1 108) "java/lang/String" "value" "[B") (.int 2)) (.int 98)) (by decide +kernel)
      | 3, _ => exact hs (.eq (.elem (.field (.string RX1 108) "java/lang/String" "value" "[B") (.int 3)) (.int 105)) (by decide +kernel)
      | 4, _ => exact hs (.eq (.elem (.field (.string RX1 108) "java/lang/String" "value" "[B") (.int 4)) (.int 116)) (by decide +kernel)
      | j + 5, hj => omega) hA hz hq
set_option maxRecDepth 20000 in
theorem zst_113 {args : Array Value} {s : State} {A : Nat → Prop} (hgv : (Jvm.Cond.and given_1 narrow_1).before args s = true) (hts : ∀ w ∈ lw_tbl, w.before args s = true) (hA : ∀ a : Nat, a < s.heap.size → ¬ A a) (hz : va_Z "java/lang/String" "COMPACT_STRINGS" "Z" (.int 1) A s s.heap) (hq : va_Zq "jdk/internal/util/Preconditions" "SIOOBE_FORMATTER" "Ljava/util/function/BiFunction;" A s s.heap) : ∃ a : Nat, vk_R RX1 113 "vow" a s ∧ yStr (fun j => ([118, 111, 119] : List Int32).getD j 0) 3 a A s s.heap := by
  have hs := flat_of_before _ hgv
  exact zstr_of (byt := [118, 111, 119]) (by omega) (hts (.stringRef RX1 113 "vow") (by decide +kernel)) (hs (.exactly (.string RX1 113) "java/lang/String") (by decide +kernel)) (hs (.eq (.field (.string RX1 113) "java/lang/String" "coder" "B") (.int 0)) (by decide +kernel)) (hs (.arrayOf (.field (.string RX1 113) "java/lang/String" "value" "[B") .byte) (by decide +kernel)) (hs (.eq (.length (.field (.string RX1 113) "java/lang/String" "value" "[B")) (.int 3)) (by decide +kernel)) (fun j hj => by
      match j, hj with
      | 0, _ => exact hs (.eq (.elem (.field (.string RX1 113) "java/lang/String" "value" "[B") (.int 0)) (.int 118)) (by decide +kernel)
      | 1, _ => exact hs (.eq (.elem (.field (.string RX1 113) "java/lang/String" "value" "[B") (.int 1)) (.int 111)) (by decide +kernel)
      | 2, _ => exact hs (.eq (.elem (.field (.string RX1 113) "java/lang/String" "value" "[B") (.int 2)) (.int 119)) (by decide +kernel)
      | j + 3, hj => omega) hA hz hq
set_option maxRecDepth 20000 in
theorem zst_118 {args : Array Value} {s : State} {A : Nat → Prop} (hgv : (Jvm.Cond.and given_1 narrow_1).before args s = true) (hts : ∀ w ∈ lw_tbl, w.before args s = true) (hA : ∀ a : Nat, a < s.heap.size → ¬ A a) (hz : va_Z "java/lang/String" "COMPACT_STRINGS" "Z" (.int 1) A s s.heap) (hq : va_Zq "jdk/internal/util/Preconditions" "SIOOBE_FORMATTER" "Ljava/util/function/BiFunction;" A s s.heap) : ∃ a : Nat, vk_R RX1 118 "want" a s ∧ yStr (fun j => ([119, 97, 110, 116] : List Int32).getD j 0) 4 a A s s.heap := by
  have hs := flat_of_before _ hgv
  exact zstr_of (byt := [119, 97, 110, 116]) (by omega) (hts (.stringRef RX1 118 "want") (by decide +kernel)) (hs (.exactly (.string RX1 118) "java/lang/String") (by decide +kernel)) (hs (.eq (.field (.string RX1 118) "java/lang/String" "coder" "B") (.int 0)) (by decide +kernel)) (hs (.arrayOf (.field (.string RX1 118) "java/lang/String" "value" "[B") .byte) (by decide +kernel)) (hs (.eq (.length (.field (.string RX1 118) "java/lang/String" "value" "[B")) (.int 4)) (by decide +kernel)) (fun j hj => by
      match j, hj with
      | 0, _ => exact hs (.eq (.elem (.field (.string RX1 118) "java/lang/String" "value" "[B") (.int 0)) (.int 119)) (by decide +kernel)
      | 1, _ => exact hs (.eq (.elem (.field (.string RX1 118) "java/lang/String" "value" "[B") (.int 1)) (.int 97)) (by decide +kernel)
      | 2, _ => exact hs (.eq (.elem (.field (.string RX1 118) "java/lang/String" "value" "[B") (.int 2)) (.int 110)) (by decide +kernel)
      | 3, _ => exact hs (.eq (.elem (.field (.string RX1 118) "java/lang/String" "value" "[B") (.int 3)) (.int 116)) (by decide +kernel)
      | j + 4, hj => omega) hA hz hq
set_option maxRecDepth 20000 in
theorem zst_214 {args : Array Value} {s : State} {A : Nat → Prop} (hgv : (Jvm.Cond.and given_1 narrow_1).before args s = true) (hts : ∀ w ∈ lw_tbl, w.before args s = true) (hA : ∀ a : Nat, a < s.heap.size → ¬ A a) (hz : va_Z "java/lang/String" "COMPACT_STRINGS" "Z" (.int 1) A s s.heap) (hq : va_Zq "jdk/internal/util/Preconditions" "SIOOBE_FORMATTER" "Ljava/util/function/BiFunction;" A s s.heap) : ∃ a : Nat, vk_R RX1 214 "plain" a s ∧ yStr (fun j => ([112, 108, 97, 105, 110] : List Int32).getD j 0) 5 a A s s.heap := by
  have hs := flat_of_before _ hgv
  exact zstr_of (byt := [112, 108, 97, 105, 110]) (by omega) (hts (.stringRef RX1 214 "plain") (by decide +kernel)) (hs (.exactly (.string RX1 214) "java/lang/String") (by decide +kernel)) (hs (.eq (.field (.string RX1 214) "java/lang/String" "coder" "B") (.int 0)) (by decide +kernel)) (hs (.arrayOf (.field (.string RX1 214) "java/lang/String" "value" "[B") .byte) (by decide +kernel)) (hs (.eq (.length (.field (.string RX1 214) "java/lang/String" "value" "[B")) (.int 5)) (by decide +kernel)) (fun j hj => by
      match j, hj with
      | 0, _ => exact hs (.eq (.elem (.field (.string RX1 214) "java/lang/String" "value" "[B") (.int 0)) (.int 112)) (by decide +kernel)
      | 1, _ => exact hs (.eq (.elem (.field (.string RX1 214) "java/lang/String" "value" "[B") (.int 1)) (.int 108)) (by decide +kernel)
      | 2, _ => exact hs (.eq (.elem (.field (.string RX1 214) "java/lang/String" "value" "[B") (.int 2)) (.int 97)) (by decide +kernel)
      | 3, _ => exact hs (.eq (.elem (.field (.string RX1 214) "java/lang/String" "value" "[B") (.int 3)) (.int 105)) (by decide +kernel)
      | 4, _ => exact hs (.eq (.elem (.field (.string RX1 214) "java/lang/String" "value" "[B") (.int 4)) (.int 110)) (by decide +kernel)
      | j + 5, hj => omega) hA hz hq
set_option maxRecDepth 20000 in
theorem zst_216 {args : Array Value} {s : State} {A : Nat → Prop} (hgv : (Jvm.Cond.and given_1 narrow_1).before args s = true) (hts : ∀ w ∈ lw_tbl, w.before args s = true) (hA : ∀ a : Nat, a < s.heap.size → ¬ A a) (hz : va_Z "java/lang/String" "COMPACT_STRINGS" "Z" (.int 1) A s s.heap) (hq : va_Zq "jdk/internal/util/Preconditions" "SIOOBE_FORMATTER" "Ljava/util/function/BiFunction;" A s s.heap) : ∃ a : Nat, vk_R RX1 216 "left" a s ∧ yStr (fun j => ([108, 101, 102, 116] : List Int32).getD j 0) 4 a A s s.heap := by
  have hs := flat_of_before _ hgv
  exact zstr_of (byt := [108, 101, 102, 116]) (by omega) (hts (.stringRef RX1 216 "left") (by decide +kernel)) (hs (.exactly (.string RX1 216) "java/lang/String") (by decide +kernel)) (hs (.eq (.field (.string RX1 216) "java/lang/String" "coder" "B") (.int 0)) (by decide +kernel)) (hs (.arrayOf (.field (.string RX1 216) "java/lang/String" "value" "[B") .byte) (by decide +kernel)) (hs (.eq (.length (.field (.string RX1 216) "java/lang/String" "value" "[B")) (.int 4)) (by decide +kernel)) (fun j hj => by
      match j, hj with
      | 0, _ => exact hs (.eq (.elem (.field (.string RX1 216) "java/lang/String" "value" "[B") (.int 0)) (.int 108)) (by decide +kernel)
      | 1, _ => exact hs (.eq (.elem (.field (.string RX1 216) "java/lang/String" "value" "[B") (.int 1)) (.int 101)) (by decide +kernel)
      | 2, _ => exact hs (.eq (.elem (.field (.string RX1 216) "java/lang/String" "value" "[B") (.int 2)) (.int 102)) (by decide +kernel)
      | 3, _ => exact hs (.eq (.elem (.field (.string RX1 216) "java/lang/String" "value" "[B") (.int 3)) (.int 116)) (by decide +kernel)
      | j + 4, hj => omega) hA hz hq
set_option maxRecDepth 20000 in
theorem zst_218 {args : Array Value} {s : State} {A : Nat → Prop} (hgv : (Jvm.Cond.and given_1 narrow_1).before args s = true) (hts : ∀ w ∈ lw_tbl, w.before args s = true) (hA : ∀ a : Nat, a < s.heap.size → ¬ A a) (hz : va_Z "java/lang/String" "COMPACT_STRINGS" "Z" (.int 1) A s s.heap) (hq : va_Zq "jdk/internal/util/Preconditions" "SIOOBE_FORMATTER" "Ljava/util/function/BiFunction;" A s s.heap) : ∃ a : Nat, vk_R RX1 218 "drunk" a s ∧ yStr (fun j => ([100, 114, 117, 110, 107] : List Int32).getD j 0) 5 a A s s.heap := by
  have hs := flat_of_before _ hgv
  exact zstr_of (byt := [100, 114, 117, 110, 107]) (by omega) (hts (.stringRef RX1 218 "drunk") (by decide +kernel)) (hs (.exactly (.string RX1 218) "java/lang/String") (by decide +kernel)) (hs (.eq (.field (.string RX1 218) "java/lang/String" "coder" "B") (.int 0)) (by decide +kernel)) (hs (.arrayOf (.field (.string RX1 218) "java/lang/String" "value" "[B") .byte) (by decide +kernel)) (hs (.eq (.length (.field (.string RX1 218) "java/lang/String" "value" "[B")) (.int 5)) (by decide +kernel)) (fun j hj => by
      match j, hj with
      | 0, _ => exact hs (.eq (.elem (.field (.string RX1 218) "java/lang/String" "value" "[B") (.int 0)) (.int 100)) (by decide +kernel)
      | 1, _ => exact hs (.eq (.elem (.field (.string RX1 218) "java/lang/String" "value" "[B") (.int 1)) (.int 114)) (by decide +kernel)
      | 2, _ => exact hs (.eq (.elem (.field (.string RX1 218) "java/lang/String" "value" "[B") (.int 2)) (.int 117)) (by decide +kernel)
      | 3, _ => exact hs (.eq (.elem (.field (.string RX1 218) "java/lang/String" "value" "[B") (.int 3)) (.int 110)) (by decide +kernel)
      | 4, _ => exact hs (.eq (.elem (.field (.string RX1 218) "java/lang/String" "value" "[B") (.int 4)) (.int 107)) (by decide +kernel)
      | j + 5, hj => omega) hA hz hq
set_option maxRecDepth 20000 in
theorem zst_220 {args : Array Value} {s : State} {A : Nat → Prop} (hgv : (Jvm.Cond.and given_1 narrow_1).before args s = true) (hts : ∀ w ∈ lw_tbl, w.before args s = true) (hA : ∀ a : Nat, a < s.heap.size → ¬ A a) (hz : va_Z "java/lang/String" "COMPACT_STRINGS" "Z" (.int 1) A s s.heap) (hq : va_Zq "jdk/internal/util/Preconditions" "SIOOBE_FORMATTER" "Ljava/util/function/BiFunction;" A s s.heap) : ∃ a : Nat, vk_R RX1 220 "joint" a s ∧ yStr (fun j => ([106, 111, 105, 110, 116] : List Int32).getD j 0) 5 a A s s.heap := by
  have hs := flat_of_before _ hgv
  exact zstr_of (byt := [106, 111, 105, 110, 116]) (by omega) (hts (.stringRef RX1 220 "joint") (by decide +kernel)) (hs (.exactly (.string RX1 220) "java/lang/String") (by decide +kernel)) (hs (.eq (.field (.string RX1 220) "java/lang/String" "coder" "B") (.int 0)) (by decide +kernel)) (hs (.arrayOf (.field (.string RX1 220) "java/lang/String" "value" "[B") .byte) (by decide +kernel)) (hs (.eq (.length (.field (.string RX1 220) "java/lang/String" "value" "[B")) (.int 5)) (by decide +kernel)) (fun j hj => by
      match j, hj with
      | 0, _ => exact hs (.eq (.elem (.field (.string RX1 220) "java/lang/String" "value" "[B") (.int 0)) (.int 106)) (by decide +kernel)
      | 1, _ => exact hs (.eq (.elem (.field (.string RX1 220) "java/lang/String" "value" "[B") (.int 1)) (.int 111)) (by decide +kernel)
      | 2, _ => exact hs (.eq (.elem (.field (.string RX1 220) "java/lang/String" "value" "[B") (.int 2)) (.int 105)) (by decide +kernel)
      | 3, _ => exact hs (.eq (.elem (.field (.string RX1 220) "java/lang/String" "value" "[B") (.int 3)) (.int 110)) (by decide +kernel)
      | 4, _ => exact hs (.eq (.elem (.field (.string RX1 220) "java/lang/String" "value" "[B") (.int 4)) (.int 116)) (by decide +kernel)
      | j + 5, hj => omega) hA hz hq
set_option maxRecDepth 20000 in
theorem zst_222 {args : Array Value} {s : State} {A : Nat → Prop} (hgv : (Jvm.Cond.and given_1 narrow_1).before args s = true) (hts : ∀ w ∈ lw_tbl, w.before args s = true) (hA : ∀ a : Nat, a < s.heap.size → ¬ A a) (hz : va_Z "java/lang/String" "COMPACT_STRINGS" "Z" (.int 1) A s s.heap) (hq : va_Zq "jdk/internal/util/Preconditions" "SIOOBE_FORMATTER" "Ljava/util/function/BiFunction;" A s s.heap) : ∃ a : Nat, vk_R RX1 222 "threat" a s ∧ yStr (fun j => ([116, 104, 114, 101, 97, 116] : List Int32).getD j 0) 6 a A s s.heap := by
  have hs := flat_of_before _ hgv
  exact zstr_of (byt := [116, 104, 114, 101, 97, 116]) (by omega) (hts (.stringRef RX1 222 "threat") (by decide +kernel)) (hs (.exactly (.string RX1 222) "java/lang/String") (by decide +kernel)) (hs (.eq (.field (.string RX1 222) "java/lang/String" "coder" "B") (.int 0)) (by decide +kernel)) (hs (.arrayOf (.field (.string RX1 222) "java/lang/String" "value" "[B") .byte) (by decide +kernel)) (hs (.eq (.length (.field (.string RX1 222) "java/lang/String" "value" "[B")) (.int 6)) (by decide +kernel)) (fun j hj => by
      match j, hj with
      | 0, _ => exact hs (.eq (.elem (.field (.string RX1 222) "java/lang/String" "value" "[B") (.int 0)) (.int 116)) (by decide +kernel)
      | 1, _ => exact hs (.eq (.elem (.field (.string RX1 222) "java/lang/String" "value" "[B") (.int 1)) (.int 104)) (by decide +kernel)
      | 2, _ => exact hs (.eq (.elem (.field (.string RX1 222) "java/lang/String" "value" "[B") (.int 2)) (.int 114)) (by decide +kernel)
      | 3, _ => exact hs (.eq (.elem (.field (.string RX1 222) "java/lang/String" "value" "[B") (.int 3)) (.int 101)) (by decide +kernel)
      | 4, _ => exact hs (.eq (.elem (.field (.string RX1 222) "java/lang/String" "value" "[B") (.int 4)) (.int 97)) (by decide +kernel)
      | 5, _ => exact hs (.eq (.elem (.field (.string RX1 222) "java/lang/String" "value" "[B") (.int 5)) (.int 116)) (by decide +kernel)
      | j + 6, hj => omega) hA hz hq
set_option maxRecDepth 20000 in
theorem znst_in : ∀ q ∈ znst ++ zni, Cond.methodLinkNest q.1 q.2.1 q.2.2.1 q.2.2.2 ∈ lw_tbl := by decide +kernel
set_option maxRecDepth 20000 in
theorem zX_start {args : Array Value} {s : State} (hgv : (Jvm.Cond.and given_1 narrow_1).before args s = true) (hts : ∀ w ∈ lw_tbl, w.before args s = true) : zX (fun q => s.heap.size ≤ q) s s.heap := by
  have hs := flat_of_before _ hgv
  have hA : ∀ a : Nat, a < s.heap.size → ¬ (fun q => s.heap.size ≤ q) a := fun a h => Nat.not_le.mpr h
  have hz : va_Z "java/lang/String" "COMPACT_STRINGS" "Z" (.int 1) (fun q => s.heap.size ≤ q) s s.heap := va_Zof (hts (.laysStatic "java/lang/String" "COMPACT_STRINGS" "Z") (by decide +kernel)) (hts (.initialized "java/lang/String") (by decide +kernel)) (va_eqt (hs (.eq (.static "java/lang/String" "COMPACT_STRINGS" "Z") (.int 1)) (by decide +kernel))) hA
  have hq : va_Zq "jdk/internal/util/Preconditions" "SIOOBE_FORMATTER" "Ljava/util/function/BiFunction;" (fun q => s.heap.size ≤ q) s s.heap := va_Zqof (hts (.laysStatic "jdk/internal/util/Preconditions" "SIOOBE_FORMATTER" "Ljava/util/function/BiFunction;") (by decide +kernel)) (hts (.initialized "jdk/internal/util/Preconditions") (by decide +kernel)) (hs (.isRef (.static "jdk/internal/util/Preconditions" "SIOOBE_FORMATTER" "Ljava/util/function/BiFunction;")) (by decide +kernel)) hA
  exact ⟨fun q hq => va_Nw.of rfl (hts _ (znst_in q hq)), va_AO.of (hts (.arrayOver (.object RX4)) (by decide +kernel)), va_AO.of (hts (.arrayOver (.object RX2)) (by decide +kernel)), List.forall_mem_cons.mpr ⟨zst_81 hgv hts hA hz hq, List.forall_mem_cons.mpr ⟨zst_91 hgv hts hA hz hq, List.forall_mem_cons.mpr ⟨zst_93 hgv hts hA hz hq, List.forall_mem_cons.mpr ⟨zst_98 hgv hts hA hz hq, List.forall_mem_cons.mpr ⟨zst_103 hgv hts hA hz hq, List.forall_mem_cons.mpr ⟨zst_108 hgv hts hA hz hq, List.forall_mem_cons.mpr ⟨zst_113 hgv hts hA hz hq, List.forall_mem_cons.mpr ⟨zst_118 hgv hts hA hz hq, List.forall_mem_cons.mpr ⟨zst_214 hgv hts hA hz hq, List.forall_mem_cons.mpr ⟨zst_216 hgv hts hA hz hq, List.forall_mem_cons.mpr ⟨zst_218 hgv hts hA hz hq, List.forall_mem_cons.mpr ⟨zst_220 hgv hts hA hz hq, List.forall_mem_cons.mpr ⟨zst_222 hgv hts hA hz hq, fun _ h => absurd h List.not_mem_nil⟩⟩⟩⟩⟩⟩⟩⟩⟩⟩⟩⟩⟩⟩
