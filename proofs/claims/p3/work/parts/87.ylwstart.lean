set_option maxRecDepth 100000 in
set_option maxHeartbeats 4000000 in
/-- the classes and the arrays' classes, as the tables have them -/
theorem zlaw_K {s : State} {args : Array Value} (hts : ∀ w ∈ wsL_law, w.before args s = true) (hov4 : (Cond.arrayOver (.object RX4)).before args s = true) (hov2 : (Cond.arrayOver (.object RX2)).before args s = true) : ∃ (D : va_G) (kA : Nat → ClassId), va_K D vwCl (ztys kA) s := by
  obtain ⟨c0, s0, k0⟩ := u_known (C := RX0) (T := TX0) (N := 2) (n := 2) hts (fun w h => List.mem_append_left _ (List.mem_append_left _ (List.mem_append_left _ (List.mem_append_left _ (List.mem_append_left _ (List.mem_append_right _ h)))))) (hts (.instantiable RX0 2) (List.mem_of_getElem? (i := 25) rfl))
  obtain ⟨c1, s1, k1⟩ := u_known (C := RX1) (T := TX1) (N := 13) (n := 13) hts (fun w h => List.mem_append_left _ (List.mem_append_left _ (List.mem_append_left _ (List.mem_append_left _ (List.mem_append_left _ (List.mem_append_left _ (List.mem_append_right _ h))))))) (hts (.instantiable RX1 13) (List.mem_of_getElem? (i := 19) rfl))
  obtain ⟨c2, s2, k2⟩ := u_known (C := RX2) (T := TX2) (N := 3) (n := 3) hts (fun w h => List.mem_append_left _ (List.mem_append_left _ (List.mem_append_left _ (List.mem_append_left _ (List.mem_append_right _ h))))) (hts (.instantiable RX2 3) (List.mem_of_getElem? (i := 30) rfl))
  obtain ⟨c3, s3, k3⟩ := u_known (C := RX3) (T := TX3) (N := 2) (n := 2) hts (fun w h => List.mem_append_left _ (List.mem_append_right _ h)) (hts (.instantiable RX3 2) (List.mem_of_getElem? (i := 69) rfl))
  obtain ⟨c4, s4, k4⟩ := u_known (C := RX4) (T := TX4) (N := 18) (n := 18) hts (fun w h => List.mem_append_left _ (List.mem_append_left _ (List.mem_append_left _ (List.mem_append_left _ (List.mem_append_left _ (List.mem_append_left _ (List.mem_append_left _ (List.mem_append_right _ h)))))))) (hts (.instantiable RX4 18) (List.mem_of_getElem? (i := 13) rfl))
  obtain ⟨c5, s5, k5⟩ := u_known (C := RX5) (T := TX5) (N := 5) (n := 5) hts (fun w h => List.mem_append_left _ (List.mem_append_left _ (List.mem_append_left _ (List.mem_append_right _ h)))) (hts (.instantiable RX5 5) (List.mem_of_getElem? (i := 45) rfl))
  obtain ⟨c6, s6, k6⟩ := u_known (C := RX6) (T := TX6) (N := 3) (n := 3) hts (fun w h => List.mem_append_left _ (List.mem_append_left _ (List.mem_append_right _ h))) (hts (.instantiable RX6 3) (List.mem_of_getElem? (i := 50) rfl))
  obtain ⟨c7, s7, k7⟩ := u_known (C := RX7) (T := TX7) (N := 9) (n := 9) hts (fun w h => List.mem_append_left _ (List.mem_append_left _ (List.mem_append_left _ (List.mem_append_left _ (List.mem_append_left _ (List.mem_append_left _ (List.mem_append_left _ (List.mem_append_left _ (List.mem_append_left _ (List.mem_append_right _ h)))))))))) (hts (.instantiable RX7 9) (List.mem_of_getElem? (i := 1) rfl))
  obtain ⟨c8, s8, k8⟩ := u_known (C := RX8) (T := TX8) (N := 33) (n := 33) hts (fun w h => List.mem_append_left _ (List.mem_append_left _ (List.mem_append_left _ (List.mem_append_left _ (List.mem_append_left _ (List.mem_append_left _ (List.mem_append_left _ (List.mem_append_left _ (List.mem_append_right _ h))))))))) (hts (.instantiable RX8 33) (List.mem_of_getElem? (i := 4) rfl))
  obtain ⟨a0, b0, m0, e0, f0, g0⟩ := Cond.arrayClass_spec (hts (.arrayClass .int) (List.mem_of_getElem? (i := 36) rfl))
  obtain ⟨a1, b1, m1, e1, f1, g1⟩ := Cond.arrayClass_spec (hts (.arrayClass .boolean) (List.mem_of_getElem? (i := 79) rfl))
  obtain ⟨m2, a2, b2, d2, -, e2, f2, g2⟩ := Cond.arrayOver_spec hov4
  obtain ⟨m3, a3, b3, d3, -, e3, f3, g3⟩ := Cond.arrayOver_spec hov2
  refine ⟨(fun k => if k = 0 then c0 else if k = 1 then c1 else if k = 2 then c2 else if k = 3 then c3 else if k = 4 then c4 else if k = 5 then c5 else if k = 6 then c6 else if k = 7 then c7 else c8, fun k => if k = 0 then s0 else if k = 1 then s1 else if k = 2 then s2 else if k = 3 then s3 else if k = 4 then s4 else if k = 5 then s5 else if k = 6 then s6 else if k = 7 then s7 else s8), fun k => if k = 0 then a0 else if k = 1 then a1 else if k = 2 then a2 else a3, fun k q hq => ?_, fun k q hq => ?_⟩
  · match k, hq with
    | 0, hq => cases hq; exact k0
    | 1, hq => cases hq; exact k1
    | 2, hq => cases hq; exact k2
    | 3, hq => cases hq; exact k3
    | 4, hq => cases hq; exact k4
    | 5, hq => cases hq; exact k5
    | 6, hq => cases hq; exact k6
    | 7, hq => cases hq; exact k7
    | 8, hq => cases hq; exact k8
    | k + 9, hq => simp [vwCl] at hq
  · match k, hq with
    | 0, hq => cases hq; exact ⟨fun n z => ⟨fun k h => (by cases h), b0, f0, m0, g0⟩, e0⟩
    | 1, hq => cases hq; exact ⟨fun n z => ⟨fun k h => (by cases h), b1, f1, m1, g1⟩, e1⟩
    | 2, hq => cases hq; exact ⟨fun n z => ⟨fun k h => (by cases h), b2, e2, m2, f2⟩, b2, m2, e2, f2, d2, g2⟩
    | 3, hq => cases hq; exact ⟨fun n z => ⟨fun k h => (by cases h), b3, e3, m3, f3⟩, b3, m3, e3, f3, d3, g3⟩
    | k + 4, hq => simp [ztys] at hq
set_option maxHeartbeats 4000000 in
set_option maxRecDepth 100000 in
theorem ylaw_start {N : Nat} (hN : 1000 ≤ N) {p : Program} {l : Launch} {e : Env} {s : State} {m : MethodId} {below : List Frame} {meth : Method} {c : Code} {Q : State → Prop} {b L : Nat} {xs : Nat → Int32} {D : va_G} {kA : Nat → ClassId} (hc : zLc p s m c b L xs D kA) (fin : ∀ (H : Heap) (locs : List Loc) (ls : Array Slot), va_S (fun q => s.heap.size ≤ q) s.heap H locs → W p l e room_1 s m #[Value.ref b] below meth c H locs 116 14159 Q (F0 m 1348 ls [])) {ls : Array Slot} (hl : lv_has ls 4 [(0, .ref b)]) : W p l e room_1 s m #[Value.ref b] below meth c s.heap [] 0 0 Q (F0 m 0 ls []) := by
  obtain ⟨hx, hb, hml, hown, hts, hX, hbl, hK, hx0, hL⟩ := id hc
  have hA : ∀ q : Nat, s.heap.size ≤ q → (fun q : Nat => s.heap.size ≤ q) q := fun _ h => h
  have hd := zpr_all hp_L0
  have hP : va_P D vwCl [] s.heap := fun k q h => by simp at h
  have hD : va_D (fun q : Nat => s.heap.size ≤ q) [] := ⟨fun i j p q h => by simp at h, fun k q h => by simp at h⟩
  have hS : va_S (fun q : Nat => s.heap.size ≤ q) s.heap s.heap [] := va_S.rf
  generalize hAe : (fun q : Nat => s.heap.size ≤ q) = A at hD hS hA hx0 fin
  refine va_new (ci := 7) (fs := dX7) (C := RX7) (T := TX7) (N := 9) hx hb hts (fun w h => List.mem_append_left _ (List.mem_append_left _ (List.mem_append_left _ (List.mem_append_left _ (List.mem_append_left _ (List.mem_append_left _ (List.mem_append_left _ (List.mem_append_left _ (List.mem_append_left _ (List.mem_append_right _ h)))))))))) tyX7 tyX7_ok hown (hts (.classLink RL 7 RX7) (List.mem_of_getElem? (i := 0) rfl)) (hts (.instantiable RX7 9) (List.mem_of_getElem? (i := 1) rfl)) (hts (.initialized RX7) (List.mem_of_getElem? (i := 2) rfl)) hK hP hD hS hA rfl (by decide) (Nat.le_of_ble_eq_true rfl) (Nat.le_of_ble_eq_true rfl) (hd 0 (.new 7) 3 rfl) (fun q7 H hP hD hS => ?_)
  refine W.widen (k := 1) (n := 9) (by omega) (by omega) ?_
  have hP : va_P D vwCl [(q7, .inr (7, dX7))] H := hP
  have hD : va_D A [(q7, .inr (7, dX7))] := hD
  refine lv_dup hx hb (hd 3 .dup 1 rfl) rfl ?_
  have hFc := va_free (wc := [(q7, .inr (7, dX7))]) hD hS hA [0] rfl
  have hxA := zX_ok.2.2.2 A _ s H hFc (zX_ok.2.2.1 A s s.heap H (fun a h1 h2 => hS.2.1 a h1 h2) hx0)
  refine va_callv (va_runI (As := []) (rest := [.ref q7]) ⟨hx, hb, hml, hown, hts⟩ (c_X7_init l D kA q7 H.size) (cwI 0 hts gL_law_X7_init rfl rfl rfl (hts (.initialized RX7) (List.mem_of_getElem? (i := 2) rfl)) (hts (.methodLink RL 9 yX7_init) (List.mem_of_getElem? (i := 6) rfl)) (hts (.instanceMethod yX7_init) (List.mem_of_getElem? (i := 7) rfl)) rfl (by decide +kernel) ⟨Nat.le_of_ble_eq_true rfl, Nat.le_of_ble_eq_true rfl⟩) ⟨zBf_blind zX_ok, fun U hU hW => zBf_of (av := [.ref q7]) zX_ok hK hP (hD.weaken (fun _ _ _ _ => trivial)) hxA U hU hW⟩ rfl rfl hl.1 rfl (lv_room (Nat.le_of_ble_eq_true rfl)) (hd 4 (.invokespecial 9) 3 rfl) ⟨Nat.le_of_ble_eq_true rfl, Nat.le_of_ble_eq_true rfl⟩) hS (fun q _ h => hFc q h) hFc (fun f t H1 locs ht hvm hw hB hz1 hk1 hS => ?_)
  obtain ⟨hP1, hD1⟩ := hB
  rw [ht] at hP1
  subst hw
  have hP := y7_P hP1
  have hD := y7_D (hD1.weaken (fun i x _ h => hFc x.1 h))
  obtain ⟨ad7, had7⟩ : ∃ ad7 : Nat → Nat, ad7 = fun i => f (y7pi i) := ⟨_, rfl⟩
  rw [← had7] at hP hD
  have h70 : f 0 = ad7 0 := by rw [had7]; rfl
  rw [h70]
  obtain ⟨u, hu⟩ : ∃ u : va_W, u = yws yct kA ad7 ysh7 y7S := ⟨_, rfl⟩
  rw [← hu] at hP hD
  generalize H1 = H at hP hS ⊢
  refine W.widen (k := 101) (n := 1172) (by omega) (by omega) ?_
  refine lv_astore_n (lv' := [(1, .ref (ad7 0)), (0, .ref b)]) hx hb (hd 7 (.astore_n 1) 1 rfl) rfl hl (by decide) rfl (fun ls hl => ?_)
  refine va_new (ci := 8) (fs := dX8) (C := RX8) (T := TX8) (N := 33) hx hb hts (fun w h => List.mem_append_left _ (List.mem_append_left _ (List.mem_append_left _ (List.mem_append_left _ (List.mem_append_left _ (List.mem_append_left _ (List.mem_append_left _ (List.mem_append_left _ (List.mem_append_right _ h))))))))) tyX8 tyX8_ok hown (hts (.classLink RL 10 RX8) (List.mem_of_getElem? (i := 3) rfl)) (hts (.instantiable RX8 33) (List.mem_of_getElem? (i := 4) rfl)) (hts (.initialized RX8) (List.mem_of_getElem? (i := 5) rfl)) hK hP hD hS hA rfl (by decide) (Nat.le_of_ble_eq_true rfl) (Nat.le_of_ble_eq_true rfl) (hd 8 (.new 10) 3 rfl) (fun q8 H hP hD hS => ?_)
  refine W.widen (k := 102) (n := 1205) (by omega) (by omega) ?_
  refine lv_dup hx hb (hd 11 .dup 1 rfl) rfl ?_
  have hPc : va_P D vwCl [(q8, .inr (8, dX8))] H := yP_r hP
  have hDc : va_D A [(q8, .inr (8, dX8))] := yD_r hD
  have hFc : ∀ q, va_A [(q8, .inr (8, dX8))] H.size q → A q := fun q h => by
    rcases h with ⟨j, e, h⟩ | h
    · exact hDc.2 j (q, e) h
    · exact hA q (Nat.le_trans hS.1 h)
  have hxA := zX_ok.2.2.2 A _ s H hFc (zX_ok.2.2.1 A s s.heap H (fun a h1 h2 => hS.2.1 a h1 h2) hx0)
  refine va_callv (va_runI (As := []) (rest := [.ref q8]) ⟨hx, hb, hml, hown, hts⟩ (y_X8_init (N := N) hN l D kA q8 H.size) (cwI 0 hts gL_law_X8_init rfl rfl rfl (hts (.initialized RX8) (List.mem_of_getElem? (i := 5) rfl)) (hts (.methodLink RL 12 yX8_init) (List.mem_of_getElem? (i := 87) rfl)) (hts (.instanceMethod yX8_init) (List.mem_of_getElem? (i := 88) rfl)) rfl (by decide +kernel) ⟨Nat.le_of_ble_eq_true rfl, Nat.le_of_ble_eq_true rfl⟩) ⟨zBf_blind zX_ok, fun U hU hW => zBf_of (av := [.ref q8]) zX_ok hK hPc (hDc.weaken (fun _ _ _ _ => trivial)) hxA U hU hW⟩ rfl rfl hl.1 rfl (lv_room (Nat.le_of_ble_eq_true rfl)) (hd 12 (.invokespecial 12) 3 rfl) ⟨Nat.le_of_ble_eq_true rfl, Nat.le_of_ble_eq_true rfl⟩) hS (fun q _ h => hFc q h) hFc (fun w8 t H1 locs ht hvm hv hB hz1 hk1 hS => ?_)
  obtain ⟨τ, ad8⟩ := w8
  obtain ⟨hv0, o8, hT8⟩ := hv
  obtain ⟨hP1, hD1⟩ := hB
  rw [ht] at hP1
  have hv0 : ad8 0 = q8 := hv0
  obtain ⟨v, hvw⟩ : ∃ v : va_W, v = yws yct kA ad8 ysh8 τ := ⟨_, rfl⟩
  have hP1 : va_P D vwCl v H1 := by rw [hvw]; exact hP1
  have hD1 : va_D (va_A [(q8, .inr (8, dX8))] H.size) v := by rw [hvw]; exact hD1
  have hPu := yP_l hP
  have hne : ∀ (i : Nat) (w : Nat × va_E), u[i]? = some w → ¬ va_A [(q8, .inr (8, dX8))] H.size w.1 := fun i w hi h => by
    rcases h with ⟨j, e, h⟩ | h
    · exact yD_x hD i j w (w.1, e) hi h rfl
    · have := (hPu i w hi).lt
      omega
  have hP2 : va_P D vwCl (u ++ v) H1 := va_P.app (hPu.kept (fun i w hi => hk1 w.1 (hPu i w hi).lt (hne i w hi))) hP1
  have hD2 : va_D A (u ++ v) := va_D.app (yD_l hD) (hD1.weaken (fun i w _ h => hFc w.1 h)) (fun i j w z hi hj e => hne i w hi (by rw [e]; exact hD1.2 j z hj))
  refine W.widen (k := 116) (n := 14159) (by omega) (by omega) ?_
  refine lv_astore_n (lv' := [(2, .ref q8), (1, .ref (ad7 0)), (0, .ref b)]) hx hb (hd 15 (.astore_n 2) 1 rfl) rfl hl (by decide) rfl (fun ls hl => ?_)
  refine lv_iconst (v := Int32.ofInt 0) hx hb (hd 16 (.iconst 0) 1 rfl) (by decide) ?_
  refine lv_istore_n (lv' := [(3, .int (Int32.ofInt 0)), (2, .ref q8), (1, .ref (ad7 0)), (0, .ref b)]) hx hb (hd 17 (.istore_n 3) 1 rfl) rfl hl (by decide) rfl (fun ls hl => ?_)
  subst hAe
  rw [← hv0] at hl
  rw [hu, hvw] at hP2 hD2
  exact ylaw_loop hN hc fin L 0 ls y7S τ H1 locs (by omega) (by omega) (by omega) ⟨y7S_ok, o8, yRR_0 hT8, hP2, hD2, hS, hl⟩
