noncomputable def pr_L0 : List (Nat × Instr × Nat) := [(0, .new 7, 3), (3, .dup, 1), (4, .invokespecial 9, 3), (7, .astore_n 1, 1), (8, .new 10, 3), (11, .dup, 1), (12, .invokespecial 12, 3), (15, .astore_n 2, 1), (16, .iconst 0, 1), (17, .istore_n 3, 1), (18, .iload_n 3, 1), (19, .aload_n 0, 1), (20, .arraylength, 1), (21, .iconst 5, 1), (22, .isub, 1), (23, .if_icmp .gt 1325, 3), (26, .aload_n 0, 1), (27, .iload_n 3, 1), (28, .iaload, 1), (29, .bipush 63, 2), (31, .iand, 1), (32, .tableswitch 1310 0 35 #[160, 183, 206, 219, 232, 255, 288, 311, 344, 377, 410, 469, 518, 571, 624, 657, 690, 723, 746, 789, 802, 825, 868, 911, 924, 947, 980, 1013, 1046, 1089, 1112, 1135, 1178, 1221, 1274, 1287], 160), (1342, .iinc 3 5, 3), (1345, .goto (-1327), 3), (1348, .iconst 1, 1), (1349, .ireturn, 1)]
set_option maxRecDepth 100000 in
theorem hp_L0 : pr_L0.all (fun x => decide (decode code x.1 = .ok x.2)) = true := by decide +kernel
theorem zeL (L : Nat) : Int32.ofNat L = Int32.ofInt (L : Int) := rfl
set_option maxHeartbeats 4000000 in
set_option maxRecDepth 100000 in
theorem ylaw_body {N : Nat} (hN : 1000 ≤ N) {p : Program} {l : Launch} {e : Env} {s : State} {m : MethodId} {below : List Frame} {meth : Method} {c : Code} {Q : State → Prop} {b L : Nat} {xs : Nat → Int32} {D : va_G} {kA : Nat → ClassId} (hc : zLc p s m c b L xs D kA) {ad7 ad8 : Nat → Nat} {i : Int} (i0 : 0 ≤ i) (i1 : i + 5 ≤ (L : Int)) {ls : Array Slot} {σ τ : yS} {H : Heap} {locs : List Loc} (hi : yLi s b D kA ad7 ad8 i σ τ H locs ls)
    (nxt : ∀ (σ τ : yS) (H : Heap) (locs : List Loc), yLi s b D kA ad7 ad8 i σ τ H locs ls → W p l e room_1 s m #[Value.ref b] below meth c H locs 116 14159 Q (F0 m 1342 ls [])) : W p l e room_1 s m #[Value.ref b] below meth c H locs 116 14159 Q (F0 m 26 ls []) := by
  obtain ⟨hx, hb, hml, hown, hts, hX, hbl, hK, hx0, hL⟩ := id hc
  obtain ⟨o7, o8, hR, hP, hD, hS, hl⟩ := id hi
  have hbA : ¬ (fun q : Nat => s.heap.size ≤ q) b := Nat.not_le.mpr hbl
  have hd := zpr_all hp_L0
  have hroom : 116 ≤ room_1.cells ∧ 14159 ≤ room_1.slots := ⟨Nat.le_of_ble_eq_true rfl, Nat.le_of_ble_eq_true rfl⟩
  refine lv_aload_n hx hb (hd 26 (.aload_n 0) 1 rfl) rfl (lv_at hl 3 rfl) ?_
  refine lv_iload_n hx hb (hd 27 (.iload_n 3) 1 rfl) rfl (lv_at hl 0 rfl) ?_
  refine yl_ld hx hb hX hbl hbA hS (x := i) (by omega) (by omega) hL (hd 28 .iaload 1 rfl) ?_
  rw [Int32.ofInt_toInt]
  refine lv_bipush (v := Int32.ofInt 63) hx hb (hd 29 (.bipush 63) 2 rfl) (by decide) ?_
  refine lv_iand hx hb (hd 31 .iand 1 rfl) ?_
  have hz := zand_r (xs i.toNat) (Int32.ofInt 63) (by decide)
  rw [show (Int32.ofInt 63).toInt = 63 by decide] at hz
  generalize xs i.toNat &&& Int32.ofInt 63 = t at hz ⊢
  by_cases hb36 : 35 < t.toInt
  · refine lv_tableOut (tgt := 1342) hx hb (hd 32 (.tableswitch 1310 0 35 #[160, 183, 206, 219, 232, 255, 288, 311, 344, 377, 410, 469, 518, 571, 624, 657, 690, 723, 746, 789, 802, 825, 868, 911, 924, 947, 980, 1013, 1046, 1089, 1112, 1135, 1178, 1221, 1274, 1287]) 160 rfl) (Or.inr hb36) (by decide) ?_
    exact nxt σ τ H locs hi
  · have : t.toInt = 0 ∨ t.toInt = 1 ∨ t.toInt = 2 ∨ t.toInt = 3 ∨ t.toInt = 4 ∨ t.toInt = 5 ∨ t.toInt = 6 ∨ t.toInt = 7 ∨ t.toInt = 8 ∨ t.toInt = 9 ∨ t.toInt = 10 ∨ t.toInt = 11 ∨ t.toInt = 12 ∨ t.toInt = 13 ∨ t.toInt = 14 ∨ t.toInt = 15 ∨ t.toInt = 16 ∨ t.toInt = 17 ∨ t.toInt = 18 ∨ t.toInt = 19 ∨ t.toInt = 20 ∨ t.toInt = 21 ∨ t.toInt = 22 ∨ t.toInt = 23 ∨ t.toInt = 24 ∨ t.toInt = 25 ∨ t.toInt = 26 ∨ t.toInt = 27 ∨ t.toInt = 28 ∨ t.toInt = 29 ∨ t.toInt = 30 ∨ t.toInt = 31 ∨ t.toInt = 32 ∨ t.toInt = 33 ∨ t.toInt = 34 ∨ t.toInt = 35 := by omega
    rcases this with h | h | h | h | h | h | h | h | h | h | h | h | h | h | h | h | h | h | h | h | h | h | h | h | h | h | h | h | h | h | h | h | h | h | h | h
    · refine lv_tableIn (off := 160) (tgt := 192) hx hb (hd 32 (.tableswitch 1310 0 35 #[160, 183, 206, 219, 232, 255, 288, 311, 344, 377, 410, 469, 518, 571, 624, 657, 690, 723, 746, 789, 802, 825, 868, 911, 924, 947, 980, 1013, 1046, 1089, 1112, 1135, 1178, 1221, 1274, 1287]) 160 rfl) (by omega) (by omega) (by rw [h]; rfl) (by decide) ?_
      exact lc_feed hN hc hi i0 (by omega) hroom nxt
    · refine lv_tableIn (off := 183) (tgt := 215) hx hb (hd 32 (.tableswitch 1310 0 35 #[160, 183, 206, 219, 232, 255, 288, 311, 344, 377, 410, 469, 518, 571, 624, 657, 690, 723, 746, 789, 802, 825, 868, 911, 924, 947, 980, 1013, 1046, 1089, 1112, 1135, 1178, 1221, 1274, 1287]) 160 rfl) (by omega) (by omega) (by rw [h]; rfl) (by decide) ?_
      exact lc_end hN hc hi i0 (by omega) hroom nxt
    · refine lv_tableIn (off := 206) (tgt := 238) hx hb (hd 32 (.tableswitch 1310 0 35 #[160, 183, 206, 219, 232, 255, 288, 311, 344, 377, 410, 469, 518, 571, 624, 657, 690, 723, 746, 789, 802, 825, 868, 911, 924, 947, 980, 1013, 1046, 1089, 1112, 1135, 1178, 1221, 1274, 1287]) 160 rfl) (by omega) (by omega) (by rw [h]; rfl) (by decide) ?_
      exact lc_text hN hc hi i0 (by omega) hroom nxt
    · refine lv_tableIn (off := 219) (tgt := 251) hx hb (hd 32 (.tableswitch 1310 0 35 #[160, 183, 206, 219, 232, 255, 288, 311, 344, 377, 410, 469, 518, 571, 624, 657, 690, 723, 746, 789, 802, 825, 868, 911, 924, 947, 980, 1013, 1046, 1089, 1112, 1135, 1178, 1221, 1274, 1287]) 160 rfl) (by omega) (by omega) (by rw [h]; rfl) (by decide) ?_
      exact lc_fault hN hc hi i0 (by omega) hroom nxt
    · refine lv_tableIn (off := 232) (tgt := 264) hx hb (hd 32 (.tableswitch 1310 0 35 #[160, 183, 206, 219, 232, 255, 288, 311, 344, 377, 410, 469, 518, 571, 624, 657, 690, 723, 746, 789, 802, 825, 868, 911, 924, 947, 980, 1013, 1046, 1089, 1112, 1135, 1178, 1221, 1274, 1287]) 160 rfl) (by omega) (by omega) (by rw [h]; rfl) (by decide) ?_
      exact lc_rule hN hc hi i0 (by omega) hroom nxt
    · refine lv_tableIn (off := 255) (tgt := 287) hx hb (hd 32 (.tableswitch 1310 0 35 #[160, 183, 206, 219, 232, 255, 288, 311, 344, 377, 410, 469, 518, 571, 624, 657, 690, 723, 746, 789, 802, 825, 868, 911, 924, 947, 980, 1013, 1046, 1089, 1112, 1135, 1178, 1221, 1274, 1287]) 160 rfl) (by omega) (by omega) (by rw [h]; rfl) (by decide) ?_
      exact lc_house hN hc hi i0 (by omega) hroom nxt
    · refine lv_tableIn (off := 288) (tgt := 320) hx hb (hd 32 (.tableswitch 1310 0 35 #[160, 183, 206, 219, 232, 255, 288, 311, 344, 377, 410, 469, 518, 571, 624, 657, 690, 723, 746, 789, 802, 825, 868, 911, 924, 947, 980, 1013, 1046, 1089, 1112, 1135, 1178, 1221, 1274, 1287]) 160 rfl) (by omega) (by omega) (by rw [h]; rfl) (by decide) ?_
      exact lc_cost hN hc hi i0 (by omega) hroom nxt
    · refine lv_tableIn (off := 311) (tgt := 343) hx hb (hd 32 (.tableswitch 1310 0 35 #[160, 183, 206, 219, 232, 255, 288, 311, 344, 377, 410, 469, 518, 571, 624, 657, 690, 723, 746, 789, 802, 825, 868, 911, 924, 947, 980, 1013, 1046, 1089, 1112, 1135, 1178, 1221, 1274, 1287]) 160 rfl) (by omega) (by omega) (by rw [h]; rfl) (by decide) ?_
      exact lc_vow hN hc hi i0 (by omega) hroom nxt
    · refine lv_tableIn (off := 344) (tgt := 376) hx hb (hd 32 (.tableswitch 1310 0 35 #[160, 183, 206, 219, 232, 255, 288, 311, 344, 377, 410, 469, 518, 571, 624, 657, 690, 723, 746, 789, 802, 825, 868, 911, 924, 947, 980, 1013, 1046, 1089, 1112, 1135, 1178, 1221, 1274, 1287]) 160 rfl) (by omega) (by omega) (by rw [h]; rfl) (by decide) ?_
      exact lc_want hN hc hi i0 (by omega) hroom nxt
    · refine lv_tableIn (off := 377) (tgt := 409) hx hb (hd 32 (.tableswitch 1310 0 35 #[160, 183, 206, 219, 232, 255, 288, 311, 344, 377, 410, 469, 518, 571, 624, 657, 690, 723, 746, 789, 802, 825, 868, 911, 924, 947, 980, 1013, 1046, 1089, 1112, 1135, 1178, 1221, 1274, 1287]) 160 rfl) (by omega) (by omega) (by rw [h]; rfl) (by decide) ?_
      exact lc_fund hN hc hi i0 (by omega) hroom nxt
    · refine lv_tableIn (off := 410) (tgt := 442) hx hb (hd 32 (.tableswitch 1310 0 35 #[160, 183, 206, 219, 232, 255, 288, 311, 344, 377, 410, 469, 518, 571, 624, 657, 690, 723, 746, 789, 802, 825, 868, 911, 924, 947, 980, 1013, 1046, 1089, 1112, 1135, 1178, 1221, 1274, 1287]) 160 rfl) (by omega) (by omega) (by rw [h]; rfl) (by decide) ?_
      exact lc_can hN hc hi i0 (by omega) hroom nxt
    · refine lv_tableIn (off := 469) (tgt := 501) hx hb (hd 32 (.tableswitch 1310 0 35 #[160, 183, 206, 219, 232, 255, 288, 311, 344, 377, 410, 469, 518, 571, 624, 657, 690, 723, 746, 789, 802, 825, 868, 911, 924, 947, 980, 1013, 1046, 1089, 1112, 1135, 1178, 1221, 1274, 1287]) 160 rfl) (by omega) (by omega) (by rw [h]; rfl) (by decide) ?_
      exact lc_lawyer hN hc hi i0 (by omega) hroom nxt
    · refine lv_tableIn (off := 518) (tgt := 550) hx hb (hd 32 (.tableswitch 1310 0 35 #[160, 183, 206, 219, 232, 255, 288, 311, 344, 377, 410, 469, 518, 571, 624, 657, 690, 723, 746, 789, 802, 825, 868, 911, 924, 947, 980, 1013, 1046, 1089, 1112, 1135, 1178, 1221, 1274, 1287]) 160 rfl) (by omega) (by omega) (by rw [h]; rfl) (by decide) ?_
      exact lc_habit hN hc hi i0 (by omega) hroom nxt
    · refine lv_tableIn (off := 571) (tgt := 603) hx hb (hd 32 (.tableswitch 1310 0 35 #[160, 183, 206, 219, 232, 255, 288, 311, 344, 377, 410, 469, 518, 571, 624, 657, 690, 723, 746, 789, 802, 825, 868, 911, 924, 947, 980, 1013, 1046, 1089, 1112, 1135, 1178, 1221, 1274, 1287]) 160 rfl) (by omega) (by omega) (by rw [h]; rfl) (by decide) ?_
      exact lc_vows hN hc hi i0 (by omega) hroom nxt
    · refine lv_tableIn (off := 624) (tgt := 656) hx hb (hd 32 (.tableswitch 1310 0 35 #[160, 183, 206, 219, 232, 255, 288, 311, 344, 377, 410, 469, 518, 571, 624, 657, 690, 723, 746, 789, 802, 825, 868, 911, 924, 947, 980, 1013, 1046, 1089, 1112, 1135, 1178, 1221, 1274, 1287]) 160 rfl) (by omega) (by omega) (by rw [h]; rfl) (by decide) ?_
      exact lc_wish hN hc hi i0 (by omega) hroom nxt
    · refine lv_tableIn (off := 657) (tgt := 689) hx hb (hd 32 (.tableswitch 1310 0 35 #[160, 183, 206, 219, 232, 255, 288, 311, 344, 377, 410, 469, 518, 571, 624, 657, 690, 723, 746, 789, 802, 825, 868, 911, 924, 947, 980, 1013, 1046, 1089, 1112, 1135, 1178, 1221, 1274, 1287]) 160 rfl) (by omega) (by omega) (by rw [h]; rfl) (by decide) ?_
      exact lc_drop hN hc hi i0 (by omega) hroom nxt
    · refine lv_tableIn (off := 690) (tgt := 722) hx hb (hd 32 (.tableswitch 1310 0 35 #[160, 183, 206, 219, 232, 255, 288, 311, 344, 377, 410, 469, 518, 571, 624, 657, 690, 723, 746, 789, 802, 825, 868, 911, 924, 947, 980, 1013, 1046, 1089, 1112, 1135, 1178, 1221, 1274, 1287]) 160 rfl) (by omega) (by omega) (by rw [h]; rfl) (by decide) ?_
      exact lc_move hN hc hi i0 (by omega) hroom nxt
    · refine lv_tableIn (off := 723) (tgt := 755) hx hb (hd 32 (.tableswitch 1310 0 35 #[160, 183, 206, 219, 232, 255, 288, 311, 344, 377, 410, 469, 518, 571, 624, 657, 690, 723, 746, 789, 802, 825, 868, 911, 924, 947, 980, 1013, 1046, 1089, 1112, 1135, 1178, 1221, 1274, 1287]) 160 rfl) (by omega) (by omega) (by rw [h]; rfl) (by decide) ?_
      exact lc_go hN hc hi i0 (by omega) hroom nxt
    · refine lv_tableIn (off := 746) (tgt := 778) hx hb (hd 32 (.tableswitch 1310 0 35 #[160, 183, 206, 219, 232, 255, 288, 311, 344, 377, 410, 469, 518, 571, 624, 657, 690, 723, 746, 789, 802, 825, 868, 911, 924, 947, 980, 1013, 1046, 1089, 1112, 1135, 1178, 1221, 1274, 1287]) 160 rfl) (by omega) (by omega) (by rw [h]; rfl) (by decide) ?_
      exact lc_ahead hN hc hi i0 (by omega) hroom nxt
    · refine lv_tableIn (off := 789) (tgt := 821) hx hb (hd 32 (.tableswitch 1310 0 35 #[160, 183, 206, 219, 232, 255, 288, 311, 344, 377, 410, 469, 518, 571, 624, 657, 690, 723, 746, 789, 802, 825, 868, 911, 924, 947, 980, 1013, 1046, 1089, 1112, 1135, 1178, 1221, 1274, 1287]) 160 rfl) (by omega) (by omega) (by rw [h]; rfl) (by decide) ?_
      exact lc_rest hN hc hi i0 (by omega) hroom nxt
    · refine lv_tableIn (off := 802) (tgt := 834) hx hb (hd 32 (.tableswitch 1310 0 35 #[160, 183, 206, 219, 232, 255, 288, 311, 344, 377, 410, 469, 518, 571, 624, 657, 690, 723, 746, 789, 802, 825, 868, 911, 924, 947, 980, 1013, 1046, 1089, 1112, 1135, 1178, 1221, 1274, 1287]) 160 rfl) (by omega) (by omega) (by rw [h]; rfl) (by decide) ?_
      exact lc_plan hN hc hi i0 (by omega) hroom nxt
    · refine lv_tableIn (off := 825) (tgt := 857) hx hb (hd 32 (.tableswitch 1310 0 35 #[160, 183, 206, 219, 232, 255, 288, 311, 344, 377, 410, 469, 518, 571, 624, 657, 690, 723, 746, 789, 802, 825, 868, 911, 924, 947, 980, 1013, 1046, 1089, 1112, 1135, 1178, 1221, 1274, 1287]) 160 rfl) (by omega) (by omega) (by rw [h]; rfl) (by decide) ?_
      exact lc_who hN hc hi i0 (by omega) hroom nxt
    · refine lv_tableIn (off := 868) (tgt := 900) hx hb (hd 32 (.tableswitch 1310 0 35 #[160, 183, 206, 219, 232, 255, 288, 311, 344, 377, 410, 469, 518, 571, 624, 657, 690, 723, 746, 789, 802, 825, 868, 911, 924, 947, 980, 1013, 1046, 1089, 1112, 1135, 1178, 1221, 1274, 1287]) 160 rfl) (by omega) (by omega) (by rw [h]; rfl) (by decide) ?_
      exact lc_ways hN hc hi i0 (by omega) hroom nxt
    · refine lv_tableIn (off := 911) (tgt := 943) hx hb (hd 32 (.tableswitch 1310 0 35 #[160, 183, 206, 219, 232, 255, 288, 311, 344, 377, 410, 469, 518, 571, 624, 657, 690, 723, 746, 789, 802, 825, 868, 911, 924, 947, 980, 1013, 1046, 1089, 1112, 1135, 1178, 1221, 1274, 1287]) 160 rfl) (by omega) (by omega) (by rw [h]; rfl) (by decide) ?_
      exact lc_ever hN hc hi i0 (by omega) hroom nxt
    · refine lv_tableIn (off := 924) (tgt := 956) hx hb (hd 32 (.tableswitch 1310 0 35 #[160, 183, 206, 219, 232, 255, 288, 311, 344, 377, 410, 469, 518, 571, 624, 657, 690, 723, 746, 789, 802, 825, 868, 911, 924, 947, 980, 1013, 1046, 1089, 1112, 1135, 1178, 1221, 1274, 1287]) 160 rfl) (by omega) (by omega) (by rw [h]; rfl) (by decide) ?_
      exact lc_stop hN hc hi i0 (by omega) hroom nxt
    · refine lv_tableIn (off := 947) (tgt := 979) hx hb (hd 32 (.tableswitch 1310 0 35 #[160, 183, 206, 219, 232, 255, 288, 311, 344, 377, 410, 469, 518, 571, 624, 657, 690, 723, 746, 789, 802, 825, 868, 911, 924, 947, 980, 1013, 1046, 1089, 1112, 1135, 1178, 1221, 1274, 1287]) 160 rfl) (by omega) (by omega) (by rw [h]; rfl) (by decide) ?_
      exact lc_best hN hc hi i0 (by omega) hroom nxt
    · refine lv_tableIn (off := 980) (tgt := 1012) hx hb (hd 32 (.tableswitch 1310 0 35 #[160, 183, 206, 219, 232, 255, 288, 311, 344, 377, 410, 469, 518, 571, 624, 657, 690, 723, 746, 789, 802, 825, 868, 911, 924, 947, 980, 1013, 1046, 1089, 1112, 1135, 1178, 1221, 1274, 1287]) 160 rfl) (by omega) (by omega) (by rw [h]; rfl) (by decide) ?_
      exact lc_mean hN hc hi i0 (by omega) hroom nxt
    · refine lv_tableIn (off := 1013) (tgt := 1045) hx hb (hd 32 (.tableswitch 1310 0 35 #[160, 183, 206, 219, 232, 255, 288, 311, 344, 377, 410, 469, 518, 571, 624, 657, 690, 723, 746, 789, 802, 825, 868, 911, 924, 947, 980, 1013, 1046, 1089, 1112, 1135, 1178, 1221, 1274, 1287]) 160 rfl) (by omega) (by omega) (by rw [h]; rfl) (by decide) ?_
      exact lc_luck hN hc hi i0 (by omega) hroom nxt
    · refine lv_tableIn (off := 1046) (tgt := 1078) hx hb (hd 32 (.tableswitch 1310 0 35 #[160, 183, 206, 219, 232, 255, 288, 311, 344, 377, 410, 469, 518, 571, 624, 657, 690, 723, 746, 789, 802, 825, 868, 911, 924, 947, 980, 1013, 1046, 1089, 1112, 1135, 1178, 1221, 1274, 1287]) 160 rfl) (by omega) (by omega) (by rw [h]; rfl) (by decide) ?_
      exact lc_drift hN hc hi i0 (by omega) hroom nxt
    · refine lv_tableIn (off := 1089) (tgt := 1121) hx hb (hd 32 (.tableswitch 1310 0 35 #[160, 183, 206, 219, 232, 255, 288, 311, 344, 377, 410, 469, 518, 571, 624, 657, 690, 723, 746, 789, 802, 825, 868, 911, 924, 947, 980, 1013, 1046, 1089, 1112, 1135, 1178, 1221, 1274, 1287]) 160 rfl) (by omega) (by omega) (by rw [h]; rfl) (by decide) ?_
      exact lc_keep hN hc hi i0 (by omega) hroom nxt
    · refine lv_tableIn (off := 1112) (tgt := 1144) hx hb (hd 32 (.tableswitch 1310 0 35 #[160, 183, 206, 219, 232, 255, 288, 311, 344, 377, 410, 469, 518, 571, 624, 657, 690, 723, 746, 789, 802, 825, 868, 911, 924, 947, 980, 1013, 1046, 1089, 1112, 1135, 1178, 1221, 1274, 1287]) 160 rfl) (by omega) (by omega) (by rw [h]; rfl) (by decide) ?_
      exact lc_back hN hc hi i0 (by omega) hroom nxt
    · refine lv_tableIn (off := 1135) (tgt := 1167) hx hb (hd 32 (.tableswitch 1310 0 35 #[160, 183, 206, 219, 232, 255, 288, 311, 344, 377, 410, 469, 518, 571, 624, 657, 690, 723, 746, 789, 802, 825, 868, 911, 924, 947, 980, 1013, 1046, 1089, 1112, 1135, 1178, 1221, 1274, 1287]) 160 rfl) (by omega) (by omega) (by rw [h]; rfl) (by decide) ?_
      exact lc_sheet hN hc hi i0 (by omega) hroom nxt
    · refine lv_tableIn (off := 1178) (tgt := 1210) hx hb (hd 32 (.tableswitch 1310 0 35 #[160, 183, 206, 219, 232, 255, 288, 311, 344, 377, 410, 469, 518, 571, 624, 657, 690, 723, 746, 789, 802, 825, 868, 911, 924, 947, 980, 1013, 1046, 1089, 1112, 1135, 1178, 1221, 1274, 1287]) 160 rfl) (by omega) (by omega) (by rw [h]; rfl) (by decide) ?_
      exact lc_lay hN hc hi i0 (by omega) hroom nxt
    · refine lv_tableIn (off := 1221) (tgt := 1253) hx hb (hd 32 (.tableswitch 1310 0 35 #[160, 183, 206, 219, 232, 255, 288, 311, 344, 377, 410, 469, 518, 571, 624, 657, 690, 723, 746, 789, 802, 825, 868, 911, 924, 947, 980, 1013, 1046, 1089, 1112, 1135, 1178, 1221, 1274, 1287]) 160 rfl) (by omega) (by omega) (by rw [h]; rfl) (by decide) ?_
      exact lc_read hN hc hi i0 (by omega) hroom nxt
    · refine lv_tableIn (off := 1274) (tgt := 1306) hx hb (hd 32 (.tableswitch 1310 0 35 #[160, 183, 206, 219, 232, 255, 288, 311, 344, 377, 410, 469, 518, 571, 624, 657, 690, 723, 746, 789, 802, 825, 868, 911, 924, 947, 980, 1013, 1046, 1089, 1112, 1135, 1178, 1221, 1274, 1287]) 160 rfl) (by omega) (by omega) (by rw [h]; rfl) (by decide) ?_
      exact lc_torn hN hc hi i0 (by omega) hroom nxt
    · refine lv_tableIn (off := 1287) (tgt := 1319) hx hb (hd 32 (.tableswitch 1310 0 35 #[160, 183, 206, 219, 232, 255, 288, 311, 344, 377, 410, 469, 518, 571, 624, 657, 690, 723, 746, 789, 802, 825, 868, 911, 924, 947, 980, 1013, 1046, 1089, 1112, 1135, 1178, 1221, 1274, 1287]) 160 rfl) (by omega) (by omega) (by rw [h]; rfl) (by decide) ?_
      exact lc_count hN hc hi i0 (by omega) hroom nxt
set_option maxHeartbeats 4000000 in
set_option maxRecDepth 100000 in
theorem ylaw_loop {N : Nat} (hN : 1000 ≤ N) {p : Program} {l : Launch} {e : Env} {s : State} {m : MethodId} {below : List Frame} {meth : Method} {c : Code} {Q : State → Prop} {b L : Nat} {xs : Nat → Int32} {D : va_G} {kA : Nat → ClassId} (hc : zLc p s m c b L xs D kA) {ad7 ad8 : Nat → Nat} (fin : ∀ (H : Heap) (locs : List Loc) (ls : Array Slot), va_S (fun q => s.heap.size ≤ q) s.heap H locs → W p l e room_1 s m #[Value.ref b] below meth c H locs 116 14159 Q (F0 m 1348 ls [])) : ∀ (n : Nat) (i : Int) (ls : Array Slot) (σ τ : yS) (H : Heap) (locs : List Loc), (L : Int) - i ≤ n → 0 ≤ i → i ≤ 330 → yLi s b D kA ad7 ad8 i σ τ H locs ls → W p l e room_1 s m #[Value.ref b] below meth c H locs 116 14159 Q (F0 m 18 ls []) := by
  obtain ⟨hx, hb, hml, hown, hts, hX, hbl, hK, hx0, hL⟩ := id hc
  have hbA : ¬ (fun q : Nat => s.heap.size ≤ q) b := Nat.not_le.mpr hbl
  have hd := zpr_all hp_L0
  have head : ∀ (i : Int) (ls : Array Slot) (σ τ : yS) (H : Heap) (locs : List Loc), 0 ≤ i → i ≤ 330 → yLi s b D kA ad7 ad8 i σ τ H locs ls → (i + 5 ≤ (L : Int) → W p l e room_1 s m #[Value.ref b] below meth c H locs 116 14159 Q (F0 m 26 ls [])) → W p l e room_1 s m #[Value.ref b] below meth c H locs 116 14159 Q (F0 m 18 ls []) := by
    intro i ls σ τ H locs i0 i1 hi kk
    obtain ⟨o7, o8, hR, hP, hD, hS, hl⟩ := id hi
    refine lv_iload_n hx hb (hd 18 (.iload_n 3) 1 rfl) rfl (lv_at hl 0 rfl) ?_
    refine lv_aload_n hx hb (hd 19 (.aload_n 0) 1 rfl) rfl (lv_at hl 3 rfl) ?_
    refine va_slen hx hb hX hbl hbA hS (hd 20 .arraylength 1 rfl) ?_
    rw [zeL]
    refine lv_iconst (v := Int32.ofInt 5) hx hb (hd 21 (.iconst 5) 1 rfl) (by decide) ?_
    refine zh_isub hx hb (hd 22 .isub 1 rfl) ?_
    refine zicmp_W (tgt := 1348) hx hb (hd 23 (.if_icmp .gt 1325) 3 rfl) (by decide) (a := i) (b := (L : Int) - 5) (by omega) (by omega) (by omega) (by omega) (fun hc => ?_) (fun hc => ?_)
    · exact fin H locs ls hS
    · have hc : ¬ (L : Int) - 5 < i := hc
      exact kk (by omega)
  intro n
  induction n with
  | zero =>
    intro i ls σ τ H locs hn i0 i1 hi
    exact head i ls σ τ H locs i0 i1 hi (fun h => by omega)
  | succ n ih =>
    intro i ls σ τ H locs hn i0 i1 hi
    refine head i ls σ τ H locs i0 i1 hi (fun h => ylaw_body hN hc i0 h hi (fun σ τ H locs hi => ?_))
    obtain ⟨o7, o8, hR, hP, hD, hS, hl⟩ := hi
    refine lv_iinc (v := Int32.ofInt (i + 5)) (lv' := [(3, .int (Int32.ofInt (i + 5))), (2, .ref (ad8 0)), (1, .ref (ad7 0)), (0, .ref b)]) hx hb (hd 1342 (.iinc 3 5) 3 rfl) hl (k := 0) rfl (zq_addW _ _) (by decide) rfl (fun ls hl => ?_)
    refine lv_goto (tgt := 18) hx hb (hd 1345 (.goto (-1327)) 3 rfl) (by decide) ?_
    exact ih (i + 5) ls σ τ H locs (by omega) (by omega) (by omega) ⟨o7, o8, hR, hP, hD, hS, hl⟩
