def pr_X8_timesOf : List (Nat × Instr × Nat) := [(0, .iconst 0, 1), (1, .istore_n 3, 1), (2, .iconst 0, 1), (3, .istore 4, 2), (5, .iload 4, 2), (7, .aload_n 0, 1), (8, .getfield 7, 3), (11, .bipush 21, 2), (13, .iload_n 1, 1), (14, .iadd, 1), (15, .iaload, 1), (16, .invokestatic 249, 3), (19, .if_icmp .ge 43, 3), (22, .iload_n 3, 1), (23, .aload_n 0, 1), (24, .iload_n 1, 1), (25, .aload_n 0, 1), (26, .getfield 7, 3), (29, .bipush 21, 2), (31, .iload_n 1, 1), (32, .iadd, 1), (33, .iaload, 1), (34, .iload 4, 2), (36, .invokestatic 252, 3), (39, .invokevirtual 255, 3), (42, .iload_n 2, 1), (43, .if_icmp .ne 7, 3), (46, .iconst 1, 1), (47, .goto 4, 3), (50, .iconst 0, 1), (51, .invokestatic 197, 3), (54, .iadd, 1), (55, .istore_n 3, 1), (56, .iinc 4 1, 3), (59, .goto (-54), 3), (62, .aload_n 0, 1), (63, .getfield 7, 3), (66, .bipush 21, 2), (68, .iload_n 1, 1), (69, .iadd, 1), (70, .iaload, 1), (71, .iconst 4, 1), (72, .if_icmp .eq 28, 3), (75, .aload_n 0, 1), (76, .getfield 7, 3), (79, .bipush 14, 2), (81, .iload_n 2, 1), (82, .iadd, 1), (83, .iaload, 1), (84, .iconst 1, 1), (85, .if_icmp .eq 15, 3), (88, .aload_n 0, 1), (89, .getfield 7, 3), (92, .bipush 35, 2), (94, .iload_n 1, 1), (95, .iadd, 1), (96, .iaload, 1), (97, .ifCond .ne 7, 3), (100, .iconst 0, 1), (101, .goto 4, 3), (104, .iload_n 3, 1), (105, .ireturn, 1)]
set_option maxRecDepth 100000 in
theorem hp_X8_timesOf : pr_X8_timesOf.all (fun x => decide (decode cX8_timesOf x.1 = .ok x.2)) = true := by decide +kernel
def ze_X8_timesOf : zE := [(1, (2, 7)), (2, (0, 1)), (3, (0, 5)), (4, (0, 7)), (5, (0, 1)), (6, (0, 1)), (7, (0, 5)), (8, ((-2147483648), 2147483647)), (9, ((-2147483648), 2147483647)), (10, (0, 160)), (11, (0, 160)), (12, (0, 160)), (13, (0, 3)), (14, ((-2147483648), 2147483647)), (15, (0, 6)), (16, ((-2147483648), 2147483647)), (17, (0, 10)), (18, ((-2147483648), 2147483647)), (19, ((-2147483648), 2147483647)), (20, (0, 10)), (21, (0, 4)), (22, (0, 10)), (23, (0, 4)), (24, (0, 10)), (25, (0, 4)), (26, (0, 10)), (27, (0, 4)), (28, (0, 10)), (29, (0, 4)), (30, (0, 6)), (31, (0, 6))]
def k_X8_timesOf : zK := (32, [0, 1, 2, 3, 4, 5, 6, 7, 8, 9, 10, 11, 12, 13, 14], (ze_X8_timesOf, [], [], [zr 0, zi 30 0, zi 31 0], zw1, []), [([], [], [], [zi 0 0], zw1, []),
  ([(32, ((-2147483648), 2147483647))], [], [], [zi 32 0], zw1, [])])
def b0_X8_timesOf : Nat × zS := (5, ([(32, (0, 2)), (33, ((-2147483648), 2147483647))] ++ ze_X8_timesOf, [(33, 32, 0)], [(4, zi 32 0), (3, zi 33 0), (0, zr 0), (1, zi 30 0), (2, zi 31 0)], [], zw1, [(false, (0, 99995)), (true, (32, 2)), (false, (0, 200000)), (false, (0, 0))]))
def bl_X8_timesOf : List (Nat × zS) := [b0_X8_timesOf]
def tb_X8_timesOf : zTb := ([(7, 8, 0, 3)], [], [], [(255, k_X8_off)], [(197, k_X8_flag), (249, k_X8_fallsOf), (252, k_X8_byOf)], [])
def sp_X8_timesOf : zSp := []
set_option maxRecDepth 1000000 in
theorem ck0_X8_timesOf : zrun tb_X8_timesOf sp_X8_timesOf pr_X8_timesOf 5 1 k_X8_timesOf.1 k_X8_timesOf.2.1 k_X8_timesOf.2.2.2 bl_X8_timesOf false 2000 5032 (zst0 k_X8_timesOf) 0 = true := by decide +kernel
set_option maxRecDepth 1000000 in
theorem ck1_X8_timesOf : zrun tb_X8_timesOf sp_X8_timesOf pr_X8_timesOf 5 1 k_X8_timesOf.1 k_X8_timesOf.2.1 k_X8_timesOf.2.2.2 bl_X8_timesOf true 2000 5032 b0_X8_timesOf.2 b0_X8_timesOf.1 = true := by decide +kernel
set_option maxRecDepth 1000000 in
theorem ck_X8_timesOf : zcheck tb_X8_timesOf sp_X8_timesOf pr_X8_timesOf 5 1 k_X8_timesOf bl_X8_timesOf 2000 5032 = true := zcheck_of (by decide +kernel) ck0_X8_timesOf (List.forall_mem_cons.mpr ⟨ck1_X8_timesOf, fun _ h => absurd h List.not_mem_nil⟩)
set_option maxRecDepth 100000 in
set_option maxHeartbeats 4000000 in
theorem c_X8_timesOf {X : zXT} (hX : zXok X) (hN : zXn X) (l : Launch) : zMet X vwCl l yX8_timesOf wsX8_timesOf { frames := 3, cells := 0, slots := 0, locals := 112 } k_X8_timesOf :=
  zmeth (tb := tb_X8_timesOf) (pr := pr_X8_timesOf) (bl := bl_X8_timesOf) (rt := 1) (own := RX8) hX (by decide +kernel) rfl rfl ⟨Nat.le_of_ble_eq_true rfl, Nat.le_of_ble_eq_true rfl⟩
    (zfl_all (List.forall_mem_cons.mpr ⟨zfl_X8 (fun w h => List.mem_cons_of_mem _ (List.mem_append_right _ h)) (List.mem_of_getElem? (i := 1) rfl) (by decide) (by decide), fun _ h => absurd h List.not_mem_nil⟩))
    (zco_all (fun _ h => absurd h List.not_mem_nil)) (zlc_all (fun _ h => absurd h List.not_mem_nil))
    (List.forall_mem_cons.mpr ⟨fun p e s m args below meth c A S hx => zcal_V hX S (c_X8_off hX hN l) (cwV 2 S.2.2.2.2 gX8_timesOf_X8_off rfl rfl rfl (by decide +kernel) ⟨Nat.le_of_ble_eq_true rfl, Nat.le_of_ble_eq_true rfl⟩) rfl ⟨0, 8, _, _, _, rfl, rfl⟩ rfl, fun _ h => absurd h List.not_mem_nil⟩)
    (List.forall_mem_cons.mpr ⟨fun p e s m args below meth c A S hx => zcal_S hX S (c_X8_flag hX hN l) (va_cwS 1 S.2.2.2.2 gX8_timesOf_X8_flag rfl rfl rfl (by decide +kernel) ⟨Nat.le_of_ble_eq_true rfl, Nat.le_of_ble_eq_true rfl⟩) rfl, List.forall_mem_cons.mpr ⟨fun p e s m args below meth c A S hx => zcal_S hX S (c_X8_fallsOf hX hN l) (va_cwS 1 S.2.2.2.2 gX8_timesOf_X8_fallsOf rfl rfl rfl (by decide +kernel) ⟨Nat.le_of_ble_eq_true rfl, Nat.le_of_ble_eq_true rfl⟩) rfl, List.forall_mem_cons.mpr ⟨fun p e s m args below meth c A S hx => zcal_S hX S (c_X8_byOf hX hN l) (va_cwS 2 S.2.2.2.2 gX8_timesOf_X8_byOf rfl rfl rfl (by decide +kernel) ⟨Nat.le_of_ble_eq_true rfl, Nat.le_of_ble_eq_true rfl⟩) rfl, fun _ h => absurd h List.not_mem_nil⟩⟩⟩)
    (zmm_all (fun _ h => absurd h List.not_mem_nil)) (zpr_all hp_X8_timesOf) ck_X8_timesOf
def pr_X8_common : List (Nat × Instr × Nat) := [(0, .lload_n 0, 1), (1, .lstore 4, 2), (3, .lload_n 2, 1), (4, .lstore 6, 2), (6, .lload 6, 2), (8, .lconst 0, 1), (9, .lcmp, 1), (10, .ifCond .eq 21, 3), (13, .lload 4, 2), (15, .lload 6, 2), (17, .lrem, 1), (18, .lstore 8, 2), (20, .lload 6, 2), (22, .lstore 4, 2), (24, .lload 8, 2), (26, .lstore 6, 2), (28, .goto (-22), 3), (31, .lload 4, 2), (33, .lreturn, 1)]
set_option maxRecDepth 100000 in
theorem hp_X8_common : pr_X8_common.all (fun x => decide (decode cX8_common x.1 = .ok x.2)) = true := by decide +kernel
def k_X8_common : zK := (3, [], ([(1, (1, 9223372036854775807)), (2, ((-9223372036854775808), 9223372036854775807))], [], [], [zl 1 0, zl 2 0], [], []), [([(3, (1, 9223372036854775807))], [], [], [zl 3 0], [], []), ([(3, ((-9223372036854775808), (-1)))], [], [], [zl 3 0], [], [])])
theorem zbm_l (X Y q : Int) (M : Nat) : (X - ((q.bmod M) * Y).bmod M).bmod M = (X - q * Y).bmod M := by simp
theorem zlrem_t (x y : Int64) (hy : y.toInt ≠ 0) : (x - x / y * y).toInt = x.toInt.tmod y.toInt := by
  rw [Int64.toInt_sub, Int64.toInt_mul, Int64.toInt_div]
  generalize hM : (2 ^ 64 : Nat) = M
  rw [zbm_l]
  have e := Int.tmod_add_tdiv_mul x.toInt y.toInt
  have e2 : x.toInt - x.toInt.tdiv y.toInt * y.toInt = x.toInt.tmod y.toInt := by omega
  rw [e2, ← hM]
  have n1 := Int.natAbs_tmod x.toInt y.toInt
  have n2 : x.toInt.natAbs % y.toInt.natAbs < y.toInt.natAbs := Nat.mod_lt _ (by omega)
  have b := zq_rngL y
  exact zq_bmodL (by omega) (by omega)
set_option maxHeartbeats 4000000 in
set_option maxRecDepth 100000 in
theorem c_X8_common {X : zXT} (hX : zXok X) (hN : zXn X) (l : Launch) : zMet X vwCl l yX8_common wsX8_common { frames := 1, cells := 0, slots := 0, locals := 64 } k_X8_common := by
  intro D kA r ad ph sz hE hZ hW
  refine Met.ofW (cc := cX8_common) (maxL := 10) (ret := some .long) (by decide +kernel) rfl ?_
  intro p e s m args below meth c s₁ B hml hv
  obtain ⟨rfl, hsz, hP, hK, hD0, hx0⟩ := hv
  have hx := B.exec
  have hb := B.bytes
  have hr := B.returns
  have hlocks := B.notSynchronized
  have hd := zpr_all hp_X8_common
  subst hsz
  have h1 : 1 ≤ r 1 ∧ r 1 ≤ 9223372036854775807 := hE.2 (1, (1, 9223372036854775807)) List.mem_cons_self
  have ha : (Int64.ofInt (zev r (1, 0))).toInt ≠ 0 := by
    have e1 : zev r (1, 0) = r 1 := by unfold zev; dsimp only; omega
    rw [e1, zq_ofL (by omega) (by omega)]
    omega
  have hl := lv_entry (k_X8_common.2.2.1.2.2.2.1.map (zcv r ad)) (n := 10) (by rw [zsl_len]; exact Nat.le_of_ble_eq_true rfl)
  rw [lg_entry_eq]
  generalize (lg_sl (k_X8_common.2.2.1.2.2.2.1.map (zcv r ad)) ++ List.replicate (10 - (lg_sl (k_X8_common.2.2.1.2.2.2.1.map (zcv r ad))).length) Slot.unset).toArray = ls at hl ⊢
  have hl : lv_has ls 10 [(0, .long (Int64.ofInt (zev r (1, 0)))), (2, .long (Int64.ofInt (zev r (2, 0))))] := hl
  have loop : ∀ (n : Nat) (x y : Int64) (ls : Array Slot), y.toInt.natAbs < n → x.toInt ≠ 0 → lv_has ls 10 [(6, .long y), (4, .long x)] → W p l e (headSpec wsX8_common { frames := 1, cells := 0, slots := 0, locals := 64 }).room s m (k_X8_common.2.2.1.2.2.2.1.map (zcv r ad)).toArray below meth c s.heap [] 0 0 (MQ below (zQc D vwCl kA k_X8_common r ad (va_A (zws kA r ad ph k_X8_common.2.2.1.2.2.2.2.1) s.heap.size)) (k_X8_common.2.2.1.2.2.2.1.map (zcv r ad)).toArray s 0 0 (va_A (zws kA r ad ph k_X8_common.2.2.1.2.2.2.2.1) s.heap.size)) (F0 m 6 ls []) := by
    intro n
    induction n with
    | zero => intro x y ls hn; omega
    | succ n ih =>
      intro x y ls hn hx2 hl
      refine lv_lload hx hb (hd 6 (.lload 6) 2 rfl) (lv_at hl 0 rfl) ?_
      refine lv_lconst (v := 0) hx hb (hd 8 (.lconst 0) 1 rfl) rfl ?_
      refine W.lcmp hx hb (hd 9 .lcmp 1 rfl) ?_
      obtain ⟨k, hk, k1, k2, k3⟩ := zlg_cmp y 0
      rw [hk]
      have z0 : (0 : Int64).toInt = 0 := by decide +kernel
      refine zif_W (tgt := 31) hx hb (hd 10 (.ifCond .eq 21) 3 rfl) (by decide) (by omega) (by omega) (fun hc => ?_) (fun hc => ?_)
      · refine lv_lload hx hb (hd 31 (.lload 4) 2 rfl) (lv_at hl 1 rfl) ?_
        refine W.lret hx hb hr (fun t ht hW2 => ?_) (fun q hq => by cases hq) (hd 33 .lreturn 1 rfl) hlocks
        have bx := zq_rngL x
        have post : ∀ T ∈ k_X8_common.2.2.2, T.2.2.2.1 = [zl 3 0] → T.2.1 = [] → T.2.2.2.2.1 = [] → (∀ q ∈ T.1, q.1 = 3 ∧ q.2.1 ≤ x.toInt ∧ x.toInt ≤ q.2.2) → zQc D vwCl kA k_X8_common r ad (va_A (zws kA r ad ph k_X8_common.2.2.1.2.2.2.2.1) s.heap.size) (k_X8_common.2.2.1.2.2.2.1.map (zcv r ad)).toArray s (.returned (some (.long x))) t := by
          intro T hT q1 q2 q3 q4
          refine ⟨⟨T, hT, fun i => if i = 3 then x.toInt else r i, ad, ph, ⟨fun i hi => if_neg (by have : k_X8_common.1 = 3 := rfl; omega), fun _ _ => rfl⟩, ⟨?_, fun q hq => ?_⟩, ?_, ?_, ?_, ?_, ?_⟩, ⟨by rw [ht]; exact Nat.le_refl _, fun q _ _ => by rw [ht]⟩⟩
          · show (if (0 : Nat) = 3 then x.toInt else r 0) = 0
            rw [if_neg (by omega)]
            exact hE.1
          · obtain ⟨w1, w2⟩ := q4 q hq
            dsimp only
            rw [w1, if_pos rfl]
            exact w2
          · rw [q2]
            intro z hz
            cases hz
          · rw [q3]
            intro z hz
            cases hz
          · rw [q1]
            show Outcome.returned (some (.long x)) = .returned (some (.long (Int64.ofInt (zev _ (3, 0)))))
            unfold zev
            dsimp only
            rw [if_pos rfl, Int.add_zero, Int64.ofInt_toInt]
          · rw [q3]
            intro j q hj
            simp [zws] at hj
          · rw [q3]
            exact ⟨fun i j p q h => by simp [zws] at h, fun j q h => by simp [zws] at h⟩
        by_cases hp : 0 < x.toInt
        · exact post _ List.mem_cons_self rfl rfl rfl (fun q hq => by
            rcases List.mem_cons.mp hq with h | h
            · subst h; exact ⟨rfl, by dsimp only; omega, by dsimp only; omega⟩
            · cases h)
        · exact post _ (List.mem_cons_of_mem _ List.mem_cons_self) rfl rfl rfl (fun q hq => by
            rcases List.mem_cons.mp hq with h | h
            · subst h; exact ⟨rfl, by dsimp only; omega, by dsimp only; omega⟩
            · cases h)
      · have hy : y.toInt ≠ 0 := fun q => hc ((k3 .eq).mpr (by show y.toInt = (0 : Int64).toInt; rw [z0]; exact q))
        have hne : ¬ y = 0 := fun q => hy (by rw [q]; exact z0)
        refine lv_lload hx hb (hd 13 (.lload 4) 2 rfl) (lv_at hl 1 rfl) ?_
        refine lv_lload hx hb (hd 15 (.lload 6) 2 rfl) (lv_at hl 0 rfl) ?_
        refine lv_lrem hx hb (hd 17 .lrem 1 rfl) hne ?_
        have ht := zlrem_t x y hy
        generalize x - x / y * y = z at ht ⊢
        refine lv_lstore (lv' := [(8, .long z), (6, .long y), (4, .long x)]) hx hb (hd 18 (.lstore 8) 2 rfl) hl (by decide) rfl (fun ls hl => ?_)
        refine lv_lload hx hb (hd 20 (.lload 6) 2 rfl) (lv_at hl 1 rfl) ?_
        refine lv_lstore (lv' := [(4, .long y), (8, .long z), (6, .long y)]) hx hb (hd 22 (.lstore 4) 2 rfl) hl (by decide) rfl (fun ls hl => ?_)
        refine lv_lload hx hb (hd 24 (.lload 8) 2 rfl) (lv_at hl 1 rfl) ?_
        refine lv_lstore (lv' := [(6, .long z), (4, .long y), (8, .long z)]) hx hb (hd 26 (.lstore 6) 2 rfl) hl (by decide) rfl (fun ls hl => ?_)
        refine lv_goto (tgt := 6) hx hb (hd 28 (.goto (-22)) 3 rfl) (by decide) ?_
        refine ih y z ls ?_ hy (lv_sub hl [0, 1] rfl)
        have n1 := Int.natAbs_tmod x.toInt y.toInt
        have n2 : x.toInt.natAbs % y.toInt.natAbs < y.toInt.natAbs := Nat.mod_lt _ (by omega)
        rw [ht, n1]
        omega
  refine lv_lload_n hx hb (hd 0 (.lload_n 0) 1 rfl) rfl (lv_at hl 0 rfl) ?_
  refine lv_lstore (lv' := [(4, .long (Int64.ofInt (zev r (1, 0)))), (0, .long (Int64.ofInt (zev r (1, 0)))), (2, .long (Int64.ofInt (zev r (2, 0))))]) hx hb (hd 1 (.lstore 4) 2 rfl) hl (by decide) rfl (fun ls hl => ?_)
  refine lv_lload_n hx hb (hd 3 (.lload_n 2) 1 rfl) rfl (lv_at hl 2 rfl) ?_
  refine lv_lstore (lv' := [(6, .long (Int64.ofInt (zev r (2, 0)))), (4, .long (Int64.ofInt (zev r (1, 0)))), (0, .long (Int64.ofInt (zev r (1, 0)))), (2, .long (Int64.ofInt (zev r (2, 0))))]) hx hb (hd 4 (.lstore 6) 2 rfl) hl (by decide) rfl (fun ls hl => ?_)
  exact loop _ _ _ ls (Nat.lt_succ_self _) ha (lv_sub hl [0, 1] rfl)

def pr_X8_told : List (Nat × Instr × Nat) := [(0, .lload_n 2, 1), (1, .lload_n 0, 1), (2, .invokestatic 304, 3), (5, .lstore 5, 2), (7, .iload 4, 2), (9, .ifCond .ne 10, 3), (12, .lload_n 0, 1), (13, .lload 5, 2), (15, .ldiv, 1), (16, .goto 7, 3), (19, .lload_n 2, 1), (20, .lload 5, 2), (22, .ldiv, 1), (23, .lreturn, 1)]
set_option maxRecDepth 100000 in
theorem hp_X8_told : pr_X8_told.all (fun x => decide (decode cX8_told x.1 = .ok x.2)) = true := by decide +kernel
def ze_X8_told : zE := [(1, ((-9223372036854775808), 9223372036854775807)), (2, (1, 9223372036854775807)), (3, ((-2147483648), 2147483647))]
def k_X8_told : zK := (4, [], (ze_X8_told, [], [], [zl 1 0, zl 2 0, zi 3 0], [], []), [([(4, ((-9223372036854775808), 9223372036854775807))], [], [], [zl 4 0], [], [])])
def bl_X8_told : List (Nat × zS) := []
def tb_X8_told : zTb := ([], [], [], [], [(304, k_X8_common)], [])
def sp_X8_told : zSp := []
set_option maxRecDepth 1000000 in
theorem ck0_X8_told : zrun tb_X8_told sp_X8_told pr_X8_told 7 3 k_X8_told.1 k_X8_told.2.1 k_X8_told.2.2.2 bl_X8_told false 2000 5004 (zst0 k_X8_told) 0 = true := by decide +kernel
set_option maxRecDepth 1000000 in
theorem ck_X8_told : zcheck tb_X8_told sp_X8_told pr_X8_told 7 3 k_X8_told bl_X8_told 2000 5004 = true := zcheck_of (by decide +kernel) ck0_X8_told (fun _ h => absurd h List.not_mem_nil)
set_option maxRecDepth 100000 in
set_option maxHeartbeats 4000000 in
theorem c_X8_told {X : zXT} (hX : zXok X) (hN : zXn X) (l : Launch) : zMet X vwCl l yX8_told wsX8_told { frames := 2, cells := 0, slots := 0, locals := 93 } k_X8_told :=
  zmeth (tb := tb_X8_told) (pr := pr_X8_told) (bl := bl_X8_told) (rt := 3) (own := RX8) hX (by decide +kernel) rfl rfl ⟨Nat.le_of_ble_eq_true rfl, Nat.le_of_ble_eq_true rfl⟩
    (zfl_all (fun _ h => absurd h List.not_mem_nil))
    (zco_all (fun _ h => absurd h List.not_mem_nil)) (zlc_all (fun _ h => absurd h List.not_mem_nil))
    (fun _ h => absurd h List.not_mem_nil)
    (List.forall_mem_cons.mpr ⟨fun p e s m args below meth c A S hx => zcal_S hX S (c_X8_common hX hN l) (va_cwS 2 S.2.2.2.2 gX8_told_X8_common rfl rfl rfl (by decide +kernel) ⟨Nat.le_of_ble_eq_true rfl, Nat.le_of_ble_eq_true rfl⟩) rfl, fun _ h => absurd h List.not_mem_nil⟩)
    (zmm_all (fun _ h => absurd h List.not_mem_nil)) (zpr_all hp_X8_told) ck_X8_told
def pr_X8_mean : List (Nat × Instr × Nat) := [(0, .aload_n 0, 1), (1, .iload_n 1, 1), (2, .invokevirtual 205, 3), (5, .ifCond .eq 13, 3), (8, .iload_n 2, 1), (9, .i2l, 1), (10, .lconst 0, 1), (11, .lconst 1, 1), (12, .invokestatic 90, 3), (15, .ifCond .ne 7, 3), (18, .ldc2_w 308, 3), (21, .lreturn, 1), (22, .lconst 0, 1), (23, .lstore_n 3, 1), (24, .iconst 0, 1), (25, .istore 5, 2), (27, .iload 5, 2), (29, .aload_n 0, 1), (30, .getfield 79, 3), (33, .if_icmp .ge 62, 3), (36, .aload_n 0, 1), (37, .iload 5, 2), (39, .iload_n 1, 1), (40, .invokevirtual 310, 3), (43, .istore 6, 2), (45, .lload_n 3, 1), (46, .iload 6, 2), (48, .ifCond .ne 7, 3), (51, .lconst 0, 1), (52, .goto 35, 3), (55, .iload 6, 2), (57, .i2l, 1), (58, .aload_n 0, 1), (59, .getfield 7, 3), (62, .bipush 35, 2), (64, .iload 5, 2), (66, .iadd, 1), (67, .iaload, 1), (68, .i2l, 1), (69, .lmul, 1), (70, .aload_n 0, 1), (71, .getfield 20, 3), (74, .aload_n 0, 1), (75, .getfield 7, 3), (78, .bipush 28, 2), (80, .iload 5, 2), (82, .iadd, 1), (83, .iaload, 1), (84, .iaload, 1), (85, .i2l, 1), (86, .lmul, 1), (87, .ladd, 1), (88, .lstore_n 3, 1), (89, .iinc 5 1, 3), (92, .goto (-65), 3), (95, .lload_n 3, 1), (96, .ldc2_w 220, 3), (99, .iload_n 2, 1), (100, .invokestatic 313, 3), (103, .lreturn, 1)]
set_option maxRecDepth 100000 in
theorem hp_X8_mean : pr_X8_mean.all (fun x => decide (decode cX8_mean x.1 = .ok x.2)) = true := by decide +kernel
def ze_X8_mean : zE := [(1, (2, 7)), (2, (0, 1)), (3, (0, 5)), (4, (0, 7)), (5, (0, 1)), (6, (0, 1)), (7, (0, 5)), (8, ((-2147483648), 2147483647)), (9, ((-2147483648), 2147483647)), (10, (0, 160)), (11, (0, 160)), (12, (0, 160)), (13, (0, 3)), (14, ((-2147483648), 2147483647)), (15, (0, 6)), (16, ((-2147483648), 2147483647)), (17, (0, 10)), (18, ((-2147483648), 2147483647)), (19, ((-2147483648), 2147483647)), (20, (0, 10)), (21, (0, 4)), (22, (0, 10)), (23, (0, 4)), (24, (0, 10)), (25, (0, 4)), (26, (0, 10)), (27, (0, 4)), (28, (0, 10)), (29, (0, 4)), (30, ((-2147483648), 2147483647)), (31, ((-2147483648), 2147483647))]
def k_X8_mean : zK := (32, [0, 1, 2, 3, 4, 5, 6, 7, 8, 9, 10, 11, 12, 13, 14], (ze_X8_mean, [], [], [zr 0, zi 30 0, zi 31 0], zw1, []), [([], [], [], [zl 0 (-1)], zw1, []),
  ([(32, ((-9223372036854775808), 9223372036854775807)), (30, (0, 6)), (31, (0, 1))], [(30, 1, (-1))], [], [zl 32 0], zw1, [])])
def b0_X8_mean : Nat × zS := (27, ([(32, (0, 7)), (33, ((-9223372036854775808), 9223372036854775807)), (30, (0, 6)), (31, (0, 1))] ++ ze_X8_mean, [(30, 1, (-1))], [(5, zi 32 0), (3, zl 33 0), (0, zr 0), (1, zi 30 0), (2, zi 31 0)], [], zw1, [(false, (0, 99973)), (true, (32, 7)), (false, (0, 200000)), (false, (0, 0))]))
def bl_X8_mean : List (Nat × zS) := [b0_X8_mean]
def tb_X8_mean : zTb := ([(7, 8, 0, 3), (20, 8, 6, 3), (79, 8, 3, 0)], [], [(220, 10), (308, (-1))], [(205, k_X8_isHouse), (310, k_X8_timesOf)], [(90, k_X8_in), (313, k_X8_told)], [])
def sp_X8_mean : zSp := []
set_option maxRecDepth 1000000 in
theorem ck0_X8_mean : zrun tb_X8_mean sp_X8_mean pr_X8_mean 7 3 k_X8_mean.1 k_X8_mean.2.1 k_X8_mean.2.2.2 bl_X8_mean false 2000 5032 (zst0 k_X8_mean) 0 = true := by decide +kernel
set_option maxRecDepth 1000000 in
theorem ck1_X8_mean : zrun tb_X8_mean sp_X8_mean pr_X8_mean 7 3 k_X8_mean.1 k_X8_mean.2.1 k_X8_mean.2.2.2 bl_X8_mean true 2000 5032 b0_X8_mean.2 b0_X8_mean.1 = true := by decide +kernel
set_option maxRecDepth 1000000 in
theorem ck_X8_mean : zcheck tb_X8_mean sp_X8_mean pr_X8_mean 7 3 k_X8_mean bl_X8_mean 2000 5032 = true := zcheck_of (by decide +kernel) ck0_X8_mean (List.forall_mem_cons.mpr ⟨ck1_X8_mean, fun _ h => absurd h List.not_mem_nil⟩)
set_option maxRecDepth 100000 in
set_option maxHeartbeats 4000000 in
theorem c_X8_mean {X : zXT} (hX : zXok X) (hN : zXn X) (l : Launch) : zMet X vwCl l yX8_mean wsX8_mean { frames := 4, cells := 0, slots := 0, locals := 136 } k_X8_mean :=
  zmeth (tb := tb_X8_mean) (pr := pr_X8_mean) (bl := bl_X8_mean) (rt := 3) (own := RX8) hX (by decide +kernel) rfl rfl ⟨Nat.le_of_ble_eq_true rfl, Nat.le_of_ble_eq_true rfl⟩
    (zfl_all (List.forall_mem_cons.mpr ⟨zfl_X8 (fun w h => List.mem_cons_of_mem _ (List.mem_append_right _ h)) (List.mem_of_getElem? (i := 3) rfl) (by decide) (by decide), List.forall_mem_cons.mpr ⟨zfl_X8 (fun w h => List.mem_cons_of_mem _ (List.mem_append_right _ h)) (List.mem_of_getElem? (i := 4) rfl) (by decide) (by decide), List.forall_mem_cons.mpr ⟨zfl_X8 (fun w h => List.mem_cons_of_mem _ (List.mem_append_right _ h)) (List.mem_of_getElem? (i := 2) rfl) (by decide) (by decide), fun _ h => absurd h List.not_mem_nil⟩⟩⟩))
    (zco_all (fun _ h => absurd h List.not_mem_nil)) (zlc_all (List.forall_mem_cons.mpr ⟨(List.mem_of_getElem? (i := 5) rfl), List.forall_mem_cons.mpr ⟨(List.mem_of_getElem? (i := 1) rfl), fun _ h => absurd h List.not_mem_nil⟩⟩))
    (List.forall_mem_cons.mpr ⟨fun p e s m args below meth c A S hx => zcal_V hX S (c_X8_isHouse hX hN l) (cwV 1 S.2.2.2.2 gX8_mean_X8_isHouse rfl rfl rfl (by decide +kernel) ⟨Nat.le_of_ble_eq_true rfl, Nat.le_of_ble_eq_true rfl⟩) rfl ⟨0, 8, _, _, _, rfl, rfl⟩ rfl, List.forall_mem_cons.mpr ⟨fun p e s m args below meth c A S hx => zcal_V hX S (c_X8_timesOf hX hN l) (cwV 2 S.2.2.2.2 gX8_mean_X8_timesOf rfl rfl rfl (by decide +kernel) ⟨Nat.le_of_ble_eq_true rfl, Nat.le_of_ble_eq_true rfl⟩) rfl ⟨0, 8, _, _, _, rfl, rfl⟩ rfl, fun _ h => absurd h List.not_mem_nil⟩⟩)
    (List.forall_mem_cons.mpr ⟨fun p e s m args below meth c A S hx => zcal_S hX S (c_X8_in hX hN l) (va_cwS 3 S.2.2.2.2 gX8_mean_X8_in rfl rfl rfl (by decide +kernel) ⟨Nat.le_of_ble_eq_true rfl, Nat.le_of_ble_eq_true rfl⟩) rfl, List.forall_mem_cons.mpr ⟨fun p e s m args below meth c A S hx => zcal_S hX S (c_X8_told hX hN l) (va_cwS 3 S.2.2.2.2 gX8_mean_X8_told rfl rfl rfl (by decide +kernel) ⟨Nat.le_of_ble_eq_true rfl, Nat.le_of_ble_eq_true rfl⟩) rfl, fun _ h => absurd h List.not_mem_nil⟩⟩)
    (zmm_all (fun _ h => absurd h List.not_mem_nil)) (zpr_all hp_X8_mean) ck_X8_mean
def pr_X8_luck : List (Nat × Instr × Nat) := [(0, .aload_n 0, 1), (1, .iload_n 1, 1), (2, .invokevirtual 205, 3), (5, .ifCond .eq 13, 3), (8, .iload_n 2, 1), (9, .i2l, 1), (10, .lconst 0, 1), (11, .lconst 1, 1), (12, .invokestatic 90, 3), (15, .ifCond .ne 7, 3), (18, .ldc2_w 308, 3), (21, .lreturn, 1), (22, .lconst 0, 1), (23, .lstore_n 3, 1), (24, .lconst 1, 1), (25, .lstore 5, 2), (27, .iconst 0, 1), (28, .istore 7, 2), (30, .iload 7, 2), (32, .aload_n 0, 1), (33, .getfield 79, 3), (36, .if_icmp .ge 17, 3), (39, .lload 5, 2), (41, .ldc2_w 220, 3), (44, .lmul, 1), (45, .lstore 5, 2), (47, .iinc 7 1, 3), (50, .goto (-20), 3), (53, .iconst 0, 1), (54, .istore 7, 2), (56, .iload 7, 2), (58, .iconst 1, 1), (59, .aload_n 0, 1), (60, .getfield 79, 3), (63, .ishl, 1), (64, .if_icmp .ge 212, 3), (67, .lconst 1, 1), (68, .lstore 8, 2), (70, .iconst 0, 1), (71, .istore 10, 2), (73, .iconst 1, 1), (74, .istore 11, 2), (76, .iconst 0, 1), (77, .istore 12, 2), (79, .iload 12, 2), (81, .aload_n 0, 1), (82, .getfield 79, 3), (85, .if_icmp .ge 158, 3), (88, .iload 7, 2), (90, .iload 12, 2), (92, .ishr, 1), (93, .iconst 1, 1), (94, .iand, 1), (95, .iconst 1, 1), (96, .if_icmp .ne 7, 3), (99, .iconst 1, 1), (100, .goto 4, 3), (103, .iconst 0, 1), (104, .istore 13, 2), (106, .lload 8, 2), (108, .iload 13, 2), (110, .ifCond .eq 17, 3), (113, .aload_n 0, 1), (114, .getfield 7, 3), (117, .bipush 35, 2), (119, .iload 12, 2), (121, .iadd, 1), (122, .iaload, 1), (123, .i2l, 1), (124, .goto 17, 3), (127, .bipush 10, 2), (129, .aload_n 0, 1), (130, .getfield 7, 3), (133, .bipush 35, 2), (135, .iload 12, 2), (137, .iadd, 1), (138, .iaload, 1), (139, .isub, 1), (140, .i2l, 1), (141, .lmul, 1), (142, .lstore 8, 2), (144, .iload 13, 2), (146, .ifCond .eq 13, 3), (149, .aload_n 0, 1), (150, .iload 12, 2), (152, .iload_n 1, 1), (153, .invokevirtual 310, 3), (156, .goto 4, 3), (159, .iconst 0, 1), (160, .istore 14, 2), (162, .iload 10, 2), (164, .iload 14, 2), (166, .ifCond .ne 7, 3), (169, .iconst 0, 1), (170, .goto 21, 3), (173, .iload 14, 2), (175, .aload_n 0, 1), (176, .getfield 20, 3), (179, .aload_n 0, 1), (180, .getfield 7, 3), (183, .bipush 28, 2), (185, .iload 12, 2), (187, .iadd, 1), (188, .iaload, 1), (189, .iaload, 1), (190, .imul, 1), (191, .iadd, 1), (192, .istore 10, 2), (194, .iload 11, 2), (196, .ifCond .eq 38, 3), (199, .iload 14, 2), (201, .ifCond .eq 29, 3), (204, .aload_n 0, 1), (205, .getfield 7, 3), (208, .bipush 7, 2), (210, .iload_n 1, 1), (211, .iadd, 1), (212, .iaload, 1), (213, .aload_n 0, 1), (214, .getfield 7, 3), (217, .bipush 28, 2), (219, .iload 12, 2), (221, .iadd, 1), (222, .iaload, 1), (223, .ishr, 1), (224, .iconst 1, 1), (225, .iand, 1), (226, .iconst 1, 1), (227, .if_icmp .ne 7, 3), (230, .iconst 1, 1), (231, .goto 4, 3), (234, .iconst 0, 1), (235, .istore 11, 2), (237, .iinc 12 1, 3), (240, .goto (-161), 3), (243, .lload_n 3, 1), (244, .iload 11, 2), (246, .ifCond .eq 21, 3), (249, .iload 10, 2), (251, .aload_n 0, 1), (252, .getfield 7, 3), (255, .iconst 0, 1), (256, .iload_n 1, 1), (257, .iadd, 1), (258, .iaload, 1), (259, .if_icmp .gt 8, 3), (262, .lload 8, 2), (264, .goto 4, 3), (267, .lconst 0, 1), (268, .ladd, 1), (269, .lstore_n 3, 1), (270, .iinc 7 1, 3), (273, .goto (-217), 3), (276, .lload_n 3, 1), (277, .lload 5, 2), (279, .iload_n 2, 1), (280, .invokestatic 313, 3), (283, .lreturn, 1)]
set_option maxRecDepth 100000 in
theorem hp_X8_luck : pr_X8_luck.all (fun x => decide (decode cX8_luck x.1 = .ok x.2)) = true := by decide +kernel
def ze_X8_luck : zE := [(1, (2, 7)), (2, (0, 1)), (3, (0, 5)), (4, (0, 7)), (5, (0, 1)), (6, (0, 1)), (7, (0, 5)), (8, ((-2147483648), 2147483647)), (9, ((-2147483648), 2147483647)), (10, (0, 160)), (11, (0, 160)), (12, (0, 160)), (13, (0, 3)), (14, ((-2147483648), 2147483647)), (15, (0, 6)), (16, ((-2147483648), 2147483647)), (17, (0, 10)), (18, ((-2147483648), 2147483647)), (19, ((-2147483648), 2147483647)), (20, (0, 10)), (21, (0, 4)), (22, (0, 10)), (23, (0, 4)), (24, (0, 10)), (25, (0, 4)), (26, (0, 10)), (27, (0, 4)), (28, (0, 10)), (29, (0, 4)), (30, ((-2147483648), 2147483647)), (31, ((-2147483648), 2147483647))]
def k_X8_luck : zK := (32, [0, 1, 2, 3, 4, 5, 6, 7, 8, 9, 10, 11, 12, 13, 14], (ze_X8_luck, [], [], [zr 0, zi 30 0, zi 31 0], zw1, []), [([], [], [], [zl 0 (-1)], zw1, []),
  ([(32, ((-9223372036854775808), 9223372036854775807)), (30, (0, 6)), (31, (0, 1))], [(30, 1, (-1))], [], [zl 32 0], zw1, [])])
def b0_X8_luck : Nat × zS := (30, ([(30, (0, 6)), (31, (0, 1))] ++ ze_X8_luck, [(30, 1, (-1))], [(7, zi 0 0), (5, zl 0 1), (3, zl 0 0), (0, zr 0), (1, zi 30 0), (2, zi 31 0)], [], zw1, [(false, (0, 99970)), (false, (0, 7)), (false, (0, 200000)), (false, (0, 0)), (false, (0, 0)), (false, (0, 0))]))
def b1_X8_luck : Nat × zS := (30, ([(32, (10, 10)), (30, (0, 6)), (31, (0, 1))] ++ ze_X8_luck, [(30, 1, (-1))], [(7, zi 0 1), (5, zl 32 0), (3, zl 0 0), (0, zr 0), (1, zi 30 0), (2, zi 31 0)], [], zw1, [(false, (0, 99970)), (false, (0, 6)), (false, (0, 200000)), (false, (0, 0)), (false, (0, 0)), (false, (0, 0))]))
def b2_X8_luck : Nat × zS := (30, ([(32, (100, 100)), (30, (0, 6)), (31, (0, 1))] ++ ze_X8_luck, [(30, 1, (-1))], [(7, zi 0 2), (5, zl 32 0), (3, zl 0 0), (0, zr 0), (1, zi 30 0), (2, zi 31 0)], [], zw1, [(false, (0, 99970)), (false, (0, 5)), (false, (0, 200000)), (false, (0, 0)), (false, (0, 0)), (false, (0, 0))]))
def b3_X8_luck : Nat × zS := (30, ([(32, (1000, 1000)), (1, (3, 7)), (30, (0, 6)), (31, (0, 1))] ++ ze_X8_luck, [(30, 1, (-1))], [(7, zi 0 3), (5, zl 32 0), (3, zl 0 0), (0, zr 0), (1, zi 30 0), (2, zi 31 0)], [], zw1, [(false, (0, 99970)), (false, (0, 4)), (false, (0, 200000)), (false, (0, 0)), (false, (0, 0)), (false, (0, 0))]))
def b4_X8_luck : Nat × zS := (30, ([(32, (10000, 10000)), (1, (4, 7)), (30, (0, 6)), (31, (0, 1))] ++ ze_X8_luck, [(30, 1, (-1))], [(7, zi 0 4), (5, zl 32 0), (3, zl 0 0), (0, zr 0), (1, zi 30 0), (2, zi 31 0)], [], zw1, [(false, (0, 99970)), (false, (0, 3)), (false, (0, 200000)), (false, (0, 0)), (false, (0, 0)), (false, (0, 0))]))
def b5_X8_luck : Nat × zS := (30, ([(32, (100000, 100000)), (1, (5, 7)), (30, (0, 6)), (31, (0, 1))] ++ ze_X8_luck, [(30, 1, (-1))], [(7, zi 0 5), (5, zl 32 0), (3, zl 0 0), (0, zr 0), (1, zi 30 0), (2, zi 31 0)], [], zw1, [(false, (0, 99970)), (false, (0, 2)), (false, (0, 200000)), (false, (0, 0)), (false, (0, 0)), (false, (0, 0))]))
def b6_X8_luck : Nat × zS := (30, ([(32, (1000000, 1000000)), (1, (6, 7)), (30, (0, 6)), (31, (0, 1))] ++ ze_X8_luck, [(30, 1, (-1))], [(7, zi 0 6), (5, zl 32 0), (3, zl 0 0), (0, zr 0), (1, zi 30 0), (2, zi 31 0)], [], zw1, [(false, (0, 99970)), (false, (0, 1)), (false, (0, 200000)), (false, (0, 0)), (false, (0, 0)), (false, (0, 0))]))
def b7_X8_luck : Nat × zS := (30, ([(32, (10000000, 10000000)), (1, (7, 7)), (30, (0, 6)), (31, (0, 1))] ++ ze_X8_luck, [], [(7, zi 0 7), (5, zl 32 0), (3, zl 0 0), (0, zr 0), (1, zi 30 0), (2, zi 31 0)], [], zw1, [(false, (0, 99970)), (false, (0, 0)), (false, (0, 200000)), (false, (0, 0)), (false, (0, 0)), (false, (0, 0))]))
def b8_X8_luck : Nat × zS := (56, ([(32, (0, 128)), (33, (100, 2147483647)), (34, ((-9223372036854775808), 9223372036854775807)), (30, (0, 6)), (31, (0, 1))] ++ ze_X8_luck, [(30, 1, (-1))], [(7, zi 32 0), (5, zl 33 0), (3, zl 34 0), (0, zr 0), (1, zi 30 0), (2, zi 31 0)], [], zw1, [(false, (0, 99944)), (true, (32, 128)), (false, (0, 200000)), (false, (0, 0)), (false, (0, 0)), (false, (0, 0))]))
def b9_X8_luck : Nat × zS := (79, ([(32, (0, 7)), (33, (0, 1)), (34, ((-2147483648), 2147483647)), (35, ((-9223372036854775808), 9223372036854775807)), (36, (0, 127)), (37, (100, 2147483647)), (38, ((-9223372036854775808), 9223372036854775807)), (30, (0, 6)), (31, (0, 1))] ++ ze_X8_luck, [(30, 1, (-1))], [(12, zi 32 0), (11, zi 33 0), (10, zi 34 0), (8, zl 35 0), (7, zi 36 0), (5, zl 37 0), (3, zl 38 0), (0, zr 0), (1, zi 30 0), (2, zi 31 0)], [], zw1, [(false, (0, 99944)), (true, (36, 128)), (false, (0, 99921)), (true, (32, 7)), (false, (0, 200000)), (false, (0, 0))]))
def bl_X8_luck : List (Nat × zS) := [b0_X8_luck, b1_X8_luck, b2_X8_luck, b3_X8_luck, b4_X8_luck, b5_X8_luck, b6_X8_luck, b7_X8_luck, b8_X8_luck, b9_X8_luck]
def tb_X8_luck : zTb := ([(7, 8, 0, 3), (20, 8, 6, 3), (79, 8, 3, 0)], [], [(220, 10), (308, (-1))], [(205, k_X8_isHouse), (310, k_X8_timesOf)], [(90, k_X8_in), (313, k_X8_told)], [])
def sp_X8_luck : zSp := []
set_option maxRecDepth 1000000 in
theorem ck0_X8_luck : zrun tb_X8_luck sp_X8_luck pr_X8_luck 15 3 k_X8_luck.1 k_X8_luck.2.1 k_X8_luck.2.2.2 bl_X8_luck false 2000 5032 (zst0 k_X8_luck) 0 = true := by decide +kernel
set_option maxRecDepth 1000000 in
theorem ck1_X8_luck : zrun tb_X8_luck sp_X8_luck pr_X8_luck 15 3 k_X8_luck.1 k_X8_luck.2.1 k_X8_luck.2.2.2 bl_X8_luck true 2000 5032 b0_X8_luck.2 b0_X8_luck.1 = true := by decide +kernel
set_option maxRecDepth 1000000 in
theorem ck2_X8_luck : zrun tb_X8_luck sp_X8_luck pr_X8_luck 15 3 k_X8_luck.1 k_X8_luck.2.1 k_X8_luck.2.2.2 bl_X8_luck true 2000 5032 b1_X8_luck.2 b1_X8_luck.1 = true := by decide +kernel
set_option maxRecDepth 1000000 in
theorem ck3_X8_luck : zrun tb_X8_luck sp_X8_luck pr_X8_luck 15 3 k_X8_luck.1 k_X8_luck.2.1 k_X8_luck.2.2.2 bl_X8_luck true 2000 5032 b2_X8_luck.2 b2_X8_luck.1 = true := by decide +kernel
set_option maxRecDepth 1000000 in
theorem ck4_X8_luck : zrun tb_X8_luck sp_X8_luck pr_X8_luck 15 3 k_X8_luck.1 k_X8_luck.2.1 k_X8_luck.2.2.2 bl_X8_luck true 2000 5032 b3_X8_luck.2 b3_X8_luck.1 = true := by decide +kernel
set_option maxRecDepth 1000000 in
theorem ck5_X8_luck : zrun tb_X8_luck sp_X8_luck pr_X8_luck 15 3 k_X8_luck.1 k_X8_luck.2.1 k_X8_luck.2.2.2 bl_X8_luck true 2000 5032 b4_X8_luck.2 b4_X8_luck.1 = true := by decide +kernel
set_option maxRecDepth 1000000 in
theorem ck6_X8_luck : zrun tb_X8_luck sp_X8_luck pr_X8_luck 15 3 k_X8_luck.1 k_X8_luck.2.1 k_X8_luck.2.2.2 bl_X8_luck true 2000 5032 b5_X8_luck.2 b5_X8_luck.1 = true := by decide +kernel
set_option maxRecDepth 1000000 in
theorem ck7_X8_luck : zrun tb_X8_luck sp_X8_luck pr_X8_luck 15 3 k_X8_luck.1 k_X8_luck.2.1 k_X8_luck.2.2.2 bl_X8_luck true 2000 5032 b6_X8_luck.2 b6_X8_luck.1 = true := by decide +kernel
set_option maxRecDepth 1000000 in
theorem ck8_X8_luck : zrun tb_X8_luck sp_X8_luck pr_X8_luck 15 3 k_X8_luck.1 k_X8_luck.2.1 k_X8_luck.2.2.2 bl_X8_luck true 2000 5032 b7_X8_luck.2 b7_X8_luck.1 = true := by decide +kernel
set_option maxRecDepth 1000000 in
theorem ck9_X8_luck : zrun tb_X8_luck sp_X8_luck pr_X8_luck 15 3 k_X8_luck.1 k_X8_luck.2.1 k_X8_luck.2.2.2 bl_X8_luck true 2000 5032 b8_X8_luck.2 b8_X8_luck.1 = true := by decide +kernel
set_option maxRecDepth 1000000 in
theorem ck10_X8_luck : zrun tb_X8_luck sp_X8_luck pr_X8_luck 15 3 k_X8_luck.1 k_X8_luck.2.1 k_X8_luck.2.2.2 bl_X8_luck true 2000 5032 b9_X8_luck.2 b9_X8_luck.1 = true := by decide +kernel
set_option maxRecDepth 1000000 in
theorem ck_X8_luck : zcheck tb_X8_luck sp_X8_luck pr_X8_luck 15 3 k_X8_luck bl_X8_luck 2000 5032 = true := zcheck_of (by decide +kernel) ck0_X8_luck (List.forall_mem_cons.mpr ⟨ck1_X8_luck, List.forall_mem_cons.mpr ⟨ck2_X8_luck, List.forall_mem_cons.mpr ⟨ck3_X8_luck, List.forall_mem_cons.mpr ⟨ck4_X8_luck, List.forall_mem_cons.mpr ⟨ck5_X8_luck, List.forall_mem_cons.mpr ⟨ck6_X8_luck, List.forall_mem_cons.mpr ⟨ck7_X8_luck, List.forall_mem_cons.mpr ⟨ck8_X8_luck, List.forall_mem_cons.mpr ⟨ck9_X8_luck, List.forall_mem_cons.mpr ⟨ck10_X8_luck, fun _ h => absurd h List.not_mem_nil⟩⟩⟩⟩⟩⟩⟩⟩⟩⟩)
set_option maxRecDepth 100000 in
set_option maxHeartbeats 4000000 in
theorem c_X8_luck {X : zXT} (hX : zXok X) (hN : zXn X) (l : Launch) : zMet X vwCl l yX8_luck wsX8_luck { frames := 4, cells := 0, slots := 0, locals := 136 } k_X8_luck :=
  zmeth (tb := tb_X8_luck) (pr := pr_X8_luck) (bl := bl_X8_luck) (rt := 3) (own := RX8) hX (by decide +kernel) rfl rfl ⟨Nat.le_of_ble_eq_true rfl, Nat.le_of_ble_eq_true rfl⟩
    (zfl_all (List.forall_mem_cons.mpr ⟨zfl_X8 (fun w h => List.mem_cons_of_mem _ (List.mem_append_right _ h)) (List.mem_of_getElem? (i := 4) rfl) (by decide) (by decide), List.forall_mem_cons.mpr ⟨zfl_X8 (fun w h => List.mem_cons_of_mem _ (List.mem_append_right _ h)) (List.mem_of_getElem? (i := 5) rfl) (by decide) (by decide), List.forall_mem_cons.mpr ⟨zfl_X8 (fun w h => List.mem_cons_of_mem _ (List.mem_append_right _ h)) (List.mem_of_getElem? (i := 2) rfl) (by decide) (by decide), fun _ h => absurd h List.not_mem_nil⟩⟩⟩))
    (zco_all (fun _ h => absurd h List.not_mem_nil)) (zlc_all (List.forall_mem_cons.mpr ⟨(List.mem_of_getElem? (i := 3) rfl), List.forall_mem_cons.mpr ⟨(List.mem_of_getElem? (i := 1) rfl), fun _ h => absurd h List.not_mem_nil⟩⟩))
    (List.forall_mem_cons.mpr ⟨fun p e s m args below meth c A S hx => zcal_V hX S (c_X8_isHouse hX hN l) (cwV 1 S.2.2.2.2 gX8_luck_X8_isHouse rfl rfl rfl (by decide +kernel) ⟨Nat.le_of_ble_eq_true rfl, Nat.le_of_ble_eq_true rfl⟩) rfl ⟨0, 8, _, _, _, rfl, rfl⟩ rfl, List.forall_mem_cons.mpr ⟨fun p e s m args below meth c A S hx => zcal_V hX S (c_X8_timesOf hX hN l) (cwV 2 S.2.2.2.2 gX8_luck_X8_timesOf rfl rfl rfl (by decide +kernel) ⟨Nat.le_of_ble_eq_true rfl, Nat.le_of_ble_eq_true rfl⟩) rfl ⟨0, 8, _, _, _, rfl, rfl⟩ rfl, fun _ h => absurd h List.not_mem_nil⟩⟩)
    (List.forall_mem_cons.mpr ⟨fun p e s m args below meth c A S hx => zcal_S hX S (c_X8_in hX hN l) (va_cwS 3 S.2.2.2.2 gX8_luck_X8_in rfl rfl rfl (by decide +kernel) ⟨Nat.le_of_ble_eq_true rfl, Nat.le_of_ble_eq_true rfl⟩) rfl, List.forall_mem_cons.mpr ⟨fun p e s m args below meth c A S hx => zcal_S hX S (c_X8_told hX hN l) (va_cwS 3 S.2.2.2.2 gX8_luck_X8_told rfl rfl rfl (by decide +kernel) ⟨Nat.le_of_ble_eq_true rfl, Nat.le_of_ble_eq_true rfl⟩) rfl, fun _ h => absurd h List.not_mem_nil⟩⟩)
    (zmm_all (fun _ h => absurd h List.not_mem_nil)) (zpr_all hp_X8_luck) ck_X8_luck
