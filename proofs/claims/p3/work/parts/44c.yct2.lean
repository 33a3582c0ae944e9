noncomputable def ystrs : List (Nat × String × List Int32 × List Int) := [(81, "row", [114, 111, 119], [114, 111, 119]), (91, "ring", [114, 105, 110, 103], [114, 105, 110, 103]), (93, "deed", [100, 101, 101, 100], [100, 101, 101, 100]), (98, "house", [104, 111, 117, 115, 101], [104, 111, 117, 115, 101]), (103, "lawyer", [108, 97, 119, 121, 101, 114], [108, 97, 119, 121, 101, 114]), (108, "habit", [104, 97, 98, 105, 116], [104, 97, 98, 105, 116]), (113, "vow", [118, 111, 119], [118, 111, 119]), (118, "want", [119, 97, 110, 116], [119, 97, 110, 116]), (214, "plain", [112, 108, 97, 105, 110], [112, 108, 97, 105, 110]), (216, "left", [108, 101, 102, 116], [108, 101, 102, 116]), (218, "drunk", [100, 114, 117, 110, 107], [100, 114, 117, 110, 107]), (220, "joint", [106, 111, 105, 110, 116], [106, 111, 105, 110, 116]), (222, "threat", [116, 104, 114, 101, 97, 116], [116, 104, 114, 101, 97, 116])]
/-- the texts of the start, with their letters -/
def yXs (X : zXT) : Prop := ∀ (A : Nat → Prop) (U : State) (H : Heap), X A U H → ∀ q ∈ ystrs, ∃ a : Nat, vk_R RX1 q.1 q.2.1 a U ∧ yStr (fun j => q.2.2.1.getD j 0) q.2.2.2.length a A U H
theorem ystrs_ok : ystrs.all (fun q => (List.range q.2.2.2.length).all (fun j => decide (ych (q.2.2.1.getD j 0) = Int32.ofInt (q.2.2.2.getD j 0)) && zint (q.2.2.2.getD j 0, q.2.2.2.getD j 0))) = true := by decide +kernel
set_option maxHeartbeats 4000000 in
theorem ycal_T {X : zXT} (hX : zXok X) (hs : yXs X) {sh : List yH} (hsh : yshR sh) {l : Launch} {R : Room} {cc : ByteArray} {nL : Nat} {Ts : List Cond} {x : Nat} {tx : String} {byt : List Int32} {wl : List Int} (hm : (x, tx, byt, wl) ∈ ystrs) (cw : ∀ (s : State) (args : Array Value), (∀ w ∈ Ts, w.before args s = true) → CallW R s args RX1 RX1 83 yX1_isName cX1_isName 3 (some .boolean) wsX1_isName { frames := 5, cells := 0, slots := 0, locals := 200 } 0 0 1) : yCkT X vwCl yct sh l R cc nL Ts RX1 x 83 (F_T wl) := by
  intro p e s m args below meth c A0 S hx0 D kA A ad Q a σ res H locs ls pc rest hK hS0 ha hF hP hD hx hls hcat hd1 hd2 hS hFA kk
  have hw : ∀ (j : Nat) (c : Int), wl[j]? = some c → ych (byt.getD j 0) = Int32.ofInt c ∧ yI c := by
    intro j c hj
    have q := List.all_eq_true.mp ystrs_ok _ hm
    have hlt := (List.getElem?_eq_some_iff.mp hj).1
    have q2 := List.all_eq_true.mp q j (List.mem_range.mpr hlt)
    have ec : wl.getD j 0 = c := by rw [List.getD_eq_getElem?_getD, hj]; rfl
    rw [Bool.and_eq_true] at q2
    have q3 : ych (byt.getD j 0) = Int32.ofInt (wl.getD j 0) := of_decide_eq_true q2.1
    have q4 := yint1 q2.2
    rw [ec] at q3 q4
    exact ⟨q3, q4⟩
  unfold F_T at hF
  split at hF
  · rename_i i heq
    cases heq
    cases hr : f_X1_isName wl σ i with
    | none => rw [hr] at hF; cases hF
    | some r =>
      rw [hr] at hF
      have hi : i = 2 := by
        unfold f_X1_isName at hr
        cases hb : Nat.beq i 2 with
        | false => rw [hb] at hr; dsimp only [cond] at hr; cases hr
        | true => exact Nat.eq_of_beq_eq_true hb
      subst hi
      have hF : (some (.inl (.inl r.1)), r.2) = res := Option.some.inj hF
      subst hF
      obtain ⟨a', hR, hSt⟩ := hs _ _ _ hx _ hm
      show W p l e R s m args below meth c H locs 0 0 Q (F0 m pc ls (.ref (ad 2) :: rest))
      refine va_ldcS S.1 S.2.1 S.2.2.2.1 hR hd1 ?_
      refine ycallz (pc := pc + 2) (A1 := va_A (yws yct kA ad sh σ) H.size) (va_runV (As := [.ref a']) (b := ad 2) (rest := rest) S (yc_isName (X := X) l (fun j => byt.getD j 0) wl hw hsh D kA ad H.size a' σ r hS0 hr) (cw s args S.2.2.2.2) ⟨fun b U g mk q => ?_, va_recv hK hP (ci := 1) (q0 := 2) rfl (yws_get hsh.1), fun U hU hWm => ⟨rfl, (zBf_of (av := []) hX hK hP hD hx U hU hWm).2, ?_⟩⟩ rfl rfl hls rfl (lv_room hcat) hd2 ⟨Nat.zero_le _, Nat.zero_le _⟩) hS hFA kk
      · obtain ⟨q0, q1, q6⟩ := q
        have w := zBf_blind (av := [.ref (ad 2), .ref a']) hX b U g mk ⟨q0, q1⟩
        exact ⟨q0, w.2, yStr.moved (u := U) (U := U.calling g mk b) (Vm.Alike.refl U.vm) q6⟩
      · rw [hU]
        exact hSt.moved hWm.alike
  · cases hF
