theorem yw_n {σ : yS} {i k a b : Nat} {z : Int} (h : ¬ (b = k ∧ a = i)) : (yw σ i k z).1 a b = σ.1 a b := by
  rw [yw_1, if_neg h]
theorem yw_p {σ : yS} {i k : Nat} {z : Int} : (yw σ i k z).1 i k = z := by
  rw [yw_1, if_pos ⟨rfl, rfl⟩]
theorem ycp_n {σ : yS} {i0 i1 s d n a b : Nat} (h : ¬ (a = i1 ∧ d ≤ b ∧ b < d + n)) : (ycp σ i0 i1 s d n).1 a b = σ.1 a b := by
  rw [ycp_1, if_neg h]
theorem ycp_p {σ : yS} {i0 i1 n b : Nat} (h : b < n) : (ycp σ i0 i1 0 0 n).1 i1 b = σ.1 i0 b := by
  rw [ycp_1, if_pos ⟨rfl, by omega, by omega⟩, Nat.zero_add, Nat.sub_zero]
theorem x4_copy {N : Nat} {σ : yS} {x y v u : Nat} (hx : x + 21 ≤ y ∨ y + 21 ≤ x) (hv : σ.2 x 11 = v) (hu : σ.2 y 11 = u) (hv2 : v = x + 8 ∨ v = x + 13) (hu2 : u = y + 8 ∨ u = y + 13) (hb : 0 ≤ σ.1 y 1 ∧ σ.1 y 1 ≤ 1) : ∃ σ' : yS, f_X4_copyFrom N σ x y = some (0, σ') ∧ σ'.2 = σ.2 ∧ (∀ a b : Nat, (a < x ∨ x + 21 ≤ a) → σ'.1 a b = σ.1 a b) ∧ (σ'.1 x 0 = σ.1 y 0) ∧ (σ'.1 x 1 = σ.1 y 1) ∧ (σ'.1 x 2 = σ.1 y 2) ∧ (σ'.1 x 6 = σ.1 y 6) ∧ (σ'.1 x 14 = σ.1 y 14) ∧ (σ'.1 x 15 = σ.1 y 15) ∧ (σ'.1 x 16 = σ.1 y 16) ∧ (σ'.1 x 17 = σ.1 y 17) ∧ (∀ b : Nat, b < 5 → σ'.1 (x + 1) b = σ.1 (y + 1) b) ∧ (∀ b : Nat, b < 7 → σ'.1 (x + 2) b = σ.1 (y + 2) b) ∧ (∀ b : Nat, b < 7 → σ'.1 (x + 3) b = σ.1 (y + 3) b) ∧ (∀ b : Nat, b < 7 → σ'.1 (x + 4) b = σ.1 (y + 4) b) ∧ (∀ b : Nat, b < 7 → σ'.1 (x + 5) b = σ.1 (y + 5) b) ∧ (∀ b : Nat, b < 7 → σ'.1 (x + 6) b = σ.1 (y + 6) b) ∧ (∀ b : Nat, b < 35 → σ'.1 (x + 7) b = σ.1 (y + 7) b) ∧ (σ'.1 v 0 = σ.1 u 0) ∧ (∀ b : Nat, b < 10 → σ'.1 (v + 1) b = σ.1 (u + 1) b) ∧ (∀ b : Nat, b < 10 → σ'.1 (v + 2) b = σ.1 (u + 2) b) ∧ (∀ b : Nat, b < 10 → σ'.1 (v + 3) b = σ.1 (u + 3) b) ∧ (∀ b : Nat, b < 10 → σ'.1 (v + 4) b = σ.1 (u + 4) b) ∧ (σ'.1 (x + 18) 0 = σ.1 (y + 18) 0) ∧ (∀ b : Nat, b < 4 → σ'.1 (x + 19) b = σ.1 (y + 19) b) ∧ (∀ b : Nat, b < 4 → σ'.1 (x + 20) b = σ.1 (y + 20) b) := by
  have e1 : (yw σ x 0 (σ.1 y 0)).1 y 1 = σ.1 y 1 := yw_n (by omega)
  have e2 : yb1 (σ.1 y 1) = true := by
    rw [yb1_d]
    exact decide_eq_true hb
  simp only [f_X4_copyFrom, f_X4_copyFrom_b10, f_X4_copyFrom_b18, f_X4_copyFrom_b26, f_X4_copyFrom_b137, f_X4_copyFrom_b168, f_X4_copyFrom_b176, f_X4_copyFrom_b184, f_X5_copyFrom, f_X6_copyFrom, e1, e2, cond_true, yw_2, ycp_2, hv, hu]
  refine ⟨_, rfl, rfl, fun a b h => ?_, ?_, ?_, ?_, ?_, ?_, ?_, ?_, ?_, fun b h => ?_, fun b h => ?_, fun b h => ?_, fun b h => ?_, fun b h => ?_, fun b h => ?_, fun b h => ?_, ?_, fun b h => ?_, fun b h => ?_, fun b h => ?_, fun b h => ?_, ?_, fun b h => ?_, fun b h => ?_⟩
  all_goals repeat (first | rw [yw_n (by omega)] | rw [ycp_n (by omega)] | rw [yw_p] | rw [ycp_p (by omega)])
