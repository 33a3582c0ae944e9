def y7p : List Nat := [0, 43, 44, 45, 46, 47, 48, 49, 50, 93, 94, 95, 96, 97, 98, 99, 100, 1, 2, 3, 4, 5, 6, 7, 8, 9, 10, 11, 12, 13, 14, 15, 16, 17, 18, 19, 20, 21, 22, 23, 24, 25, 26, 27, 28, 29, 30, 31, 32, 33, 34, 35, 36, 37, 38, 39, 40, 41, 42, 51, 52, 53, 54, 55, 56, 57, 58, 59, 60, 61, 62, 63, 64, 65, 66, 67, 68, 69, 70, 71, 72, 73, 74, 75, 76, 77, 78, 79, 80, 81, 82, 83, 84, 85, 86, 87, 88, 89, 90, 91, 92]
def y7pi (i : Nat) : Nat := y7p.getD i 0
section Y7C
variable {D : va_G} {kA : Nat → ClassId} {f : Nat → Nat} {H : Heap} {A : Nat → Prop}
theorem y7_g {k j : Nat} {h : yH} {x : zC} (hy : ysh7[k]? = some h) (hz : wI_X7[j]? = some (j, x)) (hp : y7pi k = j) (e : va_at D vwCl (f j, zce kA zz0 f (zp0 j) x) H → va_at D vwCl (f j, yce yct kA (fun i => f (y7pi i)) y7S k h) H) (hP : va_P D vwCl (zws kA zz0 f zp0 wI_X7) H) : ∀ q, (yws yct kA (fun i => f (y7pi i)) ysh7 y7S)[k]? = some q → va_at D vwCl q H := fun q hq => by
  rw [yws_get hy] at hq
  have hq := Option.some.inj hq
  rw [← hq]
  dsimp only
  rw [hp]
  exact e (hP j _ (zws_get kA zz0 f zp0 hz))
theorem y7c_0 : va_P D vwCl (zws kA zz0 f zp0 wI_X7) H → ∀ q, (yws yct kA (fun i => f (y7pi i)) ysh7 y7S)[0]? = some q → va_at D vwCl q H := y7_g (k := 0) (j := 0) (h := .inl 7) (x := .inl (7, [zr 1, zr 22, zr 43, zr 44, zr 45, zr 47, zr 50, zi 0 0, zi 0 0])) rfl rfl rfl (fun w => w)
theorem y7c_1 : va_P D vwCl (zws kA zz0 f zp0 wI_X7) H → ∀ q, (yws yct kA (fun i => f (y7pi i)) ysh7 y7S)[1]? = some q → va_at D vwCl q H := y7_g (k := 1) (j := 43) (h := .inr (2, 2)) (x := .inr (.inr (2, [51, 72]))) rfl rfl rfl (fun w => w)
theorem y7c_2 : va_P D vwCl (zws kA zz0 f zp0 wI_X7) H → ∀ q, (yws yct kA (fun i => f (y7pi i)) ysh7 y7S)[2]? = some q → va_at D vwCl q H := y7_g (k := 2) (j := 44) (h := .inl 1) (x := .inl (1, [zr 45, zi 0 0, zi 0 0, zi 0 0, zi 0 0, zi 0 0, zi 0 0, zi 0 0, zi 0 0, zi 0 0, zi 0 0, zi 0 0, zi 0 0])) rfl rfl rfl (fun w => w)
theorem y7c_3 : va_P D vwCl (zws kA zz0 f zp0 wI_X7) H → ∀ q, (yws yct kA (fun i => f (y7pi i)) ysh7 y7S)[3]? = some q → va_at D vwCl q H := y7_g (k := 3) (j := 45) (h := .inl 3) (x := .inl (3, [zi 0 0, zr 46])) rfl rfl rfl (fun w => w)
theorem y7c_4 : va_P D vwCl (zws kA zz0 f zp0 wI_X7) H → ∀ q, (yws yct kA (fun i => f (y7pi i)) ysh7 y7S)[4]? = some q → va_at D vwCl q H := y7_g (k := 4) (j := 46) (h := .inr (0, 160)) (x := .inr (.inl (0, 160, [(160, .inl (0, 0))], []))) rfl rfl rfl (fun w => w)
theorem y7c_5 : va_P D vwCl (zws kA zz0 f zp0 wI_X7) H → ∀ q, (yws yct kA (fun i => f (y7pi i)) ysh7 y7S)[5]? = some q → va_at D vwCl q H := y7_g (k := 5) (j := 47) (h := .inl 0) (x := .inl (0, [zr 48, zr 49])) rfl rfl rfl (fun w => w)
theorem y7c_6 : va_P D vwCl (zws kA zz0 f zp0 wI_X7) H → ∀ q, (yws yct kA (fun i => f (y7pi i)) ysh7 y7S)[6]? = some q → va_at D vwCl q H := y7_g (k := 6) (j := 48) (h := .inr (1, 16)) (x := .inr (.inl (1, 16, [(16, .inl (0, 0))], []))) rfl rfl rfl (fun w => w)
theorem y7c_7 : va_P D vwCl (zws kA zz0 f zp0 wI_X7) H → ∀ q, (yws yct kA (fun i => f (y7pi i)) ysh7 y7S)[7]? = some q → va_at D vwCl q H := y7_g (k := 7) (j := 49) (h := .inr (0, 16)) (x := .inr (.inl (0, 16, [(16, .inl (0, 0))], []))) rfl rfl rfl (fun w => w)
theorem y7c_8 : va_P D vwCl (zws kA zz0 f zp0 wI_X7) H → ∀ q, (yws yct kA (fun i => f (y7pi i)) ysh7 y7S)[8]? = some q → va_at D vwCl q H := y7_g (k := 8) (j := 50) (h := .inr (3, 4)) (x := .inr (.inr (3, [93, 95, 97, 99]))) rfl rfl rfl (fun w => w)
theorem y7c_9 : va_P D vwCl (zws kA zz0 f zp0 wI_X7) H → ∀ q, (yws yct kA (fun i => f (y7pi i)) ysh7 y7S)[9]? = some q → va_at D vwCl q H := y7_g (k := 9) (j := 93) (h := .inl 2) (x := .inl (2, [zi 0 (-1), zi 0 0, zr 94])) rfl rfl rfl (fun w => w)
theorem y7c_10 : va_P D vwCl (zws kA zz0 f zp0 wI_X7) H → ∀ q, (yws yct kA (fun i => f (y7pi i)) ysh7 y7S)[10]? = some q → va_at D vwCl q H := y7_g (k := 10) (j := 94) (h := .inr (0, 40)) (x := .inr (.inl (0, 40, [(40, .inl (0, 0))], []))) rfl rfl rfl (fun w => w)
theorem y7c_11 : va_P D vwCl (zws kA zz0 f zp0 wI_X7) H → ∀ q, (yws yct kA (fun i => f (y7pi i)) ysh7 y7S)[11]? = some q → va_at D vwCl q H := y7_g (k := 11) (j := 95) (h := .inl 2) (x := .inl (2, [zi 0 (-1), zi 0 0, zr 96])) rfl rfl rfl (fun w => w)
theorem y7c_12 : va_P D vwCl (zws kA zz0 f zp0 wI_X7) H → ∀ q, (yws yct kA (fun i => f (y7pi i)) ysh7 y7S)[12]? = some q → va_at D vwCl q H := y7_g (k := 12) (j := 96) (h := .inr (0, 40)) (x := .inr (.inl (0, 40, [(40, .inl (0, 0))], []))) rfl rfl rfl (fun w => w)
theorem y7c_13 : va_P D vwCl (zws kA zz0 f zp0 wI_X7) H → ∀ q, (yws yct kA (fun i => f (y7pi i)) ysh7 y7S)[13]? = some q → va_at D vwCl q H := y7_g (k := 13) (j := 97) (h := .inl 2) (x := .inl (2, [zi 0 (-1), zi 0 0, zr 98])) rfl rfl rfl (fun w => w)
theorem y7c_14 : va_P D vwCl (zws kA zz0 f zp0 wI_X7) H → ∀ q, (yws yct kA (fun i => f (y7pi i)) ysh7 y7S)[14]? = some q → va_at D vwCl q H := y7_g (k := 14) (j := 98) (h := .inr (0, 40)) (x := .inr (.inl (0, 40, [(40, .inl (0, 0))], []))) rfl rfl rfl (fun w => w)
theorem y7c_15 : va_P D vwCl (zws kA zz0 f zp0 wI_X7) H → ∀ q, (yws yct kA (fun i => f (y7pi i)) ysh7 y7S)[15]? = some q → va_at D vwCl q H := y7_g (k := 15) (j := 99) (h := .inl 2) (x := .inl (2, [zi 0 (-1), zi 0 0, zr 100])) rfl rfl rfl (fun w => w)
theorem y7c_16 : va_P D vwCl (zws kA zz0 f zp0 wI_X7) H → ∀ q, (yws yct kA (fun i => f (y7pi i)) ysh7 y7S)[16]? = some q → va_at D vwCl q H := y7_g (k := 16) (j := 100) (h := .inr (0, 40)) (x := .inr (.inl (0, 40, [(40, .inl (0, 0))], []))) rfl rfl rfl (fun w => w)
theorem y7c_17 : va_P D vwCl (zws kA zz0 f zp0 wI_X7) H → ∀ q, (yws yct kA (fun i => f (y7pi i)) ysh7 y7S)[17]? = some q → va_at D vwCl q H := y7_g (k := 17) (j := 1) (h := .inl 4) (x := .inl (4, [zi 0 3, zi 0 0, zi 0 0, zr 2, zr 3, zr 4, zi 0 0, zr 5, zr 6, zr 7, zr 8, zr 9, zr 14, zr 19, zi 0 0, zi 0 0, zi 0 0, zi 0 0])) rfl rfl rfl (fun w => w)
theorem y7c_18 : va_P D vwCl (zws kA zz0 f zp0 wI_X7) H → ∀ q, (yws yct kA (fun i => f (y7pi i)) ysh7 y7S)[18]? = some q → va_at D vwCl q H := y7_g (k := 18) (j := 2) (h := .inr (0, 5)) (x := .inr (.inl (0, 5, [(5, .inl (0, 0))], []))) rfl rfl rfl (fun w => w)
theorem y7c_19 : va_P D vwCl (zws kA zz0 f zp0 wI_X7) H → ∀ q, (yws yct kA (fun i => f (y7pi i)) ysh7 y7S)[19]? = some q → va_at D vwCl q H := y7_g (k := 19) (j := 3) (h := .inr (0, 7)) (x := .inr (.inl (0, 7, [(7, .inl (0, 0))], []))) rfl rfl rfl (fun w => w)
theorem y7c_20 : va_P D vwCl (zws kA zz0 f zp0 wI_X7) H → ∀ q, (yws yct kA (fun i => f (y7pi i)) ysh7 y7S)[20]? = some q → va_at D vwCl q H := y7_g (k := 20) (j := 4) (h := .inr (0, 7)) (x := .inr (.inl (0, 7, [(7, .inl (0, 0))], []))) rfl rfl rfl (fun w => w)
theorem y7c_21 : va_P D vwCl (zws kA zz0 f zp0 wI_X7) H → ∀ q, (yws yct kA (fun i => f (y7pi i)) ysh7 y7S)[21]? = some q → va_at D vwCl q H := y7_g (k := 21) (j := 5) (h := .inr (0, 7)) (x := .inr (.inl (0, 7, [(7, .inl (0, 0))], []))) rfl rfl rfl (fun w => w)
theorem y7c_22 : va_P D vwCl (zws kA zz0 f zp0 wI_X7) H → ∀ q, (yws yct kA (fun i => f (y7pi i)) ysh7 y7S)[22]? = some q → va_at D vwCl q H := y7_g (k := 22) (j := 6) (h := .inr (0, 7)) (x := .inr (.inl (0, 7, [(7, .inl (0, 0))], []))) rfl rfl rfl (fun w => w)
theorem y7c_23 : va_P D vwCl (zws kA zz0 f zp0 wI_X7) H → ∀ q, (yws yct kA (fun i => f (y7pi i)) ysh7 y7S)[23]? = some q → va_at D vwCl q H := y7_g (k := 23) (j := 7) (h := .inr (0, 7)) (x := .inr (.inl (0, 7, [(7, .inl (0, 0))], []))) rfl rfl rfl (fun w => w)
theorem y7c_24 : va_P D vwCl (zws kA zz0 f zp0 wI_X7) H → ∀ q, (yws yct kA (fun i => f (y7pi i)) ysh7 y7S)[24]? = some q → va_at D vwCl q H := y7_g (k := 24) (j := 8) (h := .inr (0, 35)) (x := .inr (.inl (0, 35, [(35, .inl (0, 0))], []))) rfl rfl rfl (fun w => w)
theorem y7c_25 : va_P D vwCl (zws kA zz0 f zp0 wI_X7) H → ∀ q, (yws yct kA (fun i => f (y7pi i)) ysh7 y7S)[25]? = some q → va_at D vwCl q H := y7_g (k := 25) (j := 9) (h := .inl 5) (x := .inl (5, [zi 0 0, zr 10, zr 11, zr 12, zr 13])) rfl rfl rfl (fun w => w)
theorem y7c_26 : va_P D vwCl (zws kA zz0 f zp0 wI_X7) H → ∀ q, (yws yct kA (fun i => f (y7pi i)) ysh7 y7S)[26]? = some q → va_at D vwCl q H := y7_g (k := 26) (j := 10) (h := .inr (0, 10)) (x := .inr (.inl (0, 10, [(10, .inl (0, 0))], []))) rfl rfl rfl (fun w => w)
theorem y7c_27 : va_P D vwCl (zws kA zz0 f zp0 wI_X7) H → ∀ q, (yws yct kA (fun i => f (y7pi i)) ysh7 y7S)[27]? = some q → va_at D vwCl q H := y7_g (k := 27) (j := 11) (h := .inr (0, 10)) (x := .inr (.inl (0, 10, [(10, .inl (0, 0))], []))) rfl rfl rfl (fun w => w)
theorem y7c_28 : va_P D vwCl (zws kA zz0 f zp0 wI_X7) H → ∀ q, (yws yct kA (fun i => f (y7pi i)) ysh7 y7S)[28]? = some q → va_at D vwCl q H := y7_g (k := 28) (j := 12) (h := .inr (0, 10)) (x := .inr (.inl (0, 10, [(10, .inl (0, 0))], []))) rfl rfl rfl (fun w => w)
theorem y7c_29 : va_P D vwCl (zws kA zz0 f zp0 wI_X7) H → ∀ q, (yws yct kA (fun i => f (y7pi i)) ysh7 y7S)[29]? = some q → va_at D vwCl q H := y7_g (k := 29) (j := 13) (h := .inr (0, 10)) (x := .inr (.inl (0, 10, [(10, .inl (0, 0))], []))) rfl rfl rfl (fun w => w)
theorem y7c_30 : va_P D vwCl (zws kA zz0 f zp0 wI_X7) H → ∀ q, (yws yct kA (fun i => f (y7pi i)) ysh7 y7S)[30]? = some q → va_at D vwCl q H := y7_g (k := 30) (j := 14) (h := .inl 5) (x := .inl (5, [zi 0 0, zr 15, zr 16, zr 17, zr 18])) rfl rfl rfl (fun w => w)
theorem y7c_31 : va_P D vwCl (zws kA zz0 f zp0 wI_X7) H → ∀ q, (yws yct kA (fun i => f (y7pi i)) ysh7 y7S)[31]? = some q → va_at D vwCl q H := y7_g (k := 31) (j := 15) (h := .inr (0, 10)) (x := .inr (.inl (0, 10, [(10, .inl (0, 0))], []))) rfl rfl rfl (fun w => w)
theorem y7c_32 : va_P D vwCl (zws kA zz0 f zp0 wI_X7) H → ∀ q, (yws yct kA (fun i => f (y7pi i)) ysh7 y7S)[32]? = some q → va_at D vwCl q H := y7_g (k := 32) (j := 16) (h := .inr (0, 10)) (x := .inr (.inl (0, 10, [(10, .inl (0, 0))], []))) rfl rfl rfl (fun w => w)
theorem y7c_33 : va_P D vwCl (zws kA zz0 f zp0 wI_X7) H → ∀ q, (yws yct kA (fun i => f (y7pi i)) ysh7 y7S)[33]? = some q → va_at D vwCl q H := y7_g (k := 33) (j := 17) (h := .inr (0, 10)) (x := .inr (.inl (0, 10, [(10, .inl (0, 0))], []))) rfl rfl rfl (fun w => w)
theorem y7c_34 : va_P D vwCl (zws kA zz0 f zp0 wI_X7) H → ∀ q, (yws yct kA (fun i => f (y7pi i)) ysh7 y7S)[34]? = some q → va_at D vwCl q H := y7_g (k := 34) (j := 18) (h := .inr (0, 10)) (x := .inr (.inl (0, 10, [(10, .inl (0, 0))], []))) rfl rfl rfl (fun w => w)
theorem y7c_35 : va_P D vwCl (zws kA zz0 f zp0 wI_X7) H → ∀ q, (yws yct kA (fun i => f (y7pi i)) ysh7 y7S)[35]? = some q → va_at D vwCl q H := y7_g (k := 35) (j := 19) (h := .inl 6) (x := .inl (6, [zi 0 0, zr 20, zr 21])) rfl rfl rfl (fun w => w)
theorem y7c_36 : va_P D vwCl (zws kA zz0 f zp0 wI_X7) H → ∀ q, (yws yct kA (fun i => f (y7pi i)) ysh7 y7S)[36]? = some q → va_at D vwCl q H := y7_g (k := 36) (j := 20) (h := .inr (0, 4)) (x := .inr (.inl (0, 4, [(4, .inl (0, 0))], []))) rfl rfl rfl (fun w => w)
theorem y7c_37 : va_P D vwCl (zws kA zz0 f zp0 wI_X7) H → ∀ q, (yws yct kA (fun i => f (y7pi i)) ysh7 y7S)[37]? = some q → va_at D vwCl q H := y7_g (k := 37) (j := 21) (h := .inr (0, 4)) (x := .inr (.inl (0, 4, [(4, .inl (0, 0))], []))) rfl rfl rfl (fun w => w)
theorem y7c_38 : va_P D vwCl (zws kA zz0 f zp0 wI_X7) H → ∀ q, (yws yct kA (fun i => f (y7pi i)) ysh7 y7S)[38]? = some q → va_at D vwCl q H := y7_g (k := 38) (j := 22) (h := .inl 4) (x := .inl (4, [zi 0 3, zi 0 0, zi 0 0, zr 23, zr 24, zr 25, zi 0 0, zr 26, zr 27, zr 28, zr 29, zr 30, zr 35, zr 40, zi 0 0, zi 0 0, zi 0 0, zi 0 0])) rfl rfl rfl (fun w => w)
theorem y7c_39 : va_P D vwCl (zws kA zz0 f zp0 wI_X7) H → ∀ q, (yws yct kA (fun i => f (y7pi i)) ysh7 y7S)[39]? = some q → va_at D vwCl q H := y7_g (k := 39) (j := 23) (h := .inr (0, 5)) (x := .inr (.inl (0, 5, [(5, .inl (0, 0))], []))) rfl rfl rfl (fun w => w)
theorem y7c_40 : va_P D vwCl (zws kA zz0 f zp0 wI_X7) H → ∀ q, (yws yct kA (fun i => f (y7pi i)) ysh7 y7S)[40]? = some q → va_at D vwCl q H := y7_g (k := 40) (j := 24) (h := .inr (0, 7)) (x := .inr (.inl (0, 7, [(7, .inl (0, 0))], []))) rfl rfl rfl (fun w => w)
theorem y7c_41 : va_P D vwCl (zws kA zz0 f zp0 wI_X7) H → ∀ q, (yws yct kA (fun i => f (y7pi i)) ysh7 y7S)[41]? = some q → va_at D vwCl q H := y7_g (k := 41) (j := 25) (h := .inr (0, 7)) (x := .inr (.inl (0, 7, [(7, .inl (0, 0))], []))) rfl rfl rfl (fun w => w)
theorem y7c_42 : va_P D vwCl (zws kA zz0 f zp0 wI_X7) H → ∀ q, (yws yct kA (fun i => f (y7pi i)) ysh7 y7S)[42]? = some q → va_at D vwCl q H := y7_g (k := 42) (j := 26) (h := .inr (0, 7)) (x := .inr (.inl (0, 7, [(7, .inl (0, 0))], []))) rfl rfl rfl (fun w => w)
theorem y7c_43 : va_P D vwCl (zws kA zz0 f zp0 wI_X7) H → ∀ q, (yws yct kA (fun i => f (y7pi i)) ysh7 y7S)[43]? = some q → va_at D vwCl q H := y7_g (k := 43) (j := 27) (h := .inr (0, 7)) (x := .inr (.inl (0, 7, [(7, .inl (0, 0))], []))) rfl rfl rfl (fun w => w)
theorem y7c_44 : va_P D vwCl (zws kA zz0 f zp0 wI_X7) H → ∀ q, (yws yct kA (fun i => f (y7pi i)) ysh7 y7S)[44]? = some q → va_at D vwCl q H := y7_g (k := 44) (j := 28) (h := .inr (0, 7)) (x := .inr (.inl (0, 7, [(7, .inl (0, 0))], []))) rfl rfl rfl (fun w => w)
theorem y7c_45 : va_P D vwCl (zws kA zz0 f zp0 wI_X7) H → ∀ q, (yws yct kA (fun i => f (y7pi i)) ysh7 y7S)[45]? = some q → va_at D vwCl q H := y7_g (k := 45) (j := 29) (h := .inr (0, 35)) (x := .inr (.inl (0, 35, [(35, .inl (0, 0))], []))) rfl rfl rfl (fun w => w)
theorem y7c_46 : va_P D vwCl (zws kA zz0 f zp0 wI_X7) H → ∀ q, (yws yct kA (fun i => f (y7pi i)) ysh7 y7S)[46]? = some q → va_at D vwCl q H := y7_g (k := 46) (j := 30) (h := .inl 5) (x := .inl (5, [zi 0 0, zr 31, zr 32, zr 33, zr 34])) rfl rfl rfl (fun w => w)
theorem y7c_47 : va_P D vwCl (zws kA zz0 f zp0 wI_X7) H → ∀ q, (yws yct kA (fun i => f (y7pi i)) ysh7 y7S)[47]? = some q → va_at D vwCl q H := y7_g (k := 47) (j := 31) (h := .inr (0, 10)) (x := .inr (.inl (0, 10, [(10, .inl (0, 0))], []))) rfl rfl rfl (fun w => w)
theorem y7c_48 : va_P D vwCl (zws kA zz0 f zp0 wI_X7) H → ∀ q, (yws yct kA (fun i => f (y7pi i)) ysh7 y7S)[48]? = some q → va_at D vwCl q H := y7_g (k := 48) (j := 32) (h := .inr (0, 10)) (x := .inr (.inl (0, 10, [(10, .inl (0, 0))], []))) rfl rfl rfl (fun w => w)
theorem y7c_49 : va_P D vwCl (zws kA zz0 f zp0 wI_X7) H → ∀ q, (yws yct kA (fun i => f (y7pi i)) ysh7 y7S)[49]? = some q → va_at D vwCl q H := y7_g (k := 49) (j := 33) (h := .inr (0, 10)) (x := .inr (.inl (0, 10, [(10, .inl (0, 0))], []))) rfl rfl rfl (fun w => w)
theorem y7c_50 : va_P D vwCl (zws kA zz0 f zp0 wI_X7) H → ∀ q, (yws yct kA (fun i => f (y7pi i)) ysh7 y7S)[50]? = some q → va_at D vwCl q H := y7_g (k := 50) (j := 34) (h := .inr (0, 10)) (x := .inr (.inl (0, 10, [(10, .inl (0, 0))], []))) rfl rfl rfl (fun w => w)
theorem y7c_51 : va_P D vwCl (zws kA zz0 f zp0 wI_X7) H → ∀ q, (yws yct kA (fun i => f (y7pi i)) ysh7 y7S)[51]? = some q → va_at D vwCl q H := y7_g (k := 51) (j := 35) (h := .inl 5) (x := .inl (5, [zi 0 0, zr 36, zr 37, zr 38, zr 39])) rfl rfl rfl (fun w => w)
theorem y7c_52 : va_P D vwCl (zws kA zz0 f zp0 wI_X7) H → ∀ q, (yws yct kA (fun i => f (y7pi i)) ysh7 y7S)[52]? = some q → va_at D vwCl q H := y7_g (k := 52) (j := 36) (h := .inr (0, 10)) (x := .inr (.inl (0, 10, [(10, .inl (0, 0))], []))) rfl rfl rfl (fun w => w)
theorem y7c_53 : va_P D vwCl (zws kA zz0 f zp0 wI_X7) H → ∀ q, (yws yct kA (fun i => f (y7pi i)) ysh7 y7S)[53]? = some q → va_at D vwCl q H := y7_g (k := 53) (j := 37) (h := .inr (0, 10)) (x := .inr (.inl (0, 10, [(10, .inl (0, 0))], []))) rfl rfl rfl (fun w => w)
theorem y7c_54 : va_P D vwCl (zws kA zz0 f zp0 wI_X7) H → ∀ q, (yws yct kA (fun i => f (y7pi i)) ysh7 y7S)[54]? = some q → va_at D vwCl q H := y7_g (k := 54) (j := 38) (h := .inr (0, 10)) (x := .inr (.inl (0, 10, [(10, .inl (0, 0))], []))) rfl rfl rfl (fun w => w)
theorem y7c_55 : va_P D vwCl (zws kA zz0 f zp0 wI_X7) H → ∀ q, (yws yct kA (fun i => f (y7pi i)) ysh7 y7S)[55]? = some q → va_at D vwCl q H := y7_g (k := 55) (j := 39) (h := .inr (0, 10)) (x := .inr (.inl (0, 10, [(10, .inl (0, 0))], []))) rfl rfl rfl (fun w => w)
theorem y7c_56 : va_P D vwCl (zws kA zz0 f zp0 wI_X7) H → ∀ q, (yws yct kA (fun i => f (y7pi i)) ysh7 y7S)[56]? = some q → va_at D vwCl q H := y7_g (k := 56) (j := 40) (h := .inl 6) (x := .inl (6, [zi 0 0, zr 41, zr 42])) rfl rfl rfl (fun w => w)
theorem y7c_57 : va_P D vwCl (zws kA zz0 f zp0 wI_X7) H → ∀ q, (yws yct kA (fun i => f (y7pi i)) ysh7 y7S)[57]? = some q → va_at D vwCl q H := y7_g (k := 57) (j := 41) (h := .inr (0, 4)) (x := .inr (.inl (0, 4, [(4, .inl (0, 0))], []))) rfl rfl rfl (fun w => w)
theorem y7c_58 : va_P D vwCl (zws kA zz0 f zp0 wI_X7) H → ∀ q, (yws yct kA (fun i => f (y7pi i)) ysh7 y7S)[58]? = some q → va_at D vwCl q H := y7_g (k := 58) (j := 42) (h := .inr (0, 4)) (x := .inr (.inl (0, 4, [(4, .inl (0, 0))], []))) rfl rfl rfl (fun w => w)
theorem y7c_59 : va_P D vwCl (zws kA zz0 f zp0 wI_X7) H → ∀ q, (yws yct kA (fun i => f (y7pi i)) ysh7 y7S)[59]? = some q → va_at D vwCl q H := y7_g (k := 59) (j := 51) (h := .inl 4) (x := .inl (4, [zi 0 3, zi 0 0, zi 0 0, zr 52, zr 53, zr 54, zi 0 0, zr 55, zr 56, zr 57, zr 58, zr 59, zr 64, zr 69, zi 0 0, zi 0 0, zi 0 0, zi 0 0])) rfl rfl rfl (fun w => w)
theorem y7c_60 : va_P D vwCl (zws kA zz0 f zp0 wI_X7) H → ∀ q, (yws yct kA (fun i => f (y7pi i)) ysh7 y7S)[60]? = some q → va_at D vwCl q H := y7_g (k := 60) (j := 52) (h := .inr (0, 5)) (x := .inr (.inl (0, 5, [(5, .inl (0, 0))], []))) rfl rfl rfl (fun w => w)
theorem y7c_61 : va_P D vwCl (zws kA zz0 f zp0 wI_X7) H → ∀ q, (yws yct kA (fun i => f (y7pi i)) ysh7 y7S)[61]? = some q → va_at D vwCl q H := y7_g (k := 61) (j := 53) (h := .inr (0, 7)) (x := .inr (.inl (0, 7, [(7, .inl (0, 0))], []))) rfl rfl rfl (fun w => w)
theorem y7c_62 : va_P D vwCl (zws kA zz0 f zp0 wI_X7) H → ∀ q, (yws yct kA (fun i => f (y7pi i)) ysh7 y7S)[62]? = some q → va_at D vwCl q H := y7_g (k := 62) (j := 54) (h := .inr (0, 7)) (x := .inr (.inl (0, 7, [(7, .inl (0, 0))], []))) rfl rfl rfl (fun w => w)
theorem y7c_63 : va_P D vwCl (zws kA zz0 f zp0 wI_X7) H → ∀ q, (yws yct kA (fun i => f (y7pi i)) ysh7 y7S)[63]? = some q → va_at D vwCl q H := y7_g (k := 63) (j := 55) (h := .inr (0, 7)) (x := .inr (.inl (0, 7, [(7, .inl (0, 0))], []))) rfl rfl rfl (fun w => w)
theorem y7c_64 : va_P D vwCl (zws kA zz0 f zp0 wI_X7) H → ∀ q, (yws yct kA (fun i => f (y7pi i)) ysh7 y7S)[64]? = some q → va_at D vwCl q H := y7_g (k := 64) (j := 56) (h := .inr (0, 7)) (x := .inr (.inl (0, 7, [(7, .inl (0, 0))], []))) rfl rfl rfl (fun w => w)
theorem y7c_65 : va_P D vwCl (zws kA zz0 f zp0 wI_X7) H → ∀ q, (yws yct kA (fun i => f (y7pi i)) ysh7 y7S)[65]? = some q → va_at D vwCl q H := y7_g (k := 65) (j := 57) (h := .inr (0, 7)) (x := .inr (.inl (0, 7, [(7, .inl (0, 0))], []))) rfl rfl rfl (fun w => w)
theorem y7c_66 : va_P D vwCl (zws kA zz0 f zp0 wI_X7) H → ∀ q, (yws yct kA (fun i => f (y7pi i)) ysh7 y7S)[66]? = some q → va_at D vwCl q H := y7_g (k := 66) (j := 58) (h := .inr (0, 35)) (x := .inr (.inl (0, 35, [(35, .inl (0, 0))], []))) rfl rfl rfl (fun w => w)
theorem y7c_67 : va_P D vwCl (zws kA zz0 f zp0 wI_X7) H → ∀ q, (yws yct kA (fun i => f (y7pi i)) ysh7 y7S)[67]? = some q → va_at D vwCl q H := y7_g (k := 67) (j := 59) (h := .inl 5) (x := .inl (5, [zi 0 0, zr 60, zr 61, zr 62, zr 63])) rfl rfl rfl (fun w => w)
theorem y7c_68 : va_P D vwCl (zws kA zz0 f zp0 wI_X7) H → ∀ q, (yws yct kA (fun i => f (y7pi i)) ysh7 y7S)[68]? = some q → va_at D vwCl q H := y7_g (k := 68) (j := 60) (h := .inr (0, 10)) (x := .inr (.inl (0, 10, [(10, .inl (0, 0))], []))) rfl rfl rfl (fun w => w)
theorem y7c_69 : va_P D vwCl (zws kA zz0 f zp0 wI_X7) H → ∀ q, (yws yct kA (fun i => f (y7pi i)) ysh7 y7S)[69]? = some q → va_at D vwCl q H := y7_g (k := 69) (j := 61) (h := .inr (0, 10)) (x := .inr (.inl (0, 10, [(10, .inl (0, 0))], []))) rfl rfl rfl (fun w => w)
theorem y7c_70 : va_P D vwCl (zws kA zz0 f zp0 wI_X7) H → ∀ q, (yws yct kA (fun i => f (y7pi i)) ysh7 y7S)[70]? = some q → va_at D vwCl q H := y7_g (k := 70) (j := 62) (h := .inr (0, 10)) (x := .inr (.inl (0, 10, [(10, .inl (0, 0))], []))) rfl rfl rfl (fun w => w)
theorem y7c_71 : va_P D vwCl (zws kA zz0 f zp0 wI_X7) H → ∀ q, (yws yct kA (fun i => f (y7pi i)) ysh7 y7S)[71]? = some q → va_at D vwCl q H := y7_g (k := 71) (j := 63) (h := .inr (0, 10)) (x := .inr (.inl (0, 10, [(10, .inl (0, 0))], []))) rfl rfl rfl (fun w => w)
theorem y7c_72 : va_P D vwCl (zws kA zz0 f zp0 wI_X7) H → ∀ q, (yws yct kA (fun i => f (y7pi i)) ysh7 y7S)[72]? = some q → va_at D vwCl q H := y7_g (k := 72) (j := 64) (h := .inl 5) (x := .inl (5, [zi 0 0, zr 65, zr 66, zr 67, zr 68])) rfl rfl rfl (fun w => w)
theorem y7c_73 : va_P D vwCl (zws kA zz0 f zp0 wI_X7) H → ∀ q, (yws yct kA (fun i => f (y7pi i)) ysh7 y7S)[73]? = some q → va_at D vwCl q H := y7_g (k := 73) (j := 65) (h := .inr (0, 10)) (x := .inr (.inl (0, 10, [(10, .inl (0, 0))], []))) rfl rfl rfl (fun w => w)
theorem y7c_74 : va_P D vwCl (zws kA zz0 f zp0 wI_X7) H → ∀ q, (yws yct kA (fun i => f (y7pi i)) ysh7 y7S)[74]? = some q → va_at D vwCl q H := y7_g (k := 74) (j := 66) (h := .inr (0, 10)) (x := .inr (.inl (0, 10, [(10, .inl (0, 0))], []))) rfl rfl rfl (fun w => w)
theorem y7c_75 : va_P D vwCl (zws kA zz0 f zp0 wI_X7) H → ∀ q, (yws yct kA (fun i => f (y7pi i)) ysh7 y7S)[75]? = some q → va_at D vwCl q H := y7_g (k := 75) (j := 67) (h := .inr (0, 10)) (x := .inr (.inl (0, 10, [(10, .inl (0, 0))], []))) rfl rfl rfl (fun w => w)
theorem y7c_76 : va_P D vwCl (zws kA zz0 f zp0 wI_X7) H → ∀ q, (yws yct kA (fun i => f (y7pi i)) ysh7 y7S)[76]? = some q → va_at D vwCl q H := y7_g (k := 76) (j := 68) (h := .inr (0, 10)) (x := .inr (.inl (0, 10, [(10, .inl (0, 0))], []))) rfl rfl rfl (fun w => w)
theorem y7c_77 : va_P D vwCl (zws kA zz0 f zp0 wI_X7) H → ∀ q, (yws yct kA (fun i => f (y7pi i)) ysh7 y7S)[77]? = some q → va_at D vwCl q H := y7_g (k := 77) (j := 69) (h := .inl 6) (x := .inl (6, [zi 0 0, zr 70, zr 71])) rfl rfl rfl (fun w => w)
theorem y7c_78 : va_P D vwCl (zws kA zz0 f zp0 wI_X7) H → ∀ q, (yws yct kA (fun i => f (y7pi i)) ysh7 y7S)[78]? = some q → va_at D vwCl q H := y7_g (k := 78) (j := 70) (h := .inr (0, 4)) (x := .inr (.inl (0, 4, [(4, .inl (0, 0))], []))) rfl rfl rfl (fun w => w)
theorem y7c_79 : va_P D vwCl (zws kA zz0 f zp0 wI_X7) H → ∀ q, (yws yct kA (fun i => f (y7pi i)) ysh7 y7S)[79]? = some q → va_at D vwCl q H := y7_g (k := 79) (j := 71) (h := .inr (0, 4)) (x := .inr (.inl (0, 4, [(4, .inl (0, 0))], []))) rfl rfl rfl (fun w => w)
theorem y7c_80 : va_P D vwCl (zws kA zz0 f zp0 wI_X7) H → ∀ q, (yws yct kA (fun i => f (y7pi i)) ysh7 y7S)[80]? = some q → va_at D vwCl q H := y7_g (k := 80) (j := 72) (h := .inl 4) (x := .inl (4, [zi 0 3, zi 0 0, zi 0 0, zr 73, zr 74, zr 75, zi 0 0, zr 76, zr 77, zr 78, zr 79, zr 80, zr 85, zr 90, zi 0 0, zi 0 0, zi 0 0, zi 0 0])) rfl rfl rfl (fun w => w)
theorem y7c_81 : va_P D vwCl (zws kA zz0 f zp0 wI_X7) H → ∀ q, (yws yct kA (fun i => f (y7pi i)) ysh7 y7S)[81]? = some q → va_at D vwCl q H := y7_g (k := 81) (j := 73) (h := .inr (0, 5)) (x := .inr (.inl (0, 5, [(5, .inl (0, 0))], []))) rfl rfl rfl (fun w => w)
theorem y7c_82 : va_P D vwCl (zws kA zz0 f zp0 wI_X7) H → ∀ q, (yws yct kA (fun i => f (y7pi i)) ysh7 y7S)[82]? = some q → va_at D vwCl q H := y7_g (k := 82) (j := 74) (h := .inr (0, 7)) (x := .inr (.inl (0, 7, [(7, .inl (0, 0))], []))) rfl rfl rfl (fun w => w)
theorem y7c_83 : va_P D vwCl (zws kA zz0 f zp0 wI_X7) H → ∀ q, (yws yct kA (fun i => f (y7pi i)) ysh7 y7S)[83]? = some q → va_at D vwCl q H := y7_g (k := 83) (j := 75) (h := .inr (0, 7)) (x := .inr (.inl (0, 7, [(7, .inl (0, 0))], []))) rfl rfl rfl (fun w => w)
theorem y7c_84 : va_P D vwCl (zws kA zz0 f zp0 wI_X7) H → ∀ q, (yws yct kA (fun i => f (y7pi i)) ysh7 y7S)[84]? = some q → va_at D vwCl q H := y7_g (k := 84) (j := 76) (h := .inr (0, 7)) (x := .inr (.inl (0, 7, [(7, .inl (0, 0))], []))) rfl rfl rfl (fun w => w)
theorem y7c_85 : va_P D vwCl (zws kA zz0 f zp0 wI_X7) H → ∀ q, (yws yct kA (fun i => f (y7pi i)) ysh7 y7S)[85]? = some q → va_at D vwCl q H := y7_g (k := 85) (j := 77) (h := .inr (0, 7)) (x := .inr (.inl (0, 7, [(7, .inl (0, 0))], []))) rfl rfl rfl (fun w => w)
theorem y7c_86 : va_P D vwCl (zws kA zz0 f zp0 wI_X7) H → ∀ q, (yws yct kA (fun i => f (y7pi i)) ysh7 y7S)[86]? = some q → va_at D vwCl q H := y7_g (k := 86) (j := 78) (h := .inr (0, 7)) (x := .inr (.inl (0, 7, [(7, .inl (0, 0))], []))) rfl rfl rfl (fun w => w)
theorem y7c_87 : va_P D vwCl (zws kA zz0 f zp0 wI_X7) H → ∀ q, (yws yct kA (fun i => f (y7pi i)) ysh7 y7S)[87]? = some q → va_at D vwCl q H := y7_g (k := 87) (j := 79) (h := .inr (0, 35)) (x := .inr (.inl (0, 35, [(35, .inl (0, 0))], []))) rfl rfl rfl (fun w => w)
theorem y7c_88 : va_P D vwCl (zws kA zz0 f zp0 wI_X7) H → ∀ q, (yws yct kA (fun i => f (y7pi i)) ysh7 y7S)[88]? = some q → va_at D vwCl q H := y7_g (k := 88) (j := 80) (h := .inl 5) (x := .inl (5, [zi 0 0, zr 81, zr 82, zr 83, zr 84])) rfl rfl rfl (fun w => w)
theorem y7c_89 : va_P D vwCl (zws kA zz0 f zp0 wI_X7) H → ∀ q, (yws yct kA (fun i => f (y7pi i)) ysh7 y7S)[89]? = some q → va_at D vwCl q H := y7_g (k := 89) (j := 81) (h := .inr (0, 10)) (x := .inr (.inl (0, 10, [(10, .inl (0, 0))], []))) rfl rfl rfl (fun w => w)
theorem y7c_90 : va_P D vwCl (zws kA zz0 f zp0 wI_X7) H → ∀ q, (yws yct kA (fun i => f (y7pi i)) ysh7 y7S)[90]? = some q → va_at D vwCl q H := y7_g (k := 90) (j := 82) (h := .inr (0, 10)) (x := .inr (.inl (0, 10, [(10, .inl (0, 0))], []))) rfl rfl rfl (fun w => w)
theorem y7c_91 : va_P D vwCl (zws kA zz0 f zp0 wI_X7) H → ∀ q, (yws yct kA (fun i => f (y7pi i)) ysh7 y7S)[91]? = some q → va_at D vwCl q H := y7_g (k := 91) (j := 83) (h := .inr (0, 10)) (x := .inr (.inl (0, 10, [(10, .inl (0, 0))], []))) rfl rfl rfl (fun w => w)
theorem y7c_92 : va_P D vwCl (zws kA zz0 f zp0 wI_X7) H → ∀ q, (yws yct kA (fun i => f (y7pi i)) ysh7 y7S)[92]? = some q → va_at D vwCl q H := y7_g (k := 92) (j := 84) (h := .inr (0, 10)) (x := .inr (.inl (0, 10, [(10, .inl (0, 0))], []))) rfl rfl rfl (fun w => w)
theorem y7c_93 : va_P D vwCl (zws kA zz0 f zp0 wI_X7) H → ∀ q, (yws yct kA (fun i => f (y7pi i)) ysh7 y7S)[93]? = some q → va_at D vwCl q H := y7_g (k := 93) (j := 85) (h := .inl 5) (x := .inl (5, [zi 0 0, zr 86, zr 87, zr 88, zr 89])) rfl rfl rfl (fun w => w)
theorem y7c_94 : va_P D vwCl (zws kA zz0 f zp0 wI_X7) H → ∀ q, (yws yct kA (fun i => f (y7pi i)) ysh7 y7S)[94]? = some q → va_at D vwCl q H := y7_g (k := 94) (j := 86) (h := .inr (0, 10)) (x := .inr (.inl (0, 10, [(10, .inl (0, 0))], []))) rfl rfl rfl (fun w => w)
theorem y7c_95 : va_P D vwCl (zws kA zz0 f zp0 wI_X7) H → ∀ q, (yws yct kA (fun i => f (y7pi i)) ysh7 y7S)[95]? = some q → va_at D vwCl q H := y7_g (k := 95) (j := 87) (h := .inr (0, 10)) (x := .inr (.inl (0, 10, [(10, .inl (0, 0))], []))) rfl rfl rfl (fun w => w)
theorem y7c_96 : va_P D vwCl (zws kA zz0 f zp0 wI_X7) H → ∀ q, (yws yct kA (fun i => f (y7pi i)) ysh7 y7S)[96]? = some q → va_at D vwCl q H := y7_g (k := 96) (j := 88) (h := .inr (0, 10)) (x := .inr (.inl (0, 10, [(10, .inl (0, 0))], []))) rfl rfl rfl (fun w => w)
theorem y7c_97 : va_P D vwCl (zws kA zz0 f zp0 wI_X7) H → ∀ q, (yws yct kA (fun i => f (y7pi i)) ysh7 y7S)[97]? = some q → va_at D vwCl q H := y7_g (k := 97) (j := 89) (h := .inr (0, 10)) (x := .inr (.inl (0, 10, [(10, .inl (0, 0))], []))) rfl rfl rfl (fun w => w)
theorem y7c_98 : va_P D vwCl (zws kA zz0 f zp0 wI_X7) H → ∀ q, (yws yct kA (fun i => f (y7pi i)) ysh7 y7S)[98]? = some q → va_at D vwCl q H := y7_g (k := 98) (j := 90) (h := .inl 6) (x := .inl (6, [zi 0 0, zr 91, zr 92])) rfl rfl rfl (fun w => w)
theorem y7c_99 : va_P D vwCl (zws kA zz0 f zp0 wI_X7) H → ∀ q, (yws yct kA (fun i => f (y7pi i)) ysh7 y7S)[99]? = some q → va_at D vwCl q H := y7_g (k := 99) (j := 91) (h := .inr (0, 4)) (x := .inr (.inl (0, 4, [(4, .inl (0, 0))], []))) rfl rfl rfl (fun w => w)
theorem y7c_100 : va_P D vwCl (zws kA zz0 f zp0 wI_X7) H → ∀ q, (yws yct kA (fun i => f (y7pi i)) ysh7 y7S)[100]? = some q → va_at D vwCl q H := y7_g (k := 100) (j := 92) (h := .inr (0, 4)) (x := .inr (.inl (0, 4, [(4, .inl (0, 0))], []))) rfl rfl rfl (fun w => w)
theorem y7_P (h : va_P D vwCl (zws kA zz0 f zp0 wI_X7) H) : va_P D vwCl (yws yct kA (fun i => f (y7pi i)) ysh7 y7S) H := fun k q hk => by
  have hl : k < 101 := by
    have a := (List.getElem?_eq_some_iff.mp hk).1
    have b : (yws yct kA (fun i => f (y7pi i)) ysh7 y7S).length = 101 := by
      unfold yws
      rw [List.length_mapIdx]; rfl
    omega
  match k, hl with
  | 0, _ => exact y7c_0 h q hk
  | 1, _ => exact y7c_1 h q hk
  | 2, _ => exact y7c_2 h q hk
  | 3, _ => exact y7c_3 h q hk
  | 4, _ => exact y7c_4 h q hk
  | 5, _ => exact y7c_5 h q hk
  | 6, _ => exact y7c_6 h q hk
  | 7, _ => exact y7c_7 h q hk
  | 8, _ => exact y7c_8 h q hk
  | 9, _ => exact y7c_9 h q hk
  | 10, _ => exact y7c_10 h q hk
  | 11, _ => exact y7c_11 h q hk
  | 12, _ => exact y7c_12 h q hk
  | 13, _ => exact y7c_13 h q hk
  | 14, _ => exact y7c_14 h q hk
  | 15, _ => exact y7c_15 h q hk
  | 16, _ => exact y7c_16 h q hk
  | 17, _ => exact y7c_17 h q hk
  | 18, _ => exact y7c_18 h q hk
  | 19, _ => exact y7c_19 h q hk
  | 20, _ => exact y7c_20 h q hk
  | 21, _ => exact y7c_21 h q hk
  | 22, _ => exact y7c_22 h q hk
  | 23, _ => exact y7c_23 h q hk
  | 24, _ => exact y7c_24 h q hk
  | 25, _ => exact y7c_25 h q hk
  | 26, _ => exact y7c_26 h q hk
  | 27, _ => exact y7c_27 h q hk
  | 28, _ => exact y7c_28 h q hk
  | 29, _ => exact y7c_29 h q hk
  | 30, _ => exact y7c_30 h q hk
  | 31, _ => exact y7c_31 h q hk
  | 32, _ => exact y7c_32 h q hk
  | 33, _ => exact y7c_33 h q hk
  | 34, _ => exact y7c_34 h q hk
  | 35, _ => exact y7c_35 h q hk
  | 36, _ => exact y7c_36 h q hk
  | 37, _ => exact y7c_37 h q hk
  | 38, _ => exact y7c_38 h q hk
  | 39, _ => exact y7c_39 h q hk
  | 40, _ => exact y7c_40 h q hk
  | 41, _ => exact y7c_41 h q hk
  | 42, _ => exact y7c_42 h q hk
  | 43, _ => exact y7c_43 h q hk
  | 44, _ => exact y7c_44 h q hk
  | 45, _ => exact y7c_45 h q hk
  | 46, _ => exact y7c_46 h q hk
  | 47, _ => exact y7c_47 h q hk
  | 48, _ => exact y7c_48 h q hk
  | 49, _ => exact y7c_49 h q hk
  | 50, _ => exact y7c_50 h q hk
  | 51, _ => exact y7c_51 h q hk
  | 52, _ => exact y7c_52 h q hk
  | 53, _ => exact y7c_53 h q hk
  | 54, _ => exact y7c_54 h q hk
  | 55, _ => exact y7c_55 h q hk
  | 56, _ => exact y7c_56 h q hk
  | 57, _ => exact y7c_57 h q hk
  | 58, _ => exact y7c_58 h q hk
  | 59, _ => exact y7c_59 h q hk
  | 60, _ => exact y7c_60 h q hk
  | 61, _ => exact y7c_61 h q hk
  | 62, _ => exact y7c_62 h q hk
  | 63, _ => exact y7c_63 h q hk
  | 64, _ => exact y7c_64 h q hk
  | 65, _ => exact y7c_65 h q hk
  | 66, _ => exact y7c_66 h q hk
  | 67, _ => exact y7c_67 h q hk
  | 68, _ => exact y7c_68 h q hk
  | 69, _ => exact y7c_69 h q hk
  | 70, _ => exact y7c_70 h q hk
  | 71, _ => exact y7c_71 h q hk
  | 72, _ => exact y7c_72 h q hk
  | 73, _ => exact y7c_73 h q hk
  | 74, _ => exact y7c_74 h q hk
  | 75, _ => exact y7c_75 h q hk
  | 76, _ => exact y7c_76 h q hk
  | 77, _ => exact y7c_77 h q hk
  | 78, _ => exact y7c_78 h q hk
  | 79, _ => exact y7c_79 h q hk
  | 80, _ => exact y7c_80 h q hk
  | 81, _ => exact y7c_81 h q hk
  | 82, _ => exact y7c_82 h q hk
  | 83, _ => exact y7c_83 h q hk
  | 84, _ => exact y7c_84 h q hk
  | 85, _ => exact y7c_85 h q hk
  | 86, _ => exact y7c_86 h q hk
  | 87, _ => exact y7c_87 h q hk
  | 88, _ => exact y7c_88 h q hk
  | 89, _ => exact y7c_89 h q hk
  | 90, _ => exact y7c_90 h q hk
  | 91, _ => exact y7c_91 h q hk
  | 92, _ => exact y7c_92 h q hk
  | 93, _ => exact y7c_93 h q hk
  | 94, _ => exact y7c_94 h q hk
  | 95, _ => exact y7c_95 h q hk
  | 96, _ => exact y7c_96 h q hk
  | 97, _ => exact y7c_97 h q hk
  | 98, _ => exact y7c_98 h q hk
  | 99, _ => exact y7c_99 h q hk
  | 100, _ => exact y7c_100 h q hk
  | k + 101, h => omega
theorem y7_w : ∀ k : Fin 101, (wI_X7[k.val]?).map Prod.fst = some k.val := by decide +kernel
theorem y7_l : ∀ k : Fin 101, y7pi k.val < 101 := by decide +kernel
def y7q : List Nat := [0, 17, 18, 19, 20, 21, 22, 23, 24, 25, 26, 27, 28, 29, 30, 31, 32, 33, 34, 35, 36, 37, 38, 39, 40, 41, 42, 43, 44, 45, 46, 47, 48, 49, 50, 51, 52, 53, 54, 55, 56, 57, 58, 1, 2, 3, 4, 5, 6, 7, 8, 59, 60, 61, 62, 63, 64, 65, 66, 67, 68, 69, 70, 71, 72, 73, 74, 75, 76, 77, 78, 79, 80, 81, 82, 83, 84, 85, 86, 87, 88, 89, 90, 91, 92, 93, 94, 95, 96, 97, 98, 99, 100, 9, 10, 11, 12, 13, 14, 15, 16]
theorem y7_jq : ∀ i : Fin 101, y7q.getD (y7pi i.val) 0 = i.val := by decide +kernel
theorem y7_j (i j : Fin 101) (h : y7pi i.val = y7pi j.val) : i = j := by
  have a := y7_jq i
  have b := y7_jq j
  rw [h] at a
  exact Fin.ext (a.symm.trans b)
theorem y7_ad {k : Nat} (hk : k < 101) : ∃ e, (zws kA zz0 f zp0 wI_X7)[y7pi k]? = some (f (y7pi k), e) := by
  have q := y7_w ⟨y7pi k, y7_l ⟨k, hk⟩⟩
  dsimp only at q
  cases e : wI_X7[y7pi k]? with
  | none => rw [e] at q; cases q
  | some x =>
    rw [e] at q
    have q : x.1 = y7pi k := Option.some.inj q
    have w := zws_get kA zz0 f zp0 (w := wI_X7) (q := y7pi k) (i := x.1) (x := x.2) e
    rw [q] at w
    exact ⟨_, w⟩
theorem y7_D (h : va_D A (zws kA zz0 f zp0 wI_X7)) : va_D A (yws yct kA (fun i => f (y7pi i)) ysh7 y7S) := by
  have hl : ∀ {k : Nat} {q : Nat × va_E}, (yws yct kA (fun i => f (y7pi i)) ysh7 y7S)[k]? = some q → k < 101 ∧ q.1 = f (y7pi k) := fun {k q} hk => by
    have a := (List.getElem?_eq_some_iff.mp hk).1
    have b : (yws yct kA (fun i => f (y7pi i)) ysh7 y7S).length = ysh7.length := by
      unfold yws
      rw [List.length_mapIdx]
    have c : k < ysh7.length := by omega
    have d := yws_get (ct := yct) (kA := kA) (ad := fun i => f (y7pi i)) (σ := y7S) (List.getElem?_eq_getElem c)
    rw [d] at hk
    have hk := Option.some.inj hk
    exact ⟨c, by rw [← hk]⟩
  refine ⟨fun i j p q hi hj e => ?_, fun k q hk => ?_⟩
  · obtain ⟨i1, i2⟩ := hl hi
    obtain ⟨j1, j2⟩ := hl hj
    obtain ⟨x, hx⟩ := y7_ad (kA := kA) (f := f) i1
    obtain ⟨y, hy⟩ := y7_ad (kA := kA) (f := f) j1
    have w := h.1 _ _ _ _ hx hy (by rw [← i2, ← j2]; exact e)
    have z := y7_j ⟨i, i1⟩ ⟨j, j1⟩ w
    exact congrArg Fin.val z
  · obtain ⟨i1, i2⟩ := hl hk
    obtain ⟨x, hx⟩ := y7_ad (kA := kA) (f := f) i1
    rw [i2]
    exact h.2 _ _ hx
end Y7C
