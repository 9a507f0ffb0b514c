section XF
variable {call : xm_C} {nL mc ms : Nat} {ret : Option FieldType} {Q : xm_Q} {f : Nat} {lv : xm_L} {st : List Value} {G : xm_H} {E : xm_R} {kc ks : Nat}
theorem xy_0_1 {j : Nat} : xm_run call xm_c0 nL mc ms ret Q (f + 1) (xm_drop 1 xm_c0) lv (.ref j :: st) G E kc ks = xm_run call xm_c0 nL mc ms ret Q f (xm_drop 2 xm_c0) lv (.ref j :: .ref j :: st) G E kc ks := by
  rfl
theorem xy_0_5 {j : Nat} : xm_run call xm_c0 nL mc ms ret Q (f + 1) (xm_drop 5 xm_c0) lv (.ref j :: st) G E kc ks = xm_run call xm_c0 nL mc ms ret Q f (xm_drop 6 xm_c0) lv (.ref j :: .ref j :: st) G E kc ks := by
  rfl
theorem xy_0_9 {x : Int32} : xm_run call xm_c0 4 mc ms ret Q (f + 1) (xm_drop 9 xm_c0) lv (.int x :: st) G E kc ks = xm_run call xm_c0 4 mc ms ret Q f (xm_drop 10 xm_c0) (xm_set1 lv 3 (.int x)) st G E kc ks := by
  rfl
theorem xy_0_10 {x : Int32} (h : xm_get lv 3 = some (.int x)) : xm_run call xm_c0 nL mc ms ret Q (f + 1) (xm_drop 10 xm_c0) lv st G E kc ks = xm_run call xm_c0 nL mc ms ret Q f (xm_drop 11 xm_c0) lv (.int x :: st) G E kc ks := by
  rw [xz_0_10, h]; rfl
theorem xy_0_11 {j : Nat} (h : xm_get lv 0 = some (.ref j)) : xm_run call xm_c0 nL mc ms ret Q (f + 1) (xm_drop 11 xm_c0) lv st G E kc ks = xm_run call xm_c0 nL mc ms ret Q f (xm_drop 12 xm_c0) lv (.ref j :: st) G E kc ks := by
  rw [xz_0_11, h]; rfl
theorem xy_0_14 {x y : Int32} : xm_run call xm_c0 nL mc ms ret Q (f + 1) (xm_drop 14 xm_c0) lv (.int y :: .int x :: st) G E kc ks = xm_run call xm_c0 nL mc ms ret Q f (xm_drop 15 xm_c0) lv (.int (x - y) :: st) G E kc ks := by
  rw [xz_0_14, xk_sub]
theorem xy_0_15 {x y : Int32} : xm_run call xm_c0 nL mc ms ret Q (f + 1) (xm_drop 15 xm_c0) lv (.int y :: .int x :: st) G E kc ks = (bif decide (y.toInt < x.toInt) then xm_run call xm_c0 nL mc ms ret Q f (xm_drop 684 xm_c0) lv st G E kc ks else xm_run call xm_c0 nL mc ms ret Q f (xm_drop 16 xm_c0) lv st G E kc ks) := by
  rw [xz_0_15]; show xm_cmpI E (.int x) (.int y) _ = _; rw [xc_int, xk_gt]
theorem xy_0_16 {j : Nat} (h : xm_get lv 0 = some (.ref j)) : xm_run call xm_c0 nL mc ms ret Q (f + 1) (xm_drop 16 xm_c0) lv st G E kc ks = xm_run call xm_c0 nL mc ms ret Q f (xm_drop 17 xm_c0) lv (.ref j :: st) G E kc ks := by
  rw [xz_0_16, h]; rfl
theorem xy_0_17 {x : Int32} (h : xm_get lv 3 = some (.int x)) : xm_run call xm_c0 nL mc ms ret Q (f + 1) (xm_drop 17 xm_c0) lv st G E kc ks = xm_run call xm_c0 nL mc ms ret Q f (xm_drop 18 xm_c0) lv (.int x :: st) G E kc ks := by
  rw [xz_0_17, h]; rfl
theorem xy_0_20 {x y : Int32} : xm_run call xm_c0 nL mc ms ret Q (f + 1) (xm_drop 20 xm_c0) lv (.int y :: .int x :: st) G E kc ks = xm_run call xm_c0 nL mc ms ret Q f (xm_drop 21 xm_c0) lv (.int (x &&& y) :: st) G E kc ks := by
  rw [xz_0_20, xk_and]
theorem xy_0_22 {j : Nat} (h : xm_get lv 1 = some (.ref j)) : xm_run call xm_c0 nL mc ms ret Q (f + 1) (xm_drop 22 xm_c0) lv st G E kc ks = xm_run call xm_c0 nL mc ms ret Q f (xm_drop 23 xm_c0) lv (.ref j :: st) G E kc ks := by
  rw [xz_0_22, h]; rfl
theorem xy_0_23 {j : Nat} (h : xm_get lv 0 = some (.ref j)) : xm_run call xm_c0 nL mc ms ret Q (f + 1) (xm_drop 23 xm_c0) lv st G E kc ks = xm_run call xm_c0 nL mc ms ret Q f (xm_drop 24 xm_c0) lv (.ref j :: st) G E kc ks := by
  rw [xz_0_23, h]; rfl
theorem xy_0_24 {x : Int32} (h : xm_get lv 3 = some (.int x)) : xm_run call xm_c0 nL mc ms ret Q (f + 1) (xm_drop 24 xm_c0) lv st G E kc ks = xm_run call xm_c0 nL mc ms ret Q f (xm_drop 25 xm_c0) lv (.int x :: st) G E kc ks := by
  rw [xz_0_24, h]; rfl
theorem xy_0_26 {x y : Int32} : xm_run call xm_c0 nL mc ms ret Q (f + 1) (xm_drop 26 xm_c0) lv (.int y :: .int x :: st) G E kc ks = xm_run call xm_c0 nL mc ms ret Q f (xm_drop 27 xm_c0) lv (.int (x + y) :: st) G E kc ks := by
  rw [xz_0_26, xk_add]
theorem xy_0_28 {j : Nat} (h : xm_get lv 0 = some (.ref j)) : xm_run call xm_c0 nL mc ms ret Q (f + 1) (xm_drop 28 xm_c0) lv st G E kc ks = xm_run call xm_c0 nL mc ms ret Q f (xm_drop 29 xm_c0) lv (.ref j :: st) G E kc ks := by
  rw [xz_0_28, h]; rfl
theorem xy_0_29 {x : Int32} (h : xm_get lv 3 = some (.int x)) : xm_run call xm_c0 nL mc ms ret Q (f + 1) (xm_drop 29 xm_c0) lv st G E kc ks = xm_run call xm_c0 nL mc ms ret Q f (xm_drop 30 xm_c0) lv (.int x :: st) G E kc ks := by
  rw [xz_0_29, h]; rfl
theorem xy_0_31 {x y : Int32} : xm_run call xm_c0 nL mc ms ret Q (f + 1) (xm_drop 31 xm_c0) lv (.int y :: .int x :: st) G E kc ks = xm_run call xm_c0 nL mc ms ret Q f (xm_drop 32 xm_c0) lv (.int (x + y) :: st) G E kc ks := by
  rw [xz_0_31, xk_add]
theorem xy_0_33 {j : Nat} (h : xm_get lv 0 = some (.ref j)) : xm_run call xm_c0 nL mc ms ret Q (f + 1) (xm_drop 33 xm_c0) lv st G E kc ks = xm_run call xm_c0 nL mc ms ret Q f (xm_drop 34 xm_c0) lv (.ref j :: st) G E kc ks := by
  rw [xz_0_33, h]; rfl
theorem xy_0_34 {x : Int32} (h : xm_get lv 3 = some (.int x)) : xm_run call xm_c0 nL mc ms ret Q (f + 1) (xm_drop 34 xm_c0) lv st G E kc ks = xm_run call xm_c0 nL mc ms ret Q f (xm_drop 35 xm_c0) lv (.int x :: st) G E kc ks := by
  rw [xz_0_34, h]; rfl
theorem xy_0_36 {x y : Int32} : xm_run call xm_c0 nL mc ms ret Q (f + 1) (xm_drop 36 xm_c0) lv (.int y :: .int x :: st) G E kc ks = xm_run call xm_c0 nL mc ms ret Q f (xm_drop 37 xm_c0) lv (.int (x + y) :: st) G E kc ks := by
  rw [xz_0_36, xk_add]
theorem xy_0_38 {j : Nat} (h : xm_get lv 0 = some (.ref j)) : xm_run call xm_c0 nL mc ms ret Q (f + 1) (xm_drop 38 xm_c0) lv st G E kc ks = xm_run call xm_c0 nL mc ms ret Q f (xm_drop 39 xm_c0) lv (.ref j :: st) G E kc ks := by
  rw [xz_0_38, h]; rfl
theorem xy_0_39 {x : Int32} (h : xm_get lv 3 = some (.int x)) : xm_run call xm_c0 nL mc ms ret Q (f + 1) (xm_drop 39 xm_c0) lv st G E kc ks = xm_run call xm_c0 nL mc ms ret Q f (xm_drop 40 xm_c0) lv (.int x :: st) G E kc ks := by
  rw [xz_0_39, h]; rfl
theorem xy_0_41 {x y : Int32} : xm_run call xm_c0 nL mc ms ret Q (f + 1) (xm_drop 41 xm_c0) lv (.int y :: .int x :: st) G E kc ks = xm_run call xm_c0 nL mc ms ret Q f (xm_drop 42 xm_c0) lv (.int (x + y) :: st) G E kc ks := by
  rw [xz_0_41, xk_add]
theorem xy_0_43 {j : Nat} (h : xm_get lv 0 = some (.ref j)) : xm_run call xm_c0 nL mc ms ret Q (f + 1) (xm_drop 43 xm_c0) lv st G E kc ks = xm_run call xm_c0 nL mc ms ret Q f (xm_drop 44 xm_c0) lv (.ref j :: st) G E kc ks := by
  rw [xz_0_43, h]; rfl
theorem xy_0_44 {x : Int32} (h : xm_get lv 3 = some (.int x)) : xm_run call xm_c0 nL mc ms ret Q (f + 1) (xm_drop 44 xm_c0) lv st G E kc ks = xm_run call xm_c0 nL mc ms ret Q f (xm_drop 45 xm_c0) lv (.int x :: st) G E kc ks := by
  rw [xz_0_44, h]; rfl
theorem xy_0_46 {x y : Int32} : xm_run call xm_c0 nL mc ms ret Q (f + 1) (xm_drop 46 xm_c0) lv (.int y :: .int x :: st) G E kc ks = xm_run call xm_c0 nL mc ms ret Q f (xm_drop 47 xm_c0) lv (.int (x + y) :: st) G E kc ks := by
  rw [xz_0_46, xk_add]
theorem xy_0_48  : xm_run call xm_c0 nL mc ms ret Q (f + 1) (xm_drop 48 xm_c0) lv st G E kc ks = xm_call call mc ms 88 0 st G E kc ks (fun st G E kc ks => xm_run call xm_c0 nL mc ms ret Q f (xm_drop 49 xm_c0) lv st G E kc ks) := by
  rw [xz_0_48, show (Nat.beq 88 1006 || Nat.beq 88 1007) = false from rfl, cond_false]
theorem xy_0_49 {x : Int32} : xm_run call xm_c0 nL mc ms ret Q (f + 1) (xm_drop 49 xm_c0) lv (.int x :: st) G E kc ks = xm_run call xm_c0 nL mc ms ret Q f (xm_drop 50 xm_c0) lv st G E kc ks := by
  rfl
theorem xy_0_50 {j : Nat} (h : xm_get lv 2 = some (.ref j)) : xm_run call xm_c0 nL mc ms ret Q (f + 1) (xm_drop 50 xm_c0) lv st G E kc ks = xm_run call xm_c0 nL mc ms ret Q f (xm_drop 51 xm_c0) lv (.ref j :: st) G E kc ks := by
  rw [xz_0_50, h]; rfl
theorem xy_0_51 {j : Nat} (h : xm_get lv 0 = some (.ref j)) : xm_run call xm_c0 nL mc ms ret Q (f + 1) (xm_drop 51 xm_c0) lv st G E kc ks = xm_run call xm_c0 nL mc ms ret Q f (xm_drop 52 xm_c0) lv (.ref j :: st) G E kc ks := by
  rw [xz_0_51, h]; rfl
theorem xy_0_52 {x : Int32} (h : xm_get lv 3 = some (.int x)) : xm_run call xm_c0 nL mc ms ret Q (f + 1) (xm_drop 52 xm_c0) lv st G E kc ks = xm_run call xm_c0 nL mc ms ret Q f (xm_drop 53 xm_c0) lv (.int x :: st) G E kc ks := by
  rw [xz_0_52, h]; rfl
theorem xy_0_54 {x y : Int32} : xm_run call xm_c0 nL mc ms ret Q (f + 1) (xm_drop 54 xm_c0) lv (.int y :: .int x :: st) G E kc ks = xm_run call xm_c0 nL mc ms ret Q f (xm_drop 55 xm_c0) lv (.int (x + y) :: st) G E kc ks := by
  rw [xz_0_54, xk_add]
theorem xy_0_56 {j : Nat} (h : xm_get lv 0 = some (.ref j)) : xm_run call xm_c0 nL mc ms ret Q (f + 1) (xm_drop 56 xm_c0) lv st G E kc ks = xm_run call xm_c0 nL mc ms ret Q f (xm_drop 57 xm_c0) lv (.ref j :: st) G E kc ks := by
  rw [xz_0_56, h]; rfl
theorem xy_0_57 {x : Int32} (h : xm_get lv 3 = some (.int x)) : xm_run call xm_c0 nL mc ms ret Q (f + 1) (xm_drop 57 xm_c0) lv st G E kc ks = xm_run call xm_c0 nL mc ms ret Q f (xm_drop 58 xm_c0) lv (.int x :: st) G E kc ks := by
  rw [xz_0_57, h]; rfl
theorem xy_0_59 {x y : Int32} : xm_run call xm_c0 nL mc ms ret Q (f + 1) (xm_drop 59 xm_c0) lv (.int y :: .int x :: st) G E kc ks = xm_run call xm_c0 nL mc ms ret Q f (xm_drop 60 xm_c0) lv (.int (x + y) :: st) G E kc ks := by
  rw [xz_0_59, xk_add]
theorem xy_0_61 {j : Nat} (h : xm_get lv 0 = some (.ref j)) : xm_run call xm_c0 nL mc ms ret Q (f + 1) (xm_drop 61 xm_c0) lv st G E kc ks = xm_run call xm_c0 nL mc ms ret Q f (xm_drop 62 xm_c0) lv (.ref j :: st) G E kc ks := by
  rw [xz_0_61, h]; rfl
theorem xy_0_62 {x : Int32} (h : xm_get lv 3 = some (.int x)) : xm_run call xm_c0 nL mc ms ret Q (f + 1) (xm_drop 62 xm_c0) lv st G E kc ks = xm_run call xm_c0 nL mc ms ret Q f (xm_drop 63 xm_c0) lv (.int x :: st) G E kc ks := by
  rw [xz_0_62, h]; rfl
theorem xy_0_64 {x y : Int32} : xm_run call xm_c0 nL mc ms ret Q (f + 1) (xm_drop 64 xm_c0) lv (.int y :: .int x :: st) G E kc ks = xm_run call xm_c0 nL mc ms ret Q f (xm_drop 65 xm_c0) lv (.int (x + y) :: st) G E kc ks := by
  rw [xz_0_64, xk_add]
theorem xy_0_66 {j : Nat} (h : xm_get lv 0 = some (.ref j)) : xm_run call xm_c0 nL mc ms ret Q (f + 1) (xm_drop 66 xm_c0) lv st G E kc ks = xm_run call xm_c0 nL mc ms ret Q f (xm_drop 67 xm_c0) lv (.ref j :: st) G E kc ks := by
  rw [xz_0_66, h]; rfl
theorem xy_0_67 {x : Int32} (h : xm_get lv 3 = some (.int x)) : xm_run call xm_c0 nL mc ms ret Q (f + 1) (xm_drop 67 xm_c0) lv st G E kc ks = xm_run call xm_c0 nL mc ms ret Q f (xm_drop 68 xm_c0) lv (.int x :: st) G E kc ks := by
  rw [xz_0_67, h]; rfl
theorem xy_0_69 {x y : Int32} : xm_run call xm_c0 nL mc ms ret Q (f + 1) (xm_drop 69 xm_c0) lv (.int y :: .int x :: st) G E kc ks = xm_run call xm_c0 nL mc ms ret Q f (xm_drop 70 xm_c0) lv (.int (x + y) :: st) G E kc ks := by
  rw [xz_0_69, xk_add]
theorem xy_0_71 {j : Nat} (h : xm_get lv 0 = some (.ref j)) : xm_run call xm_c0 nL mc ms ret Q (f + 1) (xm_drop 71 xm_c0) lv st G E kc ks = xm_run call xm_c0 nL mc ms ret Q f (xm_drop 72 xm_c0) lv (.ref j :: st) G E kc ks := by
  rw [xz_0_71, h]; rfl
theorem xy_0_72 {x : Int32} (h : xm_get lv 3 = some (.int x)) : xm_run call xm_c0 nL mc ms ret Q (f + 1) (xm_drop 72 xm_c0) lv st G E kc ks = xm_run call xm_c0 nL mc ms ret Q f (xm_drop 73 xm_c0) lv (.int x :: st) G E kc ks := by
  rw [xz_0_72, h]; rfl
theorem xy_0_74 {x y : Int32} : xm_run call xm_c0 nL mc ms ret Q (f + 1) (xm_drop 74 xm_c0) lv (.int y :: .int x :: st) G E kc ks = xm_run call xm_c0 nL mc ms ret Q f (xm_drop 75 xm_c0) lv (.int (x + y) :: st) G E kc ks := by
  rw [xz_0_74, xk_add]
theorem xy_0_76  : xm_run call xm_c0 nL mc ms ret Q (f + 1) (xm_drop 76 xm_c0) lv st G E kc ks = xm_call call mc ms 129 0 st G E kc ks (fun st G E kc ks => xm_run call xm_c0 nL mc ms ret Q f (xm_drop 77 xm_c0) lv st G E kc ks) := by
  rw [xz_0_76, show (Nat.beq 129 1006 || Nat.beq 129 1007) = false from rfl, cond_false]
theorem xy_0_77 {x : Int32} : xm_run call xm_c0 nL mc ms ret Q (f + 1) (xm_drop 77 xm_c0) lv (.int x :: st) G E kc ks = xm_run call xm_c0 nL mc ms ret Q f (xm_drop 78 xm_c0) lv st G E kc ks := by
  rfl
theorem xy_0_78  : xm_run call xm_c0 nL mc ms ret Q (f + 1) (xm_drop 78 xm_c0) lv st G E kc ks = xm_run call xm_c0 nL mc ms ret Q f (xm_drop 682 xm_c0) lv st G E kc ks := by
  rfl
theorem xy_0_79 {j : Nat} (h : xm_get lv 1 = some (.ref j)) : xm_run call xm_c0 nL mc ms ret Q (f + 1) (xm_drop 79 xm_c0) lv st G E kc ks = xm_run call xm_c0 nL mc ms ret Q f (xm_drop 80 xm_c0) lv (.ref j :: st) G E kc ks := by
  rw [xz_0_79, h]; rfl
theorem xy_0_80 {j : Nat} (h : xm_get lv 0 = some (.ref j)) : xm_run call xm_c0 nL mc ms ret Q (f + 1) (xm_drop 80 xm_c0) lv st G E kc ks = xm_run call xm_c0 nL mc ms ret Q f (xm_drop 81 xm_c0) lv (.ref j :: st) G E kc ks := by
  rw [xz_0_80, h]; rfl
theorem xy_0_81 {x : Int32} (h : xm_get lv 3 = some (.int x)) : xm_run call xm_c0 nL mc ms ret Q (f + 1) (xm_drop 81 xm_c0) lv st G E kc ks = xm_run call xm_c0 nL mc ms ret Q f (xm_drop 82 xm_c0) lv (.int x :: st) G E kc ks := by
  rw [xz_0_81, h]; rfl
theorem xy_0_83 {x y : Int32} : xm_run call xm_c0 nL mc ms ret Q (f + 1) (xm_drop 83 xm_c0) lv (.int y :: .int x :: st) G E kc ks = xm_run call xm_c0 nL mc ms ret Q f (xm_drop 84 xm_c0) lv (.int (x + y) :: st) G E kc ks := by
  rw [xz_0_83, xk_add]
theorem xy_0_85  : xm_run call xm_c0 nL mc ms ret Q (f + 1) (xm_drop 85 xm_c0) lv st G E kc ks = xm_call call mc ms 89 0 st G E kc ks (fun st G E kc ks => xm_run call xm_c0 nL mc ms ret Q f (xm_drop 86 xm_c0) lv st G E kc ks) := by
  rw [xz_0_85, show (Nat.beq 89 1006 || Nat.beq 89 1007) = false from rfl, cond_false]
theorem xy_0_86 {x : Int32} : xm_run call xm_c0 nL mc ms ret Q (f + 1) (xm_drop 86 xm_c0) lv (.int x :: st) G E kc ks = xm_run call xm_c0 nL mc ms ret Q f (xm_drop 87 xm_c0) lv st G E kc ks := by
  rfl
theorem xy_0_87 {j : Nat} (h : xm_get lv 2 = some (.ref j)) : xm_run call xm_c0 nL mc ms ret Q (f + 1) (xm_drop 87 xm_c0) lv st G E kc ks = xm_run call xm_c0 nL mc ms ret Q f (xm_drop 88 xm_c0) lv (.ref j :: st) G E kc ks := by
  rw [xz_0_87, h]; rfl
theorem xy_0_88 {j : Nat} (h : xm_get lv 0 = some (.ref j)) : xm_run call xm_c0 nL mc ms ret Q (f + 1) (xm_drop 88 xm_c0) lv st G E kc ks = xm_run call xm_c0 nL mc ms ret Q f (xm_drop 89 xm_c0) lv (.ref j :: st) G E kc ks := by
  rw [xz_0_88, h]; rfl
theorem xy_0_89 {x : Int32} (h : xm_get lv 3 = some (.int x)) : xm_run call xm_c0 nL mc ms ret Q (f + 1) (xm_drop 89 xm_c0) lv st G E kc ks = xm_run call xm_c0 nL mc ms ret Q f (xm_drop 90 xm_c0) lv (.int x :: st) G E kc ks := by
  rw [xz_0_89, h]; rfl
theorem xy_0_91 {x y : Int32} : xm_run call xm_c0 nL mc ms ret Q (f + 1) (xm_drop 91 xm_c0) lv (.int y :: .int x :: st) G E kc ks = xm_run call xm_c0 nL mc ms ret Q f (xm_drop 92 xm_c0) lv (.int (x + y) :: st) G E kc ks := by
  rw [xz_0_91, xk_add]
theorem xy_0_93  : xm_run call xm_c0 nL mc ms ret Q (f + 1) (xm_drop 93 xm_c0) lv st G E kc ks = xm_call call mc ms 130 0 st G E kc ks (fun st G E kc ks => xm_run call xm_c0 nL mc ms ret Q f (xm_drop 94 xm_c0) lv st G E kc ks) := by
  rw [xz_0_93, show (Nat.beq 130 1006 || Nat.beq 130 1007) = false from rfl, cond_false]
theorem xy_0_94 {x : Int32} : xm_run call xm_c0 nL mc ms ret Q (f + 1) (xm_drop 94 xm_c0) lv (.int x :: st) G E kc ks = xm_run call xm_c0 nL mc ms ret Q f (xm_drop 95 xm_c0) lv st G E kc ks := by
  rfl
theorem xy_0_95  : xm_run call xm_c0 nL mc ms ret Q (f + 1) (xm_drop 95 xm_c0) lv st G E kc ks = xm_run call xm_c0 nL mc ms ret Q f (xm_drop 682 xm_c0) lv st G E kc ks := by
  rfl
theorem xy_0_96 {j : Nat} (h : xm_get lv 1 = some (.ref j)) : xm_run call xm_c0 nL mc ms ret Q (f + 1) (xm_drop 96 xm_c0) lv st G E kc ks = xm_run call xm_c0 nL mc ms ret Q f (xm_drop 97 xm_c0) lv (.ref j :: st) G E kc ks := by
  rw [xz_0_96, h]; rfl
theorem xy_0_97  : xm_run call xm_c0 nL mc ms ret Q (f + 1) (xm_drop 97 xm_c0) lv st G E kc ks = xm_call call mc ms 90 0 st G E kc ks (fun st G E kc ks => xm_run call xm_c0 nL mc ms ret Q f (xm_drop 98 xm_c0) lv st G E kc ks) := by
  rw [xz_0_97, show (Nat.beq 90 1006 || Nat.beq 90 1007) = false from rfl, cond_false]
theorem xy_0_98 {x : Int32} : xm_run call xm_c0 nL mc ms ret Q (f + 1) (xm_drop 98 xm_c0) lv (.int x :: st) G E kc ks = xm_run call xm_c0 nL mc ms ret Q f (xm_drop 99 xm_c0) lv st G E kc ks := by
  rfl
theorem xy_0_99 {j : Nat} (h : xm_get lv 2 = some (.ref j)) : xm_run call xm_c0 nL mc ms ret Q (f + 1) (xm_drop 99 xm_c0) lv st G E kc ks = xm_run call xm_c0 nL mc ms ret Q f (xm_drop 100 xm_c0) lv (.ref j :: st) G E kc ks := by
  rw [xz_0_99, h]; rfl
theorem xy_0_100  : xm_run call xm_c0 nL mc ms ret Q (f + 1) (xm_drop 100 xm_c0) lv st G E kc ks = xm_call call mc ms 169 0 st G E kc ks (fun st G E kc ks => xm_run call xm_c0 nL mc ms ret Q f (xm_drop 101 xm_c0) lv st G E kc ks) := by
  rw [xz_0_100, show (Nat.beq 169 1006 || Nat.beq 169 1007) = false from rfl, cond_false]
theorem xy_0_101 {x : Int32} : xm_run call xm_c0 nL mc ms ret Q (f + 1) (xm_drop 101 xm_c0) lv (.int x :: st) G E kc ks = xm_run call xm_c0 nL mc ms ret Q f (xm_drop 102 xm_c0) lv st G E kc ks := by
  rfl
theorem xy_0_102  : xm_run call xm_c0 nL mc ms ret Q (f + 1) (xm_drop 102 xm_c0) lv st G E kc ks = xm_run call xm_c0 nL mc ms ret Q f (xm_drop 682 xm_c0) lv st G E kc ks := by
  rfl
theorem xy_0_103 {j : Nat} (h : xm_get lv 1 = some (.ref j)) : xm_run call xm_c0 nL mc ms ret Q (f + 1) (xm_drop 103 xm_c0) lv st G E kc ks = xm_run call xm_c0 nL mc ms ret Q f (xm_drop 104 xm_c0) lv (.ref j :: st) G E kc ks := by
  rw [xz_0_103, h]; rfl
theorem xy_0_104  : xm_run call xm_c0 nL mc ms ret Q (f + 1) (xm_drop 104 xm_c0) lv st G E kc ks = xm_call call mc ms 91 0 st G E kc ks (fun st G E kc ks => xm_run call xm_c0 nL mc ms ret Q f (xm_drop 105 xm_c0) lv st G E kc ks) := by
  rw [xz_0_104, show (Nat.beq 91 1006 || Nat.beq 91 1007) = false from rfl, cond_false]
theorem xy_0_105 {x : Int32} : xm_run call xm_c0 nL mc ms ret Q (f + 1) (xm_drop 105 xm_c0) lv (.int x :: st) G E kc ks = xm_run call xm_c0 nL mc ms ret Q f (xm_drop 106 xm_c0) lv st G E kc ks := by
  rfl
theorem xy_0_106 {j : Nat} (h : xm_get lv 2 = some (.ref j)) : xm_run call xm_c0 nL mc ms ret Q (f + 1) (xm_drop 106 xm_c0) lv st G E kc ks = xm_run call xm_c0 nL mc ms ret Q f (xm_drop 107 xm_c0) lv (.ref j :: st) G E kc ks := by
  rw [xz_0_106, h]; rfl
theorem xy_0_107  : xm_run call xm_c0 nL mc ms ret Q (f + 1) (xm_drop 107 xm_c0) lv st G E kc ks = xm_call call mc ms 168 0 st G E kc ks (fun st G E kc ks => xm_run call xm_c0 nL mc ms ret Q f (xm_drop 108 xm_c0) lv st G E kc ks) := by
  rw [xz_0_107, show (Nat.beq 168 1006 || Nat.beq 168 1007) = false from rfl, cond_false]
theorem xy_0_108 {x : Int32} : xm_run call xm_c0 nL mc ms ret Q (f + 1) (xm_drop 108 xm_c0) lv (.int x :: st) G E kc ks = xm_run call xm_c0 nL mc ms ret Q f (xm_drop 109 xm_c0) lv st G E kc ks := by
  rfl
theorem xy_0_109  : xm_run call xm_c0 nL mc ms ret Q (f + 1) (xm_drop 109 xm_c0) lv st G E kc ks = xm_run call xm_c0 nL mc ms ret Q f (xm_drop 682 xm_c0) lv st G E kc ks := by
  rfl
theorem xy_0_110 {j : Nat} (h : xm_get lv 1 = some (.ref j)) : xm_run call xm_c0 nL mc ms ret Q (f + 1) (xm_drop 110 xm_c0) lv st G E kc ks = xm_run call xm_c0 nL mc ms ret Q f (xm_drop 111 xm_c0) lv (.ref j :: st) G E kc ks := by
  rw [xz_0_110, h]; rfl
theorem xy_0_111 {j : Nat} (h : xm_get lv 0 = some (.ref j)) : xm_run call xm_c0 nL mc ms ret Q (f + 1) (xm_drop 111 xm_c0) lv st G E kc ks = xm_run call xm_c0 nL mc ms ret Q f (xm_drop 112 xm_c0) lv (.ref j :: st) G E kc ks := by
  rw [xz_0_111, h]; rfl
theorem xy_0_112 {x : Int32} (h : xm_get lv 3 = some (.int x)) : xm_run call xm_c0 nL mc ms ret Q (f + 1) (xm_drop 112 xm_c0) lv st G E kc ks = xm_run call xm_c0 nL mc ms ret Q f (xm_drop 113 xm_c0) lv (.int x :: st) G E kc ks := by
  rw [xz_0_112, h]; rfl
theorem xy_0_114 {x y : Int32} : xm_run call xm_c0 nL mc ms ret Q (f + 1) (xm_drop 114 xm_c0) lv (.int y :: .int x :: st) G E kc ks = xm_run call xm_c0 nL mc ms ret Q f (xm_drop 115 xm_c0) lv (.int (x + y) :: st) G E kc ks := by
  rw [xz_0_114, xk_add]
theorem xy_0_116  : xm_run call xm_c0 nL mc ms ret Q (f + 1) (xm_drop 116 xm_c0) lv st G E kc ks = xm_call call mc ms 92 0 st G E kc ks (fun st G E kc ks => xm_run call xm_c0 nL mc ms ret Q f (xm_drop 117 xm_c0) lv st G E kc ks) := by
  rw [xz_0_116, show (Nat.beq 92 1006 || Nat.beq 92 1007) = false from rfl, cond_false]
theorem xy_0_117 {x : Int32} : xm_run call xm_c0 nL mc ms ret Q (f + 1) (xm_drop 117 xm_c0) lv (.int x :: st) G E kc ks = xm_run call xm_c0 nL mc ms ret Q f (xm_drop 118 xm_c0) lv st G E kc ks := by
  rfl
theorem xy_0_118 {j : Nat} (h : xm_get lv 2 = some (.ref j)) : xm_run call xm_c0 nL mc ms ret Q (f + 1) (xm_drop 118 xm_c0) lv st G E kc ks = xm_run call xm_c0 nL mc ms ret Q f (xm_drop 119 xm_c0) lv (.ref j :: st) G E kc ks := by
  rw [xz_0_118, h]; rfl
theorem xy_0_119 {j : Nat} (h : xm_get lv 0 = some (.ref j)) : xm_run call xm_c0 nL mc ms ret Q (f + 1) (xm_drop 119 xm_c0) lv st G E kc ks = xm_run call xm_c0 nL mc ms ret Q f (xm_drop 120 xm_c0) lv (.ref j :: st) G E kc ks := by
  rw [xz_0_119, h]; rfl
theorem xy_0_120 {x : Int32} (h : xm_get lv 3 = some (.int x)) : xm_run call xm_c0 nL mc ms ret Q (f + 1) (xm_drop 120 xm_c0) lv st G E kc ks = xm_run call xm_c0 nL mc ms ret Q f (xm_drop 121 xm_c0) lv (.int x :: st) G E kc ks := by
  rw [xz_0_120, h]; rfl
theorem xy_0_122 {x y : Int32} : xm_run call xm_c0 nL mc ms ret Q (f + 1) (xm_drop 122 xm_c0) lv (.int y :: .int x :: st) G E kc ks = xm_run call xm_c0 nL mc ms ret Q f (xm_drop 123 xm_c0) lv (.int (x + y) :: st) G E kc ks := by
  rw [xz_0_122, xk_add]
theorem xy_0_124  : xm_run call xm_c0 nL mc ms ret Q (f + 1) (xm_drop 124 xm_c0) lv st G E kc ks = xm_call call mc ms 183 0 st G E kc ks (fun st G E kc ks => xm_run call xm_c0 nL mc ms ret Q f (xm_drop 125 xm_c0) lv st G E kc ks) := by
  rw [xz_0_124, show (Nat.beq 183 1006 || Nat.beq 183 1007) = false from rfl, cond_false]
theorem xy_0_125 {x : Int32} : xm_run call xm_c0 nL mc ms ret Q (f + 1) (xm_drop 125 xm_c0) lv (.int x :: st) G E kc ks = xm_run call xm_c0 nL mc ms ret Q f (xm_drop 126 xm_c0) lv st G E kc ks := by
  rfl
theorem xy_0_126  : xm_run call xm_c0 nL mc ms ret Q (f + 1) (xm_drop 126 xm_c0) lv st G E kc ks = xm_run call xm_c0 nL mc ms ret Q f (xm_drop 682 xm_c0) lv st G E kc ks := by
  rfl
theorem xy_0_127 {j : Nat} (h : xm_get lv 1 = some (.ref j)) : xm_run call xm_c0 nL mc ms ret Q (f + 1) (xm_drop 127 xm_c0) lv st G E kc ks = xm_run call xm_c0 nL mc ms ret Q f (xm_drop 128 xm_c0) lv (.ref j :: st) G E kc ks := by
  rw [xz_0_127, h]; rfl
theorem xy_0_128 {j : Nat} (h : xm_get lv 0 = some (.ref j)) : xm_run call xm_c0 nL mc ms ret Q (f + 1) (xm_drop 128 xm_c0) lv st G E kc ks = xm_run call xm_c0 nL mc ms ret Q f (xm_drop 129 xm_c0) lv (.ref j :: st) G E kc ks := by
  rw [xz_0_128, h]; rfl
theorem xy_0_129 {x : Int32} (h : xm_get lv 3 = some (.int x)) : xm_run call xm_c0 nL mc ms ret Q (f + 1) (xm_drop 129 xm_c0) lv st G E kc ks = xm_run call xm_c0 nL mc ms ret Q f (xm_drop 130 xm_c0) lv (.int x :: st) G E kc ks := by
  rw [xz_0_129, h]; rfl
theorem xy_0_131 {x y : Int32} : xm_run call xm_c0 nL mc ms ret Q (f + 1) (xm_drop 131 xm_c0) lv (.int y :: .int x :: st) G E kc ks = xm_run call xm_c0 nL mc ms ret Q f (xm_drop 132 xm_c0) lv (.int (x + y) :: st) G E kc ks := by
  rw [xz_0_131, xk_add]
theorem xy_0_133 {j : Nat} (h : xm_get lv 0 = some (.ref j)) : xm_run call xm_c0 nL mc ms ret Q (f + 1) (xm_drop 133 xm_c0) lv st G E kc ks = xm_run call xm_c0 nL mc ms ret Q f (xm_drop 134 xm_c0) lv (.ref j :: st) G E kc ks := by
  rw [xz_0_133, h]; rfl
theorem xy_0_134 {x : Int32} (h : xm_get lv 3 = some (.int x)) : xm_run call xm_c0 nL mc ms ret Q (f + 1) (xm_drop 134 xm_c0) lv st G E kc ks = xm_run call xm_c0 nL mc ms ret Q f (xm_drop 135 xm_c0) lv (.int x :: st) G E kc ks := by
  rw [xz_0_134, h]; rfl
theorem xy_0_136 {x y : Int32} : xm_run call xm_c0 nL mc ms ret Q (f + 1) (xm_drop 136 xm_c0) lv (.int y :: .int x :: st) G E kc ks = xm_run call xm_c0 nL mc ms ret Q f (xm_drop 137 xm_c0) lv (.int (x + y) :: st) G E kc ks := by
  rw [xz_0_136, xk_add]
theorem xy_0_138  : xm_run call xm_c0 nL mc ms ret Q (f + 1) (xm_drop 138 xm_c0) lv st G E kc ks = xm_call call mc ms 93 0 st G E kc ks (fun st G E kc ks => xm_run call xm_c0 nL mc ms ret Q f (xm_drop 139 xm_c0) lv st G E kc ks) := by
  rw [xz_0_138, show (Nat.beq 93 1006 || Nat.beq 93 1007) = false from rfl, cond_false]
theorem xy_0_139 {x : Int32} : xm_run call xm_c0 nL mc ms ret Q (f + 1) (xm_drop 139 xm_c0) lv (.int x :: st) G E kc ks = xm_run call xm_c0 nL mc ms ret Q f (xm_drop 140 xm_c0) lv st G E kc ks := by
  rfl
theorem xy_0_140 {j : Nat} (h : xm_get lv 2 = some (.ref j)) : xm_run call xm_c0 nL mc ms ret Q (f + 1) (xm_drop 140 xm_c0) lv st G E kc ks = xm_run call xm_c0 nL mc ms ret Q f (xm_drop 141 xm_c0) lv (.ref j :: st) G E kc ks := by
  rw [xz_0_140, h]; rfl
theorem xy_0_141 {j : Nat} (h : xm_get lv 0 = some (.ref j)) : xm_run call xm_c0 nL mc ms ret Q (f + 1) (xm_drop 141 xm_c0) lv st G E kc ks = xm_run call xm_c0 nL mc ms ret Q f (xm_drop 142 xm_c0) lv (.ref j :: st) G E kc ks := by
  rw [xz_0_141, h]; rfl
theorem xy_0_142 {x : Int32} (h : xm_get lv 3 = some (.int x)) : xm_run call xm_c0 nL mc ms ret Q (f + 1) (xm_drop 142 xm_c0) lv st G E kc ks = xm_run call xm_c0 nL mc ms ret Q f (xm_drop 143 xm_c0) lv (.int x :: st) G E kc ks := by
  rw [xz_0_142, h]; rfl
theorem xy_0_144 {x y : Int32} : xm_run call xm_c0 nL mc ms ret Q (f + 1) (xm_drop 144 xm_c0) lv (.int y :: .int x :: st) G E kc ks = xm_run call xm_c0 nL mc ms ret Q f (xm_drop 145 xm_c0) lv (.int (x + y) :: st) G E kc ks := by
  rw [xz_0_144, xk_add]
theorem xy_0_146 {j : Nat} (h : xm_get lv 0 = some (.ref j)) : xm_run call xm_c0 nL mc ms ret Q (f + 1) (xm_drop 146 xm_c0) lv st G E kc ks = xm_run call xm_c0 nL mc ms ret Q f (xm_drop 147 xm_c0) lv (.ref j :: st) G E kc ks := by
  rw [xz_0_146, h]; rfl
theorem xy_0_147 {x : Int32} (h : xm_get lv 3 = some (.int x)) : xm_run call xm_c0 nL mc ms ret Q (f + 1) (xm_drop 147 xm_c0) lv st G E kc ks = xm_run call xm_c0 nL mc ms ret Q f (xm_drop 148 xm_c0) lv (.int x :: st) G E kc ks := by
  rw [xz_0_147, h]; rfl
theorem xy_0_149 {x y : Int32} : xm_run call xm_c0 nL mc ms ret Q (f + 1) (xm_drop 149 xm_c0) lv (.int y :: .int x :: st) G E kc ks = xm_run call xm_c0 nL mc ms ret Q f (xm_drop 150 xm_c0) lv (.int (x + y) :: st) G E kc ks := by
  rw [xz_0_149, xk_add]
theorem xy_0_151  : xm_run call xm_c0 nL mc ms ret Q (f + 1) (xm_drop 151 xm_c0) lv st G E kc ks = xm_call call mc ms 184 0 st G E kc ks (fun st G E kc ks => xm_run call xm_c0 nL mc ms ret Q f (xm_drop 152 xm_c0) lv st G E kc ks) := by
  rw [xz_0_151, show (Nat.beq 184 1006 || Nat.beq 184 1007) = false from rfl, cond_false]
theorem xy_0_152 {x : Int32} : xm_run call xm_c0 nL mc ms ret Q (f + 1) (xm_drop 152 xm_c0) lv (.int x :: st) G E kc ks = xm_run call xm_c0 nL mc ms ret Q f (xm_drop 153 xm_c0) lv st G E kc ks := by
  rfl
theorem xy_0_153  : xm_run call xm_c0 nL mc ms ret Q (f + 1) (xm_drop 153 xm_c0) lv st G E kc ks = xm_run call xm_c0 nL mc ms ret Q f (xm_drop 682 xm_c0) lv st G E kc ks := by
  rfl
theorem xy_0_154 {j : Nat} (h : xm_get lv 1 = some (.ref j)) : xm_run call xm_c0 nL mc ms ret Q (f + 1) (xm_drop 154 xm_c0) lv st G E kc ks = xm_run call xm_c0 nL mc ms ret Q f (xm_drop 155 xm_c0) lv (.ref j :: st) G E kc ks := by
  rw [xz_0_154, h]; rfl
theorem xy_0_155 {j : Nat} (h : xm_get lv 0 = some (.ref j)) : xm_run call xm_c0 nL mc ms ret Q (f + 1) (xm_drop 155 xm_c0) lv st G E kc ks = xm_run call xm_c0 nL mc ms ret Q f (xm_drop 156 xm_c0) lv (.ref j :: st) G E kc ks := by
  rw [xz_0_155, h]; rfl
theorem xy_0_156 {x : Int32} (h : xm_get lv 3 = some (.int x)) : xm_run call xm_c0 nL mc ms ret Q (f + 1) (xm_drop 156 xm_c0) lv st G E kc ks = xm_run call xm_c0 nL mc ms ret Q f (xm_drop 157 xm_c0) lv (.int x :: st) G E kc ks := by
  rw [xz_0_156, h]; rfl
theorem xy_0_158 {x y : Int32} : xm_run call xm_c0 nL mc ms ret Q (f + 1) (xm_drop 158 xm_c0) lv (.int y :: .int x :: st) G E kc ks = xm_run call xm_c0 nL mc ms ret Q f (xm_drop 159 xm_c0) lv (.int (x + y) :: st) G E kc ks := by
  rw [xz_0_158, xk_add]
theorem xy_0_160 {j : Nat} (h : xm_get lv 0 = some (.ref j)) : xm_run call xm_c0 nL mc ms ret Q (f + 1) (xm_drop 160 xm_c0) lv st G E kc ks = xm_run call xm_c0 nL mc ms ret Q f (xm_drop 161 xm_c0) lv (.ref j :: st) G E kc ks := by
  rw [xz_0_160, h]; rfl
theorem xy_0_161 {x : Int32} (h : xm_get lv 3 = some (.int x)) : xm_run call xm_c0 nL mc ms ret Q (f + 1) (xm_drop 161 xm_c0) lv st G E kc ks = xm_run call xm_c0 nL mc ms ret Q f (xm_drop 162 xm_c0) lv (.int x :: st) G E kc ks := by
  rw [xz_0_161, h]; rfl
theorem xy_0_163 {x y : Int32} : xm_run call xm_c0 nL mc ms ret Q (f + 1) (xm_drop 163 xm_c0) lv (.int y :: .int x :: st) G E kc ks = xm_run call xm_c0 nL mc ms ret Q f (xm_drop 164 xm_c0) lv (.int (x + y) :: st) G E kc ks := by
  rw [xz_0_163, xk_add]
theorem xy_0_165  : xm_run call xm_c0 nL mc ms ret Q (f + 1) (xm_drop 165 xm_c0) lv st G E kc ks = xm_call call mc ms 94 0 st G E kc ks (fun st G E kc ks => xm_run call xm_c0 nL mc ms ret Q f (xm_drop 166 xm_c0) lv st G E kc ks) := by
  rw [xz_0_165, show (Nat.beq 94 1006 || Nat.beq 94 1007) = false from rfl, cond_false]
theorem xy_0_166 {x : Int32} : xm_run call xm_c0 nL mc ms ret Q (f + 1) (xm_drop 166 xm_c0) lv (.int x :: st) G E kc ks = xm_run call xm_c0 nL mc ms ret Q f (xm_drop 167 xm_c0) lv st G E kc ks := by
  rfl
theorem xy_0_167 {j : Nat} (h : xm_get lv 2 = some (.ref j)) : xm_run call xm_c0 nL mc ms ret Q (f + 1) (xm_drop 167 xm_c0) lv st G E kc ks = xm_run call xm_c0 nL mc ms ret Q f (xm_drop 168 xm_c0) lv (.ref j :: st) G E kc ks := by
  rw [xz_0_167, h]; rfl
theorem xy_0_168 {j : Nat} (h : xm_get lv 0 = some (.ref j)) : xm_run call xm_c0 nL mc ms ret Q (f + 1) (xm_drop 168 xm_c0) lv st G E kc ks = xm_run call xm_c0 nL mc ms ret Q f (xm_drop 169 xm_c0) lv (.ref j :: st) G E kc ks := by
  rw [xz_0_168, h]; rfl
theorem xy_0_169 {x : Int32} (h : xm_get lv 3 = some (.int x)) : xm_run call xm_c0 nL mc ms ret Q (f + 1) (xm_drop 169 xm_c0) lv st G E kc ks = xm_run call xm_c0 nL mc ms ret Q f (xm_drop 170 xm_c0) lv (.int x :: st) G E kc ks := by
  rw [xz_0_169, h]; rfl
theorem xy_0_171 {x y : Int32} : xm_run call xm_c0 nL mc ms ret Q (f + 1) (xm_drop 171 xm_c0) lv (.int y :: .int x :: st) G E kc ks = xm_run call xm_c0 nL mc ms ret Q f (xm_drop 172 xm_c0) lv (.int (x + y) :: st) G E kc ks := by
  rw [xz_0_171, xk_add]
theorem xy_0_173 {j : Nat} (h : xm_get lv 0 = some (.ref j)) : xm_run call xm_c0 nL mc ms ret Q (f + 1) (xm_drop 173 xm_c0) lv st G E kc ks = xm_run call xm_c0 nL mc ms ret Q f (xm_drop 174 xm_c0) lv (.ref j :: st) G E kc ks := by
  rw [xz_0_173, h]; rfl
theorem xy_0_174 {x : Int32} (h : xm_get lv 3 = some (.int x)) : xm_run call xm_c0 nL mc ms ret Q (f + 1) (xm_drop 174 xm_c0) lv st G E kc ks = xm_run call xm_c0 nL mc ms ret Q f (xm_drop 175 xm_c0) lv (.int x :: st) G E kc ks := by
  rw [xz_0_174, h]; rfl
theorem xy_0_176 {x y : Int32} : xm_run call xm_c0 nL mc ms ret Q (f + 1) (xm_drop 176 xm_c0) lv (.int y :: .int x :: st) G E kc ks = xm_run call xm_c0 nL mc ms ret Q f (xm_drop 177 xm_c0) lv (.int (x + y) :: st) G E kc ks := by
  rw [xz_0_176, xk_add]
theorem xy_0_178  : xm_run call xm_c0 nL mc ms ret Q (f + 1) (xm_drop 178 xm_c0) lv st G E kc ks = xm_call call mc ms 185 0 st G E kc ks (fun st G E kc ks => xm_run call xm_c0 nL mc ms ret Q f (xm_drop 179 xm_c0) lv st G E kc ks) := by
  rw [xz_0_178, show (Nat.beq 185 1006 || Nat.beq 185 1007) = false from rfl, cond_false]
theorem xy_0_179 {x : Int32} : xm_run call xm_c0 nL mc ms ret Q (f + 1) (xm_drop 179 xm_c0) lv (.int x :: st) G E kc ks = xm_run call xm_c0 nL mc ms ret Q f (xm_drop 180 xm_c0) lv st G E kc ks := by
  rfl
theorem xy_0_180  : xm_run call xm_c0 nL mc ms ret Q (f + 1) (xm_drop 180 xm_c0) lv st G E kc ks = xm_run call xm_c0 nL mc ms ret Q f (xm_drop 682 xm_c0) lv st G E kc ks := by
  rfl
theorem xy_0_181 {j : Nat} (h : xm_get lv 1 = some (.ref j)) : xm_run call xm_c0 nL mc ms ret Q (f + 1) (xm_drop 181 xm_c0) lv st G E kc ks = xm_run call xm_c0 nL mc ms ret Q f (xm_drop 182 xm_c0) lv (.ref j :: st) G E kc ks := by
  rw [xz_0_181, h]; rfl
theorem xy_0_182 {j : Nat} (h : xm_get lv 0 = some (.ref j)) : xm_run call xm_c0 nL mc ms ret Q (f + 1) (xm_drop 182 xm_c0) lv st G E kc ks = xm_run call xm_c0 nL mc ms ret Q f (xm_drop 183 xm_c0) lv (.ref j :: st) G E kc ks := by
  rw [xz_0_182, h]; rfl
theorem xy_0_183 {x : Int32} (h : xm_get lv 3 = some (.int x)) : xm_run call xm_c0 nL mc ms ret Q (f + 1) (xm_drop 183 xm_c0) lv st G E kc ks = xm_run call xm_c0 nL mc ms ret Q f (xm_drop 184 xm_c0) lv (.int x :: st) G E kc ks := by
  rw [xz_0_183, h]; rfl
theorem xy_0_185 {x y : Int32} : xm_run call xm_c0 nL mc ms ret Q (f + 1) (xm_drop 185 xm_c0) lv (.int y :: .int x :: st) G E kc ks = xm_run call xm_c0 nL mc ms ret Q f (xm_drop 186 xm_c0) lv (.int (x + y) :: st) G E kc ks := by
  rw [xz_0_185, xk_add]
theorem xy_0_187 {j : Nat} (h : xm_get lv 0 = some (.ref j)) : xm_run call xm_c0 nL mc ms ret Q (f + 1) (xm_drop 187 xm_c0) lv st G E kc ks = xm_run call xm_c0 nL mc ms ret Q f (xm_drop 188 xm_c0) lv (.ref j :: st) G E kc ks := by
  rw [xz_0_187, h]; rfl
theorem xy_0_188 {x : Int32} (h : xm_get lv 3 = some (.int x)) : xm_run call xm_c0 nL mc ms ret Q (f + 1) (xm_drop 188 xm_c0) lv st G E kc ks = xm_run call xm_c0 nL mc ms ret Q f (xm_drop 189 xm_c0) lv (.int x :: st) G E kc ks := by
  rw [xz_0_188, h]; rfl
theorem xy_0_190 {x y : Int32} : xm_run call xm_c0 nL mc ms ret Q (f + 1) (xm_drop 190 xm_c0) lv (.int y :: .int x :: st) G E kc ks = xm_run call xm_c0 nL mc ms ret Q f (xm_drop 191 xm_c0) lv (.int (x + y) :: st) G E kc ks := by
  rw [xz_0_190, xk_add]
theorem xy_0_192  : xm_run call xm_c0 nL mc ms ret Q (f + 1) (xm_drop 192 xm_c0) lv st G E kc ks = xm_call call mc ms 95 0 st G E kc ks (fun st G E kc ks => xm_run call xm_c0 nL mc ms ret Q f (xm_drop 193 xm_c0) lv st G E kc ks) := by
  rw [xz_0_192, show (Nat.beq 95 1006 || Nat.beq 95 1007) = false from rfl, cond_false]
theorem xy_0_193 {x : Int32} : xm_run call xm_c0 nL mc ms ret Q (f + 1) (xm_drop 193 xm_c0) lv (.int x :: st) G E kc ks = xm_run call xm_c0 nL mc ms ret Q f (xm_drop 194 xm_c0) lv st G E kc ks := by
  rfl
theorem xy_0_194 {j : Nat} (h : xm_get lv 2 = some (.ref j)) : xm_run call xm_c0 nL mc ms ret Q (f + 1) (xm_drop 194 xm_c0) lv st G E kc ks = xm_run call xm_c0 nL mc ms ret Q f (xm_drop 195 xm_c0) lv (.ref j :: st) G E kc ks := by
  rw [xz_0_194, h]; rfl
theorem xy_0_195 {j : Nat} (h : xm_get lv 0 = some (.ref j)) : xm_run call xm_c0 nL mc ms ret Q (f + 1) (xm_drop 195 xm_c0) lv st G E kc ks = xm_run call xm_c0 nL mc ms ret Q f (xm_drop 196 xm_c0) lv (.ref j :: st) G E kc ks := by
  rw [xz_0_195, h]; rfl
theorem xy_0_196 {x : Int32} (h : xm_get lv 3 = some (.int x)) : xm_run call xm_c0 nL mc ms ret Q (f + 1) (xm_drop 196 xm_c0) lv st G E kc ks = xm_run call xm_c0 nL mc ms ret Q f (xm_drop 197 xm_c0) lv (.int x :: st) G E kc ks := by
  rw [xz_0_196, h]; rfl
theorem xy_0_198 {x y : Int32} : xm_run call xm_c0 nL mc ms ret Q (f + 1) (xm_drop 198 xm_c0) lv (.int y :: .int x :: st) G E kc ks = xm_run call xm_c0 nL mc ms ret Q f (xm_drop 199 xm_c0) lv (.int (x + y) :: st) G E kc ks := by
  rw [xz_0_198, xk_add]
theorem xy_0_200 {j : Nat} (h : xm_get lv 0 = some (.ref j)) : xm_run call xm_c0 nL mc ms ret Q (f + 1) (xm_drop 200 xm_c0) lv st G E kc ks = xm_run call xm_c0 nL mc ms ret Q f (xm_drop 201 xm_c0) lv (.ref j :: st) G E kc ks := by
  rw [xz_0_200, h]; rfl
theorem xy_0_201 {x : Int32} (h : xm_get lv 3 = some (.int x)) : xm_run call xm_c0 nL mc ms ret Q (f + 1) (xm_drop 201 xm_c0) lv st G E kc ks = xm_run call xm_c0 nL mc ms ret Q f (xm_drop 202 xm_c0) lv (.int x :: st) G E kc ks := by
  rw [xz_0_201, h]; rfl
theorem xy_0_203 {x y : Int32} : xm_run call xm_c0 nL mc ms ret Q (f + 1) (xm_drop 203 xm_c0) lv (.int y :: .int x :: st) G E kc ks = xm_run call xm_c0 nL mc ms ret Q f (xm_drop 204 xm_c0) lv (.int (x + y) :: st) G E kc ks := by
  rw [xz_0_203, xk_add]
theorem xy_0_205  : xm_run call xm_c0 nL mc ms ret Q (f + 1) (xm_drop 205 xm_c0) lv st G E kc ks = xm_call call mc ms 186 0 st G E kc ks (fun st G E kc ks => xm_run call xm_c0 nL mc ms ret Q f (xm_drop 206 xm_c0) lv st G E kc ks) := by
  rw [xz_0_205, show (Nat.beq 186 1006 || Nat.beq 186 1007) = false from rfl, cond_false]
theorem xy_0_206 {x : Int32} : xm_run call xm_c0 nL mc ms ret Q (f + 1) (xm_drop 206 xm_c0) lv (.int x :: st) G E kc ks = xm_run call xm_c0 nL mc ms ret Q f (xm_drop 207 xm_c0) lv st G E kc ks := by
  rfl
theorem xy_0_207  : xm_run call xm_c0 nL mc ms ret Q (f + 1) (xm_drop 207 xm_c0) lv st G E kc ks = xm_run call xm_c0 nL mc ms ret Q f (xm_drop 682 xm_c0) lv st G E kc ks := by
  rfl
theorem xy_0_208 {j : Nat} (h : xm_get lv 1 = some (.ref j)) : xm_run call xm_c0 nL mc ms ret Q (f + 1) (xm_drop 208 xm_c0) lv st G E kc ks = xm_run call xm_c0 nL mc ms ret Q f (xm_drop 209 xm_c0) lv (.ref j :: st) G E kc ks := by
  rw [xz_0_208, h]; rfl
theorem xy_0_209  : xm_run call xm_c0 nL mc ms ret Q (f + 1) (xm_drop 209 xm_c0) lv st G E kc ks = xm_call call mc ms 96 0 st G E kc ks (fun st G E kc ks => xm_run call xm_c0 nL mc ms ret Q f (xm_drop 210 xm_c0) lv st G E kc ks) := by
  rw [xz_0_209, show (Nat.beq 96 1006 || Nat.beq 96 1007) = false from rfl, cond_false]
theorem xy_0_210 {x : Int32} : xm_run call xm_c0 nL mc ms ret Q (f + 1) (xm_drop 210 xm_c0) lv (.int x :: st) G E kc ks = xm_run call xm_c0 nL mc ms ret Q f (xm_drop 211 xm_c0) lv st G E kc ks := by
  rfl
theorem xy_0_211 {j : Nat} (h : xm_get lv 2 = some (.ref j)) : xm_run call xm_c0 nL mc ms ret Q (f + 1) (xm_drop 211 xm_c0) lv st G E kc ks = xm_run call xm_c0 nL mc ms ret Q f (xm_drop 212 xm_c0) lv (.ref j :: st) G E kc ks := by
  rw [xz_0_211, h]; rfl
theorem xy_0_212  : xm_run call xm_c0 nL mc ms ret Q (f + 1) (xm_drop 212 xm_c0) lv st G E kc ks = xm_call call mc ms 200 0 st G E kc ks (fun st G E kc ks => xm_run call xm_c0 nL mc ms ret Q f (xm_drop 213 xm_c0) lv st G E kc ks) := by
  rw [xz_0_212, show (Nat.beq 200 1006 || Nat.beq 200 1007) = false from rfl, cond_false]
theorem xy_0_213 {x : Int32} : xm_run call xm_c0 nL mc ms ret Q (f + 1) (xm_drop 213 xm_c0) lv (.int x :: st) G E kc ks = xm_run call xm_c0 nL mc ms ret Q f (xm_drop 214 xm_c0) lv st G E kc ks := by
  rfl
theorem xy_0_214  : xm_run call xm_c0 nL mc ms ret Q (f + 1) (xm_drop 214 xm_c0) lv st G E kc ks = xm_run call xm_c0 nL mc ms ret Q f (xm_drop 682 xm_c0) lv st G E kc ks := by
  rfl
theorem xy_0_215 {j : Nat} (h : xm_get lv 1 = some (.ref j)) : xm_run call xm_c0 nL mc ms ret Q (f + 1) (xm_drop 215 xm_c0) lv st G E kc ks = xm_run call xm_c0 nL mc ms ret Q f (xm_drop 216 xm_c0) lv (.ref j :: st) G E kc ks := by
  rw [xz_0_215, h]; rfl
theorem xy_0_216 {j : Nat} (h : xm_get lv 0 = some (.ref j)) : xm_run call xm_c0 nL mc ms ret Q (f + 1) (xm_drop 216 xm_c0) lv st G E kc ks = xm_run call xm_c0 nL mc ms ret Q f (xm_drop 217 xm_c0) lv (.ref j :: st) G E kc ks := by
  rw [xz_0_216, h]; rfl
theorem xy_0_217 {x : Int32} (h : xm_get lv 3 = some (.int x)) : xm_run call xm_c0 nL mc ms ret Q (f + 1) (xm_drop 217 xm_c0) lv st G E kc ks = xm_run call xm_c0 nL mc ms ret Q f (xm_drop 218 xm_c0) lv (.int x :: st) G E kc ks := by
  rw [xz_0_217, h]; rfl
theorem xy_0_219 {x y : Int32} : xm_run call xm_c0 nL mc ms ret Q (f + 1) (xm_drop 219 xm_c0) lv (.int y :: .int x :: st) G E kc ks = xm_run call xm_c0 nL mc ms ret Q f (xm_drop 220 xm_c0) lv (.int (x + y) :: st) G E kc ks := by
  rw [xz_0_219, xk_add]
theorem xy_0_221 {j : Nat} (h : xm_get lv 0 = some (.ref j)) : xm_run call xm_c0 nL mc ms ret Q (f + 1) (xm_drop 221 xm_c0) lv st G E kc ks = xm_run call xm_c0 nL mc ms ret Q f (xm_drop 222 xm_c0) lv (.ref j :: st) G E kc ks := by
  rw [xz_0_221, h]; rfl
theorem xy_0_222 {x : Int32} (h : xm_get lv 3 = some (.int x)) : xm_run call xm_c0 nL mc ms ret Q (f + 1) (xm_drop 222 xm_c0) lv st G E kc ks = xm_run call xm_c0 nL mc ms ret Q f (xm_drop 223 xm_c0) lv (.int x :: st) G E kc ks := by
  rw [xz_0_222, h]; rfl
theorem xy_0_224 {x y : Int32} : xm_run call xm_c0 nL mc ms ret Q (f + 1) (xm_drop 224 xm_c0) lv (.int y :: .int x :: st) G E kc ks = xm_run call xm_c0 nL mc ms ret Q f (xm_drop 225 xm_c0) lv (.int (x + y) :: st) G E kc ks := by
  rw [xz_0_224, xk_add]
theorem xy_0_226  : xm_run call xm_c0 nL mc ms ret Q (f + 1) (xm_drop 226 xm_c0) lv st G E kc ks = xm_call call mc ms 97 0 st G E kc ks (fun st G E kc ks => xm_run call xm_c0 nL mc ms ret Q f (xm_drop 227 xm_c0) lv st G E kc ks) := by
  rw [xz_0_226, show (Nat.beq 97 1006 || Nat.beq 97 1007) = false from rfl, cond_false]
theorem xy_0_227 {x : Int32} : xm_run call xm_c0 nL mc ms ret Q (f + 1) (xm_drop 227 xm_c0) lv (.int x :: st) G E kc ks = xm_run call xm_c0 nL mc ms ret Q f (xm_drop 228 xm_c0) lv st G E kc ks := by
  rfl
theorem xy_0_228 {j : Nat} (h : xm_get lv 2 = some (.ref j)) : xm_run call xm_c0 nL mc ms ret Q (f + 1) (xm_drop 228 xm_c0) lv st G E kc ks = xm_run call xm_c0 nL mc ms ret Q f (xm_drop 229 xm_c0) lv (.ref j :: st) G E kc ks := by
  rw [xz_0_228, h]; rfl
theorem xy_0_229 {j : Nat} (h : xm_get lv 0 = some (.ref j)) : xm_run call xm_c0 nL mc ms ret Q (f + 1) (xm_drop 229 xm_c0) lv st G E kc ks = xm_run call xm_c0 nL mc ms ret Q f (xm_drop 230 xm_c0) lv (.ref j :: st) G E kc ks := by
  rw [xz_0_229, h]; rfl
theorem xy_0_230 {x : Int32} (h : xm_get lv 3 = some (.int x)) : xm_run call xm_c0 nL mc ms ret Q (f + 1) (xm_drop 230 xm_c0) lv st G E kc ks = xm_run call xm_c0 nL mc ms ret Q f (xm_drop 231 xm_c0) lv (.int x :: st) G E kc ks := by
  rw [xz_0_230, h]; rfl
theorem xy_0_232 {x y : Int32} : xm_run call xm_c0 nL mc ms ret Q (f + 1) (xm_drop 232 xm_c0) lv (.int y :: .int x :: st) G E kc ks = xm_run call xm_c0 nL mc ms ret Q f (xm_drop 233 xm_c0) lv (.int (x + y) :: st) G E kc ks := by
  rw [xz_0_232, xk_add]
theorem xy_0_234 {j : Nat} (h : xm_get lv 0 = some (.ref j)) : xm_run call xm_c0 nL mc ms ret Q (f + 1) (xm_drop 234 xm_c0) lv st G E kc ks = xm_run call xm_c0 nL mc ms ret Q f (xm_drop 235 xm_c0) lv (.ref j :: st) G E kc ks := by
  rw [xz_0_234, h]; rfl
theorem xy_0_235 {x : Int32} (h : xm_get lv 3 = some (.int x)) : xm_run call xm_c0 nL mc ms ret Q (f + 1) (xm_drop 235 xm_c0) lv st G E kc ks = xm_run call xm_c0 nL mc ms ret Q f (xm_drop 236 xm_c0) lv (.int x :: st) G E kc ks := by
  rw [xz_0_235, h]; rfl
theorem xy_0_237 {x y : Int32} : xm_run call xm_c0 nL mc ms ret Q (f + 1) (xm_drop 237 xm_c0) lv (.int y :: .int x :: st) G E kc ks = xm_run call xm_c0 nL mc ms ret Q f (xm_drop 238 xm_c0) lv (.int (x + y) :: st) G E kc ks := by
  rw [xz_0_237, xk_add]
theorem xy_0_239  : xm_run call xm_c0 nL mc ms ret Q (f + 1) (xm_drop 239 xm_c0) lv st G E kc ks = xm_call call mc ms 202 0 st G E kc ks (fun st G E kc ks => xm_run call xm_c0 nL mc ms ret Q f (xm_drop 240 xm_c0) lv st G E kc ks) := by
  rw [xz_0_239, show (Nat.beq 202 1006 || Nat.beq 202 1007) = false from rfl, cond_false]
theorem xy_0_240 {x : Int32} : xm_run call xm_c0 nL mc ms ret Q (f + 1) (xm_drop 240 xm_c0) lv (.int x :: st) G E kc ks = xm_run call xm_c0 nL mc ms ret Q f (xm_drop 241 xm_c0) lv st G E kc ks := by
  rfl
theorem xy_0_241  : xm_run call xm_c0 nL mc ms ret Q (f + 1) (xm_drop 241 xm_c0) lv st G E kc ks = xm_run call xm_c0 nL mc ms ret Q f (xm_drop 682 xm_c0) lv st G E kc ks := by
  rfl
theorem xy_0_242 {j : Nat} (h : xm_get lv 1 = some (.ref j)) : xm_run call xm_c0 nL mc ms ret Q (f + 1) (xm_drop 242 xm_c0) lv st G E kc ks = xm_run call xm_c0 nL mc ms ret Q f (xm_drop 243 xm_c0) lv (.ref j :: st) G E kc ks := by
  rw [xz_0_242, h]; rfl
theorem xy_0_243 {j : Nat} (h : xm_get lv 0 = some (.ref j)) : xm_run call xm_c0 nL mc ms ret Q (f + 1) (xm_drop 243 xm_c0) lv st G E kc ks = xm_run call xm_c0 nL mc ms ret Q f (xm_drop 244 xm_c0) lv (.ref j :: st) G E kc ks := by
  rw [xz_0_243, h]; rfl
theorem xy_0_244 {x : Int32} (h : xm_get lv 3 = some (.int x)) : xm_run call xm_c0 nL mc ms ret Q (f + 1) (xm_drop 244 xm_c0) lv st G E kc ks = xm_run call xm_c0 nL mc ms ret Q f (xm_drop 245 xm_c0) lv (.int x :: st) G E kc ks := by
  rw [xz_0_244, h]; rfl
theorem xy_0_246 {x y : Int32} : xm_run call xm_c0 nL mc ms ret Q (f + 1) (xm_drop 246 xm_c0) lv (.int y :: .int x :: st) G E kc ks = xm_run call xm_c0 nL mc ms ret Q f (xm_drop 247 xm_c0) lv (.int (x + y) :: st) G E kc ks := by
  rw [xz_0_246, xk_add]
theorem xy_0_248 {j : Nat} (h : xm_get lv 0 = some (.ref j)) : xm_run call xm_c0 nL mc ms ret Q (f + 1) (xm_drop 248 xm_c0) lv st G E kc ks = xm_run call xm_c0 nL mc ms ret Q f (xm_drop 249 xm_c0) lv (.ref j :: st) G E kc ks := by
  rw [xz_0_248, h]; rfl
theorem xy_0_249 {x : Int32} (h : xm_get lv 3 = some (.int x)) : xm_run call xm_c0 nL mc ms ret Q (f + 1) (xm_drop 249 xm_c0) lv st G E kc ks = xm_run call xm_c0 nL mc ms ret Q f (xm_drop 250 xm_c0) lv (.int x :: st) G E kc ks := by
  rw [xz_0_249, h]; rfl
theorem xy_0_251 {x y : Int32} : xm_run call xm_c0 nL mc ms ret Q (f + 1) (xm_drop 251 xm_c0) lv (.int y :: .int x :: st) G E kc ks = xm_run call xm_c0 nL mc ms ret Q f (xm_drop 252 xm_c0) lv (.int (x + y) :: st) G E kc ks := by
  rw [xz_0_251, xk_add]
theorem xy_0_253  : xm_run call xm_c0 nL mc ms ret Q (f + 1) (xm_drop 253 xm_c0) lv st G E kc ks = xm_call call mc ms 98 0 st G E kc ks (fun st G E kc ks => xm_run call xm_c0 nL mc ms ret Q f (xm_drop 254 xm_c0) lv st G E kc ks) := by
  rw [xz_0_253, show (Nat.beq 98 1006 || Nat.beq 98 1007) = false from rfl, cond_false]
theorem xy_0_254 {x : Int32} : xm_run call xm_c0 nL mc ms ret Q (f + 1) (xm_drop 254 xm_c0) lv (.int x :: st) G E kc ks = xm_run call xm_c0 nL mc ms ret Q f (xm_drop 255 xm_c0) lv st G E kc ks := by
  rfl
theorem xy_0_255 {j : Nat} (h : xm_get lv 2 = some (.ref j)) : xm_run call xm_c0 nL mc ms ret Q (f + 1) (xm_drop 255 xm_c0) lv st G E kc ks = xm_run call xm_c0 nL mc ms ret Q f (xm_drop 256 xm_c0) lv (.ref j :: st) G E kc ks := by
  rw [xz_0_255, h]; rfl
theorem xy_0_256 {j : Nat} (h : xm_get lv 0 = some (.ref j)) : xm_run call xm_c0 nL mc ms ret Q (f + 1) (xm_drop 256 xm_c0) lv st G E kc ks = xm_run call xm_c0 nL mc ms ret Q f (xm_drop 257 xm_c0) lv (.ref j :: st) G E kc ks := by
  rw [xz_0_256, h]; rfl
theorem xy_0_257 {x : Int32} (h : xm_get lv 3 = some (.int x)) : xm_run call xm_c0 nL mc ms ret Q (f + 1) (xm_drop 257 xm_c0) lv st G E kc ks = xm_run call xm_c0 nL mc ms ret Q f (xm_drop 258 xm_c0) lv (.int x :: st) G E kc ks := by
  rw [xz_0_257, h]; rfl
theorem xy_0_259 {x y : Int32} : xm_run call xm_c0 nL mc ms ret Q (f + 1) (xm_drop 259 xm_c0) lv (.int y :: .int x :: st) G E kc ks = xm_run call xm_c0 nL mc ms ret Q f (xm_drop 260 xm_c0) lv (.int (x + y) :: st) G E kc ks := by
  rw [xz_0_259, xk_add]
theorem xy_0_261 {j : Nat} (h : xm_get lv 0 = some (.ref j)) : xm_run call xm_c0 nL mc ms ret Q (f + 1) (xm_drop 261 xm_c0) lv st G E kc ks = xm_run call xm_c0 nL mc ms ret Q f (xm_drop 262 xm_c0) lv (.ref j :: st) G E kc ks := by
  rw [xz_0_261, h]; rfl
theorem xy_0_262 {x : Int32} (h : xm_get lv 3 = some (.int x)) : xm_run call xm_c0 nL mc ms ret Q (f + 1) (xm_drop 262 xm_c0) lv st G E kc ks = xm_run call xm_c0 nL mc ms ret Q f (xm_drop 263 xm_c0) lv (.int x :: st) G E kc ks := by
  rw [xz_0_262, h]; rfl
theorem xy_0_264 {x y : Int32} : xm_run call xm_c0 nL mc ms ret Q (f + 1) (xm_drop 264 xm_c0) lv (.int y :: .int x :: st) G E kc ks = xm_run call xm_c0 nL mc ms ret Q f (xm_drop 265 xm_c0) lv (.int (x + y) :: st) G E kc ks := by
  rw [xz_0_264, xk_add]
theorem xy_0_266  : xm_run call xm_c0 nL mc ms ret Q (f + 1) (xm_drop 266 xm_c0) lv st G E kc ks = xm_call call mc ms 204 0 st G E kc ks (fun st G E kc ks => xm_run call xm_c0 nL mc ms ret Q f (xm_drop 267 xm_c0) lv st G E kc ks) := by
  rw [xz_0_266, show (Nat.beq 204 1006 || Nat.beq 204 1007) = false from rfl, cond_false]
theorem xy_0_267 {x : Int32} : xm_run call xm_c0 nL mc ms ret Q (f + 1) (xm_drop 267 xm_c0) lv (.int x :: st) G E kc ks = xm_run call xm_c0 nL mc ms ret Q f (xm_drop 268 xm_c0) lv st G E kc ks := by
  rfl
theorem xy_0_268  : xm_run call xm_c0 nL mc ms ret Q (f + 1) (xm_drop 268 xm_c0) lv st G E kc ks = xm_run call xm_c0 nL mc ms ret Q f (xm_drop 682 xm_c0) lv st G E kc ks := by
  rfl
theorem xy_0_269 {j : Nat} (h : xm_get lv 1 = some (.ref j)) : xm_run call xm_c0 nL mc ms ret Q (f + 1) (xm_drop 269 xm_c0) lv st G E kc ks = xm_run call xm_c0 nL mc ms ret Q f (xm_drop 270 xm_c0) lv (.ref j :: st) G E kc ks := by
  rw [xz_0_269, h]; rfl
theorem xy_0_270 {j : Nat} (h : xm_get lv 0 = some (.ref j)) : xm_run call xm_c0 nL mc ms ret Q (f + 1) (xm_drop 270 xm_c0) lv st G E kc ks = xm_run call xm_c0 nL mc ms ret Q f (xm_drop 271 xm_c0) lv (.ref j :: st) G E kc ks := by
  rw [xz_0_270, h]; rfl
theorem xy_0_271 {x : Int32} (h : xm_get lv 3 = some (.int x)) : xm_run call xm_c0 nL mc ms ret Q (f + 1) (xm_drop 271 xm_c0) lv st G E kc ks = xm_run call xm_c0 nL mc ms ret Q f (xm_drop 272 xm_c0) lv (.int x :: st) G E kc ks := by
  rw [xz_0_271, h]; rfl
theorem xy_0_273 {x y : Int32} : xm_run call xm_c0 nL mc ms ret Q (f + 1) (xm_drop 273 xm_c0) lv (.int y :: .int x :: st) G E kc ks = xm_run call xm_c0 nL mc ms ret Q f (xm_drop 274 xm_c0) lv (.int (x + y) :: st) G E kc ks := by
  rw [xz_0_273, xk_add]
theorem xy_0_275  : xm_run call xm_c0 nL mc ms ret Q (f + 1) (xm_drop 275 xm_c0) lv st G E kc ks = xm_call call mc ms 99 0 st G E kc ks (fun st G E kc ks => xm_run call xm_c0 nL mc ms ret Q f (xm_drop 276 xm_c0) lv st G E kc ks) := by
  rw [xz_0_275, show (Nat.beq 99 1006 || Nat.beq 99 1007) = false from rfl, cond_false]
theorem xy_0_276 {x : Int32} : xm_run call xm_c0 nL mc ms ret Q (f + 1) (xm_drop 276 xm_c0) lv (.int x :: st) G E kc ks = xm_run call xm_c0 nL mc ms ret Q f (xm_drop 277 xm_c0) lv st G E kc ks := by
  rfl
theorem xy_0_277 {j : Nat} (h : xm_get lv 2 = some (.ref j)) : xm_run call xm_c0 nL mc ms ret Q (f + 1) (xm_drop 277 xm_c0) lv st G E kc ks = xm_run call xm_c0 nL mc ms ret Q f (xm_drop 278 xm_c0) lv (.ref j :: st) G E kc ks := by
  rw [xz_0_277, h]; rfl
theorem xy_0_278 {j : Nat} (h : xm_get lv 0 = some (.ref j)) : xm_run call xm_c0 nL mc ms ret Q (f + 1) (xm_drop 278 xm_c0) lv st G E kc ks = xm_run call xm_c0 nL mc ms ret Q f (xm_drop 279 xm_c0) lv (.ref j :: st) G E kc ks := by
  rw [xz_0_278, h]; rfl
theorem xy_0_279 {x : Int32} (h : xm_get lv 3 = some (.int x)) : xm_run call xm_c0 nL mc ms ret Q (f + 1) (xm_drop 279 xm_c0) lv st G E kc ks = xm_run call xm_c0 nL mc ms ret Q f (xm_drop 280 xm_c0) lv (.int x :: st) G E kc ks := by
  rw [xz_0_279, h]; rfl
theorem xy_0_281 {x y : Int32} : xm_run call xm_c0 nL mc ms ret Q (f + 1) (xm_drop 281 xm_c0) lv (.int y :: .int x :: st) G E kc ks = xm_run call xm_c0 nL mc ms ret Q f (xm_drop 282 xm_c0) lv (.int (x + y) :: st) G E kc ks := by
  rw [xz_0_281, xk_add]
theorem xy_0_283  : xm_run call xm_c0 nL mc ms ret Q (f + 1) (xm_drop 283 xm_c0) lv st G E kc ks = xm_call call mc ms 205 0 st G E kc ks (fun st G E kc ks => xm_run call xm_c0 nL mc ms ret Q f (xm_drop 284 xm_c0) lv st G E kc ks) := by
  rw [xz_0_283, show (Nat.beq 205 1006 || Nat.beq 205 1007) = false from rfl, cond_false]
theorem xy_0_284 {x : Int32} : xm_run call xm_c0 nL mc ms ret Q (f + 1) (xm_drop 284 xm_c0) lv (.int x :: st) G E kc ks = xm_run call xm_c0 nL mc ms ret Q f (xm_drop 285 xm_c0) lv st G E kc ks := by
  rfl
theorem xy_0_285  : xm_run call xm_c0 nL mc ms ret Q (f + 1) (xm_drop 285 xm_c0) lv st G E kc ks = xm_run call xm_c0 nL mc ms ret Q f (xm_drop 682 xm_c0) lv st G E kc ks := by
  rfl
theorem xy_0_286 {j : Nat} (h : xm_get lv 1 = some (.ref j)) : xm_run call xm_c0 nL mc ms ret Q (f + 1) (xm_drop 286 xm_c0) lv st G E kc ks = xm_run call xm_c0 nL mc ms ret Q f (xm_drop 287 xm_c0) lv (.ref j :: st) G E kc ks := by
  rw [xz_0_286, h]; rfl
theorem xy_0_287 {j : Nat} (h : xm_get lv 0 = some (.ref j)) : xm_run call xm_c0 nL mc ms ret Q (f + 1) (xm_drop 287 xm_c0) lv st G E kc ks = xm_run call xm_c0 nL mc ms ret Q f (xm_drop 288 xm_c0) lv (.ref j :: st) G E kc ks := by
  rw [xz_0_287, h]; rfl
theorem xy_0_288 {x : Int32} (h : xm_get lv 3 = some (.int x)) : xm_run call xm_c0 nL mc ms ret Q (f + 1) (xm_drop 288 xm_c0) lv st G E kc ks = xm_run call xm_c0 nL mc ms ret Q f (xm_drop 289 xm_c0) lv (.int x :: st) G E kc ks := by
  rw [xz_0_288, h]; rfl
theorem xy_0_290 {x y : Int32} : xm_run call xm_c0 nL mc ms ret Q (f + 1) (xm_drop 290 xm_c0) lv (.int y :: .int x :: st) G E kc ks = xm_run call xm_c0 nL mc ms ret Q f (xm_drop 291 xm_c0) lv (.int (x + y) :: st) G E kc ks := by
  rw [xz_0_290, xk_add]
theorem xy_0_292  : xm_run call xm_c0 nL mc ms ret Q (f + 1) (xm_drop 292 xm_c0) lv st G E kc ks = xm_call call mc ms 100 0 st G E kc ks (fun st G E kc ks => xm_run call xm_c0 nL mc ms ret Q f (xm_drop 293 xm_c0) lv st G E kc ks) := by
  rw [xz_0_292, show (Nat.beq 100 1006 || Nat.beq 100 1007) = false from rfl, cond_false]
theorem xy_0_293 {j : Nat} (h : xm_get lv 2 = some (.ref j)) : xm_run call xm_c0 nL mc ms ret Q (f + 1) (xm_drop 293 xm_c0) lv st G E kc ks = xm_run call xm_c0 nL mc ms ret Q f (xm_drop 294 xm_c0) lv (.ref j :: st) G E kc ks := by
  rw [xz_0_293, h]; rfl
theorem xy_0_294 {j : Nat} (h : xm_get lv 0 = some (.ref j)) : xm_run call xm_c0 nL mc ms ret Q (f + 1) (xm_drop 294 xm_c0) lv st G E kc ks = xm_run call xm_c0 nL mc ms ret Q f (xm_drop 295 xm_c0) lv (.ref j :: st) G E kc ks := by
  rw [xz_0_294, h]; rfl
theorem xy_0_295 {x : Int32} (h : xm_get lv 3 = some (.int x)) : xm_run call xm_c0 nL mc ms ret Q (f + 1) (xm_drop 295 xm_c0) lv st G E kc ks = xm_run call xm_c0 nL mc ms ret Q f (xm_drop 296 xm_c0) lv (.int x :: st) G E kc ks := by
  rw [xz_0_295, h]; rfl
theorem xy_0_297 {x y : Int32} : xm_run call xm_c0 nL mc ms ret Q (f + 1) (xm_drop 297 xm_c0) lv (.int y :: .int x :: st) G E kc ks = xm_run call xm_c0 nL mc ms ret Q f (xm_drop 298 xm_c0) lv (.int (x + y) :: st) G E kc ks := by
  rw [xz_0_297, xk_add]
theorem xy_0_299  : xm_run call xm_c0 nL mc ms ret Q (f + 1) (xm_drop 299 xm_c0) lv st G E kc ks = xm_call call mc ms 206 0 st G E kc ks (fun st G E kc ks => xm_run call xm_c0 nL mc ms ret Q f (xm_drop 300 xm_c0) lv st G E kc ks) := by
  rw [xz_0_299, show (Nat.beq 206 1006 || Nat.beq 206 1007) = false from rfl, cond_false]
theorem xy_0_300 {x y : Int32} : xm_run call xm_c0 nL mc ms ret Q (f + 1) (xm_drop 300 xm_c0) lv (.int y :: .int x :: st) G E kc ks = (bif decide (x.toInt = y.toInt) then xm_run call xm_c0 nL mc ms ret Q f (xm_drop 682 xm_c0) lv st G E kc ks else xm_run call xm_c0 nL mc ms ret Q f (xm_drop 301 xm_c0) lv st G E kc ks) := by
  rw [xz_0_300]; show xm_cmpI E (.int x) (.int y) _ = _; rw [xc_int, xk_eq]
theorem xy_0_302_0 : xm_run call xm_c0 nL 0 0 (some .boolean) Q (f + 1) (xm_drop 302 xm_c0) lv [.int 0] G E 0 0 = Q (some (.int 0)) G E := by
  rw [xz_0_302]; rfl
theorem xy_0_302_1 : xm_run call xm_c0 nL 0 0 (some .boolean) Q (f + 1) (xm_drop 302 xm_c0) lv [.int 1] G E 0 0 = Q (some (.int 1)) G E := by
  rw [xz_0_302]; rfl
theorem xy_0_303 {j : Nat} (h : xm_get lv 1 = some (.ref j)) : xm_run call xm_c0 nL mc ms ret Q (f + 1) (xm_drop 303 xm_c0) lv st G E kc ks = xm_run call xm_c0 nL mc ms ret Q f (xm_drop 304 xm_c0) lv (.ref j :: st) G E kc ks := by
  rw [xz_0_303, h]; rfl
theorem xy_0_304  : xm_run call xm_c0 nL mc ms ret Q (f + 1) (xm_drop 304 xm_c0) lv st G E kc ks = xm_call call mc ms 101 0 st G E kc ks (fun st G E kc ks => xm_run call xm_c0 nL mc ms ret Q f (xm_drop 305 xm_c0) lv st G E kc ks) := by
  rw [xz_0_304, show (Nat.beq 101 1006 || Nat.beq 101 1007) = false from rfl, cond_false]
theorem xy_0_305 {x : Int32} : xm_run call xm_c0 nL mc ms ret Q (f + 1) (xm_drop 305 xm_c0) lv (.int x :: st) G E kc ks = xm_run call xm_c0 nL mc ms ret Q f (xm_drop 306 xm_c0) lv st G E kc ks := by
  rfl
theorem xy_0_306 {j : Nat} (h : xm_get lv 2 = some (.ref j)) : xm_run call xm_c0 nL mc ms ret Q (f + 1) (xm_drop 306 xm_c0) lv st G E kc ks = xm_run call xm_c0 nL mc ms ret Q f (xm_drop 307 xm_c0) lv (.ref j :: st) G E kc ks := by
  rw [xz_0_306, h]; rfl
theorem xy_0_307  : xm_run call xm_c0 nL mc ms ret Q (f + 1) (xm_drop 307 xm_c0) lv st G E kc ks = xm_call call mc ms 199 0 st G E kc ks (fun st G E kc ks => xm_run call xm_c0 nL mc ms ret Q f (xm_drop 308 xm_c0) lv st G E kc ks) := by
  rw [xz_0_307, show (Nat.beq 199 1006 || Nat.beq 199 1007) = false from rfl, cond_false]
theorem xy_0_308 {x : Int32} : xm_run call xm_c0 nL mc ms ret Q (f + 1) (xm_drop 308 xm_c0) lv (.int x :: st) G E kc ks = xm_run call xm_c0 nL mc ms ret Q f (xm_drop 309 xm_c0) lv st G E kc ks := by
  rfl
theorem xy_0_309  : xm_run call xm_c0 nL mc ms ret Q (f + 1) (xm_drop 309 xm_c0) lv st G E kc ks = xm_run call xm_c0 nL mc ms ret Q f (xm_drop 682 xm_c0) lv st G E kc ks := by
  rfl
theorem xy_0_310 {j : Nat} (h : xm_get lv 1 = some (.ref j)) : xm_run call xm_c0 nL mc ms ret Q (f + 1) (xm_drop 310 xm_c0) lv st G E kc ks = xm_run call xm_c0 nL mc ms ret Q f (xm_drop 311 xm_c0) lv (.ref j :: st) G E kc ks := by
  rw [xz_0_310, h]; rfl
theorem xy_0_311 {j : Nat} (h : xm_get lv 0 = some (.ref j)) : xm_run call xm_c0 nL mc ms ret Q (f + 1) (xm_drop 311 xm_c0) lv st G E kc ks = xm_run call xm_c0 nL mc ms ret Q f (xm_drop 312 xm_c0) lv (.ref j :: st) G E kc ks := by
  rw [xz_0_311, h]; rfl
theorem xy_0_312 {x : Int32} (h : xm_get lv 3 = some (.int x)) : xm_run call xm_c0 nL mc ms ret Q (f + 1) (xm_drop 312 xm_c0) lv st G E kc ks = xm_run call xm_c0 nL mc ms ret Q f (xm_drop 313 xm_c0) lv (.int x :: st) G E kc ks := by
  rw [xz_0_312, h]; rfl
theorem xy_0_314 {x y : Int32} : xm_run call xm_c0 nL mc ms ret Q (f + 1) (xm_drop 314 xm_c0) lv (.int y :: .int x :: st) G E kc ks = xm_run call xm_c0 nL mc ms ret Q f (xm_drop 315 xm_c0) lv (.int (x + y) :: st) G E kc ks := by
  rw [xz_0_314, xk_add]
theorem xy_0_316  : xm_run call xm_c0 nL mc ms ret Q (f + 1) (xm_drop 316 xm_c0) lv st G E kc ks = xm_call call mc ms 102 0 st G E kc ks (fun st G E kc ks => xm_run call xm_c0 nL mc ms ret Q f (xm_drop 317 xm_c0) lv st G E kc ks) := by
  rw [xz_0_316, show (Nat.beq 102 1006 || Nat.beq 102 1007) = false from rfl, cond_false]
theorem xy_0_317 {x : Int32} : xm_run call xm_c0 nL mc ms ret Q (f + 1) (xm_drop 317 xm_c0) lv (.int x :: st) G E kc ks = xm_run call xm_c0 nL mc ms ret Q f (xm_drop 318 xm_c0) lv st G E kc ks := by
  rfl
theorem xy_0_318 {j : Nat} (h : xm_get lv 2 = some (.ref j)) : xm_run call xm_c0 nL mc ms ret Q (f + 1) (xm_drop 318 xm_c0) lv st G E kc ks = xm_run call xm_c0 nL mc ms ret Q f (xm_drop 319 xm_c0) lv (.ref j :: st) G E kc ks := by
  rw [xz_0_318, h]; rfl
theorem xy_0_319 {j : Nat} (h : xm_get lv 0 = some (.ref j)) : xm_run call xm_c0 nL mc ms ret Q (f + 1) (xm_drop 319 xm_c0) lv st G E kc ks = xm_run call xm_c0 nL mc ms ret Q f (xm_drop 320 xm_c0) lv (.ref j :: st) G E kc ks := by
  rw [xz_0_319, h]; rfl
theorem xy_0_320 {x : Int32} (h : xm_get lv 3 = some (.int x)) : xm_run call xm_c0 nL mc ms ret Q (f + 1) (xm_drop 320 xm_c0) lv st G E kc ks = xm_run call xm_c0 nL mc ms ret Q f (xm_drop 321 xm_c0) lv (.int x :: st) G E kc ks := by
  rw [xz_0_320, h]; rfl
theorem xy_0_322 {x y : Int32} : xm_run call xm_c0 nL mc ms ret Q (f + 1) (xm_drop 322 xm_c0) lv (.int y :: .int x :: st) G E kc ks = xm_run call xm_c0 nL mc ms ret Q f (xm_drop 323 xm_c0) lv (.int (x + y) :: st) G E kc ks := by
  rw [xz_0_322, xk_add]
theorem xy_0_324  : xm_run call xm_c0 nL mc ms ret Q (f + 1) (xm_drop 324 xm_c0) lv st G E kc ks = xm_call call mc ms 210 0 st G E kc ks (fun st G E kc ks => xm_run call xm_c0 nL mc ms ret Q f (xm_drop 325 xm_c0) lv st G E kc ks) := by
  rw [xz_0_324, show (Nat.beq 210 1006 || Nat.beq 210 1007) = false from rfl, cond_false]
theorem xy_0_325 {x : Int32} : xm_run call xm_c0 nL mc ms ret Q (f + 1) (xm_drop 325 xm_c0) lv (.int x :: st) G E kc ks = xm_run call xm_c0 nL mc ms ret Q f (xm_drop 326 xm_c0) lv st G E kc ks := by
  rfl
theorem xy_0_326  : xm_run call xm_c0 nL mc ms ret Q (f + 1) (xm_drop 326 xm_c0) lv st G E kc ks = xm_run call xm_c0 nL mc ms ret Q f (xm_drop 682 xm_c0) lv st G E kc ks := by
  rfl
theorem xy_0_327 {j : Nat} (h : xm_get lv 1 = some (.ref j)) : xm_run call xm_c0 nL mc ms ret Q (f + 1) (xm_drop 327 xm_c0) lv st G E kc ks = xm_run call xm_c0 nL mc ms ret Q f (xm_drop 328 xm_c0) lv (.ref j :: st) G E kc ks := by
  rw [xz_0_327, h]; rfl
theorem xy_0_328 {j : Nat} (h : xm_get lv 0 = some (.ref j)) : xm_run call xm_c0 nL mc ms ret Q (f + 1) (xm_drop 328 xm_c0) lv st G E kc ks = xm_run call xm_c0 nL mc ms ret Q f (xm_drop 329 xm_c0) lv (.ref j :: st) G E kc ks := by
  rw [xz_0_328, h]; rfl
theorem xy_0_329 {x : Int32} (h : xm_get lv 3 = some (.int x)) : xm_run call xm_c0 nL mc ms ret Q (f + 1) (xm_drop 329 xm_c0) lv st G E kc ks = xm_run call xm_c0 nL mc ms ret Q f (xm_drop 330 xm_c0) lv (.int x :: st) G E kc ks := by
  rw [xz_0_329, h]; rfl
theorem xy_0_331 {x y : Int32} : xm_run call xm_c0 nL mc ms ret Q (f + 1) (xm_drop 331 xm_c0) lv (.int y :: .int x :: st) G E kc ks = xm_run call xm_c0 nL mc ms ret Q f (xm_drop 332 xm_c0) lv (.int (x + y) :: st) G E kc ks := by
  rw [xz_0_331, xk_add]
theorem xy_0_333 {j : Nat} (h : xm_get lv 0 = some (.ref j)) : xm_run call xm_c0 nL mc ms ret Q (f + 1) (xm_drop 333 xm_c0) lv st G E kc ks = xm_run call xm_c0 nL mc ms ret Q f (xm_drop 334 xm_c0) lv (.ref j :: st) G E kc ks := by
  rw [xz_0_333, h]; rfl
theorem xy_0_334 {x : Int32} (h : xm_get lv 3 = some (.int x)) : xm_run call xm_c0 nL mc ms ret Q (f + 1) (xm_drop 334 xm_c0) lv st G E kc ks = xm_run call xm_c0 nL mc ms ret Q f (xm_drop 335 xm_c0) lv (.int x :: st) G E kc ks := by
  rw [xz_0_334, h]; rfl
theorem xy_0_336 {x y : Int32} : xm_run call xm_c0 nL mc ms ret Q (f + 1) (xm_drop 336 xm_c0) lv (.int y :: .int x :: st) G E kc ks = xm_run call xm_c0 nL mc ms ret Q f (xm_drop 337 xm_c0) lv (.int (x + y) :: st) G E kc ks := by
  rw [xz_0_336, xk_add]
theorem xy_0_338  : xm_run call xm_c0 nL mc ms ret Q (f + 1) (xm_drop 338 xm_c0) lv st G E kc ks = xm_call call mc ms 103 0 st G E kc ks (fun st G E kc ks => xm_run call xm_c0 nL mc ms ret Q f (xm_drop 339 xm_c0) lv st G E kc ks) := by
  rw [xz_0_338, show (Nat.beq 103 1006 || Nat.beq 103 1007) = false from rfl, cond_false]
theorem xy_0_339 {x : Int32} : xm_run call xm_c0 nL mc ms ret Q (f + 1) (xm_drop 339 xm_c0) lv (.int x :: st) G E kc ks = xm_run call xm_c0 nL mc ms ret Q f (xm_drop 340 xm_c0) lv st G E kc ks := by
  rfl
theorem xy_0_340 {j : Nat} (h : xm_get lv 2 = some (.ref j)) : xm_run call xm_c0 nL mc ms ret Q (f + 1) (xm_drop 340 xm_c0) lv st G E kc ks = xm_run call xm_c0 nL mc ms ret Q f (xm_drop 341 xm_c0) lv (.ref j :: st) G E kc ks := by
  rw [xz_0_340, h]; rfl
theorem xy_0_341 {j : Nat} (h : xm_get lv 0 = some (.ref j)) : xm_run call xm_c0 nL mc ms ret Q (f + 1) (xm_drop 341 xm_c0) lv st G E kc ks = xm_run call xm_c0 nL mc ms ret Q f (xm_drop 342 xm_c0) lv (.ref j :: st) G E kc ks := by
  rw [xz_0_341, h]; rfl
theorem xy_0_342 {x : Int32} (h : xm_get lv 3 = some (.int x)) : xm_run call xm_c0 nL mc ms ret Q (f + 1) (xm_drop 342 xm_c0) lv st G E kc ks = xm_run call xm_c0 nL mc ms ret Q f (xm_drop 343 xm_c0) lv (.int x :: st) G E kc ks := by
  rw [xz_0_342, h]; rfl
theorem xy_0_344 {x y : Int32} : xm_run call xm_c0 nL mc ms ret Q (f + 1) (xm_drop 344 xm_c0) lv (.int y :: .int x :: st) G E kc ks = xm_run call xm_c0 nL mc ms ret Q f (xm_drop 345 xm_c0) lv (.int (x + y) :: st) G E kc ks := by
  rw [xz_0_344, xk_add]
theorem xy_0_346 {j : Nat} (h : xm_get lv 0 = some (.ref j)) : xm_run call xm_c0 nL mc ms ret Q (f + 1) (xm_drop 346 xm_c0) lv st G E kc ks = xm_run call xm_c0 nL mc ms ret Q f (xm_drop 347 xm_c0) lv (.ref j :: st) G E kc ks := by
  rw [xz_0_346, h]; rfl
theorem xy_0_347 {x : Int32} (h : xm_get lv 3 = some (.int x)) : xm_run call xm_c0 nL mc ms ret Q (f + 1) (xm_drop 347 xm_c0) lv st G E kc ks = xm_run call xm_c0 nL mc ms ret Q f (xm_drop 348 xm_c0) lv (.int x :: st) G E kc ks := by
  rw [xz_0_347, h]; rfl
theorem xy_0_349 {x y : Int32} : xm_run call xm_c0 nL mc ms ret Q (f + 1) (xm_drop 349 xm_c0) lv (.int y :: .int x :: st) G E kc ks = xm_run call xm_c0 nL mc ms ret Q f (xm_drop 350 xm_c0) lv (.int (x + y) :: st) G E kc ks := by
  rw [xz_0_349, xk_add]
theorem xy_0_351  : xm_run call xm_c0 nL mc ms ret Q (f + 1) (xm_drop 351 xm_c0) lv st G E kc ks = xm_call call mc ms 211 0 st G E kc ks (fun st G E kc ks => xm_run call xm_c0 nL mc ms ret Q f (xm_drop 352 xm_c0) lv st G E kc ks) := by
  rw [xz_0_351, show (Nat.beq 211 1006 || Nat.beq 211 1007) = false from rfl, cond_false]
theorem xy_0_352 {x : Int32} : xm_run call xm_c0 nL mc ms ret Q (f + 1) (xm_drop 352 xm_c0) lv (.int x :: st) G E kc ks = xm_run call xm_c0 nL mc ms ret Q f (xm_drop 353 xm_c0) lv st G E kc ks := by
  rfl
theorem xy_0_353  : xm_run call xm_c0 nL mc ms ret Q (f + 1) (xm_drop 353 xm_c0) lv st G E kc ks = xm_run call xm_c0 nL mc ms ret Q f (xm_drop 682 xm_c0) lv st G E kc ks := by
  rfl
theorem xy_0_354 {j : Nat} (h : xm_get lv 1 = some (.ref j)) : xm_run call xm_c0 nL mc ms ret Q (f + 1) (xm_drop 354 xm_c0) lv st G E kc ks = xm_run call xm_c0 nL mc ms ret Q f (xm_drop 355 xm_c0) lv (.ref j :: st) G E kc ks := by
  rw [xz_0_354, h]; rfl
theorem xy_0_355 {j : Nat} (h : xm_get lv 0 = some (.ref j)) : xm_run call xm_c0 nL mc ms ret Q (f + 1) (xm_drop 355 xm_c0) lv st G E kc ks = xm_run call xm_c0 nL mc ms ret Q f (xm_drop 356 xm_c0) lv (.ref j :: st) G E kc ks := by
  rw [xz_0_355, h]; rfl
theorem xy_0_356 {x : Int32} (h : xm_get lv 3 = some (.int x)) : xm_run call xm_c0 nL mc ms ret Q (f + 1) (xm_drop 356 xm_c0) lv st G E kc ks = xm_run call xm_c0 nL mc ms ret Q f (xm_drop 357 xm_c0) lv (.int x :: st) G E kc ks := by
  rw [xz_0_356, h]; rfl
theorem xy_0_358 {x y : Int32} : xm_run call xm_c0 nL mc ms ret Q (f + 1) (xm_drop 358 xm_c0) lv (.int y :: .int x :: st) G E kc ks = xm_run call xm_c0 nL mc ms ret Q f (xm_drop 359 xm_c0) lv (.int (x + y) :: st) G E kc ks := by
  rw [xz_0_358, xk_add]
theorem xy_0_360  : xm_run call xm_c0 nL mc ms ret Q (f + 1) (xm_drop 360 xm_c0) lv st G E kc ks = xm_call call mc ms 104 0 st G E kc ks (fun st G E kc ks => xm_run call xm_c0 nL mc ms ret Q f (xm_drop 361 xm_c0) lv st G E kc ks) := by
  rw [xz_0_360, show (Nat.beq 104 1006 || Nat.beq 104 1007) = false from rfl, cond_false]
theorem xy_0_361 {x : Int32} : xm_run call xm_c0 nL mc ms ret Q (f + 1) (xm_drop 361 xm_c0) lv (.int x :: st) G E kc ks = xm_run call xm_c0 nL mc ms ret Q f (xm_drop 362 xm_c0) lv st G E kc ks := by
  rfl
theorem xy_0_362 {j : Nat} (h : xm_get lv 2 = some (.ref j)) : xm_run call xm_c0 nL mc ms ret Q (f + 1) (xm_drop 362 xm_c0) lv st G E kc ks = xm_run call xm_c0 nL mc ms ret Q f (xm_drop 363 xm_c0) lv (.ref j :: st) G E kc ks := by
  rw [xz_0_362, h]; rfl
theorem xy_0_363 {j : Nat} (h : xm_get lv 0 = some (.ref j)) : xm_run call xm_c0 nL mc ms ret Q (f + 1) (xm_drop 363 xm_c0) lv st G E kc ks = xm_run call xm_c0 nL mc ms ret Q f (xm_drop 364 xm_c0) lv (.ref j :: st) G E kc ks := by
  rw [xz_0_363, h]; rfl
theorem xy_0_364 {x : Int32} (h : xm_get lv 3 = some (.int x)) : xm_run call xm_c0 nL mc ms ret Q (f + 1) (xm_drop 364 xm_c0) lv st G E kc ks = xm_run call xm_c0 nL mc ms ret Q f (xm_drop 365 xm_c0) lv (.int x :: st) G E kc ks := by
  rw [xz_0_364, h]; rfl
theorem xy_0_366 {x y : Int32} : xm_run call xm_c0 nL mc ms ret Q (f + 1) (xm_drop 366 xm_c0) lv (.int y :: .int x :: st) G E kc ks = xm_run call xm_c0 nL mc ms ret Q f (xm_drop 367 xm_c0) lv (.int (x + y) :: st) G E kc ks := by
  rw [xz_0_366, xk_add]
theorem xy_0_368  : xm_run call xm_c0 nL mc ms ret Q (f + 1) (xm_drop 368 xm_c0) lv st G E kc ks = xm_call call mc ms 212 0 st G E kc ks (fun st G E kc ks => xm_run call xm_c0 nL mc ms ret Q f (xm_drop 369 xm_c0) lv st G E kc ks) := by
  rw [xz_0_368, show (Nat.beq 212 1006 || Nat.beq 212 1007) = false from rfl, cond_false]
theorem xy_0_369 {x : Int32} : xm_run call xm_c0 nL mc ms ret Q (f + 1) (xm_drop 369 xm_c0) lv (.int x :: st) G E kc ks = xm_run call xm_c0 nL mc ms ret Q f (xm_drop 370 xm_c0) lv st G E kc ks := by
  rfl
theorem xy_0_370  : xm_run call xm_c0 nL mc ms ret Q (f + 1) (xm_drop 370 xm_c0) lv st G E kc ks = xm_run call xm_c0 nL mc ms ret Q f (xm_drop 682 xm_c0) lv st G E kc ks := by
  rfl
theorem xy_0_371 {j : Nat} (h : xm_get lv 1 = some (.ref j)) : xm_run call xm_c0 nL mc ms ret Q (f + 1) (xm_drop 371 xm_c0) lv st G E kc ks = xm_run call xm_c0 nL mc ms ret Q f (xm_drop 372 xm_c0) lv (.ref j :: st) G E kc ks := by
  rw [xz_0_371, h]; rfl
theorem xy_0_372 {j : Nat} (h : xm_get lv 0 = some (.ref j)) : xm_run call xm_c0 nL mc ms ret Q (f + 1) (xm_drop 372 xm_c0) lv st G E kc ks = xm_run call xm_c0 nL mc ms ret Q f (xm_drop 373 xm_c0) lv (.ref j :: st) G E kc ks := by
  rw [xz_0_372, h]; rfl
theorem xy_0_373 {x : Int32} (h : xm_get lv 3 = some (.int x)) : xm_run call xm_c0 nL mc ms ret Q (f + 1) (xm_drop 373 xm_c0) lv st G E kc ks = xm_run call xm_c0 nL mc ms ret Q f (xm_drop 374 xm_c0) lv (.int x :: st) G E kc ks := by
  rw [xz_0_373, h]; rfl
theorem xy_0_375 {x y : Int32} : xm_run call xm_c0 nL mc ms ret Q (f + 1) (xm_drop 375 xm_c0) lv (.int y :: .int x :: st) G E kc ks = xm_run call xm_c0 nL mc ms ret Q f (xm_drop 376 xm_c0) lv (.int (x + y) :: st) G E kc ks := by
  rw [xz_0_375, xk_add]
theorem xy_0_377 {j : Nat} (h : xm_get lv 0 = some (.ref j)) : xm_run call xm_c0 nL mc ms ret Q (f + 1) (xm_drop 377 xm_c0) lv st G E kc ks = xm_run call xm_c0 nL mc ms ret Q f (xm_drop 378 xm_c0) lv (.ref j :: st) G E kc ks := by
  rw [xz_0_377, h]; rfl
theorem xy_0_378 {x : Int32} (h : xm_get lv 3 = some (.int x)) : xm_run call xm_c0 nL mc ms ret Q (f + 1) (xm_drop 378 xm_c0) lv st G E kc ks = xm_run call xm_c0 nL mc ms ret Q f (xm_drop 379 xm_c0) lv (.int x :: st) G E kc ks := by
  rw [xz_0_378, h]; rfl
theorem xy_0_380 {x y : Int32} : xm_run call xm_c0 nL mc ms ret Q (f + 1) (xm_drop 380 xm_c0) lv (.int y :: .int x :: st) G E kc ks = xm_run call xm_c0 nL mc ms ret Q f (xm_drop 381 xm_c0) lv (.int (x + y) :: st) G E kc ks := by
  rw [xz_0_380, xk_add]
theorem xy_0_382 {j : Nat} (h : xm_get lv 0 = some (.ref j)) : xm_run call xm_c0 nL mc ms ret Q (f + 1) (xm_drop 382 xm_c0) lv st G E kc ks = xm_run call xm_c0 nL mc ms ret Q f (xm_drop 383 xm_c0) lv (.ref j :: st) G E kc ks := by
  rw [xz_0_382, h]; rfl
theorem xy_0_383 {x : Int32} (h : xm_get lv 3 = some (.int x)) : xm_run call xm_c0 nL mc ms ret Q (f + 1) (xm_drop 383 xm_c0) lv st G E kc ks = xm_run call xm_c0 nL mc ms ret Q f (xm_drop 384 xm_c0) lv (.int x :: st) G E kc ks := by
  rw [xz_0_383, h]; rfl
theorem xy_0_385 {x y : Int32} : xm_run call xm_c0 nL mc ms ret Q (f + 1) (xm_drop 385 xm_c0) lv (.int y :: .int x :: st) G E kc ks = xm_run call xm_c0 nL mc ms ret Q f (xm_drop 386 xm_c0) lv (.int (x + y) :: st) G E kc ks := by
  rw [xz_0_385, xk_add]
theorem xy_0_387 {j : Nat} (h : xm_get lv 0 = some (.ref j)) : xm_run call xm_c0 nL mc ms ret Q (f + 1) (xm_drop 387 xm_c0) lv st G E kc ks = xm_run call xm_c0 nL mc ms ret Q f (xm_drop 388 xm_c0) lv (.ref j :: st) G E kc ks := by
  rw [xz_0_387, h]; rfl
theorem xy_0_388 {x : Int32} (h : xm_get lv 3 = some (.int x)) : xm_run call xm_c0 nL mc ms ret Q (f + 1) (xm_drop 388 xm_c0) lv st G E kc ks = xm_run call xm_c0 nL mc ms ret Q f (xm_drop 389 xm_c0) lv (.int x :: st) G E kc ks := by
  rw [xz_0_388, h]; rfl
theorem xy_0_390 {x y : Int32} : xm_run call xm_c0 nL mc ms ret Q (f + 1) (xm_drop 390 xm_c0) lv (.int y :: .int x :: st) G E kc ks = xm_run call xm_c0 nL mc ms ret Q f (xm_drop 391 xm_c0) lv (.int (x + y) :: st) G E kc ks := by
  rw [xz_0_390, xk_add]
theorem xy_0_392  : xm_run call xm_c0 nL mc ms ret Q (f + 1) (xm_drop 392 xm_c0) lv st G E kc ks = xm_call call mc ms 105 0 st G E kc ks (fun st G E kc ks => xm_run call xm_c0 nL mc ms ret Q f (xm_drop 393 xm_c0) lv st G E kc ks) := by
  rw [xz_0_392, show (Nat.beq 105 1006 || Nat.beq 105 1007) = false from rfl, cond_false]
theorem xy_0_393 {x : Int32} : xm_run call xm_c0 nL mc ms ret Q (f + 1) (xm_drop 393 xm_c0) lv (.int x :: st) G E kc ks = xm_run call xm_c0 nL mc ms ret Q f (xm_drop 394 xm_c0) lv st G E kc ks := by
  rfl
theorem xy_0_394 {j : Nat} (h : xm_get lv 2 = some (.ref j)) : xm_run call xm_c0 nL mc ms ret Q (f + 1) (xm_drop 394 xm_c0) lv st G E kc ks = xm_run call xm_c0 nL mc ms ret Q f (xm_drop 395 xm_c0) lv (.ref j :: st) G E kc ks := by
  rw [xz_0_394, h]; rfl
theorem xy_0_395 {j : Nat} (h : xm_get lv 0 = some (.ref j)) : xm_run call xm_c0 nL mc ms ret Q (f + 1) (xm_drop 395 xm_c0) lv st G E kc ks = xm_run call xm_c0 nL mc ms ret Q f (xm_drop 396 xm_c0) lv (.ref j :: st) G E kc ks := by
  rw [xz_0_395, h]; rfl
theorem xy_0_396 {x : Int32} (h : xm_get lv 3 = some (.int x)) : xm_run call xm_c0 nL mc ms ret Q (f + 1) (xm_drop 396 xm_c0) lv st G E kc ks = xm_run call xm_c0 nL mc ms ret Q f (xm_drop 397 xm_c0) lv (.int x :: st) G E kc ks := by
  rw [xz_0_396, h]; rfl
theorem xy_0_398 {x y : Int32} : xm_run call xm_c0 nL mc ms ret Q (f + 1) (xm_drop 398 xm_c0) lv (.int y :: .int x :: st) G E kc ks = xm_run call xm_c0 nL mc ms ret Q f (xm_drop 399 xm_c0) lv (.int (x + y) :: st) G E kc ks := by
  rw [xz_0_398, xk_add]
theorem xy_0_400 {j : Nat} (h : xm_get lv 0 = some (.ref j)) : xm_run call xm_c0 nL mc ms ret Q (f + 1) (xm_drop 400 xm_c0) lv st G E kc ks = xm_run call xm_c0 nL mc ms ret Q f (xm_drop 401 xm_c0) lv (.ref j :: st) G E kc ks := by
  rw [xz_0_400, h]; rfl
theorem xy_0_401 {x : Int32} (h : xm_get lv 3 = some (.int x)) : xm_run call xm_c0 nL mc ms ret Q (f + 1) (xm_drop 401 xm_c0) lv st G E kc ks = xm_run call xm_c0 nL mc ms ret Q f (xm_drop 402 xm_c0) lv (.int x :: st) G E kc ks := by
  rw [xz_0_401, h]; rfl
theorem xy_0_403 {x y : Int32} : xm_run call xm_c0 nL mc ms ret Q (f + 1) (xm_drop 403 xm_c0) lv (.int y :: .int x :: st) G E kc ks = xm_run call xm_c0 nL mc ms ret Q f (xm_drop 404 xm_c0) lv (.int (x + y) :: st) G E kc ks := by
  rw [xz_0_403, xk_add]
theorem xy_0_405 {j : Nat} (h : xm_get lv 0 = some (.ref j)) : xm_run call xm_c0 nL mc ms ret Q (f + 1) (xm_drop 405 xm_c0) lv st G E kc ks = xm_run call xm_c0 nL mc ms ret Q f (xm_drop 406 xm_c0) lv (.ref j :: st) G E kc ks := by
  rw [xz_0_405, h]; rfl
theorem xy_0_406 {x : Int32} (h : xm_get lv 3 = some (.int x)) : xm_run call xm_c0 nL mc ms ret Q (f + 1) (xm_drop 406 xm_c0) lv st G E kc ks = xm_run call xm_c0 nL mc ms ret Q f (xm_drop 407 xm_c0) lv (.int x :: st) G E kc ks := by
  rw [xz_0_406, h]; rfl
theorem xy_0_408 {x y : Int32} : xm_run call xm_c0 nL mc ms ret Q (f + 1) (xm_drop 408 xm_c0) lv (.int y :: .int x :: st) G E kc ks = xm_run call xm_c0 nL mc ms ret Q f (xm_drop 409 xm_c0) lv (.int (x + y) :: st) G E kc ks := by
  rw [xz_0_408, xk_add]
theorem xy_0_410 {j : Nat} (h : xm_get lv 0 = some (.ref j)) : xm_run call xm_c0 nL mc ms ret Q (f + 1) (xm_drop 410 xm_c0) lv st G E kc ks = xm_run call xm_c0 nL mc ms ret Q f (xm_drop 411 xm_c0) lv (.ref j :: st) G E kc ks := by
  rw [xz_0_410, h]; rfl
theorem xy_0_411 {x : Int32} (h : xm_get lv 3 = some (.int x)) : xm_run call xm_c0 nL mc ms ret Q (f + 1) (xm_drop 411 xm_c0) lv st G E kc ks = xm_run call xm_c0 nL mc ms ret Q f (xm_drop 412 xm_c0) lv (.int x :: st) G E kc ks := by
  rw [xz_0_411, h]; rfl
theorem xy_0_413 {x y : Int32} : xm_run call xm_c0 nL mc ms ret Q (f + 1) (xm_drop 413 xm_c0) lv (.int y :: .int x :: st) G E kc ks = xm_run call xm_c0 nL mc ms ret Q f (xm_drop 414 xm_c0) lv (.int (x + y) :: st) G E kc ks := by
  rw [xz_0_413, xk_add]
theorem xy_0_415  : xm_run call xm_c0 nL mc ms ret Q (f + 1) (xm_drop 415 xm_c0) lv st G E kc ks = xm_call call mc ms 215 0 st G E kc ks (fun st G E kc ks => xm_run call xm_c0 nL mc ms ret Q f (xm_drop 416 xm_c0) lv st G E kc ks) := by
  rw [xz_0_415, show (Nat.beq 215 1006 || Nat.beq 215 1007) = false from rfl, cond_false]
theorem xy_0_416 {x : Int32} : xm_run call xm_c0 nL mc ms ret Q (f + 1) (xm_drop 416 xm_c0) lv (.int x :: st) G E kc ks = xm_run call xm_c0 nL mc ms ret Q f (xm_drop 417 xm_c0) lv st G E kc ks := by
  rfl
theorem xy_0_417  : xm_run call xm_c0 nL mc ms ret Q (f + 1) (xm_drop 417 xm_c0) lv st G E kc ks = xm_run call xm_c0 nL mc ms ret Q f (xm_drop 682 xm_c0) lv st G E kc ks := by
  rfl
theorem xy_0_418 {j : Nat} (h : xm_get lv 1 = some (.ref j)) : xm_run call xm_c0 nL mc ms ret Q (f + 1) (xm_drop 418 xm_c0) lv st G E kc ks = xm_run call xm_c0 nL mc ms ret Q f (xm_drop 419 xm_c0) lv (.ref j :: st) G E kc ks := by
  rw [xz_0_418, h]; rfl
theorem xy_0_419 {j : Nat} (h : xm_get lv 0 = some (.ref j)) : xm_run call xm_c0 nL mc ms ret Q (f + 1) (xm_drop 419 xm_c0) lv st G E kc ks = xm_run call xm_c0 nL mc ms ret Q f (xm_drop 420 xm_c0) lv (.ref j :: st) G E kc ks := by
  rw [xz_0_419, h]; rfl
theorem xy_0_420 {x : Int32} (h : xm_get lv 3 = some (.int x)) : xm_run call xm_c0 nL mc ms ret Q (f + 1) (xm_drop 420 xm_c0) lv st G E kc ks = xm_run call xm_c0 nL mc ms ret Q f (xm_drop 421 xm_c0) lv (.int x :: st) G E kc ks := by
  rw [xz_0_420, h]; rfl
theorem xy_0_422 {x y : Int32} : xm_run call xm_c0 nL mc ms ret Q (f + 1) (xm_drop 422 xm_c0) lv (.int y :: .int x :: st) G E kc ks = xm_run call xm_c0 nL mc ms ret Q f (xm_drop 423 xm_c0) lv (.int (x + y) :: st) G E kc ks := by
  rw [xz_0_422, xk_add]
theorem xy_0_424 {j : Nat} (h : xm_get lv 0 = some (.ref j)) : xm_run call xm_c0 nL mc ms ret Q (f + 1) (xm_drop 424 xm_c0) lv st G E kc ks = xm_run call xm_c0 nL mc ms ret Q f (xm_drop 425 xm_c0) lv (.ref j :: st) G E kc ks := by
  rw [xz_0_424, h]; rfl
theorem xy_0_425 {x : Int32} (h : xm_get lv 3 = some (.int x)) : xm_run call xm_c0 nL mc ms ret Q (f + 1) (xm_drop 425 xm_c0) lv st G E kc ks = xm_run call xm_c0 nL mc ms ret Q f (xm_drop 426 xm_c0) lv (.int x :: st) G E kc ks := by
  rw [xz_0_425, h]; rfl
theorem xy_0_427 {x y : Int32} : xm_run call xm_c0 nL mc ms ret Q (f + 1) (xm_drop 427 xm_c0) lv (.int y :: .int x :: st) G E kc ks = xm_run call xm_c0 nL mc ms ret Q f (xm_drop 428 xm_c0) lv (.int (x + y) :: st) G E kc ks := by
  rw [xz_0_427, xk_add]
theorem xy_0_429  : xm_run call xm_c0 nL mc ms ret Q (f + 1) (xm_drop 429 xm_c0) lv st G E kc ks = xm_call call mc ms 106 0 st G E kc ks (fun st G E kc ks => xm_run call xm_c0 nL mc ms ret Q f (xm_drop 430 xm_c0) lv st G E kc ks) := by
  rw [xz_0_429, show (Nat.beq 106 1006 || Nat.beq 106 1007) = false from rfl, cond_false]
theorem xy_0_430 {x : Int32} : xm_run call xm_c0 nL mc ms ret Q (f + 1) (xm_drop 430 xm_c0) lv (.int x :: st) G E kc ks = xm_run call xm_c0 nL mc ms ret Q f (xm_drop 431 xm_c0) lv st G E kc ks := by
  rfl
theorem xy_0_431 {j : Nat} (h : xm_get lv 2 = some (.ref j)) : xm_run call xm_c0 nL mc ms ret Q (f + 1) (xm_drop 431 xm_c0) lv st G E kc ks = xm_run call xm_c0 nL mc ms ret Q f (xm_drop 432 xm_c0) lv (.ref j :: st) G E kc ks := by
  rw [xz_0_431, h]; rfl
theorem xy_0_432 {j : Nat} (h : xm_get lv 0 = some (.ref j)) : xm_run call xm_c0 nL mc ms ret Q (f + 1) (xm_drop 432 xm_c0) lv st G E kc ks = xm_run call xm_c0 nL mc ms ret Q f (xm_drop 433 xm_c0) lv (.ref j :: st) G E kc ks := by
  rw [xz_0_432, h]; rfl
theorem xy_0_433 {x : Int32} (h : xm_get lv 3 = some (.int x)) : xm_run call xm_c0 nL mc ms ret Q (f + 1) (xm_drop 433 xm_c0) lv st G E kc ks = xm_run call xm_c0 nL mc ms ret Q f (xm_drop 434 xm_c0) lv (.int x :: st) G E kc ks := by
  rw [xz_0_433, h]; rfl
theorem xy_0_435 {x y : Int32} : xm_run call xm_c0 nL mc ms ret Q (f + 1) (xm_drop 435 xm_c0) lv (.int y :: .int x :: st) G E kc ks = xm_run call xm_c0 nL mc ms ret Q f (xm_drop 436 xm_c0) lv (.int (x + y) :: st) G E kc ks := by
  rw [xz_0_435, xk_add]
theorem xy_0_437 {j : Nat} (h : xm_get lv 0 = some (.ref j)) : xm_run call xm_c0 nL mc ms ret Q (f + 1) (xm_drop 437 xm_c0) lv st G E kc ks = xm_run call xm_c0 nL mc ms ret Q f (xm_drop 438 xm_c0) lv (.ref j :: st) G E kc ks := by
  rw [xz_0_437, h]; rfl
theorem xy_0_438 {x : Int32} (h : xm_get lv 3 = some (.int x)) : xm_run call xm_c0 nL mc ms ret Q (f + 1) (xm_drop 438 xm_c0) lv st G E kc ks = xm_run call xm_c0 nL mc ms ret Q f (xm_drop 439 xm_c0) lv (.int x :: st) G E kc ks := by
  rw [xz_0_438, h]; rfl
theorem xy_0_440 {x y : Int32} : xm_run call xm_c0 nL mc ms ret Q (f + 1) (xm_drop 440 xm_c0) lv (.int y :: .int x :: st) G E kc ks = xm_run call xm_c0 nL mc ms ret Q f (xm_drop 441 xm_c0) lv (.int (x + y) :: st) G E kc ks := by
  rw [xz_0_440, xk_add]
theorem xy_0_442  : xm_run call xm_c0 nL mc ms ret Q (f + 1) (xm_drop 442 xm_c0) lv st G E kc ks = xm_call call mc ms 216 0 st G E kc ks (fun st G E kc ks => xm_run call xm_c0 nL mc ms ret Q f (xm_drop 443 xm_c0) lv st G E kc ks) := by
  rw [xz_0_442, show (Nat.beq 216 1006 || Nat.beq 216 1007) = false from rfl, cond_false]
theorem xy_0_443 {x : Int32} : xm_run call xm_c0 nL mc ms ret Q (f + 1) (xm_drop 443 xm_c0) lv (.int x :: st) G E kc ks = xm_run call xm_c0 nL mc ms ret Q f (xm_drop 444 xm_c0) lv st G E kc ks := by
  rfl
theorem xy_0_444  : xm_run call xm_c0 nL mc ms ret Q (f + 1) (xm_drop 444 xm_c0) lv st G E kc ks = xm_run call xm_c0 nL mc ms ret Q f (xm_drop 682 xm_c0) lv st G E kc ks := by
  rfl
theorem xy_0_445 {j : Nat} (h : xm_get lv 1 = some (.ref j)) : xm_run call xm_c0 nL mc ms ret Q (f + 1) (xm_drop 445 xm_c0) lv st G E kc ks = xm_run call xm_c0 nL mc ms ret Q f (xm_drop 446 xm_c0) lv (.ref j :: st) G E kc ks := by
  rw [xz_0_445, h]; rfl
theorem xy_0_446 {j : Nat} (h : xm_get lv 0 = some (.ref j)) : xm_run call xm_c0 nL mc ms ret Q (f + 1) (xm_drop 446 xm_c0) lv st G E kc ks = xm_run call xm_c0 nL mc ms ret Q f (xm_drop 447 xm_c0) lv (.ref j :: st) G E kc ks := by
  rw [xz_0_446, h]; rfl
theorem xy_0_447 {x : Int32} (h : xm_get lv 3 = some (.int x)) : xm_run call xm_c0 nL mc ms ret Q (f + 1) (xm_drop 447 xm_c0) lv st G E kc ks = xm_run call xm_c0 nL mc ms ret Q f (xm_drop 448 xm_c0) lv (.int x :: st) G E kc ks := by
  rw [xz_0_447, h]; rfl
theorem xy_0_449 {x y : Int32} : xm_run call xm_c0 nL mc ms ret Q (f + 1) (xm_drop 449 xm_c0) lv (.int y :: .int x :: st) G E kc ks = xm_run call xm_c0 nL mc ms ret Q f (xm_drop 450 xm_c0) lv (.int (x + y) :: st) G E kc ks := by
  rw [xz_0_449, xk_add]
theorem xy_0_451  : xm_run call xm_c0 nL mc ms ret Q (f + 1) (xm_drop 451 xm_c0) lv st G E kc ks = xm_call call mc ms 107 0 st G E kc ks (fun st G E kc ks => xm_run call xm_c0 nL mc ms ret Q f (xm_drop 452 xm_c0) lv st G E kc ks) := by
  rw [xz_0_451, show (Nat.beq 107 1006 || Nat.beq 107 1007) = false from rfl, cond_false]
theorem xy_0_452 {x : Int32} : xm_run call xm_c0 nL mc ms ret Q (f + 1) (xm_drop 452 xm_c0) lv (.int x :: st) G E kc ks = xm_run call xm_c0 nL mc ms ret Q f (xm_drop 453 xm_c0) lv st G E kc ks := by
  rfl
theorem xy_0_453 {j : Nat} (h : xm_get lv 2 = some (.ref j)) : xm_run call xm_c0 nL mc ms ret Q (f + 1) (xm_drop 453 xm_c0) lv st G E kc ks = xm_run call xm_c0 nL mc ms ret Q f (xm_drop 454 xm_c0) lv (.ref j :: st) G E kc ks := by
  rw [xz_0_453, h]; rfl
theorem xy_0_454 {j : Nat} (h : xm_get lv 0 = some (.ref j)) : xm_run call xm_c0 nL mc ms ret Q (f + 1) (xm_drop 454 xm_c0) lv st G E kc ks = xm_run call xm_c0 nL mc ms ret Q f (xm_drop 455 xm_c0) lv (.ref j :: st) G E kc ks := by
  rw [xz_0_454, h]; rfl
theorem xy_0_455 {x : Int32} (h : xm_get lv 3 = some (.int x)) : xm_run call xm_c0 nL mc ms ret Q (f + 1) (xm_drop 455 xm_c0) lv st G E kc ks = xm_run call xm_c0 nL mc ms ret Q f (xm_drop 456 xm_c0) lv (.int x :: st) G E kc ks := by
  rw [xz_0_455, h]; rfl
theorem xy_0_457 {x y : Int32} : xm_run call xm_c0 nL mc ms ret Q (f + 1) (xm_drop 457 xm_c0) lv (.int y :: .int x :: st) G E kc ks = xm_run call xm_c0 nL mc ms ret Q f (xm_drop 458 xm_c0) lv (.int (x + y) :: st) G E kc ks := by
  rw [xz_0_457, xk_add]
theorem xy_0_459  : xm_run call xm_c0 nL mc ms ret Q (f + 1) (xm_drop 459 xm_c0) lv st G E kc ks = xm_call call mc ms 222 0 st G E kc ks (fun st G E kc ks => xm_run call xm_c0 nL mc ms ret Q f (xm_drop 460 xm_c0) lv st G E kc ks) := by
  rw [xz_0_459, show (Nat.beq 222 1006 || Nat.beq 222 1007) = false from rfl, cond_false]
theorem xy_0_460 {x : Int32} : xm_run call xm_c0 nL mc ms ret Q (f + 1) (xm_drop 460 xm_c0) lv (.int x :: st) G E kc ks = xm_run call xm_c0 nL mc ms ret Q f (xm_drop 461 xm_c0) lv st G E kc ks := by
  rfl
theorem xy_0_461  : xm_run call xm_c0 nL mc ms ret Q (f + 1) (xm_drop 461 xm_c0) lv st G E kc ks = xm_run call xm_c0 nL mc ms ret Q f (xm_drop 682 xm_c0) lv st G E kc ks := by
  rfl
theorem xy_0_462 {j : Nat} (h : xm_get lv 1 = some (.ref j)) : xm_run call xm_c0 nL mc ms ret Q (f + 1) (xm_drop 462 xm_c0) lv st G E kc ks = xm_run call xm_c0 nL mc ms ret Q f (xm_drop 463 xm_c0) lv (.ref j :: st) G E kc ks := by
  rw [xz_0_462, h]; rfl
theorem xy_0_463 {j : Nat} (h : xm_get lv 0 = some (.ref j)) : xm_run call xm_c0 nL mc ms ret Q (f + 1) (xm_drop 463 xm_c0) lv st G E kc ks = xm_run call xm_c0 nL mc ms ret Q f (xm_drop 464 xm_c0) lv (.ref j :: st) G E kc ks := by
  rw [xz_0_463, h]; rfl
theorem xy_0_464 {x : Int32} (h : xm_get lv 3 = some (.int x)) : xm_run call xm_c0 nL mc ms ret Q (f + 1) (xm_drop 464 xm_c0) lv st G E kc ks = xm_run call xm_c0 nL mc ms ret Q f (xm_drop 465 xm_c0) lv (.int x :: st) G E kc ks := by
  rw [xz_0_464, h]; rfl
theorem xy_0_466 {x y : Int32} : xm_run call xm_c0 nL mc ms ret Q (f + 1) (xm_drop 466 xm_c0) lv (.int y :: .int x :: st) G E kc ks = xm_run call xm_c0 nL mc ms ret Q f (xm_drop 467 xm_c0) lv (.int (x + y) :: st) G E kc ks := by
  rw [xz_0_466, xk_add]
theorem xy_0_468  : xm_run call xm_c0 nL mc ms ret Q (f + 1) (xm_drop 468 xm_c0) lv st G E kc ks = xm_call call mc ms 108 0 st G E kc ks (fun st G E kc ks => xm_run call xm_c0 nL mc ms ret Q f (xm_drop 469 xm_c0) lv st G E kc ks) := by
  rw [xz_0_468, show (Nat.beq 108 1006 || Nat.beq 108 1007) = false from rfl, cond_false]
theorem xy_0_469 {x : Int32} : xm_run call xm_c0 nL mc ms ret Q (f + 1) (xm_drop 469 xm_c0) lv (.int x :: st) G E kc ks = xm_run call xm_c0 nL mc ms ret Q f (xm_drop 470 xm_c0) lv st G E kc ks := by
  rfl
theorem xy_0_470 {j : Nat} (h : xm_get lv 2 = some (.ref j)) : xm_run call xm_c0 nL mc ms ret Q (f + 1) (xm_drop 470 xm_c0) lv st G E kc ks = xm_run call xm_c0 nL mc ms ret Q f (xm_drop 471 xm_c0) lv (.ref j :: st) G E kc ks := by
  rw [xz_0_470, h]; rfl
theorem xy_0_471 {j : Nat} (h : xm_get lv 0 = some (.ref j)) : xm_run call xm_c0 nL mc ms ret Q (f + 1) (xm_drop 471 xm_c0) lv st G E kc ks = xm_run call xm_c0 nL mc ms ret Q f (xm_drop 472 xm_c0) lv (.ref j :: st) G E kc ks := by
  rw [xz_0_471, h]; rfl
theorem xy_0_472 {x : Int32} (h : xm_get lv 3 = some (.int x)) : xm_run call xm_c0 nL mc ms ret Q (f + 1) (xm_drop 472 xm_c0) lv st G E kc ks = xm_run call xm_c0 nL mc ms ret Q f (xm_drop 473 xm_c0) lv (.int x :: st) G E kc ks := by
  rw [xz_0_472, h]; rfl
theorem xy_0_474 {x y : Int32} : xm_run call xm_c0 nL mc ms ret Q (f + 1) (xm_drop 474 xm_c0) lv (.int y :: .int x :: st) G E kc ks = xm_run call xm_c0 nL mc ms ret Q f (xm_drop 475 xm_c0) lv (.int (x + y) :: st) G E kc ks := by
  rw [xz_0_474, xk_add]
theorem xy_0_476  : xm_run call xm_c0 nL mc ms ret Q (f + 1) (xm_drop 476 xm_c0) lv st G E kc ks = xm_call call mc ms 224 0 st G E kc ks (fun st G E kc ks => xm_run call xm_c0 nL mc ms ret Q f (xm_drop 477 xm_c0) lv st G E kc ks) := by
  rw [xz_0_476, show (Nat.beq 224 1006 || Nat.beq 224 1007) = false from rfl, cond_false]
theorem xy_0_477 {x : Int32} : xm_run call xm_c0 nL mc ms ret Q (f + 1) (xm_drop 477 xm_c0) lv (.int x :: st) G E kc ks = xm_run call xm_c0 nL mc ms ret Q f (xm_drop 478 xm_c0) lv st G E kc ks := by
  rfl
theorem xy_0_478  : xm_run call xm_c0 nL mc ms ret Q (f + 1) (xm_drop 478 xm_c0) lv st G E kc ks = xm_run call xm_c0 nL mc ms ret Q f (xm_drop 682 xm_c0) lv st G E kc ks := by
  rfl
theorem xy_0_479 {j : Nat} (h : xm_get lv 1 = some (.ref j)) : xm_run call xm_c0 nL mc ms ret Q (f + 1) (xm_drop 479 xm_c0) lv st G E kc ks = xm_run call xm_c0 nL mc ms ret Q f (xm_drop 480 xm_c0) lv (.ref j :: st) G E kc ks := by
  rw [xz_0_479, h]; rfl
theorem xy_0_480 {j : Nat} (h : xm_get lv 0 = some (.ref j)) : xm_run call xm_c0 nL mc ms ret Q (f + 1) (xm_drop 480 xm_c0) lv st G E kc ks = xm_run call xm_c0 nL mc ms ret Q f (xm_drop 481 xm_c0) lv (.ref j :: st) G E kc ks := by
  rw [xz_0_480, h]; rfl
theorem xy_0_481 {x : Int32} (h : xm_get lv 3 = some (.int x)) : xm_run call xm_c0 nL mc ms ret Q (f + 1) (xm_drop 481 xm_c0) lv st G E kc ks = xm_run call xm_c0 nL mc ms ret Q f (xm_drop 482 xm_c0) lv (.int x :: st) G E kc ks := by
  rw [xz_0_481, h]; rfl
theorem xy_0_483 {x y : Int32} : xm_run call xm_c0 nL mc ms ret Q (f + 1) (xm_drop 483 xm_c0) lv (.int y :: .int x :: st) G E kc ks = xm_run call xm_c0 nL mc ms ret Q f (xm_drop 484 xm_c0) lv (.int (x + y) :: st) G E kc ks := by
  rw [xz_0_483, xk_add]
theorem xy_0_485 {j : Nat} (h : xm_get lv 0 = some (.ref j)) : xm_run call xm_c0 nL mc ms ret Q (f + 1) (xm_drop 485 xm_c0) lv st G E kc ks = xm_run call xm_c0 nL mc ms ret Q f (xm_drop 486 xm_c0) lv (.ref j :: st) G E kc ks := by
  rw [xz_0_485, h]; rfl
theorem xy_0_486 {x : Int32} (h : xm_get lv 3 = some (.int x)) : xm_run call xm_c0 nL mc ms ret Q (f + 1) (xm_drop 486 xm_c0) lv st G E kc ks = xm_run call xm_c0 nL mc ms ret Q f (xm_drop 487 xm_c0) lv (.int x :: st) G E kc ks := by
  rw [xz_0_486, h]; rfl
theorem xy_0_488 {x y : Int32} : xm_run call xm_c0 nL mc ms ret Q (f + 1) (xm_drop 488 xm_c0) lv (.int y :: .int x :: st) G E kc ks = xm_run call xm_c0 nL mc ms ret Q f (xm_drop 489 xm_c0) lv (.int (x + y) :: st) G E kc ks := by
  rw [xz_0_488, xk_add]
theorem xy_0_490  : xm_run call xm_c0 nL mc ms ret Q (f + 1) (xm_drop 490 xm_c0) lv st G E kc ks = xm_call call mc ms 109 0 st G E kc ks (fun st G E kc ks => xm_run call xm_c0 nL mc ms ret Q f (xm_drop 491 xm_c0) lv st G E kc ks) := by
  rw [xz_0_490, show (Nat.beq 109 1006 || Nat.beq 109 1007) = false from rfl, cond_false]
theorem xy_0_491 {x : Int32} : xm_run call xm_c0 nL mc ms ret Q (f + 1) (xm_drop 491 xm_c0) lv (.int x :: st) G E kc ks = xm_run call xm_c0 nL mc ms ret Q f (xm_drop 492 xm_c0) lv st G E kc ks := by
  rfl
theorem xy_0_492 {j : Nat} (h : xm_get lv 2 = some (.ref j)) : xm_run call xm_c0 nL mc ms ret Q (f + 1) (xm_drop 492 xm_c0) lv st G E kc ks = xm_run call xm_c0 nL mc ms ret Q f (xm_drop 493 xm_c0) lv (.ref j :: st) G E kc ks := by
  rw [xz_0_492, h]; rfl
theorem xy_0_493 {j : Nat} (h : xm_get lv 0 = some (.ref j)) : xm_run call xm_c0 nL mc ms ret Q (f + 1) (xm_drop 493 xm_c0) lv st G E kc ks = xm_run call xm_c0 nL mc ms ret Q f (xm_drop 494 xm_c0) lv (.ref j :: st) G E kc ks := by
  rw [xz_0_493, h]; rfl
theorem xy_0_494 {x : Int32} (h : xm_get lv 3 = some (.int x)) : xm_run call xm_c0 nL mc ms ret Q (f + 1) (xm_drop 494 xm_c0) lv st G E kc ks = xm_run call xm_c0 nL mc ms ret Q f (xm_drop 495 xm_c0) lv (.int x :: st) G E kc ks := by
  rw [xz_0_494, h]; rfl
theorem xy_0_496 {x y : Int32} : xm_run call xm_c0 nL mc ms ret Q (f + 1) (xm_drop 496 xm_c0) lv (.int y :: .int x :: st) G E kc ks = xm_run call xm_c0 nL mc ms ret Q f (xm_drop 497 xm_c0) lv (.int (x + y) :: st) G E kc ks := by
  rw [xz_0_496, xk_add]
theorem xy_0_498 {j : Nat} (h : xm_get lv 0 = some (.ref j)) : xm_run call xm_c0 nL mc ms ret Q (f + 1) (xm_drop 498 xm_c0) lv st G E kc ks = xm_run call xm_c0 nL mc ms ret Q f (xm_drop 499 xm_c0) lv (.ref j :: st) G E kc ks := by
  rw [xz_0_498, h]; rfl
theorem xy_0_499 {x : Int32} (h : xm_get lv 3 = some (.int x)) : xm_run call xm_c0 nL mc ms ret Q (f + 1) (xm_drop 499 xm_c0) lv st G E kc ks = xm_run call xm_c0 nL mc ms ret Q f (xm_drop 500 xm_c0) lv (.int x :: st) G E kc ks := by
  rw [xz_0_499, h]; rfl
theorem xy_0_501 {x y : Int32} : xm_run call xm_c0 nL mc ms ret Q (f + 1) (xm_drop 501 xm_c0) lv (.int y :: .int x :: st) G E kc ks = xm_run call xm_c0 nL mc ms ret Q f (xm_drop 502 xm_c0) lv (.int (x + y) :: st) G E kc ks := by
  rw [xz_0_501, xk_add]
theorem xy_0_503  : xm_run call xm_c0 nL mc ms ret Q (f + 1) (xm_drop 503 xm_c0) lv st G E kc ks = xm_call call mc ms 225 0 st G E kc ks (fun st G E kc ks => xm_run call xm_c0 nL mc ms ret Q f (xm_drop 504 xm_c0) lv st G E kc ks) := by
  rw [xz_0_503, show (Nat.beq 225 1006 || Nat.beq 225 1007) = false from rfl, cond_false]
theorem xy_0_504 {x : Int32} : xm_run call xm_c0 nL mc ms ret Q (f + 1) (xm_drop 504 xm_c0) lv (.int x :: st) G E kc ks = xm_run call xm_c0 nL mc ms ret Q f (xm_drop 505 xm_c0) lv st G E kc ks := by
  rfl
theorem xy_0_505  : xm_run call xm_c0 nL mc ms ret Q (f + 1) (xm_drop 505 xm_c0) lv st G E kc ks = xm_run call xm_c0 nL mc ms ret Q f (xm_drop 682 xm_c0) lv st G E kc ks := by
  rfl
theorem xy_0_506 {j : Nat} (h : xm_get lv 1 = some (.ref j)) : xm_run call xm_c0 nL mc ms ret Q (f + 1) (xm_drop 506 xm_c0) lv st G E kc ks = xm_run call xm_c0 nL mc ms ret Q f (xm_drop 507 xm_c0) lv (.ref j :: st) G E kc ks := by
  rw [xz_0_506, h]; rfl
theorem xy_0_507 {j : Nat} (h : xm_get lv 0 = some (.ref j)) : xm_run call xm_c0 nL mc ms ret Q (f + 1) (xm_drop 507 xm_c0) lv st G E kc ks = xm_run call xm_c0 nL mc ms ret Q f (xm_drop 508 xm_c0) lv (.ref j :: st) G E kc ks := by
  rw [xz_0_507, h]; rfl
theorem xy_0_508 {x : Int32} (h : xm_get lv 3 = some (.int x)) : xm_run call xm_c0 nL mc ms ret Q (f + 1) (xm_drop 508 xm_c0) lv st G E kc ks = xm_run call xm_c0 nL mc ms ret Q f (xm_drop 509 xm_c0) lv (.int x :: st) G E kc ks := by
  rw [xz_0_508, h]; rfl
theorem xy_0_510 {x y : Int32} : xm_run call xm_c0 nL mc ms ret Q (f + 1) (xm_drop 510 xm_c0) lv (.int y :: .int x :: st) G E kc ks = xm_run call xm_c0 nL mc ms ret Q f (xm_drop 511 xm_c0) lv (.int (x + y) :: st) G E kc ks := by
  rw [xz_0_510, xk_add]
theorem xy_0_512 {j : Nat} (h : xm_get lv 0 = some (.ref j)) : xm_run call xm_c0 nL mc ms ret Q (f + 1) (xm_drop 512 xm_c0) lv st G E kc ks = xm_run call xm_c0 nL mc ms ret Q f (xm_drop 513 xm_c0) lv (.ref j :: st) G E kc ks := by
  rw [xz_0_512, h]; rfl
theorem xy_0_513 {x : Int32} (h : xm_get lv 3 = some (.int x)) : xm_run call xm_c0 nL mc ms ret Q (f + 1) (xm_drop 513 xm_c0) lv st G E kc ks = xm_run call xm_c0 nL mc ms ret Q f (xm_drop 514 xm_c0) lv (.int x :: st) G E kc ks := by
  rw [xz_0_513, h]; rfl
theorem xy_0_515 {x y : Int32} : xm_run call xm_c0 nL mc ms ret Q (f + 1) (xm_drop 515 xm_c0) lv (.int y :: .int x :: st) G E kc ks = xm_run call xm_c0 nL mc ms ret Q f (xm_drop 516 xm_c0) lv (.int (x + y) :: st) G E kc ks := by
  rw [xz_0_515, xk_add]
theorem xy_0_517 {j : Nat} (h : xm_get lv 0 = some (.ref j)) : xm_run call xm_c0 nL mc ms ret Q (f + 1) (xm_drop 517 xm_c0) lv st G E kc ks = xm_run call xm_c0 nL mc ms ret Q f (xm_drop 518 xm_c0) lv (.ref j :: st) G E kc ks := by
  rw [xz_0_517, h]; rfl
theorem xy_0_518 {x : Int32} (h : xm_get lv 3 = some (.int x)) : xm_run call xm_c0 nL mc ms ret Q (f + 1) (xm_drop 518 xm_c0) lv st G E kc ks = xm_run call xm_c0 nL mc ms ret Q f (xm_drop 519 xm_c0) lv (.int x :: st) G E kc ks := by
  rw [xz_0_518, h]; rfl
theorem xy_0_520 {x y : Int32} : xm_run call xm_c0 nL mc ms ret Q (f + 1) (xm_drop 520 xm_c0) lv (.int y :: .int x :: st) G E kc ks = xm_run call xm_c0 nL mc ms ret Q f (xm_drop 521 xm_c0) lv (.int (x + y) :: st) G E kc ks := by
  rw [xz_0_520, xk_add]
theorem xy_0_522  : xm_run call xm_c0 nL mc ms ret Q (f + 1) (xm_drop 522 xm_c0) lv st G E kc ks = xm_call call mc ms 110 0 st G E kc ks (fun st G E kc ks => xm_run call xm_c0 nL mc ms ret Q f (xm_drop 523 xm_c0) lv st G E kc ks) := by
  rw [xz_0_522, show (Nat.beq 110 1006 || Nat.beq 110 1007) = false from rfl, cond_false]
theorem xy_0_523 {x : Int32} : xm_run call xm_c0 nL mc ms ret Q (f + 1) (xm_drop 523 xm_c0) lv (.int x :: st) G E kc ks = xm_run call xm_c0 nL mc ms ret Q f (xm_drop 524 xm_c0) lv st G E kc ks := by
  rfl
theorem xy_0_524 {j : Nat} (h : xm_get lv 2 = some (.ref j)) : xm_run call xm_c0 nL mc ms ret Q (f + 1) (xm_drop 524 xm_c0) lv st G E kc ks = xm_run call xm_c0 nL mc ms ret Q f (xm_drop 525 xm_c0) lv (.ref j :: st) G E kc ks := by
  rw [xz_0_524, h]; rfl
theorem xy_0_525 {j : Nat} (h : xm_get lv 0 = some (.ref j)) : xm_run call xm_c0 nL mc ms ret Q (f + 1) (xm_drop 525 xm_c0) lv st G E kc ks = xm_run call xm_c0 nL mc ms ret Q f (xm_drop 526 xm_c0) lv (.ref j :: st) G E kc ks := by
  rw [xz_0_525, h]; rfl
theorem xy_0_526 {x : Int32} (h : xm_get lv 3 = some (.int x)) : xm_run call xm_c0 nL mc ms ret Q (f + 1) (xm_drop 526 xm_c0) lv st G E kc ks = xm_run call xm_c0 nL mc ms ret Q f (xm_drop 527 xm_c0) lv (.int x :: st) G E kc ks := by
  rw [xz_0_526, h]; rfl
theorem xy_0_528 {x y : Int32} : xm_run call xm_c0 nL mc ms ret Q (f + 1) (xm_drop 528 xm_c0) lv (.int y :: .int x :: st) G E kc ks = xm_run call xm_c0 nL mc ms ret Q f (xm_drop 529 xm_c0) lv (.int (x + y) :: st) G E kc ks := by
  rw [xz_0_528, xk_add]
theorem xy_0_530 {j : Nat} (h : xm_get lv 0 = some (.ref j)) : xm_run call xm_c0 nL mc ms ret Q (f + 1) (xm_drop 530 xm_c0) lv st G E kc ks = xm_run call xm_c0 nL mc ms ret Q f (xm_drop 531 xm_c0) lv (.ref j :: st) G E kc ks := by
  rw [xz_0_530, h]; rfl
theorem xy_0_531 {x : Int32} (h : xm_get lv 3 = some (.int x)) : xm_run call xm_c0 nL mc ms ret Q (f + 1) (xm_drop 531 xm_c0) lv st G E kc ks = xm_run call xm_c0 nL mc ms ret Q f (xm_drop 532 xm_c0) lv (.int x :: st) G E kc ks := by
  rw [xz_0_531, h]; rfl
theorem xy_0_533 {x y : Int32} : xm_run call xm_c0 nL mc ms ret Q (f + 1) (xm_drop 533 xm_c0) lv (.int y :: .int x :: st) G E kc ks = xm_run call xm_c0 nL mc ms ret Q f (xm_drop 534 xm_c0) lv (.int (x + y) :: st) G E kc ks := by
  rw [xz_0_533, xk_add]
theorem xy_0_535 {j : Nat} (h : xm_get lv 0 = some (.ref j)) : xm_run call xm_c0 nL mc ms ret Q (f + 1) (xm_drop 535 xm_c0) lv st G E kc ks = xm_run call xm_c0 nL mc ms ret Q f (xm_drop 536 xm_c0) lv (.ref j :: st) G E kc ks := by
  rw [xz_0_535, h]; rfl
theorem xy_0_536 {x : Int32} (h : xm_get lv 3 = some (.int x)) : xm_run call xm_c0 nL mc ms ret Q (f + 1) (xm_drop 536 xm_c0) lv st G E kc ks = xm_run call xm_c0 nL mc ms ret Q f (xm_drop 537 xm_c0) lv (.int x :: st) G E kc ks := by
  rw [xz_0_536, h]; rfl
theorem xy_0_538 {x y : Int32} : xm_run call xm_c0 nL mc ms ret Q (f + 1) (xm_drop 538 xm_c0) lv (.int y :: .int x :: st) G E kc ks = xm_run call xm_c0 nL mc ms ret Q f (xm_drop 539 xm_c0) lv (.int (x + y) :: st) G E kc ks := by
  rw [xz_0_538, xk_add]
theorem xy_0_540  : xm_run call xm_c0 nL mc ms ret Q (f + 1) (xm_drop 540 xm_c0) lv st G E kc ks = xm_call call mc ms 226 0 st G E kc ks (fun st G E kc ks => xm_run call xm_c0 nL mc ms ret Q f (xm_drop 541 xm_c0) lv st G E kc ks) := by
  rw [xz_0_540, show (Nat.beq 226 1006 || Nat.beq 226 1007) = false from rfl, cond_false]
theorem xy_0_541 {x : Int32} : xm_run call xm_c0 nL mc ms ret Q (f + 1) (xm_drop 541 xm_c0) lv (.int x :: st) G E kc ks = xm_run call xm_c0 nL mc ms ret Q f (xm_drop 542 xm_c0) lv st G E kc ks := by
  rfl
theorem xy_0_542  : xm_run call xm_c0 nL mc ms ret Q (f + 1) (xm_drop 542 xm_c0) lv st G E kc ks = xm_run call xm_c0 nL mc ms ret Q f (xm_drop 682 xm_c0) lv st G E kc ks := by
  rfl
theorem xy_0_543 {j : Nat} (h : xm_get lv 1 = some (.ref j)) : xm_run call xm_c0 nL mc ms ret Q (f + 1) (xm_drop 543 xm_c0) lv st G E kc ks = xm_run call xm_c0 nL mc ms ret Q f (xm_drop 544 xm_c0) lv (.ref j :: st) G E kc ks := by
  rw [xz_0_543, h]; rfl
theorem xy_0_544 {j : Nat} (h : xm_get lv 0 = some (.ref j)) : xm_run call xm_c0 nL mc ms ret Q (f + 1) (xm_drop 544 xm_c0) lv st G E kc ks = xm_run call xm_c0 nL mc ms ret Q f (xm_drop 545 xm_c0) lv (.ref j :: st) G E kc ks := by
  rw [xz_0_544, h]; rfl
theorem xy_0_545 {x : Int32} (h : xm_get lv 3 = some (.int x)) : xm_run call xm_c0 nL mc ms ret Q (f + 1) (xm_drop 545 xm_c0) lv st G E kc ks = xm_run call xm_c0 nL mc ms ret Q f (xm_drop 546 xm_c0) lv (.int x :: st) G E kc ks := by
  rw [xz_0_545, h]; rfl
theorem xy_0_547 {x y : Int32} : xm_run call xm_c0 nL mc ms ret Q (f + 1) (xm_drop 547 xm_c0) lv (.int y :: .int x :: st) G E kc ks = xm_run call xm_c0 nL mc ms ret Q f (xm_drop 548 xm_c0) lv (.int (x + y) :: st) G E kc ks := by
  rw [xz_0_547, xk_add]
theorem xy_0_549  : xm_run call xm_c0 nL mc ms ret Q (f + 1) (xm_drop 549 xm_c0) lv st G E kc ks = xm_call call mc ms 111 0 st G E kc ks (fun st G E kc ks => xm_run call xm_c0 nL mc ms ret Q f (xm_drop 550 xm_c0) lv st G E kc ks) := by
  rw [xz_0_549, show (Nat.beq 111 1006 || Nat.beq 111 1007) = false from rfl, cond_false]
theorem xy_0_550 {x : Int32} : xm_run call xm_c0 nL mc ms ret Q (f + 1) (xm_drop 550 xm_c0) lv (.int x :: st) G E kc ks = xm_run call xm_c0 nL mc ms ret Q f (xm_drop 551 xm_c0) lv st G E kc ks := by
  rfl
theorem xy_0_551 {j : Nat} (h : xm_get lv 2 = some (.ref j)) : xm_run call xm_c0 nL mc ms ret Q (f + 1) (xm_drop 551 xm_c0) lv st G E kc ks = xm_run call xm_c0 nL mc ms ret Q f (xm_drop 552 xm_c0) lv (.ref j :: st) G E kc ks := by
  rw [xz_0_551, h]; rfl
theorem xy_0_552 {j : Nat} (h : xm_get lv 0 = some (.ref j)) : xm_run call xm_c0 nL mc ms ret Q (f + 1) (xm_drop 552 xm_c0) lv st G E kc ks = xm_run call xm_c0 nL mc ms ret Q f (xm_drop 553 xm_c0) lv (.ref j :: st) G E kc ks := by
  rw [xz_0_552, h]; rfl
theorem xy_0_553 {x : Int32} (h : xm_get lv 3 = some (.int x)) : xm_run call xm_c0 nL mc ms ret Q (f + 1) (xm_drop 553 xm_c0) lv st G E kc ks = xm_run call xm_c0 nL mc ms ret Q f (xm_drop 554 xm_c0) lv (.int x :: st) G E kc ks := by
  rw [xz_0_553, h]; rfl
theorem xy_0_555 {x y : Int32} : xm_run call xm_c0 nL mc ms ret Q (f + 1) (xm_drop 555 xm_c0) lv (.int y :: .int x :: st) G E kc ks = xm_run call xm_c0 nL mc ms ret Q f (xm_drop 556 xm_c0) lv (.int (x + y) :: st) G E kc ks := by
  rw [xz_0_555, xk_add]
theorem xy_0_557  : xm_run call xm_c0 nL mc ms ret Q (f + 1) (xm_drop 557 xm_c0) lv st G E kc ks = xm_call call mc ms 228 0 st G E kc ks (fun st G E kc ks => xm_run call xm_c0 nL mc ms ret Q f (xm_drop 558 xm_c0) lv st G E kc ks) := by
  rw [xz_0_557, show (Nat.beq 228 1006 || Nat.beq 228 1007) = false from rfl, cond_false]
theorem xy_0_558 {x : Int32} : xm_run call xm_c0 nL mc ms ret Q (f + 1) (xm_drop 558 xm_c0) lv (.int x :: st) G E kc ks = xm_run call xm_c0 nL mc ms ret Q f (xm_drop 559 xm_c0) lv st G E kc ks := by
  rfl
theorem xy_0_559  : xm_run call xm_c0 nL mc ms ret Q (f + 1) (xm_drop 559 xm_c0) lv st G E kc ks = xm_run call xm_c0 nL mc ms ret Q f (xm_drop 682 xm_c0) lv st G E kc ks := by
  rfl
theorem xy_0_560 {j : Nat} (h : xm_get lv 1 = some (.ref j)) : xm_run call xm_c0 nL mc ms ret Q (f + 1) (xm_drop 560 xm_c0) lv st G E kc ks = xm_run call xm_c0 nL mc ms ret Q f (xm_drop 561 xm_c0) lv (.ref j :: st) G E kc ks := by
  rw [xz_0_560, h]; rfl
theorem xy_0_561 {j : Nat} (h : xm_get lv 0 = some (.ref j)) : xm_run call xm_c0 nL mc ms ret Q (f + 1) (xm_drop 561 xm_c0) lv st G E kc ks = xm_run call xm_c0 nL mc ms ret Q f (xm_drop 562 xm_c0) lv (.ref j :: st) G E kc ks := by
  rw [xz_0_561, h]; rfl
theorem xy_0_562 {x : Int32} (h : xm_get lv 3 = some (.int x)) : xm_run call xm_c0 nL mc ms ret Q (f + 1) (xm_drop 562 xm_c0) lv st G E kc ks = xm_run call xm_c0 nL mc ms ret Q f (xm_drop 563 xm_c0) lv (.int x :: st) G E kc ks := by
  rw [xz_0_562, h]; rfl
theorem xy_0_564 {x y : Int32} : xm_run call xm_c0 nL mc ms ret Q (f + 1) (xm_drop 564 xm_c0) lv (.int y :: .int x :: st) G E kc ks = xm_run call xm_c0 nL mc ms ret Q f (xm_drop 565 xm_c0) lv (.int (x + y) :: st) G E kc ks := by
  rw [xz_0_564, xk_add]
theorem xy_0_566  : xm_run call xm_c0 nL mc ms ret Q (f + 1) (xm_drop 566 xm_c0) lv st G E kc ks = xm_call call mc ms 112 0 st G E kc ks (fun st G E kc ks => xm_run call xm_c0 nL mc ms ret Q f (xm_drop 567 xm_c0) lv st G E kc ks) := by
  rw [xz_0_566, show (Nat.beq 112 1006 || Nat.beq 112 1007) = false from rfl, cond_false]
theorem xy_0_567 {x : Int32} : xm_run call xm_c0 nL mc ms ret Q (f + 1) (xm_drop 567 xm_c0) lv (.int x :: st) G E kc ks = xm_run call xm_c0 nL mc ms ret Q f (xm_drop 568 xm_c0) lv st G E kc ks := by
  rfl
theorem xy_0_568 {j : Nat} (h : xm_get lv 2 = some (.ref j)) : xm_run call xm_c0 nL mc ms ret Q (f + 1) (xm_drop 568 xm_c0) lv st G E kc ks = xm_run call xm_c0 nL mc ms ret Q f (xm_drop 569 xm_c0) lv (.ref j :: st) G E kc ks := by
  rw [xz_0_568, h]; rfl
theorem xy_0_569 {j : Nat} (h : xm_get lv 0 = some (.ref j)) : xm_run call xm_c0 nL mc ms ret Q (f + 1) (xm_drop 569 xm_c0) lv st G E kc ks = xm_run call xm_c0 nL mc ms ret Q f (xm_drop 570 xm_c0) lv (.ref j :: st) G E kc ks := by
  rw [xz_0_569, h]; rfl
theorem xy_0_570 {x : Int32} (h : xm_get lv 3 = some (.int x)) : xm_run call xm_c0 nL mc ms ret Q (f + 1) (xm_drop 570 xm_c0) lv st G E kc ks = xm_run call xm_c0 nL mc ms ret Q f (xm_drop 571 xm_c0) lv (.int x :: st) G E kc ks := by
  rw [xz_0_570, h]; rfl
theorem xy_0_572 {x y : Int32} : xm_run call xm_c0 nL mc ms ret Q (f + 1) (xm_drop 572 xm_c0) lv (.int y :: .int x :: st) G E kc ks = xm_run call xm_c0 nL mc ms ret Q f (xm_drop 573 xm_c0) lv (.int (x + y) :: st) G E kc ks := by
  rw [xz_0_572, xk_add]
theorem xy_0_574  : xm_run call xm_c0 nL mc ms ret Q (f + 1) (xm_drop 574 xm_c0) lv st G E kc ks = xm_call call mc ms 230 0 st G E kc ks (fun st G E kc ks => xm_run call xm_c0 nL mc ms ret Q f (xm_drop 575 xm_c0) lv st G E kc ks) := by
  rw [xz_0_574, show (Nat.beq 230 1006 || Nat.beq 230 1007) = false from rfl, cond_false]
theorem xy_0_575 {x : Int32} : xm_run call xm_c0 nL mc ms ret Q (f + 1) (xm_drop 575 xm_c0) lv (.int x :: st) G E kc ks = xm_run call xm_c0 nL mc ms ret Q f (xm_drop 576 xm_c0) lv st G E kc ks := by
  rfl
theorem xy_0_576  : xm_run call xm_c0 nL mc ms ret Q (f + 1) (xm_drop 576 xm_c0) lv st G E kc ks = xm_run call xm_c0 nL mc ms ret Q f (xm_drop 682 xm_c0) lv st G E kc ks := by
  rfl
theorem xy_0_577 {j : Nat} (h : xm_get lv 1 = some (.ref j)) : xm_run call xm_c0 nL mc ms ret Q (f + 1) (xm_drop 577 xm_c0) lv st G E kc ks = xm_run call xm_c0 nL mc ms ret Q f (xm_drop 578 xm_c0) lv (.ref j :: st) G E kc ks := by
  rw [xz_0_577, h]; rfl
theorem xy_0_578 {j : Nat} (h : xm_get lv 0 = some (.ref j)) : xm_run call xm_c0 nL mc ms ret Q (f + 1) (xm_drop 578 xm_c0) lv st G E kc ks = xm_run call xm_c0 nL mc ms ret Q f (xm_drop 579 xm_c0) lv (.ref j :: st) G E kc ks := by
  rw [xz_0_578, h]; rfl
theorem xy_0_579 {x : Int32} (h : xm_get lv 3 = some (.int x)) : xm_run call xm_c0 nL mc ms ret Q (f + 1) (xm_drop 579 xm_c0) lv st G E kc ks = xm_run call xm_c0 nL mc ms ret Q f (xm_drop 580 xm_c0) lv (.int x :: st) G E kc ks := by
  rw [xz_0_579, h]; rfl
theorem xy_0_581 {x y : Int32} : xm_run call xm_c0 nL mc ms ret Q (f + 1) (xm_drop 581 xm_c0) lv (.int y :: .int x :: st) G E kc ks = xm_run call xm_c0 nL mc ms ret Q f (xm_drop 582 xm_c0) lv (.int (x + y) :: st) G E kc ks := by
  rw [xz_0_581, xk_add]
theorem xy_0_583  : xm_run call xm_c0 nL mc ms ret Q (f + 1) (xm_drop 583 xm_c0) lv st G E kc ks = xm_call call mc ms 113 0 st G E kc ks (fun st G E kc ks => xm_run call xm_c0 nL mc ms ret Q f (xm_drop 584 xm_c0) lv st G E kc ks) := by
  rw [xz_0_583, show (Nat.beq 113 1006 || Nat.beq 113 1007) = false from rfl, cond_false]
theorem xy_0_584 {x : Int32} : xm_run call xm_c0 nL mc ms ret Q (f + 1) (xm_drop 584 xm_c0) lv (.int x :: st) G E kc ks = xm_run call xm_c0 nL mc ms ret Q f (xm_drop 585 xm_c0) lv st G E kc ks := by
  rfl
theorem xy_0_585 {j : Nat} (h : xm_get lv 2 = some (.ref j)) : xm_run call xm_c0 nL mc ms ret Q (f + 1) (xm_drop 585 xm_c0) lv st G E kc ks = xm_run call xm_c0 nL mc ms ret Q f (xm_drop 586 xm_c0) lv (.ref j :: st) G E kc ks := by
  rw [xz_0_585, h]; rfl
theorem xy_0_586 {j : Nat} (h : xm_get lv 0 = some (.ref j)) : xm_run call xm_c0 nL mc ms ret Q (f + 1) (xm_drop 586 xm_c0) lv st G E kc ks = xm_run call xm_c0 nL mc ms ret Q f (xm_drop 587 xm_c0) lv (.ref j :: st) G E kc ks := by
  rw [xz_0_586, h]; rfl
theorem xy_0_587 {x : Int32} (h : xm_get lv 3 = some (.int x)) : xm_run call xm_c0 nL mc ms ret Q (f + 1) (xm_drop 587 xm_c0) lv st G E kc ks = xm_run call xm_c0 nL mc ms ret Q f (xm_drop 588 xm_c0) lv (.int x :: st) G E kc ks := by
  rw [xz_0_587, h]; rfl
theorem xy_0_589 {x y : Int32} : xm_run call xm_c0 nL mc ms ret Q (f + 1) (xm_drop 589 xm_c0) lv (.int y :: .int x :: st) G E kc ks = xm_run call xm_c0 nL mc ms ret Q f (xm_drop 590 xm_c0) lv (.int (x + y) :: st) G E kc ks := by
  rw [xz_0_589, xk_add]
theorem xy_0_591  : xm_run call xm_c0 nL mc ms ret Q (f + 1) (xm_drop 591 xm_c0) lv st G E kc ks = xm_call call mc ms 231 0 st G E kc ks (fun st G E kc ks => xm_run call xm_c0 nL mc ms ret Q f (xm_drop 592 xm_c0) lv st G E kc ks) := by
  rw [xz_0_591, show (Nat.beq 231 1006 || Nat.beq 231 1007) = false from rfl, cond_false]
theorem xy_0_592 {x : Int32} : xm_run call xm_c0 nL mc ms ret Q (f + 1) (xm_drop 592 xm_c0) lv (.int x :: st) G E kc ks = xm_run call xm_c0 nL mc ms ret Q f (xm_drop 593 xm_c0) lv st G E kc ks := by
  rfl
theorem xy_0_593  : xm_run call xm_c0 nL mc ms ret Q (f + 1) (xm_drop 593 xm_c0) lv st G E kc ks = xm_run call xm_c0 nL mc ms ret Q f (xm_drop 682 xm_c0) lv st G E kc ks := by
  rfl
theorem xy_0_594 {j : Nat} (h : xm_get lv 1 = some (.ref j)) : xm_run call xm_c0 nL mc ms ret Q (f + 1) (xm_drop 594 xm_c0) lv st G E kc ks = xm_run call xm_c0 nL mc ms ret Q f (xm_drop 595 xm_c0) lv (.ref j :: st) G E kc ks := by
  rw [xz_0_594, h]; rfl
theorem xy_0_595 {j : Nat} (h : xm_get lv 0 = some (.ref j)) : xm_run call xm_c0 nL mc ms ret Q (f + 1) (xm_drop 595 xm_c0) lv st G E kc ks = xm_run call xm_c0 nL mc ms ret Q f (xm_drop 596 xm_c0) lv (.ref j :: st) G E kc ks := by
  rw [xz_0_595, h]; rfl
theorem xy_0_596 {x : Int32} (h : xm_get lv 3 = some (.int x)) : xm_run call xm_c0 nL mc ms ret Q (f + 1) (xm_drop 596 xm_c0) lv st G E kc ks = xm_run call xm_c0 nL mc ms ret Q f (xm_drop 597 xm_c0) lv (.int x :: st) G E kc ks := by
  rw [xz_0_596, h]; rfl
theorem xy_0_598 {x y : Int32} : xm_run call xm_c0 nL mc ms ret Q (f + 1) (xm_drop 598 xm_c0) lv (.int y :: .int x :: st) G E kc ks = xm_run call xm_c0 nL mc ms ret Q f (xm_drop 599 xm_c0) lv (.int (x + y) :: st) G E kc ks := by
  rw [xz_0_598, xk_add]
theorem xy_0_600 {j : Nat} (h : xm_get lv 0 = some (.ref j)) : xm_run call xm_c0 nL mc ms ret Q (f + 1) (xm_drop 600 xm_c0) lv st G E kc ks = xm_run call xm_c0 nL mc ms ret Q f (xm_drop 601 xm_c0) lv (.ref j :: st) G E kc ks := by
  rw [xz_0_600, h]; rfl
theorem xy_0_601 {x : Int32} (h : xm_get lv 3 = some (.int x)) : xm_run call xm_c0 nL mc ms ret Q (f + 1) (xm_drop 601 xm_c0) lv st G E kc ks = xm_run call xm_c0 nL mc ms ret Q f (xm_drop 602 xm_c0) lv (.int x :: st) G E kc ks := by
  rw [xz_0_601, h]; rfl
theorem xy_0_603 {x y : Int32} : xm_run call xm_c0 nL mc ms ret Q (f + 1) (xm_drop 603 xm_c0) lv (.int y :: .int x :: st) G E kc ks = xm_run call xm_c0 nL mc ms ret Q f (xm_drop 604 xm_c0) lv (.int (x + y) :: st) G E kc ks := by
  rw [xz_0_603, xk_add]
theorem xy_0_605 {j : Nat} (h : xm_get lv 0 = some (.ref j)) : xm_run call xm_c0 nL mc ms ret Q (f + 1) (xm_drop 605 xm_c0) lv st G E kc ks = xm_run call xm_c0 nL mc ms ret Q f (xm_drop 606 xm_c0) lv (.ref j :: st) G E kc ks := by
  rw [xz_0_605, h]; rfl
theorem xy_0_606 {x : Int32} (h : xm_get lv 3 = some (.int x)) : xm_run call xm_c0 nL mc ms ret Q (f + 1) (xm_drop 606 xm_c0) lv st G E kc ks = xm_run call xm_c0 nL mc ms ret Q f (xm_drop 607 xm_c0) lv (.int x :: st) G E kc ks := by
  rw [xz_0_606, h]; rfl
theorem xy_0_608 {x y : Int32} : xm_run call xm_c0 nL mc ms ret Q (f + 1) (xm_drop 608 xm_c0) lv (.int y :: .int x :: st) G E kc ks = xm_run call xm_c0 nL mc ms ret Q f (xm_drop 609 xm_c0) lv (.int (x + y) :: st) G E kc ks := by
  rw [xz_0_608, xk_add]
theorem xy_0_610  : xm_run call xm_c0 nL mc ms ret Q (f + 1) (xm_drop 610 xm_c0) lv st G E kc ks = xm_call call mc ms 114 0 st G E kc ks (fun st G E kc ks => xm_run call xm_c0 nL mc ms ret Q f (xm_drop 611 xm_c0) lv st G E kc ks) := by
  rw [xz_0_610, show (Nat.beq 114 1006 || Nat.beq 114 1007) = false from rfl, cond_false]
theorem xy_0_611 {x : Int32} : xm_run call xm_c0 nL mc ms ret Q (f + 1) (xm_drop 611 xm_c0) lv (.int x :: st) G E kc ks = xm_run call xm_c0 nL mc ms ret Q f (xm_drop 612 xm_c0) lv st G E kc ks := by
  rfl
theorem xy_0_612 {j : Nat} (h : xm_get lv 2 = some (.ref j)) : xm_run call xm_c0 nL mc ms ret Q (f + 1) (xm_drop 612 xm_c0) lv st G E kc ks = xm_run call xm_c0 nL mc ms ret Q f (xm_drop 613 xm_c0) lv (.ref j :: st) G E kc ks := by
  rw [xz_0_612, h]; rfl
theorem xy_0_613 {j : Nat} (h : xm_get lv 0 = some (.ref j)) : xm_run call xm_c0 nL mc ms ret Q (f + 1) (xm_drop 613 xm_c0) lv st G E kc ks = xm_run call xm_c0 nL mc ms ret Q f (xm_drop 614 xm_c0) lv (.ref j :: st) G E kc ks := by
  rw [xz_0_613, h]; rfl
theorem xy_0_614 {x : Int32} (h : xm_get lv 3 = some (.int x)) : xm_run call xm_c0 nL mc ms ret Q (f + 1) (xm_drop 614 xm_c0) lv st G E kc ks = xm_run call xm_c0 nL mc ms ret Q f (xm_drop 615 xm_c0) lv (.int x :: st) G E kc ks := by
  rw [xz_0_614, h]; rfl
theorem xy_0_616 {x y : Int32} : xm_run call xm_c0 nL mc ms ret Q (f + 1) (xm_drop 616 xm_c0) lv (.int y :: .int x :: st) G E kc ks = xm_run call xm_c0 nL mc ms ret Q f (xm_drop 617 xm_c0) lv (.int (x + y) :: st) G E kc ks := by
  rw [xz_0_616, xk_add]
theorem xy_0_618 {j : Nat} (h : xm_get lv 0 = some (.ref j)) : xm_run call xm_c0 nL mc ms ret Q (f + 1) (xm_drop 618 xm_c0) lv st G E kc ks = xm_run call xm_c0 nL mc ms ret Q f (xm_drop 619 xm_c0) lv (.ref j :: st) G E kc ks := by
  rw [xz_0_618, h]; rfl
theorem xy_0_619 {x : Int32} (h : xm_get lv 3 = some (.int x)) : xm_run call xm_c0 nL mc ms ret Q (f + 1) (xm_drop 619 xm_c0) lv st G E kc ks = xm_run call xm_c0 nL mc ms ret Q f (xm_drop 620 xm_c0) lv (.int x :: st) G E kc ks := by
  rw [xz_0_619, h]; rfl
theorem xy_0_621 {x y : Int32} : xm_run call xm_c0 nL mc ms ret Q (f + 1) (xm_drop 621 xm_c0) lv (.int y :: .int x :: st) G E kc ks = xm_run call xm_c0 nL mc ms ret Q f (xm_drop 622 xm_c0) lv (.int (x + y) :: st) G E kc ks := by
  rw [xz_0_621, xk_add]
theorem xy_0_623 {j : Nat} (h : xm_get lv 0 = some (.ref j)) : xm_run call xm_c0 nL mc ms ret Q (f + 1) (xm_drop 623 xm_c0) lv st G E kc ks = xm_run call xm_c0 nL mc ms ret Q f (xm_drop 624 xm_c0) lv (.ref j :: st) G E kc ks := by
  rw [xz_0_623, h]; rfl
theorem xy_0_624 {x : Int32} (h : xm_get lv 3 = some (.int x)) : xm_run call xm_c0 nL mc ms ret Q (f + 1) (xm_drop 624 xm_c0) lv st G E kc ks = xm_run call xm_c0 nL mc ms ret Q f (xm_drop 625 xm_c0) lv (.int x :: st) G E kc ks := by
  rw [xz_0_624, h]; rfl
theorem xy_0_626 {x y : Int32} : xm_run call xm_c0 nL mc ms ret Q (f + 1) (xm_drop 626 xm_c0) lv (.int y :: .int x :: st) G E kc ks = xm_run call xm_c0 nL mc ms ret Q f (xm_drop 627 xm_c0) lv (.int (x + y) :: st) G E kc ks := by
  rw [xz_0_626, xk_add]
theorem xy_0_628  : xm_run call xm_c0 nL mc ms ret Q (f + 1) (xm_drop 628 xm_c0) lv st G E kc ks = xm_call call mc ms 234 0 st G E kc ks (fun st G E kc ks => xm_run call xm_c0 nL mc ms ret Q f (xm_drop 629 xm_c0) lv st G E kc ks) := by
  rw [xz_0_628, show (Nat.beq 234 1006 || Nat.beq 234 1007) = false from rfl, cond_false]
theorem xy_0_629 {x : Int32} : xm_run call xm_c0 nL mc ms ret Q (f + 1) (xm_drop 629 xm_c0) lv (.int x :: st) G E kc ks = xm_run call xm_c0 nL mc ms ret Q f (xm_drop 630 xm_c0) lv st G E kc ks := by
  rfl
theorem xy_0_630  : xm_run call xm_c0 nL mc ms ret Q (f + 1) (xm_drop 630 xm_c0) lv st G E kc ks = xm_run call xm_c0 nL mc ms ret Q f (xm_drop 682 xm_c0) lv st G E kc ks := by
  rfl
theorem xy_0_631 {j : Nat} (h : xm_get lv 1 = some (.ref j)) : xm_run call xm_c0 nL mc ms ret Q (f + 1) (xm_drop 631 xm_c0) lv st G E kc ks = xm_run call xm_c0 nL mc ms ret Q f (xm_drop 632 xm_c0) lv (.ref j :: st) G E kc ks := by
  rw [xz_0_631, h]; rfl
theorem xy_0_632 {j : Nat} (h : xm_get lv 0 = some (.ref j)) : xm_run call xm_c0 nL mc ms ret Q (f + 1) (xm_drop 632 xm_c0) lv st G E kc ks = xm_run call xm_c0 nL mc ms ret Q f (xm_drop 633 xm_c0) lv (.ref j :: st) G E kc ks := by
  rw [xz_0_632, h]; rfl
theorem xy_0_633 {x : Int32} (h : xm_get lv 3 = some (.int x)) : xm_run call xm_c0 nL mc ms ret Q (f + 1) (xm_drop 633 xm_c0) lv st G E kc ks = xm_run call xm_c0 nL mc ms ret Q f (xm_drop 634 xm_c0) lv (.int x :: st) G E kc ks := by
  rw [xz_0_633, h]; rfl
theorem xy_0_635 {x y : Int32} : xm_run call xm_c0 nL mc ms ret Q (f + 1) (xm_drop 635 xm_c0) lv (.int y :: .int x :: st) G E kc ks = xm_run call xm_c0 nL mc ms ret Q f (xm_drop 636 xm_c0) lv (.int (x + y) :: st) G E kc ks := by
  rw [xz_0_635, xk_add]
theorem xy_0_637  : xm_run call xm_c0 nL mc ms ret Q (f + 1) (xm_drop 637 xm_c0) lv st G E kc ks = xm_call call mc ms 115 0 st G E kc ks (fun st G E kc ks => xm_run call xm_c0 nL mc ms ret Q f (xm_drop 638 xm_c0) lv st G E kc ks) := by
  rw [xz_0_637, show (Nat.beq 115 1006 || Nat.beq 115 1007) = false from rfl, cond_false]
theorem xy_0_638 {x : Int32} : xm_run call xm_c0 nL mc ms ret Q (f + 1) (xm_drop 638 xm_c0) lv (.int x :: st) G E kc ks = xm_run call xm_c0 nL mc ms ret Q f (xm_drop 639 xm_c0) lv st G E kc ks := by
  rfl
theorem xy_0_639 {j : Nat} (h : xm_get lv 2 = some (.ref j)) : xm_run call xm_c0 nL mc ms ret Q (f + 1) (xm_drop 639 xm_c0) lv st G E kc ks = xm_run call xm_c0 nL mc ms ret Q f (xm_drop 640 xm_c0) lv (.ref j :: st) G E kc ks := by
  rw [xz_0_639, h]; rfl
theorem xy_0_640 {j : Nat} (h : xm_get lv 0 = some (.ref j)) : xm_run call xm_c0 nL mc ms ret Q (f + 1) (xm_drop 640 xm_c0) lv st G E kc ks = xm_run call xm_c0 nL mc ms ret Q f (xm_drop 641 xm_c0) lv (.ref j :: st) G E kc ks := by
  rw [xz_0_640, h]; rfl
theorem xy_0_641 {x : Int32} (h : xm_get lv 3 = some (.int x)) : xm_run call xm_c0 nL mc ms ret Q (f + 1) (xm_drop 641 xm_c0) lv st G E kc ks = xm_run call xm_c0 nL mc ms ret Q f (xm_drop 642 xm_c0) lv (.int x :: st) G E kc ks := by
  rw [xz_0_641, h]; rfl
theorem xy_0_643 {x y : Int32} : xm_run call xm_c0 nL mc ms ret Q (f + 1) (xm_drop 643 xm_c0) lv (.int y :: .int x :: st) G E kc ks = xm_run call xm_c0 nL mc ms ret Q f (xm_drop 644 xm_c0) lv (.int (x + y) :: st) G E kc ks := by
  rw [xz_0_643, xk_add]
theorem xy_0_645  : xm_run call xm_c0 nL mc ms ret Q (f + 1) (xm_drop 645 xm_c0) lv st G E kc ks = xm_call call mc ms 235 0 st G E kc ks (fun st G E kc ks => xm_run call xm_c0 nL mc ms ret Q f (xm_drop 646 xm_c0) lv st G E kc ks) := by
  rw [xz_0_645, show (Nat.beq 235 1006 || Nat.beq 235 1007) = false from rfl, cond_false]
theorem xy_0_646 {x : Int32} : xm_run call xm_c0 nL mc ms ret Q (f + 1) (xm_drop 646 xm_c0) lv (.int x :: st) G E kc ks = xm_run call xm_c0 nL mc ms ret Q f (xm_drop 647 xm_c0) lv st G E kc ks := by
  rfl
theorem xy_0_647  : xm_run call xm_c0 nL mc ms ret Q (f + 1) (xm_drop 647 xm_c0) lv st G E kc ks = xm_run call xm_c0 nL mc ms ret Q f (xm_drop 682 xm_c0) lv st G E kc ks := by
  rfl
theorem xy_0_648 {j : Nat} (h : xm_get lv 1 = some (.ref j)) : xm_run call xm_c0 nL mc ms ret Q (f + 1) (xm_drop 648 xm_c0) lv st G E kc ks = xm_run call xm_c0 nL mc ms ret Q f (xm_drop 649 xm_c0) lv (.ref j :: st) G E kc ks := by
  rw [xz_0_648, h]; rfl
theorem xy_0_649 {j : Nat} (h : xm_get lv 0 = some (.ref j)) : xm_run call xm_c0 nL mc ms ret Q (f + 1) (xm_drop 649 xm_c0) lv st G E kc ks = xm_run call xm_c0 nL mc ms ret Q f (xm_drop 650 xm_c0) lv (.ref j :: st) G E kc ks := by
  rw [xz_0_649, h]; rfl
theorem xy_0_650 {x : Int32} (h : xm_get lv 3 = some (.int x)) : xm_run call xm_c0 nL mc ms ret Q (f + 1) (xm_drop 650 xm_c0) lv st G E kc ks = xm_run call xm_c0 nL mc ms ret Q f (xm_drop 651 xm_c0) lv (.int x :: st) G E kc ks := by
  rw [xz_0_650, h]; rfl
theorem xy_0_652 {x y : Int32} : xm_run call xm_c0 nL mc ms ret Q (f + 1) (xm_drop 652 xm_c0) lv (.int y :: .int x :: st) G E kc ks = xm_run call xm_c0 nL mc ms ret Q f (xm_drop 653 xm_c0) lv (.int (x + y) :: st) G E kc ks := by
  rw [xz_0_652, xk_add]
theorem xy_0_654  : xm_run call xm_c0 nL mc ms ret Q (f + 1) (xm_drop 654 xm_c0) lv st G E kc ks = xm_call call mc ms 116 0 st G E kc ks (fun st G E kc ks => xm_run call xm_c0 nL mc ms ret Q f (xm_drop 655 xm_c0) lv st G E kc ks) := by
  rw [xz_0_654, show (Nat.beq 116 1006 || Nat.beq 116 1007) = false from rfl, cond_false]
theorem xy_0_655 {x : Int32} : xm_run call xm_c0 nL mc ms ret Q (f + 1) (xm_drop 655 xm_c0) lv (.int x :: st) G E kc ks = xm_run call xm_c0 nL mc ms ret Q f (xm_drop 656 xm_c0) lv st G E kc ks := by
  rfl
theorem xy_0_656 {j : Nat} (h : xm_get lv 2 = some (.ref j)) : xm_run call xm_c0 nL mc ms ret Q (f + 1) (xm_drop 656 xm_c0) lv st G E kc ks = xm_run call xm_c0 nL mc ms ret Q f (xm_drop 657 xm_c0) lv (.ref j :: st) G E kc ks := by
  rw [xz_0_656, h]; rfl
theorem xy_0_657 {j : Nat} (h : xm_get lv 0 = some (.ref j)) : xm_run call xm_c0 nL mc ms ret Q (f + 1) (xm_drop 657 xm_c0) lv st G E kc ks = xm_run call xm_c0 nL mc ms ret Q f (xm_drop 658 xm_c0) lv (.ref j :: st) G E kc ks := by
  rw [xz_0_657, h]; rfl
theorem xy_0_658 {x : Int32} (h : xm_get lv 3 = some (.int x)) : xm_run call xm_c0 nL mc ms ret Q (f + 1) (xm_drop 658 xm_c0) lv st G E kc ks = xm_run call xm_c0 nL mc ms ret Q f (xm_drop 659 xm_c0) lv (.int x :: st) G E kc ks := by
  rw [xz_0_658, h]; rfl
theorem xy_0_660 {x y : Int32} : xm_run call xm_c0 nL mc ms ret Q (f + 1) (xm_drop 660 xm_c0) lv (.int y :: .int x :: st) G E kc ks = xm_run call xm_c0 nL mc ms ret Q f (xm_drop 661 xm_c0) lv (.int (x + y) :: st) G E kc ks := by
  rw [xz_0_660, xk_add]
theorem xy_0_662  : xm_run call xm_c0 nL mc ms ret Q (f + 1) (xm_drop 662 xm_c0) lv st G E kc ks = xm_call call mc ms 236 0 st G E kc ks (fun st G E kc ks => xm_run call xm_c0 nL mc ms ret Q f (xm_drop 663 xm_c0) lv st G E kc ks) := by
  rw [xz_0_662, show (Nat.beq 236 1006 || Nat.beq 236 1007) = false from rfl, cond_false]
theorem xy_0_663 {x : Int32} : xm_run call xm_c0 nL mc ms ret Q (f + 1) (xm_drop 663 xm_c0) lv (.int x :: st) G E kc ks = xm_run call xm_c0 nL mc ms ret Q f (xm_drop 664 xm_c0) lv st G E kc ks := by
  rfl
theorem xy_0_664  : xm_run call xm_c0 nL mc ms ret Q (f + 1) (xm_drop 664 xm_c0) lv st G E kc ks = xm_run call xm_c0 nL mc ms ret Q f (xm_drop 682 xm_c0) lv st G E kc ks := by
  rfl
theorem xy_0_665 {j : Nat} (h : xm_get lv 1 = some (.ref j)) : xm_run call xm_c0 nL mc ms ret Q (f + 1) (xm_drop 665 xm_c0) lv st G E kc ks = xm_run call xm_c0 nL mc ms ret Q f (xm_drop 666 xm_c0) lv (.ref j :: st) G E kc ks := by
  rw [xz_0_665, h]; rfl
theorem xy_0_666 {j : Nat} (h : xm_get lv 0 = some (.ref j)) : xm_run call xm_c0 nL mc ms ret Q (f + 1) (xm_drop 666 xm_c0) lv st G E kc ks = xm_run call xm_c0 nL mc ms ret Q f (xm_drop 667 xm_c0) lv (.ref j :: st) G E kc ks := by
  rw [xz_0_666, h]; rfl
theorem xy_0_667 {x : Int32} (h : xm_get lv 3 = some (.int x)) : xm_run call xm_c0 nL mc ms ret Q (f + 1) (xm_drop 667 xm_c0) lv st G E kc ks = xm_run call xm_c0 nL mc ms ret Q f (xm_drop 668 xm_c0) lv (.int x :: st) G E kc ks := by
  rw [xz_0_667, h]; rfl
theorem xy_0_669 {x y : Int32} : xm_run call xm_c0 nL mc ms ret Q (f + 1) (xm_drop 669 xm_c0) lv (.int y :: .int x :: st) G E kc ks = xm_run call xm_c0 nL mc ms ret Q f (xm_drop 670 xm_c0) lv (.int (x + y) :: st) G E kc ks := by
  rw [xz_0_669, xk_add]
theorem xy_0_671  : xm_run call xm_c0 nL mc ms ret Q (f + 1) (xm_drop 671 xm_c0) lv st G E kc ks = xm_call call mc ms 117 0 st G E kc ks (fun st G E kc ks => xm_run call xm_c0 nL mc ms ret Q f (xm_drop 672 xm_c0) lv st G E kc ks) := by
  rw [xz_0_671, show (Nat.beq 117 1006 || Nat.beq 117 1007) = false from rfl, cond_false]
theorem xy_0_672 {x : Int32} : xm_run call xm_c0 nL mc ms ret Q (f + 1) (xm_drop 672 xm_c0) lv (.int x :: st) G E kc ks = xm_run call xm_c0 nL mc ms ret Q f (xm_drop 673 xm_c0) lv st G E kc ks := by
  rfl
theorem xy_0_673 {j : Nat} (h : xm_get lv 2 = some (.ref j)) : xm_run call xm_c0 nL mc ms ret Q (f + 1) (xm_drop 673 xm_c0) lv st G E kc ks = xm_run call xm_c0 nL mc ms ret Q f (xm_drop 674 xm_c0) lv (.ref j :: st) G E kc ks := by
  rw [xz_0_673, h]; rfl
theorem xy_0_674 {j : Nat} (h : xm_get lv 0 = some (.ref j)) : xm_run call xm_c0 nL mc ms ret Q (f + 1) (xm_drop 674 xm_c0) lv st G E kc ks = xm_run call xm_c0 nL mc ms ret Q f (xm_drop 675 xm_c0) lv (.ref j :: st) G E kc ks := by
  rw [xz_0_674, h]; rfl
theorem xy_0_675 {x : Int32} (h : xm_get lv 3 = some (.int x)) : xm_run call xm_c0 nL mc ms ret Q (f + 1) (xm_drop 675 xm_c0) lv st G E kc ks = xm_run call xm_c0 nL mc ms ret Q f (xm_drop 676 xm_c0) lv (.int x :: st) G E kc ks := by
  rw [xz_0_675, h]; rfl
theorem xy_0_677 {x y : Int32} : xm_run call xm_c0 nL mc ms ret Q (f + 1) (xm_drop 677 xm_c0) lv (.int y :: .int x :: st) G E kc ks = xm_run call xm_c0 nL mc ms ret Q f (xm_drop 678 xm_c0) lv (.int (x + y) :: st) G E kc ks := by
  rw [xz_0_677, xk_add]
theorem xy_0_679  : xm_run call xm_c0 nL mc ms ret Q (f + 1) (xm_drop 679 xm_c0) lv st G E kc ks = xm_call call mc ms 237 0 st G E kc ks (fun st G E kc ks => xm_run call xm_c0 nL mc ms ret Q f (xm_drop 680 xm_c0) lv st G E kc ks) := by
  rw [xz_0_679, show (Nat.beq 237 1006 || Nat.beq 237 1007) = false from rfl, cond_false]
theorem xy_0_680 {x : Int32} : xm_run call xm_c0 nL mc ms ret Q (f + 1) (xm_drop 680 xm_c0) lv (.int x :: st) G E kc ks = xm_run call xm_c0 nL mc ms ret Q f (xm_drop 681 xm_c0) lv st G E kc ks := by
  rfl
theorem xy_0_681  : xm_run call xm_c0 nL mc ms ret Q (f + 1) (xm_drop 681 xm_c0) lv st G E kc ks = xm_run call xm_c0 nL mc ms ret Q f (xm_drop 682 xm_c0) lv st G E kc ks := by
  rfl
theorem xy_0_682 {x : Int32} (h : xm_get lv 3 = some (.int x)) : xm_run call xm_c0 4 mc ms ret Q (f + 1) (xm_drop 682 xm_c0) lv st G E kc ks = xm_run call xm_c0 4 mc ms ret Q f (xm_drop 683 xm_c0) (xm_set1 lv 3 (.int (x + Int32.ofInt 6))) st G E kc ks := by
  rw [xz_0_682, h]; exact xl_frc (x + Int32.ofInt 6) (fun z => xm_run call xm_c0 4 mc ms ret Q f (xm_drop 683 xm_c0) (xm_set1 lv 3 (.int z)) st G E kc ks)
theorem xy_0_683  : xm_run call xm_c0 nL mc ms ret Q (f + 1) (xm_drop 683 xm_c0) lv st G E kc ks = xm_run call xm_c0 nL mc ms ret Q f (xm_drop 10 xm_c0) lv st G E kc ks := by
  rfl
theorem xy_0_685_0 : xm_run call xm_c0 nL 0 0 (some .boolean) Q (f + 1) (xm_drop 685 xm_c0) lv [.int 0] G E 0 0 = Q (some (.int 0)) G E := by
  rw [xz_0_685]; rfl
theorem xy_0_685_1 : xm_run call xm_c0 nL 0 0 (some .boolean) Q (f + 1) (xm_drop 685 xm_c0) lv [.int 1] G E 0 0 = Q (some (.int 1)) G E := by
  rw [xz_0_685]; rfl
end XF
