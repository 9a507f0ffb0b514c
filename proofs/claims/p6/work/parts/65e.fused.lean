section XF
variable {call : xm_C} {nL mc ms : Nat} {ret : Option FieldType} {Q : xm_Q} {f : Nat} {lv : xm_L} {st : List Value} {G : xm_H} {E : xm_R} {kc ks : Nat}
theorem xy_66_0 {j : Nat} (h : xm_get lv 0 = some (.ref j)) : xm_run call xm_c66 nL mc ms ret Q (f + 1) (xm_drop 0 xm_c66) lv st G E kc ks = xm_run call xm_c66 nL mc ms ret Q f (xm_drop 1 xm_c66) lv (.ref j :: st) G E kc ks := by
  rw [xz_66_0, h]; rfl
theorem xy_66_2  : xm_run call xm_c66 nL mc ms ret Q (f + 1) (xm_drop 2 xm_c66) lv st G E kc ks = xm_call call mc ms 80 0 st G E kc ks (fun st G E kc ks => xm_run call xm_c66 nL mc ms ret Q f (xm_drop 3 xm_c66) lv st G E kc ks) := by
  rw [xz_66_2, show (Nat.beq 80 1006 || Nat.beq 80 1007) = false from rfl, cond_false]
theorem xy_66_3 {j : Nat} (h : xm_get lv 1 = some (.ref j)) : xm_run call xm_c66 nL mc ms ret Q (f + 1) (xm_drop 3 xm_c66) lv st G E kc ks = xm_run call xm_c66 nL mc ms ret Q f (xm_drop 4 xm_c66) lv (.ref j :: st) G E kc ks := by
  rw [xz_66_3, h]; rfl
theorem xy_66_4  : xm_run call xm_c66 nL mc ms ret Q (f + 1) (xm_drop 4 xm_c66) lv st G E kc ks = xm_call call mc ms 59 0 st G E kc ks (fun st G E kc ks => xm_run call xm_c66 nL mc ms ret Q f (xm_drop 5 xm_c66) lv st G E kc ks) := by
  rw [xz_66_4, show (Nat.beq 59 1006 || Nat.beq 59 1007) = false from rfl, cond_false]
theorem xy_66_5 {j : Nat} (h : xm_get lv 0 = some (.ref j)) : xm_run call xm_c66 nL mc ms ret Q (f + 1) (xm_drop 5 xm_c66) lv st G E kc ks = xm_run call xm_c66 nL mc ms ret Q f (xm_drop 6 xm_c66) lv (.ref j :: st) G E kc ks := by
  rw [xz_66_5, h]; rfl
theorem xy_66_6 {j : Nat} (h : xm_get lv 1 = some (.ref j)) : xm_run call xm_c66 nL mc ms ret Q (f + 1) (xm_drop 6 xm_c66) lv st G E kc ks = xm_run call xm_c66 nL mc ms ret Q f (xm_drop 7 xm_c66) lv (.ref j :: st) G E kc ks := by
  rw [xz_66_6, h]; rfl
theorem xy_66_8 {j : Nat} (h : xm_get lv 0 = some (.ref j)) : xm_run call xm_c66 nL mc ms ret Q (f + 1) (xm_drop 8 xm_c66) lv st G E kc ks = xm_run call xm_c66 nL mc ms ret Q f (xm_drop 9 xm_c66) lv (.ref j :: st) G E kc ks := by
  rw [xz_66_8, h]; rfl
theorem xy_66_12 {x : Int32} : xm_run call xm_c66 4 mc ms ret Q (f + 1) (xm_drop 12 xm_c66) lv (.int x :: st) G E kc ks = xm_run call xm_c66 4 mc ms ret Q f (xm_drop 13 xm_c66) (xm_set1 lv 2 (.int x)) st G E kc ks := by
  rfl
theorem xy_66_14 {x : Int32} : xm_run call xm_c66 4 mc ms ret Q (f + 1) (xm_drop 14 xm_c66) lv (.int x :: st) G E kc ks = xm_run call xm_c66 4 mc ms ret Q f (xm_drop 15 xm_c66) (xm_set1 lv 3 (.int x)) st G E kc ks := by
  rfl
theorem xy_66_15 {x : Int32} (h : xm_get lv 2 = some (.int x)) : xm_run call xm_c66 nL mc ms ret Q (f + 1) (xm_drop 15 xm_c66) lv st G E kc ks = xm_run call xm_c66 nL mc ms ret Q f (xm_drop 16 xm_c66) lv (.int x :: st) G E kc ks := by
  rw [xz_66_15, h]; rfl
theorem xy_66_16 {x : Int32} : xm_run call xm_c66 nL mc ms ret Q (f + 1) (xm_drop 16 xm_c66) lv (.int x :: st) G E kc ks = (bif decide (x.toInt = 0) then xm_run call xm_c66 nL mc ms ret Q f (xm_drop 67 xm_c66) lv st G E kc ks else xm_run call xm_c66 nL mc ms ret Q f (xm_drop 17 xm_c66) lv st G E kc ks) := by
  rw [xz_66_16]; show xm_cmpI E (.int x) (.int 0) _ = _; rw [xc_int, xk_eq]; rfl
theorem xy_66_17 {x : Int32} (h : xm_get lv 3 = some (.int x)) : xm_run call xm_c66 nL mc ms ret Q (f + 1) (xm_drop 17 xm_c66) lv st G E kc ks = xm_run call xm_c66 nL mc ms ret Q f (xm_drop 18 xm_c66) lv (.int x :: st) G E kc ks := by
  rw [xz_66_17, h]; rfl
theorem xy_66_19 {x y : Int32} : xm_run call xm_c66 nL mc ms ret Q (f + 1) (xm_drop 19 xm_c66) lv (.int y :: .int x :: st) G E kc ks = (bif decide (y.toInt < x.toInt) then xm_run call xm_c66 nL mc ms ret Q f (xm_drop 67 xm_c66) lv st G E kc ks else xm_run call xm_c66 nL mc ms ret Q f (xm_drop 20 xm_c66) lv st G E kc ks) := by
  rw [xz_66_19]; show xm_cmpI E (.int x) (.int y) _ = _; rw [xc_int, xk_gt]
theorem xy_66_20 {j : Nat} (h : xm_get lv 0 = some (.ref j)) : xm_run call xm_c66 nL mc ms ret Q (f + 1) (xm_drop 20 xm_c66) lv st G E kc ks = xm_run call xm_c66 nL mc ms ret Q f (xm_drop 21 xm_c66) lv (.ref j :: st) G E kc ks := by
  rw [xz_66_20, h]; rfl
theorem xy_66_23  : xm_run call xm_c66 nL mc ms ret Q (f + 1) (xm_drop 23 xm_c66) lv st G E kc ks = xm_call call mc ms 83 0 st G E kc ks (fun st G E kc ks => xm_run call xm_c66 nL mc ms ret Q f (xm_drop 24 xm_c66) lv st G E kc ks) := by
  rw [xz_66_23, show (Nat.beq 83 1006 || Nat.beq 83 1007) = false from rfl, cond_false]
theorem xy_66_25 {x y : Int32} : xm_run call xm_c66 nL mc ms ret Q (f + 1) (xm_drop 25 xm_c66) lv (.int y :: .int x :: st) G E kc ks = (bif !decide (x.toInt = y.toInt) then xm_run call xm_c66 nL mc ms ret Q f (xm_drop 31 xm_c66) lv st G E kc ks else xm_run call xm_c66 nL mc ms ret Q f (xm_drop 26 xm_c66) lv st G E kc ks) := by
  rw [xz_66_25]; show xm_cmpI E (.int x) (.int y) _ = _; rw [xc_int, xk_ne]
theorem xy_66_26 {j : Nat} (h : xm_get lv 0 = some (.ref j)) : xm_run call xm_c66 nL mc ms ret Q (f + 1) (xm_drop 26 xm_c66) lv st G E kc ks = xm_run call xm_c66 nL mc ms ret Q f (xm_drop 27 xm_c66) lv (.ref j :: st) G E kc ks := by
  rw [xz_66_26, h]; rfl
theorem xy_66_29  : xm_run call xm_c66 nL mc ms ret Q (f + 1) (xm_drop 29 xm_c66) lv st G E kc ks = xm_call call mc ms 81 0 st G E kc ks (fun st G E kc ks => xm_run call xm_c66 nL mc ms ret Q f (xm_drop 30 xm_c66) lv st G E kc ks) := by
  rw [xz_66_29, show (Nat.beq 81 1006 || Nat.beq 81 1007) = false from rfl, cond_false]
theorem xy_66_30  : xm_run call xm_c66 nL mc ms ret Q (f + 1) (xm_drop 30 xm_c66) lv st G E kc ks = xm_run call xm_c66 nL mc ms ret Q f (xm_drop 38 xm_c66) lv st G E kc ks := by
  rfl
theorem xy_66_31 {x : Int32} (h : xm_get lv 3 = some (.int x)) : xm_run call xm_c66 nL mc ms ret Q (f + 1) (xm_drop 31 xm_c66) lv st G E kc ks = xm_run call xm_c66 nL mc ms ret Q f (xm_drop 32 xm_c66) lv (.int x :: st) G E kc ks := by
  rw [xz_66_31, h]; rfl
theorem xy_66_33 {x y : Int32} : xm_run call xm_c66 nL mc ms ret Q (f + 1) (xm_drop 33 xm_c66) lv (.int y :: .int x :: st) G E kc ks = (bif decide (x.toInt < y.toInt) then xm_run call xm_c66 nL mc ms ret Q f (xm_drop 38 xm_c66) lv st G E kc ks else xm_run call xm_c66 nL mc ms ret Q f (xm_drop 34 xm_c66) lv st G E kc ks) := by
  rw [xz_66_33]; show xm_cmpI E (.int x) (.int y) _ = _; rw [xc_int, xk_lt]
theorem xy_66_34 {j : Nat} (h : xm_get lv 0 = some (.ref j)) : xm_run call xm_c66 nL mc ms ret Q (f + 1) (xm_drop 34 xm_c66) lv st G E kc ks = xm_run call xm_c66 nL mc ms ret Q f (xm_drop 35 xm_c66) lv (.ref j :: st) G E kc ks := by
  rw [xz_66_34, h]; rfl
theorem xy_66_37  : xm_run call xm_c66 nL mc ms ret Q (f + 1) (xm_drop 37 xm_c66) lv st G E kc ks = xm_call call mc ms 81 0 st G E kc ks (fun st G E kc ks => xm_run call xm_c66 nL mc ms ret Q f (xm_drop 38 xm_c66) lv st G E kc ks) := by
  rw [xz_66_37, show (Nat.beq 81 1006 || Nat.beq 81 1007) = false from rfl, cond_false]
theorem xy_66_38 {j : Nat} (h : xm_get lv 0 = some (.ref j)) : xm_run call xm_c66 nL mc ms ret Q (f + 1) (xm_drop 38 xm_c66) lv st G E kc ks = xm_run call xm_c66 nL mc ms ret Q f (xm_drop 39 xm_c66) lv (.ref j :: st) G E kc ks := by
  rw [xz_66_38, h]; rfl
theorem xy_66_40  : xm_run call xm_c66 nL mc ms ret Q (f + 1) (xm_drop 40 xm_c66) lv st G E kc ks = xm_call call mc ms 82 0 st G E kc ks (fun st G E kc ks => xm_run call xm_c66 nL mc ms ret Q f (xm_drop 41 xm_c66) lv st G E kc ks) := by
  rw [xz_66_40, show (Nat.beq 82 1006 || Nat.beq 82 1007) = false from rfl, cond_false]
theorem xy_66_41 {j : Nat} (h : xm_get lv 0 = some (.ref j)) : xm_run call xm_c66 nL mc ms ret Q (f + 1) (xm_drop 41 xm_c66) lv st G E kc ks = xm_run call xm_c66 nL mc ms ret Q f (xm_drop 42 xm_c66) lv (.ref j :: st) G E kc ks := by
  rw [xz_66_41, h]; rfl
theorem xy_66_42  : xm_run call xm_c66 nL mc ms ret Q (f + 1) (xm_drop 42 xm_c66) lv st G E kc ks = xm_call call mc ms 71 0 st G E kc ks (fun st G E kc ks => xm_run call xm_c66 nL mc ms ret Q f (xm_drop 43 xm_c66) lv st G E kc ks) := by
  rw [xz_66_42, show (Nat.beq 71 1006 || Nat.beq 71 1007) = false from rfl, cond_false]
theorem xy_66_43 {j : Nat} (h : xm_get lv 0 = some (.ref j)) : xm_run call xm_c66 nL mc ms ret Q (f + 1) (xm_drop 43 xm_c66) lv st G E kc ks = xm_run call xm_c66 nL mc ms ret Q f (xm_drop 44 xm_c66) lv (.ref j :: st) G E kc ks := by
  rw [xz_66_43, h]; rfl
theorem xy_66_45  : xm_run call xm_c66 nL mc ms ret Q (f + 1) (xm_drop 45 xm_c66) lv st G E kc ks = xm_call call mc ms 61 0 st G E kc ks (fun st G E kc ks => xm_run call xm_c66 nL mc ms ret Q f (xm_drop 46 xm_c66) lv st G E kc ks) := by
  rw [xz_66_45, show (Nat.beq 61 1006 || Nat.beq 61 1007) = false from rfl, cond_false]
theorem xy_66_46 {j : Nat} (h : xm_get lv 0 = some (.ref j)) : xm_run call xm_c66 nL mc ms ret Q (f + 1) (xm_drop 46 xm_c66) lv st G E kc ks = xm_run call xm_c66 nL mc ms ret Q f (xm_drop 47 xm_c66) lv (.ref j :: st) G E kc ks := by
  rw [xz_66_46, h]; rfl
theorem xy_66_49  : xm_run call xm_c66 nL mc ms ret Q (f + 1) (xm_drop 49 xm_c66) lv st G E kc ks = xm_call call mc ms 83 0 st G E kc ks (fun st G E kc ks => xm_run call xm_c66 nL mc ms ret Q f (xm_drop 50 xm_c66) lv st G E kc ks) := by
  rw [xz_66_49, show (Nat.beq 83 1006 || Nat.beq 83 1007) = false from rfl, cond_false]
theorem xy_66_51 {x y : Int32} : xm_run call xm_c66 nL mc ms ret Q (f + 1) (xm_drop 51 xm_c66) lv (.int y :: .int x :: st) G E kc ks = (bif decide (x.toInt = y.toInt) then xm_run call xm_c66 nL mc ms ret Q f (xm_drop 58 xm_c66) lv st G E kc ks else xm_run call xm_c66 nL mc ms ret Q f (xm_drop 52 xm_c66) lv st G E kc ks) := by
  rw [xz_66_51]; show xm_cmpI E (.int x) (.int y) _ = _; rw [xc_int, xk_eq]
theorem xy_66_52 {j : Nat} (h : xm_get lv 0 = some (.ref j)) : xm_run call xm_c66 nL mc ms ret Q (f + 1) (xm_drop 52 xm_c66) lv st G E kc ks = xm_run call xm_c66 nL mc ms ret Q f (xm_drop 53 xm_c66) lv (.ref j :: st) G E kc ks := by
  rw [xz_66_52, h]; rfl
theorem xy_66_54  : xm_run call xm_c66 nL mc ms ret Q (f + 1) (xm_drop 54 xm_c66) lv st G E kc ks = xm_call call mc ms 82 0 st G E kc ks (fun st G E kc ks => xm_run call xm_c66 nL mc ms ret Q f (xm_drop 55 xm_c66) lv st G E kc ks) := by
  rw [xz_66_54, show (Nat.beq 82 1006 || Nat.beq 82 1007) = false from rfl, cond_false]
theorem xy_66_55 {j : Nat} (h : xm_get lv 0 = some (.ref j)) : xm_run call xm_c66 nL mc ms ret Q (f + 1) (xm_drop 55 xm_c66) lv st G E kc ks = xm_run call xm_c66 nL mc ms ret Q f (xm_drop 56 xm_c66) lv (.ref j :: st) G E kc ks := by
  rw [xz_66_55, h]; rfl
theorem xy_66_57  : xm_run call xm_c66 nL mc ms ret Q (f + 1) (xm_drop 57 xm_c66) lv st G E kc ks = xm_call call mc ms 67 0 st G E kc ks (fun st G E kc ks => xm_run call xm_c66 nL mc ms ret Q f (xm_drop 58 xm_c66) lv st G E kc ks) := by
  rw [xz_66_57, show (Nat.beq 67 1006 || Nat.beq 67 1007) = false from rfl, cond_false]
theorem xy_66_58 {j : Nat} (h : xm_get lv 0 = some (.ref j)) : xm_run call xm_c66 nL mc ms ret Q (f + 1) (xm_drop 58 xm_c66) lv st G E kc ks = xm_run call xm_c66 nL mc ms ret Q f (xm_drop 59 xm_c66) lv (.ref j :: st) G E kc ks := by
  rw [xz_66_58, h]; rfl
theorem xy_66_60  : xm_run call xm_c66 nL mc ms ret Q (f + 1) (xm_drop 60 xm_c66) lv st G E kc ks = xm_call call mc ms 62 0 st G E kc ks (fun st G E kc ks => xm_run call xm_c66 nL mc ms ret Q f (xm_drop 61 xm_c66) lv st G E kc ks) := by
  rw [xz_66_60, show (Nat.beq 62 1006 || Nat.beq 62 1007) = false from rfl, cond_false]
theorem xy_66_61 {j : Nat} (h : xm_get lv 0 = some (.ref j)) : xm_run call xm_c66 nL mc ms ret Q (f + 1) (xm_drop 61 xm_c66) lv st G E kc ks = xm_run call xm_c66 nL mc ms ret Q f (xm_drop 62 xm_c66) lv (.ref j :: st) G E kc ks := by
  rw [xz_66_61, h]; rfl
theorem xy_66_63  : xm_run call xm_c66 nL mc ms ret Q (f + 1) (xm_drop 63 xm_c66) lv st G E kc ks = xm_call call mc ms 86 0 st G E kc ks (fun st G E kc ks => xm_run call xm_c66 nL mc ms ret Q f (xm_drop 64 xm_c66) lv st G E kc ks) := by
  rw [xz_66_63, show (Nat.beq 86 1006 || Nat.beq 86 1007) = false from rfl, cond_false]
theorem xy_66_64 {x : Int32} : xm_run call xm_c66 4 mc ms ret Q (f + 1) (xm_drop 64 xm_c66) lv (.int x :: st) G E kc ks = xm_run call xm_c66 4 mc ms ret Q f (xm_drop 65 xm_c66) (xm_set1 lv 2 (.int x)) st G E kc ks := by
  rfl
theorem xy_66_65 {x : Int32} (h : xm_get lv 3 = some (.int x)) : xm_run call xm_c66 4 mc ms ret Q (f + 1) (xm_drop 65 xm_c66) lv st G E kc ks = xm_run call xm_c66 4 mc ms ret Q f (xm_drop 66 xm_c66) (xm_set1 lv 3 (.int (x + Int32.ofInt 1))) st G E kc ks := by
  rw [xz_66_65, h]; exact xl_frc (x + Int32.ofInt 1) (fun z => xm_run call xm_c66 4 mc ms ret Q f (xm_drop 66 xm_c66) (xm_set1 lv 3 (.int z)) st G E kc ks)
theorem xy_66_66  : xm_run call xm_c66 nL mc ms ret Q (f + 1) (xm_drop 66 xm_c66) lv st G E kc ks = xm_run call xm_c66 nL mc ms ret Q f (xm_drop 15 xm_c66) lv st G E kc ks := by
  rfl
theorem xy_66_67 {j : Nat} (h : xm_get lv 0 = some (.ref j)) : xm_run call xm_c66 nL mc ms ret Q (f + 1) (xm_drop 67 xm_c66) lv st G E kc ks = xm_run call xm_c66 nL mc ms ret Q f (xm_drop 68 xm_c66) lv (.ref j :: st) G E kc ks := by
  rw [xz_66_67, h]; rfl
theorem xy_66_70 {x : Int32} : xm_run call xm_c66 nL 0 0 (some .int) Q (f + 1) (xm_drop 70 xm_c66) lv [.int x] G E 0 0 = Q (some (.int x)) G E := by
  rw [xz_66_70]; rfl
theorem xy_67_0 {j : Nat} (h : xm_get lv 0 = some (.ref j)) : xm_run call xm_c67 nL mc ms ret Q (f + 1) (xm_drop 0 xm_c67) lv st G E kc ks = xm_run call xm_c67 nL mc ms ret Q f (xm_drop 1 xm_c67) lv (.ref j :: st) G E kc ks := by
  rw [xz_67_0, h]; rfl
theorem xy_67_1 {x : Int32} (h : xm_get lv 1 = some (.int x)) : xm_run call xm_c67 nL mc ms ret Q (f + 1) (xm_drop 1 xm_c67) lv st G E kc ks = xm_run call xm_c67 nL mc ms ret Q f (xm_drop 2 xm_c67) lv (.int x :: st) G E kc ks := by
  rw [xz_67_1, h]; rfl
theorem xy_67_2  : xm_run call xm_c67 nL mc ms ret Q (f + 1) (xm_drop 2 xm_c67) lv st G E kc ks = xm_call call mc ms 68 0 st G E kc ks (fun st G E kc ks => xm_run call xm_c67 nL mc ms ret Q f (xm_drop 3 xm_c67) lv st G E kc ks) := by
  rw [xz_67_2, show (Nat.beq 68 1006 || Nat.beq 68 1007) = false from rfl, cond_false]
theorem xy_67_4 {x : Int32} : xm_run call xm_c67 5 mc ms ret Q (f + 1) (xm_drop 4 xm_c67) lv (.int x :: st) G E kc ks = xm_run call xm_c67 5 mc ms ret Q f (xm_drop 5 xm_c67) (xm_set1 lv 2 (.int x)) st G E kc ks := by
  rfl
theorem xy_67_5 {j : Nat} (h : xm_get lv 0 = some (.ref j)) : xm_run call xm_c67 nL mc ms ret Q (f + 1) (xm_drop 5 xm_c67) lv st G E kc ks = xm_run call xm_c67 nL mc ms ret Q f (xm_drop 6 xm_c67) lv (.ref j :: st) G E kc ks := by
  rw [xz_67_5, h]; rfl
theorem xy_67_8  : xm_run call xm_c67 nL mc ms ret Q (f + 1) (xm_drop 8 xm_c67) lv st G E kc ks = xm_call call mc ms 83 0 st G E kc ks (fun st G E kc ks => xm_run call xm_c67 nL mc ms ret Q f (xm_drop 9 xm_c67) lv st G E kc ks) := by
  rw [xz_67_8, show (Nat.beq 83 1006 || Nat.beq 83 1007) = false from rfl, cond_false]
theorem xy_67_9 {x : Int32} : xm_run call xm_c67 5 mc ms ret Q (f + 1) (xm_drop 9 xm_c67) lv (.int x :: st) G E kc ks = xm_run call xm_c67 5 mc ms ret Q f (xm_drop 10 xm_c67) (xm_set1 lv 3 (.int x)) st G E kc ks := by
  rfl
theorem xy_67_11 {x : Int32} : xm_run call xm_c67 5 mc ms ret Q (f + 1) (xm_drop 11 xm_c67) lv (.int x :: st) G E kc ks = xm_run call xm_c67 5 mc ms ret Q f (xm_drop 12 xm_c67) (xm_set1 lv 4 (.int x)) st G E kc ks := by
  rfl
theorem xy_67_12 {x : Int32} (h : xm_get lv 4 = some (.int x)) : xm_run call xm_c67 nL mc ms ret Q (f + 1) (xm_drop 12 xm_c67) lv st G E kc ks = xm_run call xm_c67 nL mc ms ret Q f (xm_drop 13 xm_c67) lv (.int x :: st) G E kc ks := by
  rw [xz_67_12, h]; rfl
theorem xy_67_14 {x y : Int32} : xm_run call xm_c67 nL mc ms ret Q (f + 1) (xm_drop 14 xm_c67) lv (.int y :: .int x :: st) G E kc ks = (bif !decide (x.toInt < y.toInt) then xm_run call xm_c67 nL mc ms ret Q f (xm_drop 57 xm_c67) lv st G E kc ks else xm_run call xm_c67 nL mc ms ret Q f (xm_drop 15 xm_c67) lv st G E kc ks) := by
  rw [xz_67_14]; show xm_cmpI E (.int x) (.int y) _ = _; rw [xc_int, xk_ge]
theorem xy_67_15 {x : Int32} (h : xm_get lv 3 = some (.int x)) : xm_run call xm_c67 nL mc ms ret Q (f + 1) (xm_drop 15 xm_c67) lv st G E kc ks = xm_run call xm_c67 nL mc ms ret Q f (xm_drop 16 xm_c67) lv (.int x :: st) G E kc ks := by
  rw [xz_67_15, h]; rfl
theorem xy_67_17 {x y : Int32} : xm_run call xm_c67 nL mc ms ret Q (f + 1) (xm_drop 17 xm_c67) lv (.int y :: .int x :: st) G E kc ks = (bif decide (x.toInt = y.toInt) then xm_run call xm_c67 nL mc ms ret Q f (xm_drop 57 xm_c67) lv st G E kc ks else xm_run call xm_c67 nL mc ms ret Q f (xm_drop 18 xm_c67) lv st G E kc ks) := by
  rw [xz_67_17]; show xm_cmpI E (.int x) (.int y) _ = _; rw [xc_int, xk_eq]
theorem xy_67_18 {j : Nat} (h : xm_get lv 0 = some (.ref j)) : xm_run call xm_c67 nL mc ms ret Q (f + 1) (xm_drop 18 xm_c67) lv st G E kc ks = xm_run call xm_c67 nL mc ms ret Q f (xm_drop 19 xm_c67) lv (.ref j :: st) G E kc ks := by
  rw [xz_67_18, h]; rfl
theorem xy_67_20  : xm_run call xm_c67 nL mc ms ret Q (f + 1) (xm_drop 20 xm_c67) lv st G E kc ks = xm_call call mc ms 82 0 st G E kc ks (fun st G E kc ks => xm_run call xm_c67 nL mc ms ret Q f (xm_drop 21 xm_c67) lv st G E kc ks) := by
  rw [xz_67_20, show (Nat.beq 82 1006 || Nat.beq 82 1007) = false from rfl, cond_false]
theorem xy_67_21 {x : Int32} (h : xm_get lv 3 = some (.int x)) : xm_run call xm_c67 nL mc ms ret Q (f + 1) (xm_drop 21 xm_c67) lv st G E kc ks = xm_run call xm_c67 nL mc ms ret Q f (xm_drop 22 xm_c67) lv (.int x :: st) G E kc ks := by
  rw [xz_67_21, h]; rfl
theorem xy_67_23 {x y : Int32} : xm_run call xm_c67 nL mc ms ret Q (f + 1) (xm_drop 23 xm_c67) lv (.int y :: .int x :: st) G E kc ks = (bif !decide (x.toInt = y.toInt) then xm_run call xm_c67 nL mc ms ret Q f (xm_drop 31 xm_c67) lv st G E kc ks else xm_run call xm_c67 nL mc ms ret Q f (xm_drop 24 xm_c67) lv st G E kc ks) := by
  rw [xz_67_23]; show xm_cmpI E (.int x) (.int y) _ = _; rw [xc_int, xk_ne]
theorem xy_67_24 {x : Int32} (h : xm_get lv 2 = some (.int x)) : xm_run call xm_c67 nL mc ms ret Q (f + 1) (xm_drop 24 xm_c67) lv st G E kc ks = xm_run call xm_c67 nL mc ms ret Q f (xm_drop 25 xm_c67) lv (.int x :: st) G E kc ks := by
  rw [xz_67_24, h]; rfl
theorem xy_67_25 {x : Int32} : xm_run call xm_c67 nL mc ms ret Q (f + 1) (xm_drop 25 xm_c67) lv (.int x :: st) G E kc ks = (bif decide (x.toInt = 0) then xm_run call xm_c67 nL mc ms ret Q f (xm_drop 31 xm_c67) lv st G E kc ks else xm_run call xm_c67 nL mc ms ret Q f (xm_drop 26 xm_c67) lv st G E kc ks) := by
  rw [xz_67_25]; show xm_cmpI E (.int x) (.int 0) _ = _; rw [xc_int, xk_eq]; rfl
theorem xy_67_26 {j : Nat} (h : xm_get lv 0 = some (.ref j)) : xm_run call xm_c67 nL mc ms ret Q (f + 1) (xm_drop 26 xm_c67) lv st G E kc ks = xm_run call xm_c67 nL mc ms ret Q f (xm_drop 27 xm_c67) lv (.ref j :: st) G E kc ks := by
  rw [xz_67_26, h]; rfl
theorem xy_67_30  : xm_run call xm_c67 nL mc ms ret Q (f + 1) (xm_drop 30 xm_c67) lv st G E kc ks = xm_call call mc ms 60 0 st G E kc ks (fun st G E kc ks => xm_run call xm_c67 nL mc ms ret Q f (xm_drop 31 xm_c67) lv st G E kc ks) := by
  rw [xz_67_30, show (Nat.beq 60 1006 || Nat.beq 60 1007) = false from rfl, cond_false]
theorem xy_67_31 {j : Nat} (h : xm_get lv 0 = some (.ref j)) : xm_run call xm_c67 nL mc ms ret Q (f + 1) (xm_drop 31 xm_c67) lv st G E kc ks = xm_run call xm_c67 nL mc ms ret Q f (xm_drop 32 xm_c67) lv (.ref j :: st) G E kc ks := by
  rw [xz_67_31, h]; rfl
theorem xy_67_32 {x : Int32} (h : xm_get lv 1 = some (.int x)) : xm_run call xm_c67 nL mc ms ret Q (f + 1) (xm_drop 32 xm_c67) lv st G E kc ks = xm_run call xm_c67 nL mc ms ret Q f (xm_drop 33 xm_c67) lv (.int x :: st) G E kc ks := by
  rw [xz_67_32, h]; rfl
theorem xy_67_33  : xm_run call xm_c67 nL mc ms ret Q (f + 1) (xm_drop 33 xm_c67) lv st G E kc ks = xm_call call mc ms 68 0 st G E kc ks (fun st G E kc ks => xm_run call xm_c67 nL mc ms ret Q f (xm_drop 34 xm_c67) lv st G E kc ks) := by
  rw [xz_67_33, show (Nat.beq 68 1006 || Nat.beq 68 1007) = false from rfl, cond_false]
theorem xy_67_34 {x : Int32} (h : xm_get lv 3 = some (.int x)) : xm_run call xm_c67 nL mc ms ret Q (f + 1) (xm_drop 34 xm_c67) lv st G E kc ks = xm_run call xm_c67 nL mc ms ret Q f (xm_drop 35 xm_c67) lv (.int x :: st) G E kc ks := by
  rw [xz_67_34, h]; rfl
theorem xy_67_35 {x : Int32} : xm_run call xm_c67 nL mc ms ret Q (f + 1) (xm_drop 35 xm_c67) lv (.int x :: st) G E kc ks = (bif !decide (x.toInt = 0) then xm_run call xm_c67 nL mc ms ret Q f (xm_drop 41 xm_c67) lv st G E kc ks else xm_run call xm_c67 nL mc ms ret Q f (xm_drop 36 xm_c67) lv st G E kc ks) := by
  rw [xz_67_35]; show xm_cmpI E (.int x) (.int 0) _ = _; rw [xc_int, xk_ne]; rfl
theorem xy_67_36 {j : Nat} (h : xm_get lv 0 = some (.ref j)) : xm_run call xm_c67 nL mc ms ret Q (f + 1) (xm_drop 36 xm_c67) lv st G E kc ks = xm_run call xm_c67 nL mc ms ret Q f (xm_drop 37 xm_c67) lv (.ref j :: st) G E kc ks := by
  rw [xz_67_36, h]; rfl
theorem xy_67_40  : xm_run call xm_c67 nL mc ms ret Q (f + 1) (xm_drop 40 xm_c67) lv st G E kc ks = xm_call call mc ms 60 0 st G E kc ks (fun st G E kc ks => xm_run call xm_c67 nL mc ms ret Q f (xm_drop 41 xm_c67) lv st G E kc ks) := by
  rw [xz_67_40, show (Nat.beq 60 1006 || Nat.beq 60 1007) = false from rfl, cond_false]
theorem xy_67_41 {x : Int32} (h : xm_get lv 2 = some (.int x)) : xm_run call xm_c67 nL mc ms ret Q (f + 1) (xm_drop 41 xm_c67) lv st G E kc ks = xm_run call xm_c67 nL mc ms ret Q f (xm_drop 42 xm_c67) lv (.int x :: st) G E kc ks := by
  rw [xz_67_41, h]; rfl
theorem xy_67_42 {x : Int32} (h : xm_get lv 3 = some (.int x)) : xm_run call xm_c67 nL mc ms ret Q (f + 1) (xm_drop 42 xm_c67) lv st G E kc ks = xm_run call xm_c67 nL mc ms ret Q f (xm_drop 43 xm_c67) lv (.int x :: st) G E kc ks := by
  rw [xz_67_42, h]; rfl
theorem xy_67_44 {x y : Int32} : xm_run call xm_c67 nL mc ms ret Q (f + 1) (xm_drop 44 xm_c67) lv (.int y :: .int x :: st) G E kc ks = (bif !decide (x.toInt = y.toInt) then xm_run call xm_c67 nL mc ms ret Q f (xm_drop 47 xm_c67) lv st G E kc ks else xm_run call xm_c67 nL mc ms ret Q f (xm_drop 45 xm_c67) lv st G E kc ks) := by
  rw [xz_67_44]; show xm_cmpI E (.int x) (.int y) _ = _; rw [xc_int, xk_ne]
theorem xy_67_46  : xm_run call xm_c67 nL mc ms ret Q (f + 1) (xm_drop 46 xm_c67) lv st G E kc ks = xm_run call xm_c67 nL mc ms ret Q f (xm_drop 48 xm_c67) lv st G E kc ks := by
  rfl
theorem xy_67_49 {x : Int32} : xm_run call xm_c67 5 mc ms ret Q (f + 1) (xm_drop 49 xm_c67) lv (.int x :: st) G E kc ks = xm_run call xm_c67 5 mc ms ret Q f (xm_drop 50 xm_c67) (xm_set1 lv 2 (.int x)) st G E kc ks := by
  rfl
theorem xy_67_50 {j : Nat} (h : xm_get lv 0 = some (.ref j)) : xm_run call xm_c67 nL mc ms ret Q (f + 1) (xm_drop 50 xm_c67) lv st G E kc ks = xm_run call xm_c67 nL mc ms ret Q f (xm_drop 51 xm_c67) lv (.ref j :: st) G E kc ks := by
  rw [xz_67_50, h]; rfl
theorem xy_67_53  : xm_run call xm_c67 nL mc ms ret Q (f + 1) (xm_drop 53 xm_c67) lv st G E kc ks = xm_call call mc ms 83 0 st G E kc ks (fun st G E kc ks => xm_run call xm_c67 nL mc ms ret Q f (xm_drop 54 xm_c67) lv st G E kc ks) := by
  rw [xz_67_53, show (Nat.beq 83 1006 || Nat.beq 83 1007) = false from rfl, cond_false]
theorem xy_67_54 {x : Int32} : xm_run call xm_c67 5 mc ms ret Q (f + 1) (xm_drop 54 xm_c67) lv (.int x :: st) G E kc ks = xm_run call xm_c67 5 mc ms ret Q f (xm_drop 55 xm_c67) (xm_set1 lv 3 (.int x)) st G E kc ks := by
  rfl
theorem xy_67_55 {x : Int32} (h : xm_get lv 4 = some (.int x)) : xm_run call xm_c67 5 mc ms ret Q (f + 1) (xm_drop 55 xm_c67) lv st G E kc ks = xm_run call xm_c67 5 mc ms ret Q f (xm_drop 56 xm_c67) (xm_set1 lv 4 (.int (x + Int32.ofInt 1))) st G E kc ks := by
  rw [xz_67_55, h]; exact xl_frc (x + Int32.ofInt 1) (fun z => xm_run call xm_c67 5 mc ms ret Q f (xm_drop 56 xm_c67) (xm_set1 lv 4 (.int z)) st G E kc ks)
theorem xy_67_56  : xm_run call xm_c67 nL mc ms ret Q (f + 1) (xm_drop 56 xm_c67) lv st G E kc ks = xm_run call xm_c67 nL mc ms ret Q f (xm_drop 12 xm_c67) lv st G E kc ks := by
  rfl
theorem xy_67_57 {x : Int32} (h : xm_get lv 2 = some (.int x)) : xm_run call xm_c67 nL mc ms ret Q (f + 1) (xm_drop 57 xm_c67) lv st G E kc ks = xm_run call xm_c67 nL mc ms ret Q f (xm_drop 58 xm_c67) lv (.int x :: st) G E kc ks := by
  rw [xz_67_57, h]; rfl
theorem xy_67_58 {x : Int32} : xm_run call xm_c67 nL mc ms ret Q (f + 1) (xm_drop 58 xm_c67) lv (.int x :: st) G E kc ks = (bif decide (x.toInt = 0) then xm_run call xm_c67 nL mc ms ret Q f (xm_drop 64 xm_c67) lv st G E kc ks else xm_run call xm_c67 nL mc ms ret Q f (xm_drop 59 xm_c67) lv st G E kc ks) := by
  rw [xz_67_58]; show xm_cmpI E (.int x) (.int 0) _ = _; rw [xc_int, xk_eq]; rfl
theorem xy_67_59 {j : Nat} (h : xm_get lv 0 = some (.ref j)) : xm_run call xm_c67 nL mc ms ret Q (f + 1) (xm_drop 59 xm_c67) lv st G E kc ks = xm_run call xm_c67 nL mc ms ret Q f (xm_drop 60 xm_c67) lv (.ref j :: st) G E kc ks := by
  rw [xz_67_59, h]; rfl
theorem xy_67_63  : xm_run call xm_c67 nL mc ms ret Q (f + 1) (xm_drop 63 xm_c67) lv st G E kc ks = xm_call call mc ms 60 0 st G E kc ks (fun st G E kc ks => xm_run call xm_c67 nL mc ms ret Q f (xm_drop 64 xm_c67) lv st G E kc ks) := by
  rw [xz_67_63, show (Nat.beq 60 1006 || Nat.beq 60 1007) = false from rfl, cond_false]
theorem xy_67_64 : xm_run call xm_c67 nL 0 0 none Q (f + 1) (xm_drop 64 xm_c67) lv [] G E 0 0 = Q none G E := by
  rw [xz_67_64]; rfl
theorem xy_68_0 {j : Nat} (h : xm_get lv 0 = some (.ref j)) : xm_run call xm_c68 nL mc ms ret Q (f + 1) (xm_drop 0 xm_c68) lv st G E kc ks = xm_run call xm_c68 nL mc ms ret Q f (xm_drop 1 xm_c68) lv (.ref j :: st) G E kc ks := by
  rw [xz_68_0, h]; rfl
theorem xy_68_3  : xm_run call xm_c68 nL mc ms ret Q (f + 1) (xm_drop 3 xm_c68) lv st G E kc ks = xm_call call mc ms 83 0 st G E kc ks (fun st G E kc ks => xm_run call xm_c68 nL mc ms ret Q f (xm_drop 4 xm_c68) lv st G E kc ks) := by
  rw [xz_68_3, show (Nat.beq 83 1006 || Nat.beq 83 1007) = false from rfl, cond_false]
theorem xy_68_5 {x y : Int32} : xm_run call xm_c68 nL mc ms ret Q (f + 1) (xm_drop 5 xm_c68) lv (.int y :: .int x :: st) G E kc ks = (bif decide (x.toInt = y.toInt) then xm_run call xm_c68 nL mc ms ret Q f (xm_drop 8 xm_c68) lv st G E kc ks else xm_run call xm_c68 nL mc ms ret Q f (xm_drop 6 xm_c68) lv st G E kc ks) := by
  rw [xz_68_5]; show xm_cmpI E (.int x) (.int y) _ = _; rw [xc_int, xk_eq]
theorem xy_68_7  : xm_run call xm_c68 nL mc ms ret Q (f + 1) (xm_drop 7 xm_c68) lv st G E kc ks = xm_run call xm_c68 nL mc ms ret Q f (xm_drop 9 xm_c68) lv st G E kc ks := by
  rfl
theorem xy_68_9 {x : Int32} : xm_run call xm_c68 3 mc ms ret Q (f + 1) (xm_drop 9 xm_c68) lv (.int x :: st) G E kc ks = xm_run call xm_c68 3 mc ms ret Q f (xm_drop 10 xm_c68) (xm_set1 lv 2 (.int x)) st G E kc ks := by
  rfl
theorem xy_68_10 {x : Int32} (h : xm_get lv 2 = some (.int x)) : xm_run call xm_c68 nL mc ms ret Q (f + 1) (xm_drop 10 xm_c68) lv st G E kc ks = xm_run call xm_c68 nL mc ms ret Q f (xm_drop 11 xm_c68) lv (.int x :: st) G E kc ks := by
  rw [xz_68_10, h]; rfl
theorem xy_68_11 {x : Int32} : xm_run call xm_c68 nL mc ms ret Q (f + 1) (xm_drop 11 xm_c68) lv (.int x :: st) G E kc ks = (bif !decide (x.toInt = 0) then xm_run call xm_c68 nL mc ms ret Q f (xm_drop 20 xm_c68) lv st G E kc ks else xm_run call xm_c68 nL mc ms ret Q f (xm_drop 12 xm_c68) lv st G E kc ks) := by
  rw [xz_68_11]; show xm_cmpI E (.int x) (.int 0) _ = _; rw [xc_int, xk_ne]; rfl
theorem xy_68_12 {j : Nat} (h : xm_get lv 0 = some (.ref j)) : xm_run call xm_c68 nL mc ms ret Q (f + 1) (xm_drop 12 xm_c68) lv st G E kc ks = xm_run call xm_c68 nL mc ms ret Q f (xm_drop 13 xm_c68) lv (.ref j :: st) G E kc ks := by
  rw [xz_68_12, h]; rfl
theorem xy_68_16 {x y : Int32} : xm_run call xm_c68 nL mc ms ret Q (f + 1) (xm_drop 16 xm_c68) lv (.int y :: .int x :: st) G E kc ks = (bif decide (x.toInt = y.toInt) then xm_run call xm_c68 nL mc ms ret Q f (xm_drop 20 xm_c68) lv st G E kc ks else xm_run call xm_c68 nL mc ms ret Q f (xm_drop 17 xm_c68) lv st G E kc ks) := by
  rw [xz_68_16]; show xm_cmpI E (.int x) (.int y) _ = _; rw [xc_int, xk_eq]
theorem xy_68_17 {j : Nat} (h : xm_get lv 0 = some (.ref j)) : xm_run call xm_c68 nL mc ms ret Q (f + 1) (xm_drop 17 xm_c68) lv st G E kc ks = xm_run call xm_c68 nL mc ms ret Q f (xm_drop 18 xm_c68) lv (.ref j :: st) G E kc ks := by
  rw [xz_68_17, h]; rfl
theorem xy_68_18  : xm_run call xm_c68 nL mc ms ret Q (f + 1) (xm_drop 18 xm_c68) lv st G E kc ks = xm_call call mc ms 69 0 st G E kc ks (fun st G E kc ks => xm_run call xm_c68 nL mc ms ret Q f (xm_drop 19 xm_c68) lv st G E kc ks) := by
  rw [xz_68_18, show (Nat.beq 69 1006 || Nat.beq 69 1007) = false from rfl, cond_false]
theorem xy_68_19  : xm_run call xm_c68 nL mc ms ret Q (f + 1) (xm_drop 19 xm_c68) lv st G E kc ks = xm_run call xm_c68 nL mc ms ret Q f (xm_drop 64 xm_c68) lv st G E kc ks := by
  rfl
theorem xy_68_20 {x : Int32} (h : xm_get lv 1 = some (.int x)) : xm_run call xm_c68 nL mc ms ret Q (f + 1) (xm_drop 20 xm_c68) lv st G E kc ks = xm_run call xm_c68 nL mc ms ret Q f (xm_drop 21 xm_c68) lv (.int x :: st) G E kc ks := by
  rw [xz_68_20, h]; rfl
theorem xy_68_22 {x y : Int32} : xm_run call xm_c68 nL mc ms ret Q (f + 1) (xm_drop 22 xm_c68) lv (.int y :: .int x :: st) G E kc ks = (bif decide (x.toInt < y.toInt) then xm_run call xm_c68 nL mc ms ret Q f (xm_drop 28 xm_c68) lv st G E kc ks else xm_run call xm_c68 nL mc ms ret Q f (xm_drop 23 xm_c68) lv st G E kc ks) := by
  rw [xz_68_22]; show xm_cmpI E (.int x) (.int y) _ = _; rw [xc_int, xk_lt]
theorem xy_68_23 {j : Nat} (h : xm_get lv 0 = some (.ref j)) : xm_run call xm_c68 nL mc ms ret Q (f + 1) (xm_drop 23 xm_c68) lv st G E kc ks = xm_run call xm_c68 nL mc ms ret Q f (xm_drop 24 xm_c68) lv (.ref j :: st) G E kc ks := by
  rw [xz_68_23, h]; rfl
theorem xy_68_26  : xm_run call xm_c68 nL mc ms ret Q (f + 1) (xm_drop 26 xm_c68) lv st G E kc ks = xm_call call mc ms 81 0 st G E kc ks (fun st G E kc ks => xm_run call xm_c68 nL mc ms ret Q f (xm_drop 27 xm_c68) lv st G E kc ks) := by
  rw [xz_68_26, show (Nat.beq 81 1006 || Nat.beq 81 1007) = false from rfl, cond_false]
theorem xy_68_27  : xm_run call xm_c68 nL mc ms ret Q (f + 1) (xm_drop 27 xm_c68) lv st G E kc ks = xm_run call xm_c68 nL mc ms ret Q f (xm_drop 64 xm_c68) lv st G E kc ks := by
  rfl
theorem xy_68_28 {x : Int32} (h : xm_get lv 2 = some (.int x)) : xm_run call xm_c68 nL mc ms ret Q (f + 1) (xm_drop 28 xm_c68) lv st G E kc ks = xm_run call xm_c68 nL mc ms ret Q f (xm_drop 29 xm_c68) lv (.int x :: st) G E kc ks := by
  rw [xz_68_28, h]; rfl
theorem xy_68_29 {x : Int32} : xm_run call xm_c68 nL mc ms ret Q (f + 1) (xm_drop 29 xm_c68) lv (.int x :: st) G E kc ks = (bif decide (x.toInt = 0) then xm_run call xm_c68 nL mc ms ret Q f (xm_drop 44 xm_c68) lv st G E kc ks else xm_run call xm_c68 nL mc ms ret Q f (xm_drop 30 xm_c68) lv st G E kc ks) := by
  rw [xz_68_29]; show xm_cmpI E (.int x) (.int 0) _ = _; rw [xc_int, xk_eq]; rfl
theorem xy_68_30 {j : Nat} (h : xm_get lv 0 = some (.ref j)) : xm_run call xm_c68 nL mc ms ret Q (f + 1) (xm_drop 30 xm_c68) lv st G E kc ks = xm_run call xm_c68 nL mc ms ret Q f (xm_drop 31 xm_c68) lv (.ref j :: st) G E kc ks := by
  rw [xz_68_30, h]; rfl
theorem xy_68_32  : xm_run call xm_c68 nL mc ms ret Q (f + 1) (xm_drop 32 xm_c68) lv st G E kc ks = xm_call call mc ms 82 0 st G E kc ks (fun st G E kc ks => xm_run call xm_c68 nL mc ms ret Q f (xm_drop 33 xm_c68) lv st G E kc ks) := by
  rw [xz_68_32, show (Nat.beq 82 1006 || Nat.beq 82 1007) = false from rfl, cond_false]
theorem xy_68_33 {j : Nat} (h : xm_get lv 0 = some (.ref j)) : xm_run call xm_c68 nL mc ms ret Q (f + 1) (xm_drop 33 xm_c68) lv st G E kc ks = xm_run call xm_c68 nL mc ms ret Q f (xm_drop 34 xm_c68) lv (.ref j :: st) G E kc ks := by
  rw [xz_68_33, h]; rfl
theorem xy_68_34 {x : Int32} (h : xm_get lv 1 = some (.int x)) : xm_run call xm_c68 nL mc ms ret Q (f + 1) (xm_drop 34 xm_c68) lv st G E kc ks = xm_run call xm_c68 nL mc ms ret Q f (xm_drop 35 xm_c68) lv (.int x :: st) G E kc ks := by
  rw [xz_68_34, h]; rfl
theorem xy_68_36 {x y : Int32} : xm_run call xm_c68 nL mc ms ret Q (f + 1) (xm_drop 36 xm_c68) lv (.int y :: .int x :: st) G E kc ks = xm_run call xm_c68 nL mc ms ret Q f (xm_drop 37 xm_c68) lv (.int (x + y) :: st) G E kc ks := by
  rw [xz_68_36, xk_add]
theorem xy_68_37  : xm_run call xm_c68 nL mc ms ret Q (f + 1) (xm_drop 37 xm_c68) lv st G E kc ks = xm_call call mc ms 68 0 st G E kc ks (fun st G E kc ks => xm_run call xm_c68 nL mc ms ret Q f (xm_drop 38 xm_c68) lv st G E kc ks) := by
  rw [xz_68_37, show (Nat.beq 68 1006 || Nat.beq 68 1007) = false from rfl, cond_false]
theorem xy_68_38 {j : Nat} (h : xm_get lv 0 = some (.ref j)) : xm_run call xm_c68 nL mc ms ret Q (f + 1) (xm_drop 38 xm_c68) lv st G E kc ks = xm_run call xm_c68 nL mc ms ret Q f (xm_drop 39 xm_c68) lv (.ref j :: st) G E kc ks := by
  rw [xz_68_38, h]; rfl
theorem xy_68_42  : xm_run call xm_c68 nL mc ms ret Q (f + 1) (xm_drop 42 xm_c68) lv st G E kc ks = xm_call call mc ms 60 0 st G E kc ks (fun st G E kc ks => xm_run call xm_c68 nL mc ms ret Q f (xm_drop 43 xm_c68) lv st G E kc ks) := by
  rw [xz_68_42, show (Nat.beq 60 1006 || Nat.beq 60 1007) = false from rfl, cond_false]
theorem xy_68_43  : xm_run call xm_c68 nL mc ms ret Q (f + 1) (xm_drop 43 xm_c68) lv st G E kc ks = xm_run call xm_c68 nL mc ms ret Q f (xm_drop 64 xm_c68) lv st G E kc ks := by
  rfl
theorem xy_68_44 {j : Nat} (h : xm_get lv 0 = some (.ref j)) : xm_run call xm_c68 nL mc ms ret Q (f + 1) (xm_drop 44 xm_c68) lv st G E kc ks = xm_run call xm_c68 nL mc ms ret Q f (xm_drop 45 xm_c68) lv (.ref j :: st) G E kc ks := by
  rw [xz_68_44, h]; rfl
theorem xy_68_46  : xm_run call xm_c68 nL mc ms ret Q (f + 1) (xm_drop 46 xm_c68) lv st G E kc ks = xm_call call mc ms 82 0 st G E kc ks (fun st G E kc ks => xm_run call xm_c68 nL mc ms ret Q f (xm_drop 47 xm_c68) lv st G E kc ks) := by
  rw [xz_68_46, show (Nat.beq 82 1006 || Nat.beq 82 1007) = false from rfl, cond_false]
theorem xy_68_47 {j : Nat} (h : xm_get lv 0 = some (.ref j)) : xm_run call xm_c68 nL mc ms ret Q (f + 1) (xm_drop 47 xm_c68) lv st G E kc ks = xm_run call xm_c68 nL mc ms ret Q f (xm_drop 48 xm_c68) lv (.ref j :: st) G E kc ks := by
  rw [xz_68_47, h]; rfl
theorem xy_68_48 {x : Int32} (h : xm_get lv 1 = some (.int x)) : xm_run call xm_c68 nL mc ms ret Q (f + 1) (xm_drop 48 xm_c68) lv st G E kc ks = xm_run call xm_c68 nL mc ms ret Q f (xm_drop 49 xm_c68) lv (.int x :: st) G E kc ks := by
  rw [xz_68_48, h]; rfl
theorem xy_68_50 {x y : Int32} : xm_run call xm_c68 nL mc ms ret Q (f + 1) (xm_drop 50 xm_c68) lv (.int y :: .int x :: st) G E kc ks = xm_run call xm_c68 nL mc ms ret Q f (xm_drop 51 xm_c68) lv (.int (x + y) :: st) G E kc ks := by
  rw [xz_68_50, xk_add]
theorem xy_68_51  : xm_run call xm_c68 nL mc ms ret Q (f + 1) (xm_drop 51 xm_c68) lv st G E kc ks = xm_call call mc ms 67 0 st G E kc ks (fun st G E kc ks => xm_run call xm_c68 nL mc ms ret Q f (xm_drop 52 xm_c68) lv st G E kc ks) := by
  rw [xz_68_51, show (Nat.beq 67 1006 || Nat.beq 67 1007) = false from rfl, cond_false]
theorem xy_68_52 {j : Nat} (h : xm_get lv 0 = some (.ref j)) : xm_run call xm_c68 nL mc ms ret Q (f + 1) (xm_drop 52 xm_c68) lv st G E kc ks = xm_run call xm_c68 nL mc ms ret Q f (xm_drop 53 xm_c68) lv (.ref j :: st) G E kc ks := by
  rw [xz_68_52, h]; rfl
theorem xy_68_56 {x y : Int32} : xm_run call xm_c68 nL mc ms ret Q (f + 1) (xm_drop 56 xm_c68) lv (.int y :: .int x :: st) G E kc ks = (bif decide (x.toInt = y.toInt) then xm_run call xm_c68 nL mc ms ret Q f (xm_drop 61 xm_c68) lv st G E kc ks else xm_run call xm_c68 nL mc ms ret Q f (xm_drop 57 xm_c68) lv st G E kc ks) := by
  rw [xz_68_56]; show xm_cmpI E (.int x) (.int y) _ = _; rw [xc_int, xk_eq]
theorem xy_68_57 {j : Nat} (h : xm_get lv 0 = some (.ref j)) : xm_run call xm_c68 nL mc ms ret Q (f + 1) (xm_drop 57 xm_c68) lv st G E kc ks = xm_run call xm_c68 nL mc ms ret Q f (xm_drop 58 xm_c68) lv (.ref j :: st) G E kc ks := by
  rw [xz_68_57, h]; rfl
theorem xy_68_60  : xm_run call xm_c68 nL mc ms ret Q (f + 1) (xm_drop 60 xm_c68) lv st G E kc ks = xm_call call mc ms 81 0 st G E kc ks (fun st G E kc ks => xm_run call xm_c68 nL mc ms ret Q f (xm_drop 61 xm_c68) lv st G E kc ks) := by
  rw [xz_68_60, show (Nat.beq 81 1006 || Nat.beq 81 1007) = false from rfl, cond_false]
theorem xy_68_61 {j : Nat} (h : xm_get lv 0 = some (.ref j)) : xm_run call xm_c68 nL mc ms ret Q (f + 1) (xm_drop 61 xm_c68) lv st G E kc ks = xm_run call xm_c68 nL mc ms ret Q f (xm_drop 62 xm_c68) lv (.ref j :: st) G E kc ks := by
  rw [xz_68_61, h]; rfl
theorem xy_68_63  : xm_run call xm_c68 nL mc ms ret Q (f + 1) (xm_drop 63 xm_c68) lv st G E kc ks = xm_call call mc ms 82 0 st G E kc ks (fun st G E kc ks => xm_run call xm_c68 nL mc ms ret Q f (xm_drop 64 xm_c68) lv st G E kc ks) := by
  rw [xz_68_63, show (Nat.beq 82 1006 || Nat.beq 82 1007) = false from rfl, cond_false]
theorem xy_68_64 : xm_run call xm_c68 nL 0 0 none Q (f + 1) (xm_drop 64 xm_c68) lv [] G E 0 0 = Q none G E := by
  rw [xz_68_64]; rfl
theorem xy_69_0 {j : Nat} (h : xm_get lv 0 = some (.ref j)) : xm_run call xm_c69 nL mc ms ret Q (f + 1) (xm_drop 0 xm_c69) lv st G E kc ks = xm_run call xm_c69 nL mc ms ret Q f (xm_drop 1 xm_c69) lv (.ref j :: st) G E kc ks := by
  rw [xz_69_0, h]; rfl
theorem xy_69_1  : xm_run call xm_c69 nL mc ms ret Q (f + 1) (xm_drop 1 xm_c69) lv st G E kc ks = xm_call call mc ms 71 0 st G E kc ks (fun st G E kc ks => xm_run call xm_c69 nL mc ms ret Q f (xm_drop 2 xm_c69) lv st G E kc ks) := by
  rw [xz_69_1, show (Nat.beq 71 1006 || Nat.beq 71 1007) = false from rfl, cond_false]
theorem xy_69_2 {j : Nat} (h : xm_get lv 0 = some (.ref j)) : xm_run call xm_c69 nL mc ms ret Q (f + 1) (xm_drop 2 xm_c69) lv st G E kc ks = xm_run call xm_c69 nL mc ms ret Q f (xm_drop 3 xm_c69) lv (.ref j :: st) G E kc ks := by
  rw [xz_69_2, h]; rfl
theorem xy_69_5  : xm_run call xm_c69 nL mc ms ret Q (f + 1) (xm_drop 5 xm_c69) lv st G E kc ks = xm_call call mc ms 70 1 st G E kc ks (fun st G E kc ks => xm_run call xm_c69 nL mc ms ret Q f (xm_drop 6 xm_c69) lv st G E kc ks) := by
  rw [xz_69_5, show Nat.beq 70 1001 = false from rfl, show (Nat.beq 70 1003 || (Nat.beq 70 1004 || Nat.beq 70 1005)) = false from rfl, show Nat.beq 1 3 = false from rfl, cond_false, cond_false, cond_false]
theorem xy_69_6 {x : Int32} : xm_run call xm_c69 2 mc ms ret Q (f + 1) (xm_drop 6 xm_c69) lv (.int x :: st) G E kc ks = xm_run call xm_c69 2 mc ms ret Q f (xm_drop 7 xm_c69) (xm_set1 lv 1 (.int x)) st G E kc ks := by
  rfl
theorem xy_69_7 {x : Int32} (h : xm_get lv 1 = some (.int x)) : xm_run call xm_c69 nL mc ms ret Q (f + 1) (xm_drop 7 xm_c69) lv st G E kc ks = xm_run call xm_c69 nL mc ms ret Q f (xm_drop 8 xm_c69) lv (.int x :: st) G E kc ks := by
  rw [xz_69_7, h]; rfl
theorem xy_69_9 {x y : Int32} : xm_run call xm_c69 nL mc ms ret Q (f + 1) (xm_drop 9 xm_c69) lv (.int y :: .int x :: st) G E kc ks = (bif !decide (x.toInt = y.toInt) then xm_run call xm_c69 nL mc ms ret Q f (xm_drop 15 xm_c69) lv st G E kc ks else xm_run call xm_c69 nL mc ms ret Q f (xm_drop 10 xm_c69) lv st G E kc ks) := by
  rw [xz_69_9]; show xm_cmpI E (.int x) (.int y) _ = _; rw [xc_int, xk_ne]
theorem xy_69_10 {j : Nat} (h : xm_get lv 0 = some (.ref j)) : xm_run call xm_c69 nL mc ms ret Q (f + 1) (xm_drop 10 xm_c69) lv st G E kc ks = xm_run call xm_c69 nL mc ms ret Q f (xm_drop 11 xm_c69) lv (.ref j :: st) G E kc ks := by
  rw [xz_69_10, h]; rfl
theorem xy_69_13  : xm_run call xm_c69 nL mc ms ret Q (f + 1) (xm_drop 13 xm_c69) lv st G E kc ks = xm_call call mc ms 81 0 st G E kc ks (fun st G E kc ks => xm_run call xm_c69 nL mc ms ret Q f (xm_drop 14 xm_c69) lv st G E kc ks) := by
  rw [xz_69_13, show (Nat.beq 81 1006 || Nat.beq 81 1007) = false from rfl, cond_false]
theorem xy_69_14  : xm_run call xm_c69 nL mc ms ret Q (f + 1) (xm_drop 14 xm_c69) lv st G E kc ks = xm_run call xm_c69 nL mc ms ret Q f (xm_drop 23 xm_c69) lv st G E kc ks := by
  rfl
theorem xy_69_15 {j : Nat} (h : xm_get lv 0 = some (.ref j)) : xm_run call xm_c69 nL mc ms ret Q (f + 1) (xm_drop 15 xm_c69) lv st G E kc ks = xm_run call xm_c69 nL mc ms ret Q f (xm_drop 16 xm_c69) lv (.ref j :: st) G E kc ks := by
  rw [xz_69_15, h]; rfl
theorem xy_69_18 {x y : Int32} : xm_run call xm_c69 nL mc ms ret Q (f + 1) (xm_drop 18 xm_c69) lv (.int y :: .int x :: st) G E kc ks = (bif decide (x.toInt < y.toInt) then xm_run call xm_c69 nL mc ms ret Q f (xm_drop 23 xm_c69) lv st G E kc ks else xm_run call xm_c69 nL mc ms ret Q f (xm_drop 19 xm_c69) lv st G E kc ks) := by
  rw [xz_69_18]; show xm_cmpI E (.int x) (.int y) _ = _; rw [xc_int, xk_lt]
theorem xy_69_19 {j : Nat} (h : xm_get lv 0 = some (.ref j)) : xm_run call xm_c69 nL mc ms ret Q (f + 1) (xm_drop 19 xm_c69) lv st G E kc ks = xm_run call xm_c69 nL mc ms ret Q f (xm_drop 20 xm_c69) lv (.ref j :: st) G E kc ks := by
  rw [xz_69_19, h]; rfl
theorem xy_69_22  : xm_run call xm_c69 nL mc ms ret Q (f + 1) (xm_drop 22 xm_c69) lv st G E kc ks = xm_call call mc ms 81 0 st G E kc ks (fun st G E kc ks => xm_run call xm_c69 nL mc ms ret Q f (xm_drop 23 xm_c69) lv st G E kc ks) := by
  rw [xz_69_22, show (Nat.beq 81 1006 || Nat.beq 81 1007) = false from rfl, cond_false]
theorem xy_69_23 {j : Nat} (h : xm_get lv 0 = some (.ref j)) : xm_run call xm_c69 nL mc ms ret Q (f + 1) (xm_drop 23 xm_c69) lv st G E kc ks = xm_run call xm_c69 nL mc ms ret Q f (xm_drop 24 xm_c69) lv (.ref j :: st) G E kc ks := by
  rw [xz_69_23, h]; rfl
theorem xy_69_24 {j : Nat} : xm_run call xm_c69 nL mc ms ret Q (f + 1) (xm_drop 24 xm_c69) lv (.ref j :: st) G E kc ks = xm_run call xm_c69 nL mc ms ret Q f (xm_drop 25 xm_c69) lv (.ref j :: .ref j :: st) G E kc ks := by
  rfl
theorem xy_69_27 {x y : Int32} : xm_run call xm_c69 nL mc ms ret Q (f + 1) (xm_drop 27 xm_c69) lv (.int y :: .int x :: st) G E kc ks = xm_run call xm_c69 nL mc ms ret Q f (xm_drop 28 xm_c69) lv (.int (x + y) :: st) G E kc ks := by
  rw [xz_69_27, xk_add]
theorem xy_69_29 {j : Nat} (h : xm_get lv 0 = some (.ref j)) : xm_run call xm_c69 nL mc ms ret Q (f + 1) (xm_drop 29 xm_c69) lv st G E kc ks = xm_run call xm_c69 nL mc ms ret Q f (xm_drop 30 xm_c69) lv (.ref j :: st) G E kc ks := by
  rw [xz_69_29, h]; rfl
theorem xy_69_31  : xm_run call xm_c69 nL mc ms ret Q (f + 1) (xm_drop 31 xm_c69) lv st G E kc ks = xm_call call mc ms 82 0 st G E kc ks (fun st G E kc ks => xm_run call xm_c69 nL mc ms ret Q f (xm_drop 32 xm_c69) lv st G E kc ks) := by
  rw [xz_69_31, show (Nat.beq 82 1006 || Nat.beq 82 1007) = false from rfl, cond_false]
theorem xy_69_32 {j : Nat} (h : xm_get lv 0 = some (.ref j)) : xm_run call xm_c69 nL mc ms ret Q (f + 1) (xm_drop 32 xm_c69) lv st G E kc ks = xm_run call xm_c69 nL mc ms ret Q f (xm_drop 33 xm_c69) lv (.ref j :: st) G E kc ks := by
  rw [xz_69_32, h]; rfl
theorem xy_69_33  : xm_run call xm_c69 nL mc ms ret Q (f + 1) (xm_drop 33 xm_c69) lv st G E kc ks = xm_call call mc ms 71 0 st G E kc ks (fun st G E kc ks => xm_run call xm_c69 nL mc ms ret Q f (xm_drop 34 xm_c69) lv st G E kc ks) := by
  rw [xz_69_33, show (Nat.beq 71 1006 || Nat.beq 71 1007) = false from rfl, cond_false]
theorem xy_69_34 {j : Nat} (h : xm_get lv 0 = some (.ref j)) : xm_run call xm_c69 nL mc ms ret Q (f + 1) (xm_drop 34 xm_c69) lv st G E kc ks = xm_run call xm_c69 nL mc ms ret Q f (xm_drop 35 xm_c69) lv (.ref j :: st) G E kc ks := by
  rw [xz_69_34, h]; rfl
theorem xy_69_36 {x : Int32} (h : xm_get lv 1 = some (.int x)) : xm_run call xm_c69 nL mc ms ret Q (f + 1) (xm_drop 36 xm_c69) lv st G E kc ks = xm_run call xm_c69 nL mc ms ret Q f (xm_drop 37 xm_c69) lv (.int x :: st) G E kc ks := by
  rw [xz_69_36, h]; rfl
theorem xy_69_38  : xm_run call xm_c69 nL mc ms ret Q (f + 1) (xm_drop 38 xm_c69) lv st G E kc ks = xm_call call mc ms 60 0 st G E kc ks (fun st G E kc ks => xm_run call xm_c69 nL mc ms ret Q f (xm_drop 39 xm_c69) lv st G E kc ks) := by
  rw [xz_69_38, show (Nat.beq 60 1006 || Nat.beq 60 1007) = false from rfl, cond_false]
theorem xy_69_39 : xm_run call xm_c69 nL 0 0 none Q (f + 1) (xm_drop 39 xm_c69) lv [] G E 0 0 = Q none G E := by
  rw [xz_69_39]; rfl
theorem xy_70_0 {x : Int32} (h : xm_get lv 0 = some (.int x)) : xm_run call xm_c70 nL mc ms ret Q (f + 1) (xm_drop 0 xm_c70) lv st G E kc ks = xm_run call xm_c70 nL mc ms ret Q f (xm_drop 1 xm_c70) lv (.int x :: st) G E kc ks := by
  rw [xz_70_0, h]; rfl
theorem xy_70_3 {x : Int32} : xm_run call xm_c70 nL 0 0 (some .int) Q (f + 1) (xm_drop 3 xm_c70) lv [.int x] G E 0 0 = Q (some (.int x)) G E := by
  rw [xz_70_3]; rfl
theorem xy_70_5 {x : Int32} : xm_run call xm_c70 nL 0 0 (some .int) Q (f + 1) (xm_drop 5 xm_c70) lv [.int x] G E 0 0 = Q (some (.int x)) G E := by
  rw [xz_70_5]; rfl
theorem xy_70_7 {x : Int32} : xm_run call xm_c70 nL 0 0 (some .int) Q (f + 1) (xm_drop 7 xm_c70) lv [.int x] G E 0 0 = Q (some (.int x)) G E := by
  rw [xz_70_7]; rfl
theorem xy_70_9 {x : Int32} : xm_run call xm_c70 nL 0 0 (some .int) Q (f + 1) (xm_drop 9 xm_c70) lv [.int x] G E 0 0 = Q (some (.int x)) G E := by
  rw [xz_70_9]; rfl
theorem xy_70_11 {x : Int32} : xm_run call xm_c70 nL 0 0 (some .int) Q (f + 1) (xm_drop 11 xm_c70) lv [.int x] G E 0 0 = Q (some (.int x)) G E := by
  rw [xz_70_11]; rfl
theorem xy_70_13 {x : Int32} : xm_run call xm_c70 nL 0 0 (some .int) Q (f + 1) (xm_drop 13 xm_c70) lv [.int x] G E 0 0 = Q (some (.int x)) G E := by
  rw [xz_70_13]; rfl
theorem xy_71_0 {j : Nat} (h : xm_get lv 0 = some (.ref j)) : xm_run call xm_c71 nL mc ms ret Q (f + 1) (xm_drop 0 xm_c71) lv st G E kc ks = xm_run call xm_c71 nL mc ms ret Q f (xm_drop 1 xm_c71) lv (.ref j :: st) G E kc ks := by
  rw [xz_71_0, h]; rfl
theorem xy_71_1  : xm_run call xm_c71 nL mc ms ret Q (f + 1) (xm_drop 1 xm_c71) lv st G E kc ks = xm_call call mc ms 73 0 st G E kc ks (fun st G E kc ks => xm_run call xm_c71 nL mc ms ret Q f (xm_drop 2 xm_c71) lv st G E kc ks) := by
  rw [xz_71_1, show (Nat.beq 73 1006 || Nat.beq 73 1007) = false from rfl, cond_false]
theorem xy_71_3 {x : Int32} : xm_run call xm_c71 5 mc ms ret Q (f + 1) (xm_drop 3 xm_c71) lv (.int x :: st) G E kc ks = xm_run call xm_c71 5 mc ms ret Q f (xm_drop 4 xm_c71) (xm_set1 lv 1 (.int x)) st G E kc ks := by
  rfl
theorem xy_71_4 {j : Nat} (h : xm_get lv 0 = some (.ref j)) : xm_run call xm_c71 nL mc ms ret Q (f + 1) (xm_drop 4 xm_c71) lv st G E kc ks = xm_run call xm_c71 nL mc ms ret Q f (xm_drop 5 xm_c71) lv (.ref j :: st) G E kc ks := by
  rw [xz_71_4, h]; rfl
theorem xy_71_7  : xm_run call xm_c71 nL mc ms ret Q (f + 1) (xm_drop 7 xm_c71) lv st G E kc ks = xm_call call mc ms 72 1 st G E kc ks (fun st G E kc ks => xm_run call xm_c71 nL mc ms ret Q f (xm_drop 8 xm_c71) lv st G E kc ks) := by
  rw [xz_71_7, show Nat.beq 72 1001 = false from rfl, show (Nat.beq 72 1003 || (Nat.beq 72 1004 || Nat.beq 72 1005)) = false from rfl, show Nat.beq 1 3 = false from rfl, cond_false, cond_false, cond_false]
theorem xy_71_8 {x : Int32} : xm_run call xm_c71 5 mc ms ret Q (f + 1) (xm_drop 8 xm_c71) lv (.int x :: st) G E kc ks = xm_run call xm_c71 5 mc ms ret Q f (xm_drop 9 xm_c71) (xm_set1 lv 2 (.int x)) st G E kc ks := by
  rfl
theorem xy_71_10 {x : Int32} : xm_run call xm_c71 5 mc ms ret Q (f + 1) (xm_drop 10 xm_c71) lv (.int x :: st) G E kc ks = xm_run call xm_c71 5 mc ms ret Q f (xm_drop 11 xm_c71) (xm_set1 lv 3 (.int x)) st G E kc ks := by
  rfl
theorem xy_71_11 {x : Int32} (h : xm_get lv 3 = some (.int x)) : xm_run call xm_c71 nL mc ms ret Q (f + 1) (xm_drop 11 xm_c71) lv st G E kc ks = xm_run call xm_c71 nL mc ms ret Q f (xm_drop 12 xm_c71) lv (.int x :: st) G E kc ks := by
  rw [xz_71_11, h]; rfl
theorem xy_71_13 {x y : Int32} : xm_run call xm_c71 nL mc ms ret Q (f + 1) (xm_drop 13 xm_c71) lv (.int y :: .int x :: st) G E kc ks = (bif !decide (x.toInt < y.toInt) then xm_run call xm_c71 nL mc ms ret Q f (xm_drop 59 xm_c71) lv st G E kc ks else xm_run call xm_c71 nL mc ms ret Q f (xm_drop 14 xm_c71) lv st G E kc ks) := by
  rw [xz_71_13]; show xm_cmpI E (.int x) (.int y) _ = _; rw [xc_int, xk_ge]
theorem xy_71_14 {x : Int32} (h : xm_get lv 2 = some (.int x)) : xm_run call xm_c71 nL mc ms ret Q (f + 1) (xm_drop 14 xm_c71) lv st G E kc ks = xm_run call xm_c71 nL mc ms ret Q f (xm_drop 15 xm_c71) lv (.int x :: st) G E kc ks := by
  rw [xz_71_14, h]; rfl
theorem xy_71_16 {x y : Int32} : xm_run call xm_c71 nL mc ms ret Q (f + 1) (xm_drop 16 xm_c71) lv (.int y :: .int x :: st) G E kc ks = (bif decide (x.toInt = y.toInt) then xm_run call xm_c71 nL mc ms ret Q f (xm_drop 59 xm_c71) lv st G E kc ks else xm_run call xm_c71 nL mc ms ret Q f (xm_drop 17 xm_c71) lv st G E kc ks) := by
  rw [xz_71_16]; show xm_cmpI E (.int x) (.int y) _ = _; rw [xc_int, xk_eq]
theorem xy_71_17 {x : Int32} (h : xm_get lv 2 = some (.int x)) : xm_run call xm_c71 nL mc ms ret Q (f + 1) (xm_drop 17 xm_c71) lv st G E kc ks = xm_run call xm_c71 nL mc ms ret Q f (xm_drop 18 xm_c71) lv (.int x :: st) G E kc ks := by
  rw [xz_71_17, h]; rfl
theorem xy_71_19 {x y : Int32} : xm_run call xm_c71 nL mc ms ret Q (f + 1) (xm_drop 19 xm_c71) lv (.int y :: .int x :: st) G E kc ks = (bif decide (x.toInt = y.toInt) then xm_run call xm_c71 nL mc ms ret Q f (xm_drop 23 xm_c71) lv st G E kc ks else xm_run call xm_c71 nL mc ms ret Q f (xm_drop 20 xm_c71) lv st G E kc ks) := by
  rw [xz_71_19]; show xm_cmpI E (.int x) (.int y) _ = _; rw [xc_int, xk_eq]
theorem xy_71_20 {x : Int32} (h : xm_get lv 2 = some (.int x)) : xm_run call xm_c71 nL mc ms ret Q (f + 1) (xm_drop 20 xm_c71) lv st G E kc ks = xm_run call xm_c71 nL mc ms ret Q f (xm_drop 21 xm_c71) lv (.int x :: st) G E kc ks := by
  rw [xz_71_20, h]; rfl
theorem xy_71_22 {x y : Int32} : xm_run call xm_c71 nL mc ms ret Q (f + 1) (xm_drop 22 xm_c71) lv (.int y :: .int x :: st) G E kc ks = (bif !decide (x.toInt = y.toInt) then xm_run call xm_c71 nL mc ms ret Q f (xm_drop 25 xm_c71) lv st G E kc ks else xm_run call xm_c71 nL mc ms ret Q f (xm_drop 23 xm_c71) lv st G E kc ks) := by
  rw [xz_71_22]; show xm_cmpI E (.int x) (.int y) _ = _; rw [xc_int, xk_ne]
theorem xy_71_24  : xm_run call xm_c71 nL mc ms ret Q (f + 1) (xm_drop 24 xm_c71) lv st G E kc ks = xm_run call xm_c71 nL mc ms ret Q f (xm_drop 26 xm_c71) lv st G E kc ks := by
  rfl
theorem xy_71_26 {x : Int32} : xm_run call xm_c71 5 mc ms ret Q (f + 1) (xm_drop 26 xm_c71) lv (.int x :: st) G E kc ks = xm_run call xm_c71 5 mc ms ret Q f (xm_drop 27 xm_c71) (xm_set1 lv 4 (.int x)) st G E kc ks := by
  rfl
theorem xy_71_27 {j : Nat} (h : xm_get lv 0 = some (.ref j)) : xm_run call xm_c71 nL mc ms ret Q (f + 1) (xm_drop 27 xm_c71) lv st G E kc ks = xm_run call xm_c71 nL mc ms ret Q f (xm_drop 28 xm_c71) lv (.ref j :: st) G E kc ks := by
  rw [xz_71_27, h]; rfl
theorem xy_71_29  : xm_run call xm_c71 nL mc ms ret Q (f + 1) (xm_drop 29 xm_c71) lv st G E kc ks = xm_call call mc ms 82 0 st G E kc ks (fun st G E kc ks => xm_run call xm_c71 nL mc ms ret Q f (xm_drop 30 xm_c71) lv st G E kc ks) := by
  rw [xz_71_29, show (Nat.beq 82 1006 || Nat.beq 82 1007) = false from rfl, cond_false]
theorem xy_71_30 {x : Int32} (h : xm_get lv 4 = some (.int x)) : xm_run call xm_c71 nL mc ms ret Q (f + 1) (xm_drop 30 xm_c71) lv st G E kc ks = xm_run call xm_c71 nL mc ms ret Q f (xm_drop 31 xm_c71) lv (.int x :: st) G E kc ks := by
  rw [xz_71_30, h]; rfl
theorem xy_71_31 {x : Int32} : xm_run call xm_c71 nL mc ms ret Q (f + 1) (xm_drop 31 xm_c71) lv (.int x :: st) G E kc ks = (bif decide (x.toInt = 0) then xm_run call xm_c71 nL mc ms ret Q f (xm_drop 40 xm_c71) lv st G E kc ks else xm_run call xm_c71 nL mc ms ret Q f (xm_drop 32 xm_c71) lv st G E kc ks) := by
  rw [xz_71_31]; show xm_cmpI E (.int x) (.int 0) _ = _; rw [xc_int, xk_eq]; rfl
theorem xy_71_32 {x : Int32} (h : xm_get lv 1 = some (.int x)) : xm_run call xm_c71 nL mc ms ret Q (f + 1) (xm_drop 32 xm_c71) lv st G E kc ks = xm_run call xm_c71 nL mc ms ret Q f (xm_drop 33 xm_c71) lv (.int x :: st) G E kc ks := by
  rw [xz_71_32, h]; rfl
theorem xy_71_34 {x y : Int32} : xm_run call xm_c71 nL mc ms ret Q (f + 1) (xm_drop 34 xm_c71) lv (.int y :: .int x :: st) G E kc ks = (bif decide (x.toInt = y.toInt) then xm_run call xm_c71 nL mc ms ret Q f (xm_drop 40 xm_c71) lv st G E kc ks else xm_run call xm_c71 nL mc ms ret Q f (xm_drop 35 xm_c71) lv st G E kc ks) := by
  rw [xz_71_34]; show xm_cmpI E (.int x) (.int y) _ = _; rw [xc_int, xk_eq]
theorem xy_71_35 {j : Nat} (h : xm_get lv 0 = some (.ref j)) : xm_run call xm_c71 nL mc ms ret Q (f + 1) (xm_drop 35 xm_c71) lv st G E kc ks = xm_run call xm_c71 nL mc ms ret Q f (xm_drop 36 xm_c71) lv (.ref j :: st) G E kc ks := by
  rw [xz_71_35, h]; rfl
theorem xy_71_37 {x : Int32} (h : xm_get lv 1 = some (.int x)) : xm_run call xm_c71 nL mc ms ret Q (f + 1) (xm_drop 37 xm_c71) lv st G E kc ks = xm_run call xm_c71 nL mc ms ret Q f (xm_drop 38 xm_c71) lv (.int x :: st) G E kc ks := by
  rw [xz_71_37, h]; rfl
theorem xy_71_39  : xm_run call xm_c71 nL mc ms ret Q (f + 1) (xm_drop 39 xm_c71) lv st G E kc ks = xm_call call mc ms 60 0 st G E kc ks (fun st G E kc ks => xm_run call xm_c71 nL mc ms ret Q f (xm_drop 40 xm_c71) lv st G E kc ks) := by
  rw [xz_71_39, show (Nat.beq 60 1006 || Nat.beq 60 1007) = false from rfl, cond_false]
theorem xy_71_40 {j : Nat} (h : xm_get lv 0 = some (.ref j)) : xm_run call xm_c71 nL mc ms ret Q (f + 1) (xm_drop 40 xm_c71) lv st G E kc ks = xm_run call xm_c71 nL mc ms ret Q f (xm_drop 41 xm_c71) lv (.ref j :: st) G E kc ks := by
  rw [xz_71_40, h]; rfl
theorem xy_71_41  : xm_run call xm_c71 nL mc ms ret Q (f + 1) (xm_drop 41 xm_c71) lv st G E kc ks = xm_call call mc ms 73 0 st G E kc ks (fun st G E kc ks => xm_run call xm_c71 nL mc ms ret Q f (xm_drop 42 xm_c71) lv st G E kc ks) := by
  rw [xz_71_41, show (Nat.beq 73 1006 || Nat.beq 73 1007) = false from rfl, cond_false]
theorem xy_71_42 {x : Int32} (h : xm_get lv 4 = some (.int x)) : xm_run call xm_c71 nL mc ms ret Q (f + 1) (xm_drop 42 xm_c71) lv st G E kc ks = xm_run call xm_c71 nL mc ms ret Q f (xm_drop 43 xm_c71) lv (.int x :: st) G E kc ks := by
  rw [xz_71_42, h]; rfl
theorem xy_71_43 {x : Int32} : xm_run call xm_c71 nL mc ms ret Q (f + 1) (xm_drop 43 xm_c71) lv (.int x :: st) G E kc ks = (bif decide (x.toInt = 0) then xm_run call xm_c71 nL mc ms ret Q f (xm_drop 47 xm_c71) lv st G E kc ks else xm_run call xm_c71 nL mc ms ret Q f (xm_drop 44 xm_c71) lv st G E kc ks) := by
  rw [xz_71_43]; show xm_cmpI E (.int x) (.int 0) _ = _; rw [xc_int, xk_eq]; rfl
theorem xy_71_44 {x : Int32} (h : xm_get lv 2 = some (.int x)) : xm_run call xm_c71 nL mc ms ret Q (f + 1) (xm_drop 44 xm_c71) lv st G E kc ks = xm_run call xm_c71 nL mc ms ret Q f (xm_drop 45 xm_c71) lv (.int x :: st) G E kc ks := by
  rw [xz_71_44, h]; rfl
theorem xy_71_45 {x : Int32} : xm_run call xm_c71 5 mc ms ret Q (f + 1) (xm_drop 45 xm_c71) lv (.int x :: st) G E kc ks = xm_run call xm_c71 5 mc ms ret Q f (xm_drop 46 xm_c71) (xm_set1 lv 1 (.int x)) st G E kc ks := by
  rfl
theorem xy_71_46  : xm_run call xm_c71 nL mc ms ret Q (f + 1) (xm_drop 46 xm_c71) lv st G E kc ks = xm_run call xm_c71 nL mc ms ret Q f (xm_drop 52 xm_c71) lv st G E kc ks := by
  rfl
theorem xy_71_47 {j : Nat} (h : xm_get lv 0 = some (.ref j)) : xm_run call xm_c71 nL mc ms ret Q (f + 1) (xm_drop 47 xm_c71) lv st G E kc ks = xm_run call xm_c71 nL mc ms ret Q f (xm_drop 48 xm_c71) lv (.ref j :: st) G E kc ks := by
  rw [xz_71_47, h]; rfl
theorem xy_71_49 {x : Int32} (h : xm_get lv 2 = some (.int x)) : xm_run call xm_c71 nL mc ms ret Q (f + 1) (xm_drop 49 xm_c71) lv st G E kc ks = xm_run call xm_c71 nL mc ms ret Q f (xm_drop 50 xm_c71) lv (.int x :: st) G E kc ks := by
  rw [xz_71_49, h]; rfl
theorem xy_71_51  : xm_run call xm_c71 nL mc ms ret Q (f + 1) (xm_drop 51 xm_c71) lv st G E kc ks = xm_call call mc ms 60 0 st G E kc ks (fun st G E kc ks => xm_run call xm_c71 nL mc ms ret Q f (xm_drop 52 xm_c71) lv st G E kc ks) := by
  rw [xz_71_51, show (Nat.beq 60 1006 || Nat.beq 60 1007) = false from rfl, cond_false]
theorem xy_71_52 {j : Nat} (h : xm_get lv 0 = some (.ref j)) : xm_run call xm_c71 nL mc ms ret Q (f + 1) (xm_drop 52 xm_c71) lv st G E kc ks = xm_run call xm_c71 nL mc ms ret Q f (xm_drop 53 xm_c71) lv (.ref j :: st) G E kc ks := by
  rw [xz_71_52, h]; rfl
theorem xy_71_55  : xm_run call xm_c71 nL mc ms ret Q (f + 1) (xm_drop 55 xm_c71) lv st G E kc ks = xm_call call mc ms 72 1 st G E kc ks (fun st G E kc ks => xm_run call xm_c71 nL mc ms ret Q f (xm_drop 56 xm_c71) lv st G E kc ks) := by
  rw [xz_71_55, show Nat.beq 72 1001 = false from rfl, show (Nat.beq 72 1003 || (Nat.beq 72 1004 || Nat.beq 72 1005)) = false from rfl, show Nat.beq 1 3 = false from rfl, cond_false, cond_false, cond_false]
theorem xy_71_56 {x : Int32} : xm_run call xm_c71 5 mc ms ret Q (f + 1) (xm_drop 56 xm_c71) lv (.int x :: st) G E kc ks = xm_run call xm_c71 5 mc ms ret Q f (xm_drop 57 xm_c71) (xm_set1 lv 2 (.int x)) st G E kc ks := by
  rfl
theorem xy_71_57 {x : Int32} (h : xm_get lv 3 = some (.int x)) : xm_run call xm_c71 5 mc ms ret Q (f + 1) (xm_drop 57 xm_c71) lv st G E kc ks = xm_run call xm_c71 5 mc ms ret Q f (xm_drop 58 xm_c71) (xm_set1 lv 3 (.int (x + Int32.ofInt 1))) st G E kc ks := by
  rw [xz_71_57, h]; exact xl_frc (x + Int32.ofInt 1) (fun z => xm_run call xm_c71 5 mc ms ret Q f (xm_drop 58 xm_c71) (xm_set1 lv 3 (.int z)) st G E kc ks)
theorem xy_71_58  : xm_run call xm_c71 nL mc ms ret Q (f + 1) (xm_drop 58 xm_c71) lv st G E kc ks = xm_run call xm_c71 nL mc ms ret Q f (xm_drop 11 xm_c71) lv st G E kc ks := by
  rfl
theorem xy_71_59 {x : Int32} (h : xm_get lv 1 = some (.int x)) : xm_run call xm_c71 nL mc ms ret Q (f + 1) (xm_drop 59 xm_c71) lv st G E kc ks = xm_run call xm_c71 nL mc ms ret Q f (xm_drop 60 xm_c71) lv (.int x :: st) G E kc ks := by
  rw [xz_71_59, h]; rfl
theorem xy_71_61 {x y : Int32} : xm_run call xm_c71 nL mc ms ret Q (f + 1) (xm_drop 61 xm_c71) lv (.int y :: .int x :: st) G E kc ks = (bif decide (x.toInt = y.toInt) then xm_run call xm_c71 nL mc ms ret Q f (xm_drop 67 xm_c71) lv st G E kc ks else xm_run call xm_c71 nL mc ms ret Q f (xm_drop 62 xm_c71) lv st G E kc ks) := by
  rw [xz_71_61]; show xm_cmpI E (.int x) (.int y) _ = _; rw [xc_int, xk_eq]
theorem xy_71_62 {j : Nat} (h : xm_get lv 0 = some (.ref j)) : xm_run call xm_c71 nL mc ms ret Q (f + 1) (xm_drop 62 xm_c71) lv st G E kc ks = xm_run call xm_c71 nL mc ms ret Q f (xm_drop 63 xm_c71) lv (.ref j :: st) G E kc ks := by
  rw [xz_71_62, h]; rfl
theorem xy_71_64 {x : Int32} (h : xm_get lv 1 = some (.int x)) : xm_run call xm_c71 nL mc ms ret Q (f + 1) (xm_drop 64 xm_c71) lv st G E kc ks = xm_run call xm_c71 nL mc ms ret Q f (xm_drop 65 xm_c71) lv (.int x :: st) G E kc ks := by
  rw [xz_71_64, h]; rfl
theorem xy_71_66  : xm_run call xm_c71 nL mc ms ret Q (f + 1) (xm_drop 66 xm_c71) lv st G E kc ks = xm_call call mc ms 60 0 st G E kc ks (fun st G E kc ks => xm_run call xm_c71 nL mc ms ret Q f (xm_drop 67 xm_c71) lv st G E kc ks) := by
  rw [xz_71_66, show (Nat.beq 60 1006 || Nat.beq 60 1007) = false from rfl, cond_false]
theorem xy_71_67 : xm_run call xm_c71 nL 0 0 none Q (f + 1) (xm_drop 67 xm_c71) lv [] G E 0 0 = Q none G E := by
  rw [xz_71_67]; rfl
theorem xy_72_0 {x : Int32} (h : xm_get lv 0 = some (.int x)) : xm_run call xm_c72 nL mc ms ret Q (f + 1) (xm_drop 0 xm_c72) lv st G E kc ks = xm_run call xm_c72 nL mc ms ret Q f (xm_drop 1 xm_c72) lv (.int x :: st) G E kc ks := by
  rw [xz_72_0, h]; rfl
theorem xy_72_3 {x : Int32} : xm_run call xm_c72 nL 0 0 (some .int) Q (f + 1) (xm_drop 3 xm_c72) lv [.int x] G E 0 0 = Q (some (.int x)) G E := by
  rw [xz_72_3]; rfl
theorem xy_72_5 {x : Int32} : xm_run call xm_c72 nL 0 0 (some .int) Q (f + 1) (xm_drop 5 xm_c72) lv [.int x] G E 0 0 = Q (some (.int x)) G E := by
  rw [xz_72_5]; rfl
theorem xy_72_7 {x : Int32} : xm_run call xm_c72 nL 0 0 (some .int) Q (f + 1) (xm_drop 7 xm_c72) lv [.int x] G E 0 0 = Q (some (.int x)) G E := by
  rw [xz_72_7]; rfl
theorem xy_72_9 {x : Int32} : xm_run call xm_c72 nL 0 0 (some .int) Q (f + 1) (xm_drop 9 xm_c72) lv [.int x] G E 0 0 = Q (some (.int x)) G E := by
  rw [xz_72_9]; rfl
theorem xy_72_11 {x : Int32} : xm_run call xm_c72 nL 0 0 (some .int) Q (f + 1) (xm_drop 11 xm_c72) lv [.int x] G E 0 0 = Q (some (.int x)) G E := by
  rw [xz_72_11]; rfl
theorem xy_72_13 {x : Int32} : xm_run call xm_c72 nL 0 0 (some .int) Q (f + 1) (xm_drop 13 xm_c72) lv [.int x] G E 0 0 = Q (some (.int x)) G E := by
  rw [xz_72_13]; rfl
theorem xy_73_0 {j : Nat} (h : xm_get lv 0 = some (.ref j)) : xm_run call xm_c73 nL mc ms ret Q (f + 1) (xm_drop 0 xm_c73) lv st G E kc ks = xm_run call xm_c73 nL mc ms ret Q f (xm_drop 1 xm_c73) lv (.ref j :: st) G E kc ks := by
  rw [xz_73_0, h]; rfl
theorem xy_73_3  : xm_run call xm_c73 nL mc ms ret Q (f + 1) (xm_drop 3 xm_c73) lv st G E kc ks = xm_call call mc ms 83 0 st G E kc ks (fun st G E kc ks => xm_run call xm_c73 nL mc ms ret Q f (xm_drop 4 xm_c73) lv st G E kc ks) := by
  rw [xz_73_3, show (Nat.beq 83 1006 || Nat.beq 83 1007) = false from rfl, cond_false]
theorem xy_73_4 {x : Int32} : xm_run call xm_c73 2 mc ms ret Q (f + 1) (xm_drop 4 xm_c73) lv (.int x :: st) G E kc ks = xm_run call xm_c73 2 mc ms ret Q f (xm_drop 5 xm_c73) (xm_set1 lv 1 (.int x)) st G E kc ks := by
  rfl
theorem xy_73_5 {x : Int32} (h : xm_get lv 1 = some (.int x)) : xm_run call xm_c73 nL mc ms ret Q (f + 1) (xm_drop 5 xm_c73) lv st G E kc ks = xm_run call xm_c73 nL mc ms ret Q f (xm_drop 6 xm_c73) lv (.int x :: st) G E kc ks := by
  rw [xz_73_5, h]; rfl
theorem xy_73_7 {x y : Int32} : xm_run call xm_c73 nL mc ms ret Q (f + 1) (xm_drop 7 xm_c73) lv (.int y :: .int x :: st) G E kc ks = (bif !decide (x.toInt = y.toInt) then xm_run call xm_c73 nL mc ms ret Q f (xm_drop 18 xm_c73) lv st G E kc ks else xm_run call xm_c73 nL mc ms ret Q f (xm_drop 8 xm_c73) lv st G E kc ks) := by
  rw [xz_73_7]; show xm_cmpI E (.int x) (.int y) _ = _; rw [xc_int, xk_ne]
theorem xy_73_8 {j : Nat} (h : xm_get lv 0 = some (.ref j)) : xm_run call xm_c73 nL mc ms ret Q (f + 1) (xm_drop 8 xm_c73) lv st G E kc ks = xm_run call xm_c73 nL mc ms ret Q f (xm_drop 9 xm_c73) lv (.ref j :: st) G E kc ks := by
  rw [xz_73_8, h]; rfl
theorem xy_73_12 {x y : Int32} : xm_run call xm_c73 nL mc ms ret Q (f + 1) (xm_drop 12 xm_c73) lv (.int y :: .int x :: st) G E kc ks = (bif decide (x.toInt = y.toInt) then xm_run call xm_c73 nL mc ms ret Q f (xm_drop 18 xm_c73) lv st G E kc ks else xm_run call xm_c73 nL mc ms ret Q f (xm_drop 13 xm_c73) lv st G E kc ks) := by
  rw [xz_73_12]; show xm_cmpI E (.int x) (.int y) _ = _; rw [xc_int, xk_eq]
theorem xy_73_13 {j : Nat} (h : xm_get lv 0 = some (.ref j)) : xm_run call xm_c73 nL mc ms ret Q (f + 1) (xm_drop 13 xm_c73) lv st G E kc ks = xm_run call xm_c73 nL mc ms ret Q f (xm_drop 14 xm_c73) lv (.ref j :: st) G E kc ks := by
  rw [xz_73_13, h]; rfl
theorem xy_73_16  : xm_run call xm_c73 nL mc ms ret Q (f + 1) (xm_drop 16 xm_c73) lv st G E kc ks = xm_call call mc ms 81 0 st G E kc ks (fun st G E kc ks => xm_run call xm_c73 nL mc ms ret Q f (xm_drop 17 xm_c73) lv st G E kc ks) := by
  rw [xz_73_16, show (Nat.beq 81 1006 || Nat.beq 81 1007) = false from rfl, cond_false]
theorem xy_73_17  : xm_run call xm_c73 nL mc ms ret Q (f + 1) (xm_drop 17 xm_c73) lv st G E kc ks = xm_run call xm_c73 nL mc ms ret Q f (xm_drop 58 xm_c73) lv st G E kc ks := by
  rfl
theorem xy_73_18 {j : Nat} (h : xm_get lv 0 = some (.ref j)) : xm_run call xm_c73 nL mc ms ret Q (f + 1) (xm_drop 18 xm_c73) lv st G E kc ks = xm_run call xm_c73 nL mc ms ret Q f (xm_drop 19 xm_c73) lv (.ref j :: st) G E kc ks := by
  rw [xz_73_18, h]; rfl
theorem xy_73_22 {x y : Int32} : xm_run call xm_c73 nL mc ms ret Q (f + 1) (xm_drop 22 xm_c73) lv (.int y :: .int x :: st) G E kc ks = (bif !decide (x.toInt = y.toInt) then xm_run call xm_c73 nL mc ms ret Q f (xm_drop 33 xm_c73) lv st G E kc ks else xm_run call xm_c73 nL mc ms ret Q f (xm_drop 23 xm_c73) lv st G E kc ks) := by
  rw [xz_73_22]; show xm_cmpI E (.int x) (.int y) _ = _; rw [xc_int, xk_ne]
theorem xy_73_23 {j : Nat} (h : xm_get lv 0 = some (.ref j)) : xm_run call xm_c73 nL mc ms ret Q (f + 1) (xm_drop 23 xm_c73) lv st G E kc ks = xm_run call xm_c73 nL mc ms ret Q f (xm_drop 24 xm_c73) lv (.ref j :: st) G E kc ks := by
  rw [xz_73_23, h]; rfl
theorem xy_73_27 {x y : Int32} : xm_run call xm_c73 nL mc ms ret Q (f + 1) (xm_drop 27 xm_c73) lv (.int y :: .int x :: st) G E kc ks = (bif !decide (y.toInt < x.toInt) then xm_run call xm_c73 nL mc ms ret Q f (xm_drop 33 xm_c73) lv st G E kc ks else xm_run call xm_c73 nL mc ms ret Q f (xm_drop 28 xm_c73) lv st G E kc ks) := by
  rw [xz_73_27]; show xm_cmpI E (.int x) (.int y) _ = _; rw [xc_int, xk_le]
theorem xy_73_28 {j : Nat} (h : xm_get lv 0 = some (.ref j)) : xm_run call xm_c73 nL mc ms ret Q (f + 1) (xm_drop 28 xm_c73) lv st G E kc ks = xm_run call xm_c73 nL mc ms ret Q f (xm_drop 29 xm_c73) lv (.ref j :: st) G E kc ks := by
  rw [xz_73_28, h]; rfl
theorem xy_73_31  : xm_run call xm_c73 nL mc ms ret Q (f + 1) (xm_drop 31 xm_c73) lv st G E kc ks = xm_call call mc ms 81 0 st G E kc ks (fun st G E kc ks => xm_run call xm_c73 nL mc ms ret Q f (xm_drop 32 xm_c73) lv st G E kc ks) := by
  rw [xz_73_31, show (Nat.beq 81 1006 || Nat.beq 81 1007) = false from rfl, cond_false]
theorem xy_73_32  : xm_run call xm_c73 nL mc ms ret Q (f + 1) (xm_drop 32 xm_c73) lv st G E kc ks = xm_run call xm_c73 nL mc ms ret Q f (xm_drop 58 xm_c73) lv st G E kc ks := by
  rfl
theorem xy_73_33 {j : Nat} (h : xm_get lv 0 = some (.ref j)) : xm_run call xm_c73 nL mc ms ret Q (f + 1) (xm_drop 33 xm_c73) lv st G E kc ks = xm_run call xm_c73 nL mc ms ret Q f (xm_drop 34 xm_c73) lv (.ref j :: st) G E kc ks := by
  rw [xz_73_33, h]; rfl
theorem xy_73_36 {x y : Int32} : xm_run call xm_c73 nL mc ms ret Q (f + 1) (xm_drop 36 xm_c73) lv (.int y :: .int x :: st) G E kc ks = (bif decide (x.toInt < y.toInt) then xm_run call xm_c73 nL mc ms ret Q f (xm_drop 42 xm_c73) lv st G E kc ks else xm_run call xm_c73 nL mc ms ret Q f (xm_drop 37 xm_c73) lv st G E kc ks) := by
  rw [xz_73_36]; show xm_cmpI E (.int x) (.int y) _ = _; rw [xc_int, xk_lt]
theorem xy_73_37 {j : Nat} (h : xm_get lv 0 = some (.ref j)) : xm_run call xm_c73 nL mc ms ret Q (f + 1) (xm_drop 37 xm_c73) lv st G E kc ks = xm_run call xm_c73 nL mc ms ret Q f (xm_drop 38 xm_c73) lv (.ref j :: st) G E kc ks := by
  rw [xz_73_37, h]; rfl
theorem xy_73_40  : xm_run call xm_c73 nL mc ms ret Q (f + 1) (xm_drop 40 xm_c73) lv st G E kc ks = xm_call call mc ms 81 0 st G E kc ks (fun st G E kc ks => xm_run call xm_c73 nL mc ms ret Q f (xm_drop 41 xm_c73) lv st G E kc ks) := by
  rw [xz_73_40, show (Nat.beq 81 1006 || Nat.beq 81 1007) = false from rfl, cond_false]
theorem xy_73_41  : xm_run call xm_c73 nL mc ms ret Q (f + 1) (xm_drop 41 xm_c73) lv st G E kc ks = xm_run call xm_c73 nL mc ms ret Q f (xm_drop 58 xm_c73) lv st G E kc ks := by
  rfl
theorem xy_73_42 {x : Int32} (h : xm_get lv 1 = some (.int x)) : xm_run call xm_c73 nL mc ms ret Q (f + 1) (xm_drop 42 xm_c73) lv st G E kc ks = xm_run call xm_c73 nL mc ms ret Q f (xm_drop 43 xm_c73) lv (.int x :: st) G E kc ks := by
  rw [xz_73_42, h]; rfl
theorem xy_73_44 {x y : Int32} : xm_run call xm_c73 nL mc ms ret Q (f + 1) (xm_drop 44 xm_c73) lv (.int y :: .int x :: st) G E kc ks = (bif decide (x.toInt = y.toInt) then xm_run call xm_c73 nL mc ms ret Q f (xm_drop 51 xm_c73) lv st G E kc ks else xm_run call xm_c73 nL mc ms ret Q f (xm_drop 45 xm_c73) lv st G E kc ks) := by
  rw [xz_73_44]; show xm_cmpI E (.int x) (.int y) _ = _; rw [xc_int, xk_eq]
theorem xy_73_45 {j : Nat} (h : xm_get lv 0 = some (.ref j)) : xm_run call xm_c73 nL mc ms ret Q (f + 1) (xm_drop 45 xm_c73) lv st G E kc ks = xm_run call xm_c73 nL mc ms ret Q f (xm_drop 46 xm_c73) lv (.ref j :: st) G E kc ks := by
  rw [xz_73_45, h]; rfl
theorem xy_73_48 {x : Int32} (h : xm_get lv 1 = some (.int x)) : xm_run call xm_c73 nL mc ms ret Q (f + 1) (xm_drop 48 xm_c73) lv st G E kc ks = xm_run call xm_c73 nL mc ms ret Q f (xm_drop 49 xm_c73) lv (.int x :: st) G E kc ks := by
  rw [xz_73_48, h]; rfl
theorem xy_73_49  : xm_run call xm_c73 nL mc ms ret Q (f + 1) (xm_drop 49 xm_c73) lv st G E kc ks = xm_call call mc ms 60 0 st G E kc ks (fun st G E kc ks => xm_run call xm_c73 nL mc ms ret Q f (xm_drop 50 xm_c73) lv st G E kc ks) := by
  rw [xz_73_49, show (Nat.beq 60 1006 || Nat.beq 60 1007) = false from rfl, cond_false]
theorem xy_73_50  : xm_run call xm_c73 nL mc ms ret Q (f + 1) (xm_drop 50 xm_c73) lv st G E kc ks = xm_run call xm_c73 nL mc ms ret Q f (xm_drop 58 xm_c73) lv st G E kc ks := by
  rfl
theorem xy_73_51 {j : Nat} (h : xm_get lv 0 = some (.ref j)) : xm_run call xm_c73 nL mc ms ret Q (f + 1) (xm_drop 51 xm_c73) lv st G E kc ks = xm_run call xm_c73 nL mc ms ret Q f (xm_drop 52 xm_c73) lv (.ref j :: st) G E kc ks := by
  rw [xz_73_51, h]; rfl
theorem xy_73_54 {j : Nat} (h : xm_get lv 0 = some (.ref j)) : xm_run call xm_c73 nL mc ms ret Q (f + 1) (xm_drop 54 xm_c73) lv st G E kc ks = xm_run call xm_c73 nL mc ms ret Q f (xm_drop 55 xm_c73) lv (.ref j :: st) G E kc ks := by
  rw [xz_73_54, h]; rfl
theorem xy_73_56  : xm_run call xm_c73 nL mc ms ret Q (f + 1) (xm_drop 56 xm_c73) lv st G E kc ks = xm_call call mc ms 84 0 st G E kc ks (fun st G E kc ks => xm_run call xm_c73 nL mc ms ret Q f (xm_drop 57 xm_c73) lv st G E kc ks) := by
  rw [xz_73_56, show (Nat.beq 84 1006 || Nat.beq 84 1007) = false from rfl, cond_false]
theorem xy_73_57  : xm_run call xm_c73 nL mc ms ret Q (f + 1) (xm_drop 57 xm_c73) lv st G E kc ks = xm_call call mc ms 60 0 st G E kc ks (fun st G E kc ks => xm_run call xm_c73 nL mc ms ret Q f (xm_drop 58 xm_c73) lv st G E kc ks) := by
  rw [xz_73_57, show (Nat.beq 60 1006 || Nat.beq 60 1007) = false from rfl, cond_false]
theorem xy_73_58 {j : Nat} (h : xm_get lv 0 = some (.ref j)) : xm_run call xm_c73 nL mc ms ret Q (f + 1) (xm_drop 58 xm_c73) lv st G E kc ks = xm_run call xm_c73 nL mc ms ret Q f (xm_drop 59 xm_c73) lv (.ref j :: st) G E kc ks := by
  rw [xz_73_58, h]; rfl
theorem xy_73_59 {j : Nat} : xm_run call xm_c73 nL mc ms ret Q (f + 1) (xm_drop 59 xm_c73) lv (.ref j :: st) G E kc ks = xm_run call xm_c73 nL mc ms ret Q f (xm_drop 60 xm_c73) lv (.ref j :: .ref j :: st) G E kc ks := by
  rfl
theorem xy_73_62 {x y : Int32} : xm_run call xm_c73 nL mc ms ret Q (f + 1) (xm_drop 62 xm_c73) lv (.int y :: .int x :: st) G E kc ks = xm_run call xm_c73 nL mc ms ret Q f (xm_drop 63 xm_c73) lv (.int (x + y) :: st) G E kc ks := by
  rw [xz_73_62, xk_add]
theorem xy_73_64 {j : Nat} (h : xm_get lv 0 = some (.ref j)) : xm_run call xm_c73 nL mc ms ret Q (f + 1) (xm_drop 64 xm_c73) lv st G E kc ks = xm_run call xm_c73 nL mc ms ret Q f (xm_drop 65 xm_c73) lv (.ref j :: st) G E kc ks := by
  rw [xz_73_64, h]; rfl
theorem xy_73_66  : xm_run call xm_c73 nL mc ms ret Q (f + 1) (xm_drop 66 xm_c73) lv st G E kc ks = xm_call call mc ms 82 0 st G E kc ks (fun st G E kc ks => xm_run call xm_c73 nL mc ms ret Q f (xm_drop 67 xm_c73) lv st G E kc ks) := by
  rw [xz_73_66, show (Nat.beq 82 1006 || Nat.beq 82 1007) = false from rfl, cond_false]
theorem xy_73_67 : xm_run call xm_c73 nL 0 0 none Q (f + 1) (xm_drop 67 xm_c73) lv [] G E 0 0 = Q none G E := by
  rw [xz_73_67]; rfl
theorem xy_86_0 {j : Nat} (h : xm_get lv 0 = some (.ref j)) : xm_run call xm_c86 nL mc ms ret Q (f + 1) (xm_drop 0 xm_c86) lv st G E kc ks = xm_run call xm_c86 nL mc ms ret Q f (xm_drop 1 xm_c86) lv (.ref j :: st) G E kc ks := by
  rw [xz_86_0, h]; rfl
theorem xy_86_3 {x y : Int32} : xm_run call xm_c86 nL mc ms ret Q (f + 1) (xm_drop 3 xm_c86) lv (.int y :: .int x :: st) G E kc ks = (bif !decide (x.toInt = y.toInt) then xm_run call xm_c86 nL mc ms ret Q f (xm_drop 8 xm_c86) lv st G E kc ks else xm_run call xm_c86 nL mc ms ret Q f (xm_drop 4 xm_c86) lv st G E kc ks) := by
  rw [xz_86_3]; show xm_cmpI E (.int x) (.int y) _ = _; rw [xc_int, xk_ne]
theorem xy_86_4 {j : Nat} (h : xm_get lv 0 = some (.ref j)) : xm_run call xm_c86 nL mc ms ret Q (f + 1) (xm_drop 4 xm_c86) lv st G E kc ks = xm_run call xm_c86 nL mc ms ret Q f (xm_drop 5 xm_c86) lv (.ref j :: st) G E kc ks := by
  rw [xz_86_4, h]; rfl
theorem xy_86_5  : xm_run call xm_c86 nL mc ms ret Q (f + 1) (xm_drop 5 xm_c86) lv st G E kc ks = xm_call call mc ms 82 0 st G E kc ks (fun st G E kc ks => xm_run call xm_c86 nL mc ms ret Q f (xm_drop 6 xm_c86) lv st G E kc ks) := by
  rw [xz_86_5, show (Nat.beq 82 1006 || Nat.beq 82 1007) = false from rfl, cond_false]
theorem xy_86_7_0 : xm_run call xm_c86 nL 0 0 (some .boolean) Q (f + 1) (xm_drop 7 xm_c86) lv [.int 0] G E 0 0 = Q (some (.int 0)) G E := by
  rw [xz_86_7]; rfl
theorem xy_86_7_1 : xm_run call xm_c86 nL 0 0 (some .boolean) Q (f + 1) (xm_drop 7 xm_c86) lv [.int 1] G E 0 0 = Q (some (.int 1)) G E := by
  rw [xz_86_7]; rfl
theorem xy_86_8 {j : Nat} (h : xm_get lv 0 = some (.ref j)) : xm_run call xm_c86 nL mc ms ret Q (f + 1) (xm_drop 8 xm_c86) lv st G E kc ks = xm_run call xm_c86 nL mc ms ret Q f (xm_drop 9 xm_c86) lv (.ref j :: st) G E kc ks := by
  rw [xz_86_8, h]; rfl
theorem xy_86_11 {x y : Int32} : xm_run call xm_c86 nL mc ms ret Q (f + 1) (xm_drop 11 xm_c86) lv (.int y :: .int x :: st) G E kc ks = (bif decide (x.toInt = y.toInt) then xm_run call xm_c86 nL mc ms ret Q f (xm_drop 15 xm_c86) lv st G E kc ks else xm_run call xm_c86 nL mc ms ret Q f (xm_drop 12 xm_c86) lv st G E kc ks) := by
  rw [xz_86_11]; show xm_cmpI E (.int x) (.int y) _ = _; rw [xc_int, xk_eq]
theorem xy_86_12 {j : Nat} (h : xm_get lv 0 = some (.ref j)) : xm_run call xm_c86 nL mc ms ret Q (f + 1) (xm_drop 12 xm_c86) lv st G E kc ks = xm_run call xm_c86 nL mc ms ret Q f (xm_drop 13 xm_c86) lv (.ref j :: st) G E kc ks := by
  rw [xz_86_12, h]; rfl
theorem xy_86_14  : xm_run call xm_c86 nL mc ms ret Q (f + 1) (xm_drop 14 xm_c86) lv st G E kc ks = xm_call call mc ms 81 0 st G E kc ks (fun st G E kc ks => xm_run call xm_c86 nL mc ms ret Q f (xm_drop 15 xm_c86) lv st G E kc ks) := by
  rw [xz_86_14, show (Nat.beq 81 1006 || Nat.beq 81 1007) = false from rfl, cond_false]
theorem xy_86_16_0 : xm_run call xm_c86 nL 0 0 (some .boolean) Q (f + 1) (xm_drop 16 xm_c86) lv [.int 0] G E 0 0 = Q (some (.int 0)) G E := by
  rw [xz_86_16]; rfl
theorem xy_86_16_1 : xm_run call xm_c86 nL 0 0 (some .boolean) Q (f + 1) (xm_drop 16 xm_c86) lv [.int 1] G E 0 0 = Q (some (.int 1)) G E := by
  rw [xz_86_16]; rfl
theorem xy_91_0 {j : Nat} (h : xm_get lv 0 = some (.ref j)) : xm_run call xm_c91 nL mc ms ret Q (f + 1) (xm_drop 0 xm_c91) lv st G E kc ks = xm_run call xm_c91 nL mc ms ret Q f (xm_drop 1 xm_c91) lv (.ref j :: st) G E kc ks := by
  rw [xz_91_0, h]; rfl
theorem xy_91_3 {x y : Int32} : xm_run call xm_c91 nL mc ms ret Q (f + 1) (xm_drop 3 xm_c91) lv (.int y :: .int x :: st) G E kc ks = (bif decide (x.toInt < y.toInt) then xm_run call xm_c91 nL mc ms ret Q f (xm_drop 6 xm_c91) lv st G E kc ks else xm_run call xm_c91 nL mc ms ret Q f (xm_drop 4 xm_c91) lv st G E kc ks) := by
  rw [xz_91_3]; show xm_cmpI E (.int x) (.int y) _ = _; rw [xc_int, xk_lt]
theorem xy_91_5 {x : Int32} : xm_run call xm_c91 nL 0 0 (some .int) Q (f + 1) (xm_drop 5 xm_c91) lv [.int x] G E 0 0 = Q (some (.int x)) G E := by
  rw [xz_91_5]; rfl
theorem xy_91_6 {j : Nat} (h : xm_get lv 0 = some (.ref j)) : xm_run call xm_c91 nL mc ms ret Q (f + 1) (xm_drop 6 xm_c91) lv st G E kc ks = xm_run call xm_c91 nL mc ms ret Q f (xm_drop 7 xm_c91) lv (.ref j :: st) G E kc ks := by
  rw [xz_91_6, h]; rfl
theorem xy_91_8 {j : Nat} (h : xm_get lv 0 = some (.ref j)) : xm_run call xm_c91 nL mc ms ret Q (f + 1) (xm_drop 8 xm_c91) lv st G E kc ks = xm_run call xm_c91 nL mc ms ret Q f (xm_drop 9 xm_c91) lv (.ref j :: st) G E kc ks := by
  rw [xz_91_8, h]; rfl
theorem xy_91_10 {j : Nat} (h : xm_get lv 0 = some (.ref j)) : xm_run call xm_c91 nL mc ms ret Q (f + 1) (xm_drop 10 xm_c91) lv st G E kc ks = xm_run call xm_c91 nL mc ms ret Q f (xm_drop 11 xm_c91) lv (.ref j :: st) G E kc ks := by
  rw [xz_91_10, h]; rfl
theorem xy_91_13  : xm_run call xm_c91 nL mc ms ret Q (f + 1) (xm_drop 13 xm_c91) lv st G E kc ks = xm_call call mc ms 66 0 st G E kc ks (fun st G E kc ks => xm_run call xm_c91 nL mc ms ret Q f (xm_drop 14 xm_c91) lv st G E kc ks) := by
  rw [xz_91_13, show (Nat.beq 66 1006 || Nat.beq 66 1007) = false from rfl, cond_false]
theorem xy_91_14 {x : Int32} : xm_run call xm_c91 2 mc ms ret Q (f + 1) (xm_drop 14 xm_c91) lv (.int x :: st) G E kc ks = xm_run call xm_c91 2 mc ms ret Q f (xm_drop 15 xm_c91) (xm_set1 lv 1 (.int x)) st G E kc ks := by
  rfl
theorem xy_91_15 {j : Nat} (h : xm_get lv 0 = some (.ref j)) : xm_run call xm_c91 nL mc ms ret Q (f + 1) (xm_drop 15 xm_c91) lv st G E kc ks = xm_run call xm_c91 nL mc ms ret Q f (xm_drop 16 xm_c91) lv (.ref j :: st) G E kc ks := by
  rw [xz_91_15, h]; rfl
theorem xy_91_19 {x : Int32} (h : xm_get lv 1 = some (.int x)) : xm_run call xm_c91 nL mc ms ret Q (f + 1) (xm_drop 19 xm_c91) lv st G E kc ks = xm_run call xm_c91 nL mc ms ret Q f (xm_drop 20 xm_c91) lv (.int x :: st) G E kc ks := by
  rw [xz_91_19, h]; rfl
theorem xy_91_20 {x : Int32} : xm_run call xm_c91 nL mc ms ret Q (f + 1) (xm_drop 20 xm_c91) lv (.int x :: st) G E kc ks = (bif decide (x.toInt = 0) then xm_run call xm_c91 nL mc ms ret Q f (xm_drop 25 xm_c91) lv st G E kc ks else xm_run call xm_c91 nL mc ms ret Q f (xm_drop 21 xm_c91) lv st G E kc ks) := by
  rw [xz_91_20]; show xm_cmpI E (.int x) (.int 0) _ = _; rw [xc_int, xk_eq]; rfl
theorem xy_91_22 {x : Int32} (h : xm_get lv 1 = some (.int x)) : xm_run call xm_c91 nL mc ms ret Q (f + 1) (xm_drop 22 xm_c91) lv st G E kc ks = xm_run call xm_c91 nL mc ms ret Q f (xm_drop 23 xm_c91) lv (.int x :: st) G E kc ks := by
  rw [xz_91_22, h]; rfl
theorem xy_91_23 {x y : Int32} : xm_run call xm_c91 nL mc ms ret Q (f + 1) (xm_drop 23 xm_c91) lv (.int y :: .int x :: st) G E kc ks = xm_run call xm_c91 nL mc ms ret Q f (xm_drop 24 xm_c91) lv (.int (x - y) :: st) G E kc ks := by
  rw [xz_91_23, xk_sub]
theorem xy_91_24 {x : Int32} : xm_run call xm_c91 nL 0 0 (some .int) Q (f + 1) (xm_drop 24 xm_c91) lv [.int x] G E 0 0 = Q (some (.int x)) G E := by
  rw [xz_91_24]; rfl
theorem xy_91_25 {j : Nat} (h : xm_get lv 0 = some (.ref j)) : xm_run call xm_c91 nL mc ms ret Q (f + 1) (xm_drop 25 xm_c91) lv st G E kc ks = xm_run call xm_c91 nL mc ms ret Q f (xm_drop 26 xm_c91) lv (.ref j :: st) G E kc ks := by
  rw [xz_91_25, h]; rfl
theorem xy_91_26 {j : Nat} : xm_run call xm_c91 nL mc ms ret Q (f + 1) (xm_drop 26 xm_c91) lv (.ref j :: st) G E kc ks = xm_run call xm_c91 nL mc ms ret Q f (xm_drop 27 xm_c91) lv (.ref j :: .ref j :: st) G E kc ks := by
  rfl
theorem xy_91_29 {x y : Int32} : xm_run call xm_c91 nL mc ms ret Q (f + 1) (xm_drop 29 xm_c91) lv (.int y :: .int x :: st) G E kc ks = xm_run call xm_c91 nL mc ms ret Q f (xm_drop 30 xm_c91) lv (.int (x + y) :: st) G E kc ks := by
  rw [xz_91_29, xk_add]
theorem xy_91_31 {j : Nat} (h : xm_get lv 0 = some (.ref j)) : xm_run call xm_c91 nL mc ms ret Q (f + 1) (xm_drop 31 xm_c91) lv st G E kc ks = xm_run call xm_c91 nL mc ms ret Q f (xm_drop 32 xm_c91) lv (.ref j :: st) G E kc ks := by
  rw [xz_91_31, h]; rfl
theorem xy_91_34 {x y : Int32} : xm_run call xm_c91 nL mc ms ret Q (f + 1) (xm_drop 34 xm_c91) lv (.int y :: .int x :: st) G E kc ks = xm_run call xm_c91 nL mc ms ret Q f (xm_drop 35 xm_c91) lv (.int (x - y) :: st) G E kc ks := by
  rw [xz_91_34, xk_sub]
theorem xy_91_35 {x : Int32} : xm_run call xm_c91 nL 0 0 (some .int) Q (f + 1) (xm_drop 35 xm_c91) lv [.int x] G E 0 0 = Q (some (.int x)) G E := by
  rw [xz_91_35]; rfl
end XF
