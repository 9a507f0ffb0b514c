/-! the steps of the reference's parser without a match, printed by gen_fused.py -/
section XF
variable {call : xm_C} {nL mc ms : Nat} {ret : Option FieldType} {Q : xm_Q} {f : Nat} {lv : xm_L} {st : List Value} {G : xm_H} {E : xm_R} {kc ks : Nat}
theorem xy_139_0 {j : Nat} (h : xm_get lv 0 = some (.ref j)) : xm_run call xm_c139 nL mc ms ret Q (f + 1) (xm_drop 0 xm_c139) lv st G E kc ks = xm_run call xm_c139 nL mc ms ret Q f (xm_drop 1 xm_c139) lv (.ref j :: st) G E kc ks := by
  rw [xz_139_0, h]; rfl
theorem xy_139_2  : xm_run call xm_c139 nL mc ms ret Q (f + 1) (xm_drop 2 xm_c139) lv st G E kc ks = xm_call call mc ms 135 0 st G E kc ks (fun st G E kc ks => xm_run call xm_c139 nL mc ms ret Q f (xm_drop 3 xm_c139) lv st G E kc ks) := by
  rw [xz_139_2, show (Nat.beq 135 1006 || Nat.beq 135 1007) = false from rfl, cond_false]
theorem xy_139_3 {x : Int32} : xm_run call xm_c139 nL mc ms ret Q (f + 1) (xm_drop 3 xm_c139) lv (.int x :: st) G E kc ks = (bif decide (x.toInt = 0) then xm_run call xm_c139 nL mc ms ret Q f (xm_drop 6 xm_c139) lv st G E kc ks else xm_run call xm_c139 nL mc ms ret Q f (xm_drop 4 xm_c139) lv st G E kc ks) := by
  rw [xz_139_3]; show xm_cmpI E (.int x) (.int 0) _ = _; rw [xc_int, xk_eq]; rfl
theorem xy_139_5 {x : Int32} : xm_run call xm_c139 nL 0 0 (some .int) Q (f + 1) (xm_drop 5 xm_c139) lv [.int x] G E 0 0 = Q (some (.int x)) G E := by
  rw [xz_139_5]; rfl
theorem xy_139_6 {j : Nat} (h : xm_get lv 0 = some (.ref j)) : xm_run call xm_c139 nL mc ms ret Q (f + 1) (xm_drop 6 xm_c139) lv st G E kc ks = xm_run call xm_c139 nL mc ms ret Q f (xm_drop 7 xm_c139) lv (.ref j :: st) G E kc ks := by
  rw [xz_139_6, h]; rfl
theorem xy_139_8  : xm_run call xm_c139 nL mc ms ret Q (f + 1) (xm_drop 8 xm_c139) lv st G E kc ks = xm_call call mc ms 135 0 st G E kc ks (fun st G E kc ks => xm_run call xm_c139 nL mc ms ret Q f (xm_drop 9 xm_c139) lv st G E kc ks) := by
  rw [xz_139_8, show (Nat.beq 135 1006 || Nat.beq 135 1007) = false from rfl, cond_false]
theorem xy_139_9 {x : Int32} : xm_run call xm_c139 nL mc ms ret Q (f + 1) (xm_drop 9 xm_c139) lv (.int x :: st) G E kc ks = (bif decide (x.toInt = 0) then xm_run call xm_c139 nL mc ms ret Q f (xm_drop 12 xm_c139) lv st G E kc ks else xm_run call xm_c139 nL mc ms ret Q f (xm_drop 10 xm_c139) lv st G E kc ks) := by
  rw [xz_139_9]; show xm_cmpI E (.int x) (.int 0) _ = _; rw [xc_int, xk_eq]; rfl
theorem xy_139_11 {x : Int32} : xm_run call xm_c139 nL 0 0 (some .int) Q (f + 1) (xm_drop 11 xm_c139) lv [.int x] G E 0 0 = Q (some (.int x)) G E := by
  rw [xz_139_11]; rfl
theorem xy_139_12 {j : Nat} (h : xm_get lv 0 = some (.ref j)) : xm_run call xm_c139 nL mc ms ret Q (f + 1) (xm_drop 12 xm_c139) lv st G E kc ks = xm_run call xm_c139 nL mc ms ret Q f (xm_drop 13 xm_c139) lv (.ref j :: st) G E kc ks := by
  rw [xz_139_12, h]; rfl
theorem xy_139_14  : xm_run call xm_c139 nL mc ms ret Q (f + 1) (xm_drop 14 xm_c139) lv st G E kc ks = xm_call call mc ms 135 0 st G E kc ks (fun st G E kc ks => xm_run call xm_c139 nL mc ms ret Q f (xm_drop 15 xm_c139) lv st G E kc ks) := by
  rw [xz_139_14, show (Nat.beq 135 1006 || Nat.beq 135 1007) = false from rfl, cond_false]
theorem xy_139_15 {x : Int32} : xm_run call xm_c139 nL mc ms ret Q (f + 1) (xm_drop 15 xm_c139) lv (.int x :: st) G E kc ks = (bif decide (x.toInt = 0) then xm_run call xm_c139 nL mc ms ret Q f (xm_drop 18 xm_c139) lv st G E kc ks else xm_run call xm_c139 nL mc ms ret Q f (xm_drop 16 xm_c139) lv st G E kc ks) := by
  rw [xz_139_15]; show xm_cmpI E (.int x) (.int 0) _ = _; rw [xc_int, xk_eq]; rfl
theorem xy_139_17 {x : Int32} : xm_run call xm_c139 nL 0 0 (some .int) Q (f + 1) (xm_drop 17 xm_c139) lv [.int x] G E 0 0 = Q (some (.int x)) G E := by
  rw [xz_139_17]; rfl
theorem xy_139_18 {j : Nat} (h : xm_get lv 0 = some (.ref j)) : xm_run call xm_c139 nL mc ms ret Q (f + 1) (xm_drop 18 xm_c139) lv st G E kc ks = xm_run call xm_c139 nL mc ms ret Q f (xm_drop 19 xm_c139) lv (.ref j :: st) G E kc ks := by
  rw [xz_139_18, h]; rfl
theorem xy_139_20  : xm_run call xm_c139 nL mc ms ret Q (f + 1) (xm_drop 20 xm_c139) lv st G E kc ks = xm_call call mc ms 135 0 st G E kc ks (fun st G E kc ks => xm_run call xm_c139 nL mc ms ret Q f (xm_drop 21 xm_c139) lv st G E kc ks) := by
  rw [xz_139_20, show (Nat.beq 135 1006 || Nat.beq 135 1007) = false from rfl, cond_false]
theorem xy_139_21 {x : Int32} : xm_run call xm_c139 nL mc ms ret Q (f + 1) (xm_drop 21 xm_c139) lv (.int x :: st) G E kc ks = (bif decide (x.toInt = 0) then xm_run call xm_c139 nL mc ms ret Q f (xm_drop 24 xm_c139) lv st G E kc ks else xm_run call xm_c139 nL mc ms ret Q f (xm_drop 22 xm_c139) lv st G E kc ks) := by
  rw [xz_139_21]; show xm_cmpI E (.int x) (.int 0) _ = _; rw [xc_int, xk_eq]; rfl
theorem xy_139_23 {x : Int32} : xm_run call xm_c139 nL 0 0 (some .int) Q (f + 1) (xm_drop 23 xm_c139) lv [.int x] G E 0 0 = Q (some (.int x)) G E := by
  rw [xz_139_23]; rfl
theorem xy_139_24 {j : Nat} (h : xm_get lv 0 = some (.ref j)) : xm_run call xm_c139 nL mc ms ret Q (f + 1) (xm_drop 24 xm_c139) lv st G E kc ks = xm_run call xm_c139 nL mc ms ret Q f (xm_drop 25 xm_c139) lv (.ref j :: st) G E kc ks := by
  rw [xz_139_24, h]; rfl
theorem xy_139_26  : xm_run call xm_c139 nL mc ms ret Q (f + 1) (xm_drop 26 xm_c139) lv st G E kc ks = xm_call call mc ms 135 0 st G E kc ks (fun st G E kc ks => xm_run call xm_c139 nL mc ms ret Q f (xm_drop 27 xm_c139) lv st G E kc ks) := by
  rw [xz_139_26, show (Nat.beq 135 1006 || Nat.beq 135 1007) = false from rfl, cond_false]
theorem xy_139_27 {x : Int32} : xm_run call xm_c139 nL mc ms ret Q (f + 1) (xm_drop 27 xm_c139) lv (.int x :: st) G E kc ks = (bif decide (x.toInt = 0) then xm_run call xm_c139 nL mc ms ret Q f (xm_drop 30 xm_c139) lv st G E kc ks else xm_run call xm_c139 nL mc ms ret Q f (xm_drop 28 xm_c139) lv st G E kc ks) := by
  rw [xz_139_27]; show xm_cmpI E (.int x) (.int 0) _ = _; rw [xc_int, xk_eq]; rfl
theorem xy_139_29 {x : Int32} : xm_run call xm_c139 nL 0 0 (some .int) Q (f + 1) (xm_drop 29 xm_c139) lv [.int x] G E 0 0 = Q (some (.int x)) G E := by
  rw [xz_139_29]; rfl
theorem xy_139_30 {j : Nat} (h : xm_get lv 0 = some (.ref j)) : xm_run call xm_c139 nL mc ms ret Q (f + 1) (xm_drop 30 xm_c139) lv st G E kc ks = xm_run call xm_c139 nL mc ms ret Q f (xm_drop 31 xm_c139) lv (.ref j :: st) G E kc ks := by
  rw [xz_139_30, h]; rfl
theorem xy_139_32  : xm_run call xm_c139 nL mc ms ret Q (f + 1) (xm_drop 32 xm_c139) lv st G E kc ks = xm_call call mc ms 135 0 st G E kc ks (fun st G E kc ks => xm_run call xm_c139 nL mc ms ret Q f (xm_drop 33 xm_c139) lv st G E kc ks) := by
  rw [xz_139_32, show (Nat.beq 135 1006 || Nat.beq 135 1007) = false from rfl, cond_false]
theorem xy_139_33 {x : Int32} : xm_run call xm_c139 nL mc ms ret Q (f + 1) (xm_drop 33 xm_c139) lv (.int x :: st) G E kc ks = (bif decide (x.toInt = 0) then xm_run call xm_c139 nL mc ms ret Q f (xm_drop 36 xm_c139) lv st G E kc ks else xm_run call xm_c139 nL mc ms ret Q f (xm_drop 34 xm_c139) lv st G E kc ks) := by
  rw [xz_139_33]; show xm_cmpI E (.int x) (.int 0) _ = _; rw [xc_int, xk_eq]; rfl
theorem xy_139_35 {x : Int32} : xm_run call xm_c139 nL 0 0 (some .int) Q (f + 1) (xm_drop 35 xm_c139) lv [.int x] G E 0 0 = Q (some (.int x)) G E := by
  rw [xz_139_35]; rfl
theorem xy_139_36 {j : Nat} (h : xm_get lv 0 = some (.ref j)) : xm_run call xm_c139 nL mc ms ret Q (f + 1) (xm_drop 36 xm_c139) lv st G E kc ks = xm_run call xm_c139 nL mc ms ret Q f (xm_drop 37 xm_c139) lv (.ref j :: st) G E kc ks := by
  rw [xz_139_36, h]; rfl
theorem xy_139_38  : xm_run call xm_c139 nL mc ms ret Q (f + 1) (xm_drop 38 xm_c139) lv st G E kc ks = xm_call call mc ms 135 0 st G E kc ks (fun st G E kc ks => xm_run call xm_c139 nL mc ms ret Q f (xm_drop 39 xm_c139) lv st G E kc ks) := by
  rw [xz_139_38, show (Nat.beq 135 1006 || Nat.beq 135 1007) = false from rfl, cond_false]
theorem xy_139_39 {x : Int32} : xm_run call xm_c139 nL mc ms ret Q (f + 1) (xm_drop 39 xm_c139) lv (.int x :: st) G E kc ks = (bif decide (x.toInt = 0) then xm_run call xm_c139 nL mc ms ret Q f (xm_drop 42 xm_c139) lv st G E kc ks else xm_run call xm_c139 nL mc ms ret Q f (xm_drop 40 xm_c139) lv st G E kc ks) := by
  rw [xz_139_39]; show xm_cmpI E (.int x) (.int 0) _ = _; rw [xc_int, xk_eq]; rfl
theorem xy_139_41 {x : Int32} : xm_run call xm_c139 nL 0 0 (some .int) Q (f + 1) (xm_drop 41 xm_c139) lv [.int x] G E 0 0 = Q (some (.int x)) G E := by
  rw [xz_139_41]; rfl
theorem xy_139_42 {j : Nat} (h : xm_get lv 0 = some (.ref j)) : xm_run call xm_c139 nL mc ms ret Q (f + 1) (xm_drop 42 xm_c139) lv st G E kc ks = xm_run call xm_c139 nL mc ms ret Q f (xm_drop 43 xm_c139) lv (.ref j :: st) G E kc ks := by
  rw [xz_139_42, h]; rfl
theorem xy_139_44  : xm_run call xm_c139 nL mc ms ret Q (f + 1) (xm_drop 44 xm_c139) lv st G E kc ks = xm_call call mc ms 135 0 st G E kc ks (fun st G E kc ks => xm_run call xm_c139 nL mc ms ret Q f (xm_drop 45 xm_c139) lv st G E kc ks) := by
  rw [xz_139_44, show (Nat.beq 135 1006 || Nat.beq 135 1007) = false from rfl, cond_false]
theorem xy_139_45 {x : Int32} : xm_run call xm_c139 nL mc ms ret Q (f + 1) (xm_drop 45 xm_c139) lv (.int x :: st) G E kc ks = (bif decide (x.toInt = 0) then xm_run call xm_c139 nL mc ms ret Q f (xm_drop 48 xm_c139) lv st G E kc ks else xm_run call xm_c139 nL mc ms ret Q f (xm_drop 46 xm_c139) lv st G E kc ks) := by
  rw [xz_139_45]; show xm_cmpI E (.int x) (.int 0) _ = _; rw [xc_int, xk_eq]; rfl
theorem xy_139_47 {x : Int32} : xm_run call xm_c139 nL 0 0 (some .int) Q (f + 1) (xm_drop 47 xm_c139) lv [.int x] G E 0 0 = Q (some (.int x)) G E := by
  rw [xz_139_47]; rfl
theorem xy_139_48 {j : Nat} (h : xm_get lv 0 = some (.ref j)) : xm_run call xm_c139 nL mc ms ret Q (f + 1) (xm_drop 48 xm_c139) lv st G E kc ks = xm_run call xm_c139 nL mc ms ret Q f (xm_drop 49 xm_c139) lv (.ref j :: st) G E kc ks := by
  rw [xz_139_48, h]; rfl
theorem xy_139_50  : xm_run call xm_c139 nL mc ms ret Q (f + 1) (xm_drop 50 xm_c139) lv st G E kc ks = xm_call call mc ms 135 0 st G E kc ks (fun st G E kc ks => xm_run call xm_c139 nL mc ms ret Q f (xm_drop 51 xm_c139) lv st G E kc ks) := by
  rw [xz_139_50, show (Nat.beq 135 1006 || Nat.beq 135 1007) = false from rfl, cond_false]
theorem xy_139_51 {x : Int32} : xm_run call xm_c139 nL mc ms ret Q (f + 1) (xm_drop 51 xm_c139) lv (.int x :: st) G E kc ks = (bif decide (x.toInt = 0) then xm_run call xm_c139 nL mc ms ret Q f (xm_drop 54 xm_c139) lv st G E kc ks else xm_run call xm_c139 nL mc ms ret Q f (xm_drop 52 xm_c139) lv st G E kc ks) := by
  rw [xz_139_51]; show xm_cmpI E (.int x) (.int 0) _ = _; rw [xc_int, xk_eq]; rfl
theorem xy_139_53 {x : Int32} : xm_run call xm_c139 nL 0 0 (some .int) Q (f + 1) (xm_drop 53 xm_c139) lv [.int x] G E 0 0 = Q (some (.int x)) G E := by
  rw [xz_139_53]; rfl
theorem xy_139_54 {j : Nat} (h : xm_get lv 0 = some (.ref j)) : xm_run call xm_c139 nL mc ms ret Q (f + 1) (xm_drop 54 xm_c139) lv st G E kc ks = xm_run call xm_c139 nL mc ms ret Q f (xm_drop 55 xm_c139) lv (.ref j :: st) G E kc ks := by
  rw [xz_139_54, h]; rfl
theorem xy_139_56  : xm_run call xm_c139 nL mc ms ret Q (f + 1) (xm_drop 56 xm_c139) lv st G E kc ks = xm_call call mc ms 135 0 st G E kc ks (fun st G E kc ks => xm_run call xm_c139 nL mc ms ret Q f (xm_drop 57 xm_c139) lv st G E kc ks) := by
  rw [xz_139_56, show (Nat.beq 135 1006 || Nat.beq 135 1007) = false from rfl, cond_false]
theorem xy_139_57 {x : Int32} : xm_run call xm_c139 nL mc ms ret Q (f + 1) (xm_drop 57 xm_c139) lv (.int x :: st) G E kc ks = (bif decide (x.toInt = 0) then xm_run call xm_c139 nL mc ms ret Q f (xm_drop 60 xm_c139) lv st G E kc ks else xm_run call xm_c139 nL mc ms ret Q f (xm_drop 58 xm_c139) lv st G E kc ks) := by
  rw [xz_139_57]; show xm_cmpI E (.int x) (.int 0) _ = _; rw [xc_int, xk_eq]; rfl
theorem xy_139_59  : xm_run call xm_c139 nL mc ms ret Q (f + 1) (xm_drop 59 xm_c139) lv st G E kc ks = xm_run call xm_c139 nL mc ms ret Q f (xm_drop 67 xm_c139) lv st G E kc ks := by
  rfl
theorem xy_139_60 {j : Nat} (h : xm_get lv 0 = some (.ref j)) : xm_run call xm_c139 nL mc ms ret Q (f + 1) (xm_drop 60 xm_c139) lv st G E kc ks = xm_run call xm_c139 nL mc ms ret Q f (xm_drop 61 xm_c139) lv (.ref j :: st) G E kc ks := by
  rw [xz_139_60, h]; rfl
theorem xy_139_62  : xm_run call xm_c139 nL mc ms ret Q (f + 1) (xm_drop 62 xm_c139) lv st G E kc ks = xm_call call mc ms 135 0 st G E kc ks (fun st G E kc ks => xm_run call xm_c139 nL mc ms ret Q f (xm_drop 63 xm_c139) lv st G E kc ks) := by
  rw [xz_139_62, show (Nat.beq 135 1006 || Nat.beq 135 1007) = false from rfl, cond_false]
theorem xy_139_63 {x : Int32} : xm_run call xm_c139 nL mc ms ret Q (f + 1) (xm_drop 63 xm_c139) lv (.int x :: st) G E kc ks = (bif decide (x.toInt = 0) then xm_run call xm_c139 nL mc ms ret Q f (xm_drop 66 xm_c139) lv st G E kc ks else xm_run call xm_c139 nL mc ms ret Q f (xm_drop 64 xm_c139) lv st G E kc ks) := by
  rw [xz_139_63]; show xm_cmpI E (.int x) (.int 0) _ = _; rw [xc_int, xk_eq]; rfl
theorem xy_139_65  : xm_run call xm_c139 nL mc ms ret Q (f + 1) (xm_drop 65 xm_c139) lv st G E kc ks = xm_run call xm_c139 nL mc ms ret Q f (xm_drop 67 xm_c139) lv st G E kc ks := by
  rfl
theorem xy_139_67 {x : Int32} : xm_run call xm_c139 nL 0 0 (some .int) Q (f + 1) (xm_drop 67 xm_c139) lv [.int x] G E 0 0 = Q (some (.int x)) G E := by
  rw [xz_139_67]; rfl
theorem xy_140_0 {j : Nat} (h : xm_get lv 0 = some (.ref j)) : xm_run call xm_c140 nL mc ms ret Q (f + 1) (xm_drop 0 xm_c140) lv st G E kc ks = xm_run call xm_c140 nL mc ms ret Q f (xm_drop 1 xm_c140) lv (.ref j :: st) G E kc ks := by
  rw [xz_140_0, h]; rfl
theorem xy_140_3 {j : Nat} (h : xm_get lv 0 = some (.ref j)) : xm_run call xm_c140 nL mc ms ret Q (f + 1) (xm_drop 3 xm_c140) lv st G E kc ks = xm_run call xm_c140 nL mc ms ret Q f (xm_drop 4 xm_c140) lv (.ref j :: st) G E kc ks := by
  rw [xz_140_3, h]; rfl
theorem xy_140_5 {x y : Int32} : xm_run call xm_c140 nL mc ms ret Q (f + 1) (xm_drop 5 xm_c140) lv (.int y :: .int x :: st) G E kc ks = xm_run call xm_c140 nL mc ms ret Q f (xm_drop 6 xm_c140) lv (.int (x * y) :: st) G E kc ks := by
  rw [xz_140_5, xk_mul]
theorem xy_140_6 {j : Nat} (h : xm_get lv 0 = some (.ref j)) : xm_run call xm_c140 nL mc ms ret Q (f + 1) (xm_drop 6 xm_c140) lv st G E kc ks = xm_run call xm_c140 nL mc ms ret Q f (xm_drop 7 xm_c140) lv (.ref j :: st) G E kc ks := by
  rw [xz_140_6, h]; rfl
theorem xy_140_8 {j : Nat} (h : xm_get lv 0 = some (.ref j)) : xm_run call xm_c140 nL mc ms ret Q (f + 1) (xm_drop 8 xm_c140) lv st G E kc ks = xm_run call xm_c140 nL mc ms ret Q f (xm_drop 9 xm_c140) lv (.ref j :: st) G E kc ks := by
  rw [xz_140_8, h]; rfl
theorem xy_140_11 {x y : Int32} : xm_run call xm_c140 nL mc ms ret Q (f + 1) (xm_drop 11 xm_c140) lv (.int y :: .int x :: st) G E kc ks = xm_run call xm_c140 nL mc ms ret Q f (xm_drop 12 xm_c140) lv (.int (x + y) :: st) G E kc ks := by
  rw [xz_140_11, xk_add]
theorem xy_140_12 {x : Int32} (h : xm_get lv 1 = some (.int x)) : xm_run call xm_c140 nL mc ms ret Q (f + 1) (xm_drop 12 xm_c140) lv st G E kc ks = xm_run call xm_c140 nL mc ms ret Q f (xm_drop 13 xm_c140) lv (.int x :: st) G E kc ks := by
  rw [xz_140_12, h]; rfl
theorem xy_140_14 {x : Int32} (h : xm_get lv 2 = some (.int x)) : xm_run call xm_c140 nL mc ms ret Q (f + 1) (xm_drop 14 xm_c140) lv st G E kc ks = xm_run call xm_c140 nL mc ms ret Q f (xm_drop 15 xm_c140) lv (.int x :: st) G E kc ks := by
  rw [xz_140_14, h]; rfl
theorem xy_140_15 {x y : Int32} : xm_run call xm_c140 nL mc ms ret Q (f + 1) (xm_drop 15 xm_c140) lv (.int y :: .int x :: st) G E kc ks = xm_run call xm_c140 nL mc ms ret Q f (xm_drop 16 xm_c140) lv (.int (x * y) :: st) G E kc ks := by
  rw [xz_140_15, xk_mul]
theorem xy_140_16 {x y : Int32} : xm_run call xm_c140 nL mc ms ret Q (f + 1) (xm_drop 16 xm_c140) lv (.int y :: .int x :: st) G E kc ks = xm_run call xm_c140 nL mc ms ret Q f (xm_drop 17 xm_c140) lv (.int (x + y) :: st) G E kc ks := by
  rw [xz_140_16, xk_add]
theorem xy_140_18 {j : Nat} (h : xm_get lv 0 = some (.ref j)) : xm_run call xm_c140 nL mc ms ret Q (f + 1) (xm_drop 18 xm_c140) lv st G E kc ks = xm_run call xm_c140 nL mc ms ret Q f (xm_drop 19 xm_c140) lv (.ref j :: st) G E kc ks := by
  rw [xz_140_18, h]; rfl
theorem xy_140_20 {j : Nat} (h : xm_get lv 0 = some (.ref j)) : xm_run call xm_c140 nL mc ms ret Q (f + 1) (xm_drop 20 xm_c140) lv st G E kc ks = xm_run call xm_c140 nL mc ms ret Q f (xm_drop 21 xm_c140) lv (.ref j :: st) G E kc ks := by
  rw [xz_140_20, h]; rfl
theorem xy_140_22 {x : Int32} {j : Nat} : xm_run call xm_c140 nL mc ms ret Q (f + 1) (xm_drop 22 xm_c140) lv (.int x :: .ref j :: st) G E kc ks = xm_run call xm_c140 nL mc ms ret Q f (xm_drop 23 xm_c140) lv (.int x :: .ref j :: .int x :: .ref j :: st) G E kc ks := by
  rfl
theorem xy_140_25 {x y : Int32} : xm_run call xm_c140 nL mc ms ret Q (f + 1) (xm_drop 25 xm_c140) lv (.int y :: .int x :: st) G E kc ks = xm_run call xm_c140 nL mc ms ret Q f (xm_drop 26 xm_c140) lv (.int (x + y) :: st) G E kc ks := by
  rw [xz_140_25, xk_add]
theorem xy_140_27 : xm_run call xm_c140 nL 0 0 none Q (f + 1) (xm_drop 27 xm_c140) lv [] G E 0 0 = Q none G E := by
  rw [xz_140_27]; rfl
theorem xy_141_0 {j : Nat} (h : xm_get lv 0 = some (.ref j)) : xm_run call xm_c141 nL mc ms ret Q (f + 1) (xm_drop 0 xm_c141) lv st G E kc ks = xm_run call xm_c141 nL mc ms ret Q f (xm_drop 1 xm_c141) lv (.ref j :: st) G E kc ks := by
  rw [xz_141_0, h]; rfl
theorem xy_141_3 {x y : Int32} : xm_run call xm_c141 nL mc ms ret Q (f + 1) (xm_drop 3 xm_c141) lv (.int y :: .int x :: st) G E kc ks = (bif !decide (x.toInt = y.toInt) then xm_run call xm_c141 nL mc ms ret Q f (xm_drop 9 xm_c141) lv st G E kc ks else xm_run call xm_c141 nL mc ms ret Q f (xm_drop 4 xm_c141) lv st G E kc ks) := by
  rw [xz_141_3]; show xm_cmpI E (.int x) (.int y) _ = _; rw [xc_int, xk_ne]
theorem xy_141_4 {j : Nat} (h : xm_get lv 0 = some (.ref j)) : xm_run call xm_c141 nL mc ms ret Q (f + 1) (xm_drop 4 xm_c141) lv st G E kc ks = xm_run call xm_c141 nL mc ms ret Q f (xm_drop 5 xm_c141) lv (.ref j :: st) G E kc ks := by
  rw [xz_141_4, h]; rfl
theorem xy_141_6 {x : Int32} (h : xm_get lv 1 = some (.int x)) : xm_run call xm_c141 nL mc ms ret Q (f + 1) (xm_drop 6 xm_c141) lv st G E kc ks = xm_run call xm_c141 nL mc ms ret Q f (xm_drop 7 xm_c141) lv (.int x :: st) G E kc ks := by
  rw [xz_141_6, h]; rfl
theorem xy_141_7  : xm_run call xm_c141 nL mc ms ret Q (f + 1) (xm_drop 7 xm_c141) lv st G E kc ks = xm_call call mc ms 131 0 st G E kc ks (fun st G E kc ks => xm_run call xm_c141 nL mc ms ret Q f (xm_drop 8 xm_c141) lv st G E kc ks) := by
  rw [xz_141_7, show (Nat.beq 131 1006 || Nat.beq 131 1007) = false from rfl, cond_false]
theorem xy_141_8_0 : xm_run call xm_c141 nL 0 0 (some .boolean) Q (f + 1) (xm_drop 8 xm_c141) lv [.int 0] G E 0 0 = Q (some (.int 0)) G E := by
  rw [xz_141_8]; rfl
theorem xy_141_8_1 : xm_run call xm_c141 nL 0 0 (some .boolean) Q (f + 1) (xm_drop 8 xm_c141) lv [.int 1] G E 0 0 = Q (some (.int 1)) G E := by
  rw [xz_141_8]; rfl
theorem xy_141_9 {j : Nat} (h : xm_get lv 0 = some (.ref j)) : xm_run call xm_c141 nL mc ms ret Q (f + 1) (xm_drop 9 xm_c141) lv st G E kc ks = xm_run call xm_c141 nL mc ms ret Q f (xm_drop 10 xm_c141) lv (.ref j :: st) G E kc ks := by
  rw [xz_141_9, h]; rfl
theorem xy_141_10 {j : Nat} : xm_run call xm_c141 nL mc ms ret Q (f + 1) (xm_drop 10 xm_c141) lv (.ref j :: st) G E kc ks = xm_run call xm_c141 nL mc ms ret Q f (xm_drop 11 xm_c141) lv (.ref j :: .ref j :: st) G E kc ks := by
  rfl
theorem xy_141_13 {x y : Int32} : xm_run call xm_c141 nL mc ms ret Q (f + 1) (xm_drop 13 xm_c141) lv (.int y :: .int x :: st) G E kc ks = xm_run call xm_c141 nL mc ms ret Q f (xm_drop 14 xm_c141) lv (.int (x + y) :: st) G E kc ks := by
  rw [xz_141_13, xk_add]
theorem xy_141_16_0 : xm_run call xm_c141 nL 0 0 (some .boolean) Q (f + 1) (xm_drop 16 xm_c141) lv [.int 0] G E 0 0 = Q (some (.int 0)) G E := by
  rw [xz_141_16]; rfl
theorem xy_141_16_1 : xm_run call xm_c141 nL 0 0 (some .boolean) Q (f + 1) (xm_drop 16 xm_c141) lv [.int 1] G E 0 0 = Q (some (.int 1)) G E := by
  rw [xz_141_16]; rfl
theorem xy_142_0 {j : Nat} (h : xm_get lv 0 = some (.ref j)) : xm_run call xm_c142 nL mc ms ret Q (f + 1) (xm_drop 0 xm_c142) lv st G E kc ks = xm_run call xm_c142 nL mc ms ret Q f (xm_drop 1 xm_c142) lv (.ref j :: st) G E kc ks := by
  rw [xz_142_0, h]; rfl
theorem xy_142_3 {x y : Int32} : xm_run call xm_c142 nL mc ms ret Q (f + 1) (xm_drop 3 xm_c142) lv (.int y :: .int x :: st) G E kc ks = (bif !decide (x.toInt = y.toInt) then xm_run call xm_c142 nL mc ms ret Q f (xm_drop 10 xm_c142) lv st G E kc ks else xm_run call xm_c142 nL mc ms ret Q f (xm_drop 4 xm_c142) lv st G E kc ks) := by
  rw [xz_142_3]; show xm_cmpI E (.int x) (.int y) _ = _; rw [xc_int, xk_ne]
theorem xy_142_4 {j : Nat} (h : xm_get lv 0 = some (.ref j)) : xm_run call xm_c142 nL mc ms ret Q (f + 1) (xm_drop 4 xm_c142) lv st G E kc ks = xm_run call xm_c142 nL mc ms ret Q f (xm_drop 5 xm_c142) lv (.ref j :: st) G E kc ks := by
  rw [xz_142_4, h]; rfl
theorem xy_142_6 {j : Nat} (h : xm_get lv 0 = some (.ref j)) : xm_run call xm_c142 nL mc ms ret Q (f + 1) (xm_drop 6 xm_c142) lv st G E kc ks = xm_run call xm_c142 nL mc ms ret Q f (xm_drop 7 xm_c142) lv (.ref j :: st) G E kc ks := by
  rw [xz_142_6, h]; rfl
theorem xy_142_8  : xm_run call xm_c142 nL mc ms ret Q (f + 1) (xm_drop 8 xm_c142) lv st G E kc ks = xm_call call mc ms 131 0 st G E kc ks (fun st G E kc ks => xm_run call xm_c142 nL mc ms ret Q f (xm_drop 9 xm_c142) lv st G E kc ks) := by
  rw [xz_142_8, show (Nat.beq 131 1006 || Nat.beq 131 1007) = false from rfl, cond_false]
theorem xy_142_9_0 : xm_run call xm_c142 nL 0 0 (some .boolean) Q (f + 1) (xm_drop 9 xm_c142) lv [.int 0] G E 0 0 = Q (some (.int 0)) G E := by
  rw [xz_142_9]; rfl
theorem xy_142_9_1 : xm_run call xm_c142 nL 0 0 (some .boolean) Q (f + 1) (xm_drop 9 xm_c142) lv [.int 1] G E 0 0 = Q (some (.int 1)) G E := by
  rw [xz_142_9]; rfl
theorem xy_142_10 {j : Nat} (h : xm_get lv 0 = some (.ref j)) : xm_run call xm_c142 nL mc ms ret Q (f + 1) (xm_drop 10 xm_c142) lv st G E kc ks = xm_run call xm_c142 nL mc ms ret Q f (xm_drop 11 xm_c142) lv (.ref j :: st) G E kc ks := by
  rw [xz_142_10, h]; rfl
theorem xy_142_11 {j : Nat} : xm_run call xm_c142 nL mc ms ret Q (f + 1) (xm_drop 11 xm_c142) lv (.ref j :: st) G E kc ks = xm_run call xm_c142 nL mc ms ret Q f (xm_drop 12 xm_c142) lv (.ref j :: .ref j :: st) G E kc ks := by
  rfl
theorem xy_142_14 {x y : Int32} : xm_run call xm_c142 nL mc ms ret Q (f + 1) (xm_drop 14 xm_c142) lv (.int y :: .int x :: st) G E kc ks = xm_run call xm_c142 nL mc ms ret Q f (xm_drop 15 xm_c142) lv (.int (x + y) :: st) G E kc ks := by
  rw [xz_142_14, xk_add]
theorem xy_142_16 {j : Nat} (h : xm_get lv 0 = some (.ref j)) : xm_run call xm_c142 nL mc ms ret Q (f + 1) (xm_drop 16 xm_c142) lv st G E kc ks = xm_run call xm_c142 nL mc ms ret Q f (xm_drop 17 xm_c142) lv (.ref j :: st) G E kc ks := by
  rw [xz_142_16, h]; rfl
theorem xy_142_18 {j : Nat} (h : xm_get lv 0 = some (.ref j)) : xm_run call xm_c142 nL mc ms ret Q (f + 1) (xm_drop 18 xm_c142) lv st G E kc ks = xm_run call xm_c142 nL mc ms ret Q f (xm_drop 19 xm_c142) lv (.ref j :: st) G E kc ks := by
  rw [xz_142_18, h]; rfl
theorem xy_142_20 {x : Int32} (h : xm_get lv 1 = some (.int x)) : xm_run call xm_c142 nL mc ms ret Q (f + 1) (xm_drop 20 xm_c142) lv st G E kc ks = xm_run call xm_c142 nL mc ms ret Q f (xm_drop 21 xm_c142) lv (.int x :: st) G E kc ks := by
  rw [xz_142_20, h]; rfl
theorem xy_142_22 {j : Nat} (h : xm_get lv 0 = some (.ref j)) : xm_run call xm_c142 nL mc ms ret Q (f + 1) (xm_drop 22 xm_c142) lv st G E kc ks = xm_run call xm_c142 nL mc ms ret Q f (xm_drop 23 xm_c142) lv (.ref j :: st) G E kc ks := by
  rw [xz_142_22, h]; rfl
theorem xy_142_23 {j : Nat} : xm_run call xm_c142 nL mc ms ret Q (f + 1) (xm_drop 23 xm_c142) lv (.ref j :: st) G E kc ks = xm_run call xm_c142 nL mc ms ret Q f (xm_drop 24 xm_c142) lv (.ref j :: .ref j :: st) G E kc ks := by
  rfl
theorem xy_142_26 {x y : Int32} : xm_run call xm_c142 nL mc ms ret Q (f + 1) (xm_drop 26 xm_c142) lv (.int y :: .int x :: st) G E kc ks = xm_run call xm_c142 nL mc ms ret Q f (xm_drop 27 xm_c142) lv (.int (x + y) :: st) G E kc ks := by
  rw [xz_142_26, xk_add]
theorem xy_142_29_0 : xm_run call xm_c142 nL 0 0 (some .boolean) Q (f + 1) (xm_drop 29 xm_c142) lv [.int 0] G E 0 0 = Q (some (.int 0)) G E := by
  rw [xz_142_29]; rfl
theorem xy_142_29_1 : xm_run call xm_c142 nL 0 0 (some .boolean) Q (f + 1) (xm_drop 29 xm_c142) lv [.int 1] G E 0 0 = Q (some (.int 1)) G E := by
  rw [xz_142_29]; rfl
theorem xy_143_0 {x : Int32} (h : xm_get lv 0 = some (.int x)) : xm_run call xm_c143 nL mc ms ret Q (f + 1) (xm_drop 0 xm_c143) lv st G E kc ks = xm_run call xm_c143 nL mc ms ret Q f (xm_drop 1 xm_c143) lv (.int x :: st) G E kc ks := by
  rw [xz_143_0, h]; rfl
theorem xy_143_2 {x y : Int32} : xm_run call xm_c143 nL mc ms ret Q (f + 1) (xm_drop 2 xm_c143) lv (.int y :: .int x :: st) G E kc ks = (bif !decide (x.toInt = y.toInt) then xm_run call xm_c143 nL mc ms ret Q f (xm_drop 5 xm_c143) lv st G E kc ks else xm_run call xm_c143 nL mc ms ret Q f (xm_drop 3 xm_c143) lv st G E kc ks) := by
  rw [xz_143_2]; show xm_cmpI E (.int x) (.int y) _ = _; rw [xc_int, xk_ne]
theorem xy_143_4  : xm_run call xm_c143 nL mc ms ret Q (f + 1) (xm_drop 4 xm_c143) lv st G E kc ks = xm_run call xm_c143 nL mc ms ret Q f (xm_drop 16 xm_c143) lv st G E kc ks := by
  rfl
theorem xy_143_5 {x : Int32} (h : xm_get lv 0 = some (.int x)) : xm_run call xm_c143 nL mc ms ret Q (f + 1) (xm_drop 5 xm_c143) lv st G E kc ks = xm_run call xm_c143 nL mc ms ret Q f (xm_drop 6 xm_c143) lv (.int x :: st) G E kc ks := by
  rw [xz_143_5, h]; rfl
theorem xy_143_7 {x y : Int32} : xm_run call xm_c143 nL mc ms ret Q (f + 1) (xm_drop 7 xm_c143) lv (.int y :: .int x :: st) G E kc ks = (bif !decide (x.toInt = y.toInt) then xm_run call xm_c143 nL mc ms ret Q f (xm_drop 10 xm_c143) lv st G E kc ks else xm_run call xm_c143 nL mc ms ret Q f (xm_drop 8 xm_c143) lv st G E kc ks) := by
  rw [xz_143_7]; show xm_cmpI E (.int x) (.int y) _ = _; rw [xc_int, xk_ne]
theorem xy_143_9  : xm_run call xm_c143 nL mc ms ret Q (f + 1) (xm_drop 9 xm_c143) lv st G E kc ks = xm_run call xm_c143 nL mc ms ret Q f (xm_drop 16 xm_c143) lv st G E kc ks := by
  rfl
theorem xy_143_10 {x : Int32} (h : xm_get lv 0 = some (.int x)) : xm_run call xm_c143 nL mc ms ret Q (f + 1) (xm_drop 10 xm_c143) lv st G E kc ks = xm_run call xm_c143 nL mc ms ret Q f (xm_drop 11 xm_c143) lv (.int x :: st) G E kc ks := by
  rw [xz_143_10, h]; rfl
theorem xy_143_12 {x y : Int32} : xm_run call xm_c143 nL mc ms ret Q (f + 1) (xm_drop 12 xm_c143) lv (.int y :: .int x :: st) G E kc ks = (bif !decide (x.toInt = y.toInt) then xm_run call xm_c143 nL mc ms ret Q f (xm_drop 15 xm_c143) lv st G E kc ks else xm_run call xm_c143 nL mc ms ret Q f (xm_drop 13 xm_c143) lv st G E kc ks) := by
  rw [xz_143_12]; show xm_cmpI E (.int x) (.int y) _ = _; rw [xc_int, xk_ne]
theorem xy_143_14  : xm_run call xm_c143 nL mc ms ret Q (f + 1) (xm_drop 14 xm_c143) lv st G E kc ks = xm_run call xm_c143 nL mc ms ret Q f (xm_drop 16 xm_c143) lv st G E kc ks := by
  rfl
theorem xy_143_16 {x : Int32} : xm_run call xm_c143 nL 0 0 (some .int) Q (f + 1) (xm_drop 16 xm_c143) lv [.int x] G E 0 0 = Q (some (.int x)) G E := by
  rw [xz_143_16]; rfl
theorem xy_144_0 {j : Nat} (h : xm_get lv 0 = some (.ref j)) : xm_run call xm_c144 nL mc ms ret Q (f + 1) (xm_drop 0 xm_c144) lv st G E kc ks = xm_run call xm_c144 nL mc ms ret Q f (xm_drop 1 xm_c144) lv (.ref j :: st) G E kc ks := by
  rw [xz_144_0, h]; rfl
theorem xy_144_2 {x : Int32} : xm_run call xm_c144 nL mc ms ret Q (f + 1) (xm_drop 2 xm_c144) lv (.int x :: st) G E kc ks = (bif !decide (0 < x.toInt) then xm_run call xm_c144 nL mc ms ret Q f (xm_drop 41 xm_c144) lv st G E kc ks else xm_run call xm_c144 nL mc ms ret Q f (xm_drop 3 xm_c144) lv st G E kc ks) := by
  rw [xz_144_2]; show xm_cmpI E (.int x) (.int 0) _ = _; rw [xc_int, xk_le]; rfl
theorem xy_144_3 {j : Nat} (h : xm_get lv 0 = some (.ref j)) : xm_run call xm_c144 nL mc ms ret Q (f + 1) (xm_drop 3 xm_c144) lv st G E kc ks = xm_run call xm_c144 nL mc ms ret Q f (xm_drop 4 xm_c144) lv (.ref j :: st) G E kc ks := by
  rw [xz_144_3, h]; rfl
theorem xy_144_5 {j : Nat} (h : xm_get lv 0 = some (.ref j)) : xm_run call xm_c144 nL mc ms ret Q (f + 1) (xm_drop 5 xm_c144) lv st G E kc ks = xm_run call xm_c144 nL mc ms ret Q f (xm_drop 6 xm_c144) lv (.ref j :: st) G E kc ks := by
  rw [xz_144_5, h]; rfl
theorem xy_144_8 {x y : Int32} : xm_run call xm_c144 nL mc ms ret Q (f + 1) (xm_drop 8 xm_c144) lv (.int y :: .int x :: st) G E kc ks = xm_run call xm_c144 nL mc ms ret Q f (xm_drop 9 xm_c144) lv (.int (x - y) :: st) G E kc ks := by
  rw [xz_144_8, xk_sub]
theorem xy_144_10  : xm_run call xm_c144 nL mc ms ret Q (f + 1) (xm_drop 10 xm_c144) lv st G E kc ks = xm_call call mc ms 143 1 st G E kc ks (fun st G E kc ks => xm_run call xm_c144 nL mc ms ret Q f (xm_drop 11 xm_c144) lv st G E kc ks) := by
  rw [xz_144_10, show Nat.beq 143 1001 = false from rfl, show (Nat.beq 143 1003 || (Nat.beq 143 1004 || Nat.beq 143 1005)) = false from rfl, show Nat.beq 1 3 = false from rfl, cond_false, cond_false, cond_false]
theorem xy_144_11 {x : Int32} (h : xm_get lv 1 = some (.int x)) : xm_run call xm_c144 nL mc ms ret Q (f + 1) (xm_drop 11 xm_c144) lv st G E kc ks = xm_run call xm_c144 nL mc ms ret Q f (xm_drop 12 xm_c144) lv (.int x :: st) G E kc ks := by
  rw [xz_144_11, h]; rfl
theorem xy_144_12 {x y : Int32} : xm_run call xm_c144 nL mc ms ret Q (f + 1) (xm_drop 12 xm_c144) lv (.int y :: .int x :: st) G E kc ks = (bif decide (x.toInt < y.toInt) then xm_run call xm_c144 nL mc ms ret Q f (xm_drop 41 xm_c144) lv st G E kc ks else xm_run call xm_c144 nL mc ms ret Q f (xm_drop 13 xm_c144) lv st G E kc ks) := by
  rw [xz_144_12]; show xm_cmpI E (.int x) (.int y) _ = _; rw [xc_int, xk_lt]
theorem xy_144_13 {j : Nat} (h : xm_get lv 0 = some (.ref j)) : xm_run call xm_c144 nL mc ms ret Q (f + 1) (xm_drop 13 xm_c144) lv st G E kc ks = xm_run call xm_c144 nL mc ms ret Q f (xm_drop 14 xm_c144) lv (.ref j :: st) G E kc ks := by
  rw [xz_144_13, h]; rfl
theorem xy_144_14 {j : Nat} : xm_run call xm_c144 nL mc ms ret Q (f + 1) (xm_drop 14 xm_c144) lv (.ref j :: st) G E kc ks = xm_run call xm_c144 nL mc ms ret Q f (xm_drop 15 xm_c144) lv (.ref j :: .ref j :: st) G E kc ks := by
  rfl
theorem xy_144_17 {x y : Int32} : xm_run call xm_c144 nL mc ms ret Q (f + 1) (xm_drop 17 xm_c144) lv (.int y :: .int x :: st) G E kc ks = xm_run call xm_c144 nL mc ms ret Q f (xm_drop 18 xm_c144) lv (.int (x - y) :: st) G E kc ks := by
  rw [xz_144_17, xk_sub]
theorem xy_144_19 {j : Nat} (h : xm_get lv 0 = some (.ref j)) : xm_run call xm_c144 nL mc ms ret Q (f + 1) (xm_drop 19 xm_c144) lv st G E kc ks = xm_run call xm_c144 nL mc ms ret Q f (xm_drop 20 xm_c144) lv (.ref j :: st) G E kc ks := by
  rw [xz_144_19, h]; rfl
theorem xy_144_20 {j : Nat} (h : xm_get lv 0 = some (.ref j)) : xm_run call xm_c144 nL mc ms ret Q (f + 1) (xm_drop 20 xm_c144) lv st G E kc ks = xm_run call xm_c144 nL mc ms ret Q f (xm_drop 21 xm_c144) lv (.ref j :: st) G E kc ks := by
  rw [xz_144_20, h]; rfl
theorem xy_144_22 {j : Nat} (h : xm_get lv 0 = some (.ref j)) : xm_run call xm_c144 nL mc ms ret Q (f + 1) (xm_drop 22 xm_c144) lv st G E kc ks = xm_run call xm_c144 nL mc ms ret Q f (xm_drop 23 xm_c144) lv (.ref j :: st) G E kc ks := by
  rw [xz_144_22, h]; rfl
theorem xy_144_26  : xm_run call xm_c144 nL mc ms ret Q (f + 1) (xm_drop 26 xm_c144) lv st G E kc ks = xm_call call mc ms 140 0 st G E kc ks (fun st G E kc ks => xm_run call xm_c144 nL mc ms ret Q f (xm_drop 27 xm_c144) lv st G E kc ks) := by
  rw [xz_144_26, show (Nat.beq 140 1006 || Nat.beq 140 1007) = false from rfl, cond_false]
theorem xy_144_27 {j : Nat} (h : xm_get lv 0 = some (.ref j)) : xm_run call xm_c144 nL mc ms ret Q (f + 1) (xm_drop 27 xm_c144) lv st G E kc ks = xm_run call xm_c144 nL mc ms ret Q f (xm_drop 28 xm_c144) lv (.ref j :: st) G E kc ks := by
  rw [xz_144_27, h]; rfl
theorem xy_144_29 {j : Nat} (h : xm_get lv 0 = some (.ref j)) : xm_run call xm_c144 nL mc ms ret Q (f + 1) (xm_drop 29 xm_c144) lv st G E kc ks = xm_run call xm_c144 nL mc ms ret Q f (xm_drop 30 xm_c144) lv (.ref j :: st) G E kc ks := by
  rw [xz_144_29, h]; rfl
theorem xy_144_33 {x y : Int32} : xm_run call xm_c144 nL mc ms ret Q (f + 1) (xm_drop 33 xm_c144) lv (.int y :: .int x :: st) G E kc ks = (bif !decide (x.toInt = y.toInt) then xm_run call xm_c144 nL mc ms ret Q f (xm_drop 0 xm_c144) lv st G E kc ks else xm_run call xm_c144 nL mc ms ret Q f (xm_drop 34 xm_c144) lv st G E kc ks) := by
  rw [xz_144_33]; show xm_cmpI E (.int x) (.int y) _ = _; rw [xc_int, xk_ne]
theorem xy_144_34 {j : Nat} (h : xm_get lv 0 = some (.ref j)) : xm_run call xm_c144 nL mc ms ret Q (f + 1) (xm_drop 34 xm_c144) lv st G E kc ks = xm_run call xm_c144 nL mc ms ret Q f (xm_drop 35 xm_c144) lv (.ref j :: st) G E kc ks := by
  rw [xz_144_34, h]; rfl
theorem xy_144_35 {j : Nat} : xm_run call xm_c144 nL mc ms ret Q (f + 1) (xm_drop 35 xm_c144) lv (.ref j :: st) G E kc ks = xm_run call xm_c144 nL mc ms ret Q f (xm_drop 36 xm_c144) lv (.ref j :: .ref j :: st) G E kc ks := by
  rfl
theorem xy_144_38 {x y : Int32} : xm_run call xm_c144 nL mc ms ret Q (f + 1) (xm_drop 38 xm_c144) lv (.int y :: .int x :: st) G E kc ks = xm_run call xm_c144 nL mc ms ret Q f (xm_drop 39 xm_c144) lv (.int (x - y) :: st) G E kc ks := by
  rw [xz_144_38, xk_sub]
theorem xy_144_40  : xm_run call xm_c144 nL mc ms ret Q (f + 1) (xm_drop 40 xm_c144) lv st G E kc ks = xm_run call xm_c144 nL mc ms ret Q f (xm_drop 0 xm_c144) lv st G E kc ks := by
  rfl
theorem xy_144_41 : xm_run call xm_c144 nL 0 0 none Q (f + 1) (xm_drop 41 xm_c144) lv [] G E 0 0 = Q none G E := by
  rw [xz_144_41]; rfl
theorem xy_145_0 {j : Nat} (h : xm_get lv 0 = some (.ref j)) : xm_run call xm_c145 nL mc ms ret Q (f + 1) (xm_drop 0 xm_c145) lv st G E kc ks = xm_run call xm_c145 nL mc ms ret Q f (xm_drop 1 xm_c145) lv (.ref j :: st) G E kc ks := by
  rw [xz_145_0, h]; rfl
theorem xy_145_1  : xm_run call xm_c145 nL mc ms ret Q (f + 1) (xm_drop 1 xm_c145) lv st G E kc ks = xm_call call mc ms 132 0 st G E kc ks (fun st G E kc ks => xm_run call xm_c145 nL mc ms ret Q f (xm_drop 2 xm_c145) lv st G E kc ks) := by
  rw [xz_145_1, show (Nat.beq 132 1006 || Nat.beq 132 1007) = false from rfl, cond_false]
theorem xy_145_2 {x : Int32} : xm_run call xm_c145 nL mc ms ret Q (f + 1) (xm_drop 2 xm_c145) lv (.int x :: st) G E kc ks = xm_run call xm_c145 nL mc ms ret Q f (xm_drop 3 xm_c145) lv st G E kc ks := by
  rfl
theorem xy_145_3 {j : Nat} (h : xm_get lv 0 = some (.ref j)) : xm_run call xm_c145 nL mc ms ret Q (f + 1) (xm_drop 3 xm_c145) lv st G E kc ks = xm_run call xm_c145 nL mc ms ret Q f (xm_drop 4 xm_c145) lv (.ref j :: st) G E kc ks := by
  rw [xz_145_3, h]; rfl
theorem xy_145_5 {x : Int32} : xm_run call xm_c145 3 mc ms ret Q (f + 1) (xm_drop 5 xm_c145) lv (.int x :: st) G E kc ks = xm_run call xm_c145 3 mc ms ret Q f (xm_drop 6 xm_c145) (xm_set1 lv 1 (.int x)) st G E kc ks := by
  rfl
theorem xy_145_6 {j : Nat} (h : xm_get lv 0 = some (.ref j)) : xm_run call xm_c145 nL mc ms ret Q (f + 1) (xm_drop 6 xm_c145) lv st G E kc ks = xm_run call xm_c145 nL mc ms ret Q f (xm_drop 7 xm_c145) lv (.ref j :: st) G E kc ks := by
  rw [xz_145_6, h]; rfl
theorem xy_145_7 {j : Nat} (h : xm_get lv 0 = some (.ref j)) : xm_run call xm_c145 nL mc ms ret Q (f + 1) (xm_drop 7 xm_c145) lv st G E kc ks = xm_run call xm_c145 nL mc ms ret Q f (xm_drop 8 xm_c145) lv (.ref j :: st) G E kc ks := by
  rw [xz_145_7, h]; rfl
theorem xy_145_9  : xm_run call xm_c145 nL mc ms ret Q (f + 1) (xm_drop 9 xm_c145) lv st G E kc ks = xm_call call mc ms 133 0 st G E kc ks (fun st G E kc ks => xm_run call xm_c145 nL mc ms ret Q f (xm_drop 10 xm_c145) lv st G E kc ks) := by
  rw [xz_145_9, show (Nat.beq 133 1006 || Nat.beq 133 1007) = false from rfl, cond_false]
theorem xy_145_10 {x : Int32} : xm_run call xm_c145 nL mc ms ret Q (f + 1) (xm_drop 10 xm_c145) lv (.int x :: st) G E kc ks = (bif decide (x.toInt = 0) then xm_run call xm_c145 nL mc ms ret Q f (xm_drop 29 xm_c145) lv st G E kc ks else xm_run call xm_c145 nL mc ms ret Q f (xm_drop 11 xm_c145) lv st G E kc ks) := by
  rw [xz_145_10]; show xm_cmpI E (.int x) (.int 0) _ = _; rw [xc_int, xk_eq]; rfl
theorem xy_145_11 {j : Nat} (h : xm_get lv 0 = some (.ref j)) : xm_run call xm_c145 nL mc ms ret Q (f + 1) (xm_drop 11 xm_c145) lv st G E kc ks = xm_run call xm_c145 nL mc ms ret Q f (xm_drop 12 xm_c145) lv (.ref j :: st) G E kc ks := by
  rw [xz_145_11, h]; rfl
theorem xy_145_14  : xm_run call xm_c145 nL mc ms ret Q (f + 1) (xm_drop 14 xm_c145) lv st G E kc ks = xm_call call mc ms 138 0 st G E kc ks (fun st G E kc ks => xm_run call xm_c145 nL mc ms ret Q f (xm_drop 15 xm_c145) lv st G E kc ks) := by
  rw [xz_145_14, show (Nat.beq 138 1006 || Nat.beq 138 1007) = false from rfl, cond_false]
theorem xy_145_15 {x : Int32} : xm_run call xm_c145 nL mc ms ret Q (f + 1) (xm_drop 15 xm_c145) lv (.int x :: st) G E kc ks = (bif decide (x.toInt = 0) then xm_run call xm_c145 nL mc ms ret Q f (xm_drop 20 xm_c145) lv st G E kc ks else xm_run call xm_c145 nL mc ms ret Q f (xm_drop 16 xm_c145) lv st G E kc ks) := by
  rw [xz_145_15]; show xm_cmpI E (.int x) (.int 0) _ = _; rw [xc_int, xk_eq]; rfl
theorem xy_145_16 {j : Nat} (h : xm_get lv 0 = some (.ref j)) : xm_run call xm_c145 nL mc ms ret Q (f + 1) (xm_drop 16 xm_c145) lv st G E kc ks = xm_run call xm_c145 nL mc ms ret Q f (xm_drop 17 xm_c145) lv (.ref j :: st) G E kc ks := by
  rw [xz_145_16, h]; rfl
theorem xy_145_17 {x : Int32} (h : xm_get lv 1 = some (.int x)) : xm_run call xm_c145 nL mc ms ret Q (f + 1) (xm_drop 17 xm_c145) lv st G E kc ks = xm_run call xm_c145 nL mc ms ret Q f (xm_drop 18 xm_c145) lv (.int x :: st) G E kc ks := by
  rw [xz_145_17, h]; rfl
theorem xy_145_18  : xm_run call xm_c145 nL mc ms ret Q (f + 1) (xm_drop 18 xm_c145) lv st G E kc ks = xm_call call mc ms 141 0 st G E kc ks (fun st G E kc ks => xm_run call xm_c145 nL mc ms ret Q f (xm_drop 19 xm_c145) lv st G E kc ks) := by
  rw [xz_145_18, show (Nat.beq 141 1006 || Nat.beq 141 1007) = false from rfl, cond_false]
theorem xy_145_19 {x : Int32} : xm_run call xm_c145 nL mc ms ret Q (f + 1) (xm_drop 19 xm_c145) lv (.int x :: st) G E kc ks = (bif !decide (x.toInt = 0) then xm_run call xm_c145 nL mc ms ret Q f (xm_drop 22 xm_c145) lv st G E kc ks else xm_run call xm_c145 nL mc ms ret Q f (xm_drop 20 xm_c145) lv st G E kc ks) := by
  rw [xz_145_19]; show xm_cmpI E (.int x) (.int 0) _ = _; rw [xc_int, xk_ne]; rfl
theorem xy_145_21_0 : xm_run call xm_c145 nL 0 0 (some .boolean) Q (f + 1) (xm_drop 21 xm_c145) lv [.int 0] G E 0 0 = Q (some (.int 0)) G E := by
  rw [xz_145_21]; rfl
theorem xy_145_21_1 : xm_run call xm_c145 nL 0 0 (some .boolean) Q (f + 1) (xm_drop 21 xm_c145) lv [.int 1] G E 0 0 = Q (some (.int 1)) G E := by
  rw [xz_145_21]; rfl
theorem xy_145_22 {j : Nat} (h : xm_get lv 0 = some (.ref j)) : xm_run call xm_c145 nL mc ms ret Q (f + 1) (xm_drop 22 xm_c145) lv st G E kc ks = xm_run call xm_c145 nL mc ms ret Q f (xm_drop 23 xm_c145) lv (.ref j :: st) G E kc ks := by
  rw [xz_145_22, h]; rfl
theorem xy_145_24 {j : Nat} (h : xm_get lv 0 = some (.ref j)) : xm_run call xm_c145 nL mc ms ret Q (f + 1) (xm_drop 24 xm_c145) lv st G E kc ks = xm_run call xm_c145 nL mc ms ret Q f (xm_drop 25 xm_c145) lv (.ref j :: st) G E kc ks := by
  rw [xz_145_24, h]; rfl
theorem xy_145_26  : xm_run call xm_c145 nL mc ms ret Q (f + 1) (xm_drop 26 xm_c145) lv st G E kc ks = xm_call call mc ms 140 0 st G E kc ks (fun st G E kc ks => xm_run call xm_c145 nL mc ms ret Q f (xm_drop 27 xm_c145) lv st G E kc ks) := by
  rw [xz_145_26, show (Nat.beq 140 1006 || Nat.beq 140 1007) = false from rfl, cond_false]
theorem xy_145_28_0 : xm_run call xm_c145 nL 0 0 (some .boolean) Q (f + 1) (xm_drop 28 xm_c145) lv [.int 0] G E 0 0 = Q (some (.int 0)) G E := by
  rw [xz_145_28]; rfl
theorem xy_145_28_1 : xm_run call xm_c145 nL 0 0 (some .boolean) Q (f + 1) (xm_drop 28 xm_c145) lv [.int 1] G E 0 0 = Q (some (.int 1)) G E := by
  rw [xz_145_28]; rfl
theorem xy_145_29 {j : Nat} (h : xm_get lv 0 = some (.ref j)) : xm_run call xm_c145 nL mc ms ret Q (f + 1) (xm_drop 29 xm_c145) lv st G E kc ks = xm_run call xm_c145 nL mc ms ret Q f (xm_drop 30 xm_c145) lv (.ref j :: st) G E kc ks := by
  rw [xz_145_29, h]; rfl
theorem xy_145_30  : xm_run call xm_c145 nL mc ms ret Q (f + 1) (xm_drop 30 xm_c145) lv st G E kc ks = xm_call call mc ms 139 0 st G E kc ks (fun st G E kc ks => xm_run call xm_c145 nL mc ms ret Q f (xm_drop 31 xm_c145) lv st G E kc ks) := by
  rw [xz_145_30, show (Nat.beq 139 1006 || Nat.beq 139 1007) = false from rfl, cond_false]
theorem xy_145_31 {x : Int32} : xm_run call xm_c145 3 mc ms ret Q (f + 1) (xm_drop 31 xm_c145) lv (.int x :: st) G E kc ks = xm_run call xm_c145 3 mc ms ret Q f (xm_drop 32 xm_c145) (xm_set1 lv 2 (.int x)) st G E kc ks := by
  rfl
theorem xy_145_32 {x : Int32} (h : xm_get lv 2 = some (.int x)) : xm_run call xm_c145 nL mc ms ret Q (f + 1) (xm_drop 32 xm_c145) lv st G E kc ks = xm_run call xm_c145 nL mc ms ret Q f (xm_drop 33 xm_c145) lv (.int x :: st) G E kc ks := by
  rw [xz_145_32, h]; rfl
theorem xy_145_33 {x : Int32} : xm_run call xm_c145 nL mc ms ret Q (f + 1) (xm_drop 33 xm_c145) lv (.int x :: st) G E kc ks = (bif !decide (x.toInt < 0) then xm_run call xm_c145 nL mc ms ret Q f (xm_drop 39 xm_c145) lv st G E kc ks else xm_run call xm_c145 nL mc ms ret Q f (xm_drop 34 xm_c145) lv st G E kc ks) := by
  rw [xz_145_33]; show xm_cmpI E (.int x) (.int 0) _ = _; rw [xc_int, xk_ge]; rfl
theorem xy_145_34 {j : Nat} (h : xm_get lv 0 = some (.ref j)) : xm_run call xm_c145 nL mc ms ret Q (f + 1) (xm_drop 34 xm_c145) lv st G E kc ks = xm_run call xm_c145 nL mc ms ret Q f (xm_drop 35 xm_c145) lv (.ref j :: st) G E kc ks := by
  rw [xz_145_34, h]; rfl
theorem xy_145_36 {x : Int32} (h : xm_get lv 1 = some (.int x)) : xm_run call xm_c145 nL mc ms ret Q (f + 1) (xm_drop 36 xm_c145) lv st G E kc ks = xm_run call xm_c145 nL mc ms ret Q f (xm_drop 37 xm_c145) lv (.int x :: st) G E kc ks := by
  rw [xz_145_36, h]; rfl
theorem xy_145_37  : xm_run call xm_c145 nL mc ms ret Q (f + 1) (xm_drop 37 xm_c145) lv st G E kc ks = xm_call call mc ms 131 0 st G E kc ks (fun st G E kc ks => xm_run call xm_c145 nL mc ms ret Q f (xm_drop 38 xm_c145) lv st G E kc ks) := by
  rw [xz_145_37, show (Nat.beq 131 1006 || Nat.beq 131 1007) = false from rfl, cond_false]
theorem xy_145_38_0 : xm_run call xm_c145 nL 0 0 (some .boolean) Q (f + 1) (xm_drop 38 xm_c145) lv [.int 0] G E 0 0 = Q (some (.int 0)) G E := by
  rw [xz_145_38]; rfl
theorem xy_145_38_1 : xm_run call xm_c145 nL 0 0 (some .boolean) Q (f + 1) (xm_drop 38 xm_c145) lv [.int 1] G E 0 0 = Q (some (.int 1)) G E := by
  rw [xz_145_38]; rfl
theorem xy_145_39 {j : Nat} (h : xm_get lv 0 = some (.ref j)) : xm_run call xm_c145 nL mc ms ret Q (f + 1) (xm_drop 39 xm_c145) lv st G E kc ks = xm_run call xm_c145 nL mc ms ret Q f (xm_drop 40 xm_c145) lv (.ref j :: st) G E kc ks := by
  rw [xz_145_39, h]; rfl
theorem xy_145_40 {x : Int32} (h : xm_get lv 1 = some (.int x)) : xm_run call xm_c145 nL mc ms ret Q (f + 1) (xm_drop 40 xm_c145) lv st G E kc ks = xm_run call xm_c145 nL mc ms ret Q f (xm_drop 41 xm_c145) lv (.int x :: st) G E kc ks := by
  rw [xz_145_40, h]; rfl
theorem xy_145_41  : xm_run call xm_c145 nL mc ms ret Q (f + 1) (xm_drop 41 xm_c145) lv st G E kc ks = xm_call call mc ms 141 0 st G E kc ks (fun st G E kc ks => xm_run call xm_c145 nL mc ms ret Q f (xm_drop 42 xm_c145) lv st G E kc ks) := by
  rw [xz_145_41, show (Nat.beq 141 1006 || Nat.beq 141 1007) = false from rfl, cond_false]
theorem xy_145_42 {x : Int32} : xm_run call xm_c145 nL mc ms ret Q (f + 1) (xm_drop 42 xm_c145) lv (.int x :: st) G E kc ks = (bif !decide (x.toInt = 0) then xm_run call xm_c145 nL mc ms ret Q f (xm_drop 45 xm_c145) lv st G E kc ks else xm_run call xm_c145 nL mc ms ret Q f (xm_drop 43 xm_c145) lv st G E kc ks) := by
  rw [xz_145_42]; show xm_cmpI E (.int x) (.int 0) _ = _; rw [xc_int, xk_ne]; rfl
theorem xy_145_44_0 : xm_run call xm_c145 nL 0 0 (some .boolean) Q (f + 1) (xm_drop 44 xm_c145) lv [.int 0] G E 0 0 = Q (some (.int 0)) G E := by
  rw [xz_145_44]; rfl
theorem xy_145_44_1 : xm_run call xm_c145 nL 0 0 (some .boolean) Q (f + 1) (xm_drop 44 xm_c145) lv [.int 1] G E 0 0 = Q (some (.int 1)) G E := by
  rw [xz_145_44]; rfl
theorem xy_145_45 {j : Nat} (h : xm_get lv 0 = some (.ref j)) : xm_run call xm_c145 nL mc ms ret Q (f + 1) (xm_drop 45 xm_c145) lv st G E kc ks = xm_run call xm_c145 nL mc ms ret Q f (xm_drop 46 xm_c145) lv (.ref j :: st) G E kc ks := by
  rw [xz_145_45, h]; rfl
theorem xy_145_46  : xm_run call xm_c145 nL mc ms ret Q (f + 1) (xm_drop 46 xm_c145) lv st G E kc ks = xm_call call mc ms 136 0 st G E kc ks (fun st G E kc ks => xm_run call xm_c145 nL mc ms ret Q f (xm_drop 47 xm_c145) lv st G E kc ks) := by
  rw [xz_145_46, show (Nat.beq 136 1006 || Nat.beq 136 1007) = false from rfl, cond_false]
theorem xy_145_47 {j : Nat} (h : xm_get lv 0 = some (.ref j)) : xm_run call xm_c145 nL mc ms ret Q (f + 1) (xm_drop 47 xm_c145) lv st G E kc ks = xm_run call xm_c145 nL mc ms ret Q f (xm_drop 48 xm_c145) lv (.ref j :: st) G E kc ks := by
  rw [xz_145_47, h]; rfl
theorem xy_145_49 {x : Int32} (h : xm_get lv 2 = some (.int x)) : xm_run call xm_c145 nL mc ms ret Q (f + 1) (xm_drop 49 xm_c145) lv st G E kc ks = xm_run call xm_c145 nL mc ms ret Q f (xm_drop 50 xm_c145) lv (.int x :: st) G E kc ks := by
  rw [xz_145_49, h]; rfl
theorem xy_145_50  : xm_run call xm_c145 nL mc ms ret Q (f + 1) (xm_drop 50 xm_c145) lv st G E kc ks = xm_call call mc ms 140 0 st G E kc ks (fun st G E kc ks => xm_run call xm_c145 nL mc ms ret Q f (xm_drop 51 xm_c145) lv st G E kc ks) := by
  rw [xz_145_50, show (Nat.beq 140 1006 || Nat.beq 140 1007) = false from rfl, cond_false]
theorem xy_145_52_0 : xm_run call xm_c145 nL 0 0 (some .boolean) Q (f + 1) (xm_drop 52 xm_c145) lv [.int 0] G E 0 0 = Q (some (.int 0)) G E := by
  rw [xz_145_52]; rfl
theorem xy_145_52_1 : xm_run call xm_c145 nL 0 0 (some .boolean) Q (f + 1) (xm_drop 52 xm_c145) lv [.int 1] G E 0 0 = Q (some (.int 1)) G E := by
  rw [xz_145_52]; rfl
theorem xy_146_0 {j : Nat} (h : xm_get lv 0 = some (.ref j)) : xm_run call xm_c146 nL mc ms ret Q (f + 1) (xm_drop 0 xm_c146) lv st G E kc ks = xm_run call xm_c146 nL mc ms ret Q f (xm_drop 1 xm_c146) lv (.ref j :: st) G E kc ks := by
  rw [xz_146_0, h]; rfl
theorem xy_146_1  : xm_run call xm_c146 nL mc ms ret Q (f + 1) (xm_drop 1 xm_c146) lv st G E kc ks = xm_call call mc ms 145 0 st G E kc ks (fun st G E kc ks => xm_run call xm_c146 nL mc ms ret Q f (xm_drop 2 xm_c146) lv st G E kc ks) := by
  rw [xz_146_1, show (Nat.beq 145 1006 || Nat.beq 145 1007) = false from rfl, cond_false]
theorem xy_146_2 {x : Int32} : xm_run call xm_c146 nL mc ms ret Q (f + 1) (xm_drop 2 xm_c146) lv (.int x :: st) G E kc ks = (bif !decide (x.toInt = 0) then xm_run call xm_c146 nL mc ms ret Q f (xm_drop 5 xm_c146) lv st G E kc ks else xm_run call xm_c146 nL mc ms ret Q f (xm_drop 3 xm_c146) lv st G E kc ks) := by
  rw [xz_146_2]; show xm_cmpI E (.int x) (.int 0) _ = _; rw [xc_int, xk_ne]; rfl
theorem xy_146_4_0 : xm_run call xm_c146 nL 0 0 (some .boolean) Q (f + 1) (xm_drop 4 xm_c146) lv [.int 0] G E 0 0 = Q (some (.int 0)) G E := by
  rw [xz_146_4]; rfl
theorem xy_146_4_1 : xm_run call xm_c146 nL 0 0 (some .boolean) Q (f + 1) (xm_drop 4 xm_c146) lv [.int 1] G E 0 0 = Q (some (.int 1)) G E := by
  rw [xz_146_4]; rfl
theorem xy_146_5 {j : Nat} (h : xm_get lv 0 = some (.ref j)) : xm_run call xm_c146 nL mc ms ret Q (f + 1) (xm_drop 5 xm_c146) lv st G E kc ks = xm_run call xm_c146 nL mc ms ret Q f (xm_drop 6 xm_c146) lv (.ref j :: st) G E kc ks := by
  rw [xz_146_5, h]; rfl
theorem xy_146_6  : xm_run call xm_c146 nL mc ms ret Q (f + 1) (xm_drop 6 xm_c146) lv st G E kc ks = xm_call call mc ms 132 0 st G E kc ks (fun st G E kc ks => xm_run call xm_c146 nL mc ms ret Q f (xm_drop 7 xm_c146) lv st G E kc ks) := by
  rw [xz_146_6, show (Nat.beq 132 1006 || Nat.beq 132 1007) = false from rfl, cond_false]
theorem xy_146_8 {x y : Int32} : xm_run call xm_c146 nL mc ms ret Q (f + 1) (xm_drop 8 xm_c146) lv (.int y :: .int x :: st) G E kc ks = (bif decide (x.toInt = y.toInt) then xm_run call xm_c146 nL mc ms ret Q f (xm_drop 17 xm_c146) lv st G E kc ks else xm_run call xm_c146 nL mc ms ret Q f (xm_drop 9 xm_c146) lv st G E kc ks) := by
  rw [xz_146_8]; show xm_cmpI E (.int x) (.int y) _ = _; rw [xc_int, xk_eq]
theorem xy_146_9 {j : Nat} (h : xm_get lv 0 = some (.ref j)) : xm_run call xm_c146 nL mc ms ret Q (f + 1) (xm_drop 9 xm_c146) lv st G E kc ks = xm_run call xm_c146 nL mc ms ret Q f (xm_drop 10 xm_c146) lv (.ref j :: st) G E kc ks := by
  rw [xz_146_9, h]; rfl
theorem xy_146_10  : xm_run call xm_c146 nL mc ms ret Q (f + 1) (xm_drop 10 xm_c146) lv st G E kc ks = xm_call call mc ms 132 0 st G E kc ks (fun st G E kc ks => xm_run call xm_c146 nL mc ms ret Q f (xm_drop 11 xm_c146) lv st G E kc ks) := by
  rw [xz_146_10, show (Nat.beq 132 1006 || Nat.beq 132 1007) = false from rfl, cond_false]
theorem xy_146_12 {x y : Int32} : xm_run call xm_c146 nL mc ms ret Q (f + 1) (xm_drop 12 xm_c146) lv (.int y :: .int x :: st) G E kc ks = (bif decide (x.toInt = y.toInt) then xm_run call xm_c146 nL mc ms ret Q f (xm_drop 17 xm_c146) lv st G E kc ks else xm_run call xm_c146 nL mc ms ret Q f (xm_drop 13 xm_c146) lv st G E kc ks) := by
  rw [xz_146_12]; show xm_cmpI E (.int x) (.int y) _ = _; rw [xc_int, xk_eq]
theorem xy_146_13 {j : Nat} (h : xm_get lv 0 = some (.ref j)) : xm_run call xm_c146 nL mc ms ret Q (f + 1) (xm_drop 13 xm_c146) lv st G E kc ks = xm_run call xm_c146 nL mc ms ret Q f (xm_drop 14 xm_c146) lv (.ref j :: st) G E kc ks := by
  rw [xz_146_13, h]; rfl
theorem xy_146_14  : xm_run call xm_c146 nL mc ms ret Q (f + 1) (xm_drop 14 xm_c146) lv st G E kc ks = xm_call call mc ms 132 0 st G E kc ks (fun st G E kc ks => xm_run call xm_c146 nL mc ms ret Q f (xm_drop 15 xm_c146) lv st G E kc ks) := by
  rw [xz_146_14, show (Nat.beq 132 1006 || Nat.beq 132 1007) = false from rfl, cond_false]
theorem xy_146_16 {x y : Int32} : xm_run call xm_c146 nL mc ms ret Q (f + 1) (xm_drop 16 xm_c146) lv (.int y :: .int x :: st) G E kc ks = (bif !decide (x.toInt = y.toInt) then xm_run call xm_c146 nL mc ms ret Q f (xm_drop 53 xm_c146) lv st G E kc ks else xm_run call xm_c146 nL mc ms ret Q f (xm_drop 17 xm_c146) lv st G E kc ks) := by
  rw [xz_146_16]; show xm_cmpI E (.int x) (.int y) _ = _; rw [xc_int, xk_ne]
theorem xy_146_17 {j : Nat} (h : xm_get lv 0 = some (.ref j)) : xm_run call xm_c146 nL mc ms ret Q (f + 1) (xm_drop 17 xm_c146) lv st G E kc ks = xm_run call xm_c146 nL mc ms ret Q f (xm_drop 18 xm_c146) lv (.ref j :: st) G E kc ks := by
  rw [xz_146_17, h]; rfl
theorem xy_146_19 {j : Nat} (h : xm_get lv 0 = some (.ref j)) : xm_run call xm_c146 nL mc ms ret Q (f + 1) (xm_drop 19 xm_c146) lv st G E kc ks = xm_run call xm_c146 nL mc ms ret Q f (xm_drop 20 xm_c146) lv (.ref j :: st) G E kc ks := by
  rw [xz_146_19, h]; rfl
theorem xy_146_23 {x y : Int32} : xm_run call xm_c146 nL mc ms ret Q (f + 1) (xm_drop 23 xm_c146) lv (.int y :: .int x :: st) G E kc ks = (bif !decide (x.toInt = y.toInt) then xm_run call xm_c146 nL mc ms ret Q f (xm_drop 26 xm_c146) lv st G E kc ks else xm_run call xm_c146 nL mc ms ret Q f (xm_drop 24 xm_c146) lv st G E kc ks) := by
  rw [xz_146_23]; show xm_cmpI E (.int x) (.int y) _ = _; rw [xc_int, xk_ne]
theorem xy_146_25  : xm_run call xm_c146 nL mc ms ret Q (f + 1) (xm_drop 25 xm_c146) lv st G E kc ks = xm_run call xm_c146 nL mc ms ret Q f (xm_drop 36 xm_c146) lv st G E kc ks := by
  rfl
theorem xy_146_26 {j : Nat} (h : xm_get lv 0 = some (.ref j)) : xm_run call xm_c146 nL mc ms ret Q (f + 1) (xm_drop 26 xm_c146) lv st G E kc ks = xm_run call xm_c146 nL mc ms ret Q f (xm_drop 27 xm_c146) lv (.ref j :: st) G E kc ks := by
  rw [xz_146_26, h]; rfl
theorem xy_146_28 {j : Nat} (h : xm_get lv 0 = some (.ref j)) : xm_run call xm_c146 nL mc ms ret Q (f + 1) (xm_drop 28 xm_c146) lv st G E kc ks = xm_run call xm_c146 nL mc ms ret Q f (xm_drop 29 xm_c146) lv (.ref j :: st) G E kc ks := by
  rw [xz_146_28, h]; rfl
theorem xy_146_32 {x y : Int32} : xm_run call xm_c146 nL mc ms ret Q (f + 1) (xm_drop 32 xm_c146) lv (.int y :: .int x :: st) G E kc ks = (bif !decide (x.toInt = y.toInt) then xm_run call xm_c146 nL mc ms ret Q f (xm_drop 35 xm_c146) lv st G E kc ks else xm_run call xm_c146 nL mc ms ret Q f (xm_drop 33 xm_c146) lv st G E kc ks) := by
  rw [xz_146_32]; show xm_cmpI E (.int x) (.int y) _ = _; rw [xc_int, xk_ne]
theorem xy_146_34  : xm_run call xm_c146 nL mc ms ret Q (f + 1) (xm_drop 34 xm_c146) lv st G E kc ks = xm_run call xm_c146 nL mc ms ret Q f (xm_drop 36 xm_c146) lv st G E kc ks := by
  rfl
theorem xy_146_36 {x : Int32} : xm_run call xm_c146 2 mc ms ret Q (f + 1) (xm_drop 36 xm_c146) lv (.int x :: st) G E kc ks = xm_run call xm_c146 2 mc ms ret Q f (xm_drop 37 xm_c146) (xm_set1 lv 1 (.int x)) st G E kc ks := by
  rfl
theorem xy_146_37 {j : Nat} (h : xm_get lv 0 = some (.ref j)) : xm_run call xm_c146 nL mc ms ret Q (f + 1) (xm_drop 37 xm_c146) lv st G E kc ks = xm_run call xm_c146 nL mc ms ret Q f (xm_drop 38 xm_c146) lv (.ref j :: st) G E kc ks := by
  rw [xz_146_37, h]; rfl
theorem xy_146_38 {j : Nat} : xm_run call xm_c146 nL mc ms ret Q (f + 1) (xm_drop 38 xm_c146) lv (.ref j :: st) G E kc ks = xm_run call xm_c146 nL mc ms ret Q f (xm_drop 39 xm_c146) lv (.ref j :: .ref j :: st) G E kc ks := by
  rfl
theorem xy_146_41 {x y : Int32} : xm_run call xm_c146 nL mc ms ret Q (f + 1) (xm_drop 41 xm_c146) lv (.int y :: .int x :: st) G E kc ks = xm_run call xm_c146 nL mc ms ret Q f (xm_drop 42 xm_c146) lv (.int (x + y) :: st) G E kc ks := by
  rw [xz_146_41, xk_add]
theorem xy_146_43 {j : Nat} (h : xm_get lv 0 = some (.ref j)) : xm_run call xm_c146 nL mc ms ret Q (f + 1) (xm_drop 43 xm_c146) lv st G E kc ks = xm_run call xm_c146 nL mc ms ret Q f (xm_drop 44 xm_c146) lv (.ref j :: st) G E kc ks := by
  rw [xz_146_43, h]; rfl
theorem xy_146_44  : xm_run call xm_c146 nL mc ms ret Q (f + 1) (xm_drop 44 xm_c146) lv st G E kc ks = xm_call call mc ms 145 0 st G E kc ks (fun st G E kc ks => xm_run call xm_c146 nL mc ms ret Q f (xm_drop 45 xm_c146) lv st G E kc ks) := by
  rw [xz_146_44, show (Nat.beq 145 1006 || Nat.beq 145 1007) = false from rfl, cond_false]
theorem xy_146_45 {x : Int32} : xm_run call xm_c146 nL mc ms ret Q (f + 1) (xm_drop 45 xm_c146) lv (.int x :: st) G E kc ks = (bif !decide (x.toInt = 0) then xm_run call xm_c146 nL mc ms ret Q f (xm_drop 48 xm_c146) lv st G E kc ks else xm_run call xm_c146 nL mc ms ret Q f (xm_drop 46 xm_c146) lv st G E kc ks) := by
  rw [xz_146_45]; show xm_cmpI E (.int x) (.int 0) _ = _; rw [xc_int, xk_ne]; rfl
theorem xy_146_47_0 : xm_run call xm_c146 nL 0 0 (some .boolean) Q (f + 1) (xm_drop 47 xm_c146) lv [.int 0] G E 0 0 = Q (some (.int 0)) G E := by
  rw [xz_146_47]; rfl
theorem xy_146_47_1 : xm_run call xm_c146 nL 0 0 (some .boolean) Q (f + 1) (xm_drop 47 xm_c146) lv [.int 1] G E 0 0 = Q (some (.int 1)) G E := by
  rw [xz_146_47]; rfl
theorem xy_146_48 {j : Nat} (h : xm_get lv 0 = some (.ref j)) : xm_run call xm_c146 nL mc ms ret Q (f + 1) (xm_drop 48 xm_c146) lv st G E kc ks = xm_run call xm_c146 nL mc ms ret Q f (xm_drop 49 xm_c146) lv (.ref j :: st) G E kc ks := by
  rw [xz_146_48, h]; rfl
theorem xy_146_49 {x : Int32} (h : xm_get lv 1 = some (.int x)) : xm_run call xm_c146 nL mc ms ret Q (f + 1) (xm_drop 49 xm_c146) lv st G E kc ks = xm_run call xm_c146 nL mc ms ret Q f (xm_drop 50 xm_c146) lv (.int x :: st) G E kc ks := by
  rw [xz_146_49, h]; rfl
theorem xy_146_51  : xm_run call xm_c146 nL mc ms ret Q (f + 1) (xm_drop 51 xm_c146) lv st G E kc ks = xm_call call mc ms 140 0 st G E kc ks (fun st G E kc ks => xm_run call xm_c146 nL mc ms ret Q f (xm_drop 52 xm_c146) lv st G E kc ks) := by
  rw [xz_146_51, show (Nat.beq 140 1006 || Nat.beq 140 1007) = false from rfl, cond_false]
theorem xy_146_52  : xm_run call xm_c146 nL mc ms ret Q (f + 1) (xm_drop 52 xm_c146) lv st G E kc ks = xm_run call xm_c146 nL mc ms ret Q f (xm_drop 5 xm_c146) lv st G E kc ks := by
  rfl
theorem xy_146_54_0 : xm_run call xm_c146 nL 0 0 (some .boolean) Q (f + 1) (xm_drop 54 xm_c146) lv [.int 0] G E 0 0 = Q (some (.int 0)) G E := by
  rw [xz_146_54]; rfl
theorem xy_146_54_1 : xm_run call xm_c146 nL 0 0 (some .boolean) Q (f + 1) (xm_drop 54 xm_c146) lv [.int 1] G E 0 0 = Q (some (.int 1)) G E := by
  rw [xz_146_54]; rfl
theorem xy_147_0 {j : Nat} (h : xm_get lv 0 = some (.ref j)) : xm_run call xm_c147 nL mc ms ret Q (f + 1) (xm_drop 0 xm_c147) lv st G E kc ks = xm_run call xm_c147 nL mc ms ret Q f (xm_drop 1 xm_c147) lv (.ref j :: st) G E kc ks := by
  rw [xz_147_0, h]; rfl
theorem xy_147_1  : xm_run call xm_c147 nL mc ms ret Q (f + 1) (xm_drop 1 xm_c147) lv st G E kc ks = xm_call call mc ms 146 0 st G E kc ks (fun st G E kc ks => xm_run call xm_c147 nL mc ms ret Q f (xm_drop 2 xm_c147) lv st G E kc ks) := by
  rw [xz_147_1, show (Nat.beq 146 1006 || Nat.beq 146 1007) = false from rfl, cond_false]
theorem xy_147_2 {x : Int32} : xm_run call xm_c147 nL mc ms ret Q (f + 1) (xm_drop 2 xm_c147) lv (.int x :: st) G E kc ks = (bif !decide (x.toInt = 0) then xm_run call xm_c147 nL mc ms ret Q f (xm_drop 5 xm_c147) lv st G E kc ks else xm_run call xm_c147 nL mc ms ret Q f (xm_drop 3 xm_c147) lv st G E kc ks) := by
  rw [xz_147_2]; show xm_cmpI E (.int x) (.int 0) _ = _; rw [xc_int, xk_ne]; rfl
theorem xy_147_4_0 : xm_run call xm_c147 nL 0 0 (some .boolean) Q (f + 1) (xm_drop 4 xm_c147) lv [.int 0] G E 0 0 = Q (some (.int 0)) G E := by
  rw [xz_147_4]; rfl
theorem xy_147_4_1 : xm_run call xm_c147 nL 0 0 (some .boolean) Q (f + 1) (xm_drop 4 xm_c147) lv [.int 1] G E 0 0 = Q (some (.int 1)) G E := by
  rw [xz_147_4]; rfl
theorem xy_147_5 {j : Nat} (h : xm_get lv 0 = some (.ref j)) : xm_run call xm_c147 nL mc ms ret Q (f + 1) (xm_drop 5 xm_c147) lv st G E kc ks = xm_run call xm_c147 nL mc ms ret Q f (xm_drop 6 xm_c147) lv (.ref j :: st) G E kc ks := by
  rw [xz_147_5, h]; rfl
theorem xy_147_6  : xm_run call xm_c147 nL mc ms ret Q (f + 1) (xm_drop 6 xm_c147) lv st G E kc ks = xm_call call mc ms 132 0 st G E kc ks (fun st G E kc ks => xm_run call xm_c147 nL mc ms ret Q f (xm_drop 7 xm_c147) lv st G E kc ks) := by
  rw [xz_147_6, show (Nat.beq 132 1006 || Nat.beq 132 1007) = false from rfl, cond_false]
theorem xy_147_8 {x y : Int32} : xm_run call xm_c147 nL mc ms ret Q (f + 1) (xm_drop 8 xm_c147) lv (.int y :: .int x :: st) G E kc ks = (bif decide (x.toInt = y.toInt) then xm_run call xm_c147 nL mc ms ret Q f (xm_drop 13 xm_c147) lv st G E kc ks else xm_run call xm_c147 nL mc ms ret Q f (xm_drop 9 xm_c147) lv st G E kc ks) := by
  rw [xz_147_8]; show xm_cmpI E (.int x) (.int y) _ = _; rw [xc_int, xk_eq]
theorem xy_147_9 {j : Nat} (h : xm_get lv 0 = some (.ref j)) : xm_run call xm_c147 nL mc ms ret Q (f + 1) (xm_drop 9 xm_c147) lv st G E kc ks = xm_run call xm_c147 nL mc ms ret Q f (xm_drop 10 xm_c147) lv (.ref j :: st) G E kc ks := by
  rw [xz_147_9, h]; rfl
theorem xy_147_10  : xm_run call xm_c147 nL mc ms ret Q (f + 1) (xm_drop 10 xm_c147) lv st G E kc ks = xm_call call mc ms 132 0 st G E kc ks (fun st G E kc ks => xm_run call xm_c147 nL mc ms ret Q f (xm_drop 11 xm_c147) lv st G E kc ks) := by
  rw [xz_147_10, show (Nat.beq 132 1006 || Nat.beq 132 1007) = false from rfl, cond_false]
theorem xy_147_12 {x y : Int32} : xm_run call xm_c147 nL mc ms ret Q (f + 1) (xm_drop 12 xm_c147) lv (.int y :: .int x :: st) G E kc ks = (bif !decide (x.toInt = y.toInt) then xm_run call xm_c147 nL mc ms ret Q f (xm_drop 40 xm_c147) lv st G E kc ks else xm_run call xm_c147 nL mc ms ret Q f (xm_drop 13 xm_c147) lv st G E kc ks) := by
  rw [xz_147_12]; show xm_cmpI E (.int x) (.int y) _ = _; rw [xc_int, xk_ne]
theorem xy_147_13 {j : Nat} (h : xm_get lv 0 = some (.ref j)) : xm_run call xm_c147 nL mc ms ret Q (f + 1) (xm_drop 13 xm_c147) lv st G E kc ks = xm_run call xm_c147 nL mc ms ret Q f (xm_drop 14 xm_c147) lv (.ref j :: st) G E kc ks := by
  rw [xz_147_13, h]; rfl
theorem xy_147_15 {j : Nat} (h : xm_get lv 0 = some (.ref j)) : xm_run call xm_c147 nL mc ms ret Q (f + 1) (xm_drop 15 xm_c147) lv st G E kc ks = xm_run call xm_c147 nL mc ms ret Q f (xm_drop 16 xm_c147) lv (.ref j :: st) G E kc ks := by
  rw [xz_147_15, h]; rfl
theorem xy_147_19 {x y : Int32} : xm_run call xm_c147 nL mc ms ret Q (f + 1) (xm_drop 19 xm_c147) lv (.int y :: .int x :: st) G E kc ks = (bif !decide (x.toInt = y.toInt) then xm_run call xm_c147 nL mc ms ret Q f (xm_drop 22 xm_c147) lv st G E kc ks else xm_run call xm_c147 nL mc ms ret Q f (xm_drop 20 xm_c147) lv st G E kc ks) := by
  rw [xz_147_19]; show xm_cmpI E (.int x) (.int y) _ = _; rw [xc_int, xk_ne]
theorem xy_147_21  : xm_run call xm_c147 nL mc ms ret Q (f + 1) (xm_drop 21 xm_c147) lv st G E kc ks = xm_run call xm_c147 nL mc ms ret Q f (xm_drop 23 xm_c147) lv st G E kc ks := by
  rfl
theorem xy_147_23 {x : Int32} : xm_run call xm_c147 2 mc ms ret Q (f + 1) (xm_drop 23 xm_c147) lv (.int x :: st) G E kc ks = xm_run call xm_c147 2 mc ms ret Q f (xm_drop 24 xm_c147) (xm_set1 lv 1 (.int x)) st G E kc ks := by
  rfl
theorem xy_147_24 {j : Nat} (h : xm_get lv 0 = some (.ref j)) : xm_run call xm_c147 nL mc ms ret Q (f + 1) (xm_drop 24 xm_c147) lv st G E kc ks = xm_run call xm_c147 nL mc ms ret Q f (xm_drop 25 xm_c147) lv (.ref j :: st) G E kc ks := by
  rw [xz_147_24, h]; rfl
theorem xy_147_25 {j : Nat} : xm_run call xm_c147 nL mc ms ret Q (f + 1) (xm_drop 25 xm_c147) lv (.ref j :: st) G E kc ks = xm_run call xm_c147 nL mc ms ret Q f (xm_drop 26 xm_c147) lv (.ref j :: .ref j :: st) G E kc ks := by
  rfl
theorem xy_147_28 {x y : Int32} : xm_run call xm_c147 nL mc ms ret Q (f + 1) (xm_drop 28 xm_c147) lv (.int y :: .int x :: st) G E kc ks = xm_run call xm_c147 nL mc ms ret Q f (xm_drop 29 xm_c147) lv (.int (x + y) :: st) G E kc ks := by
  rw [xz_147_28, xk_add]
theorem xy_147_30 {j : Nat} (h : xm_get lv 0 = some (.ref j)) : xm_run call xm_c147 nL mc ms ret Q (f + 1) (xm_drop 30 xm_c147) lv st G E kc ks = xm_run call xm_c147 nL mc ms ret Q f (xm_drop 31 xm_c147) lv (.ref j :: st) G E kc ks := by
  rw [xz_147_30, h]; rfl
theorem xy_147_31  : xm_run call xm_c147 nL mc ms ret Q (f + 1) (xm_drop 31 xm_c147) lv st G E kc ks = xm_call call mc ms 146 0 st G E kc ks (fun st G E kc ks => xm_run call xm_c147 nL mc ms ret Q f (xm_drop 32 xm_c147) lv st G E kc ks) := by
  rw [xz_147_31, show (Nat.beq 146 1006 || Nat.beq 146 1007) = false from rfl, cond_false]
theorem xy_147_32 {x : Int32} : xm_run call xm_c147 nL mc ms ret Q (f + 1) (xm_drop 32 xm_c147) lv (.int x :: st) G E kc ks = (bif !decide (x.toInt = 0) then xm_run call xm_c147 nL mc ms ret Q f (xm_drop 35 xm_c147) lv st G E kc ks else xm_run call xm_c147 nL mc ms ret Q f (xm_drop 33 xm_c147) lv st G E kc ks) := by
  rw [xz_147_32]; show xm_cmpI E (.int x) (.int 0) _ = _; rw [xc_int, xk_ne]; rfl
theorem xy_147_34_0 : xm_run call xm_c147 nL 0 0 (some .boolean) Q (f + 1) (xm_drop 34 xm_c147) lv [.int 0] G E 0 0 = Q (some (.int 0)) G E := by
  rw [xz_147_34]; rfl
theorem xy_147_34_1 : xm_run call xm_c147 nL 0 0 (some .boolean) Q (f + 1) (xm_drop 34 xm_c147) lv [.int 1] G E 0 0 = Q (some (.int 1)) G E := by
  rw [xz_147_34]; rfl
theorem xy_147_35 {j : Nat} (h : xm_get lv 0 = some (.ref j)) : xm_run call xm_c147 nL mc ms ret Q (f + 1) (xm_drop 35 xm_c147) lv st G E kc ks = xm_run call xm_c147 nL mc ms ret Q f (xm_drop 36 xm_c147) lv (.ref j :: st) G E kc ks := by
  rw [xz_147_35, h]; rfl
theorem xy_147_36 {x : Int32} (h : xm_get lv 1 = some (.int x)) : xm_run call xm_c147 nL mc ms ret Q (f + 1) (xm_drop 36 xm_c147) lv st G E kc ks = xm_run call xm_c147 nL mc ms ret Q f (xm_drop 37 xm_c147) lv (.int x :: st) G E kc ks := by
  rw [xz_147_36, h]; rfl
theorem xy_147_38  : xm_run call xm_c147 nL mc ms ret Q (f + 1) (xm_drop 38 xm_c147) lv st G E kc ks = xm_call call mc ms 140 0 st G E kc ks (fun st G E kc ks => xm_run call xm_c147 nL mc ms ret Q f (xm_drop 39 xm_c147) lv st G E kc ks) := by
  rw [xz_147_38, show (Nat.beq 140 1006 || Nat.beq 140 1007) = false from rfl, cond_false]
theorem xy_147_39  : xm_run call xm_c147 nL mc ms ret Q (f + 1) (xm_drop 39 xm_c147) lv st G E kc ks = xm_run call xm_c147 nL mc ms ret Q f (xm_drop 5 xm_c147) lv st G E kc ks := by
  rfl
theorem xy_147_41_0 : xm_run call xm_c147 nL 0 0 (some .boolean) Q (f + 1) (xm_drop 41 xm_c147) lv [.int 0] G E 0 0 = Q (some (.int 0)) G E := by
  rw [xz_147_41]; rfl
theorem xy_147_41_1 : xm_run call xm_c147 nL 0 0 (some .boolean) Q (f + 1) (xm_drop 41 xm_c147) lv [.int 1] G E 0 0 = Q (some (.int 1)) G E := by
  rw [xz_147_41]; rfl
theorem xy_148_0 {j : Nat} (h : xm_get lv 0 = some (.ref j)) : xm_run call xm_c148 nL mc ms ret Q (f + 1) (xm_drop 0 xm_c148) lv st G E kc ks = xm_run call xm_c148 nL mc ms ret Q f (xm_drop 1 xm_c148) lv (.ref j :: st) G E kc ks := by
  rw [xz_148_0, h]; rfl
theorem xy_148_1  : xm_run call xm_c148 nL mc ms ret Q (f + 1) (xm_drop 1 xm_c148) lv st G E kc ks = xm_call call mc ms 147 0 st G E kc ks (fun st G E kc ks => xm_run call xm_c148 nL mc ms ret Q f (xm_drop 2 xm_c148) lv st G E kc ks) := by
  rw [xz_148_1, show (Nat.beq 147 1006 || Nat.beq 147 1007) = false from rfl, cond_false]
theorem xy_148_2 {x : Int32} : xm_run call xm_c148 nL mc ms ret Q (f + 1) (xm_drop 2 xm_c148) lv (.int x :: st) G E kc ks = (bif !decide (x.toInt = 0) then xm_run call xm_c148 nL mc ms ret Q f (xm_drop 5 xm_c148) lv st G E kc ks else xm_run call xm_c148 nL mc ms ret Q f (xm_drop 3 xm_c148) lv st G E kc ks) := by
  rw [xz_148_2]; show xm_cmpI E (.int x) (.int 0) _ = _; rw [xc_int, xk_ne]; rfl
theorem xy_148_4_0 : xm_run call xm_c148 nL 0 0 (some .boolean) Q (f + 1) (xm_drop 4 xm_c148) lv [.int 0] G E 0 0 = Q (some (.int 0)) G E := by
  rw [xz_148_4]; rfl
theorem xy_148_4_1 : xm_run call xm_c148 nL 0 0 (some .boolean) Q (f + 1) (xm_drop 4 xm_c148) lv [.int 1] G E 0 0 = Q (some (.int 1)) G E := by
  rw [xz_148_4]; rfl
theorem xy_148_5 {j : Nat} (h : xm_get lv 0 = some (.ref j)) : xm_run call xm_c148 nL mc ms ret Q (f + 1) (xm_drop 5 xm_c148) lv st G E kc ks = xm_run call xm_c148 nL mc ms ret Q f (xm_drop 6 xm_c148) lv (.ref j :: st) G E kc ks := by
  rw [xz_148_5, h]; rfl
theorem xy_148_6  : xm_run call xm_c148 nL mc ms ret Q (f + 1) (xm_drop 6 xm_c148) lv st G E kc ks = xm_call call mc ms 132 0 st G E kc ks (fun st G E kc ks => xm_run call xm_c148 nL mc ms ret Q f (xm_drop 7 xm_c148) lv st G E kc ks) := by
  rw [xz_148_6, show (Nat.beq 132 1006 || Nat.beq 132 1007) = false from rfl, cond_false]
theorem xy_148_7 {x : Int32} : xm_run call xm_c148 5 mc ms ret Q (f + 1) (xm_drop 7 xm_c148) lv (.int x :: st) G E kc ks = xm_run call xm_c148 5 mc ms ret Q f (xm_drop 8 xm_c148) (xm_set1 lv 1 (.int x)) st G E kc ks := by
  rfl
theorem xy_148_8 {j : Nat} (h : xm_get lv 0 = some (.ref j)) : xm_run call xm_c148 nL mc ms ret Q (f + 1) (xm_drop 8 xm_c148) lv st G E kc ks = xm_run call xm_c148 nL mc ms ret Q f (xm_drop 9 xm_c148) lv (.ref j :: st) G E kc ks := by
  rw [xz_148_8, h]; rfl
theorem xy_148_10 {x : Int32} : xm_run call xm_c148 5 mc ms ret Q (f + 1) (xm_drop 10 xm_c148) lv (.int x :: st) G E kc ks = xm_run call xm_c148 5 mc ms ret Q f (xm_drop 11 xm_c148) (xm_set1 lv 2 (.int x)) st G E kc ks := by
  rfl
theorem xy_148_11 {x : Int32} (h : xm_get lv 1 = some (.int x)) : xm_run call xm_c148 nL mc ms ret Q (f + 1) (xm_drop 11 xm_c148) lv st G E kc ks = xm_run call xm_c148 nL mc ms ret Q f (xm_drop 12 xm_c148) lv (.int x :: st) G E kc ks := by
  rw [xz_148_11, h]; rfl
theorem xy_148_13 {x y : Int32} : xm_run call xm_c148 nL mc ms ret Q (f + 1) (xm_drop 13 xm_c148) lv (.int y :: .int x :: st) G E kc ks = (bif decide (x.toInt = y.toInt) then xm_run call xm_c148 nL mc ms ret Q f (xm_drop 25 xm_c148) lv st G E kc ks else xm_run call xm_c148 nL mc ms ret Q f (xm_drop 14 xm_c148) lv st G E kc ks) := by
  rw [xz_148_13]; show xm_cmpI E (.int x) (.int y) _ = _; rw [xc_int, xk_eq]
theorem xy_148_14 {x : Int32} (h : xm_get lv 1 = some (.int x)) : xm_run call xm_c148 nL mc ms ret Q (f + 1) (xm_drop 14 xm_c148) lv st G E kc ks = xm_run call xm_c148 nL mc ms ret Q f (xm_drop 15 xm_c148) lv (.int x :: st) G E kc ks := by
  rw [xz_148_14, h]; rfl
theorem xy_148_16 {x y : Int32} : xm_run call xm_c148 nL mc ms ret Q (f + 1) (xm_drop 16 xm_c148) lv (.int y :: .int x :: st) G E kc ks = (bif decide (x.toInt = y.toInt) then xm_run call xm_c148 nL mc ms ret Q f (xm_drop 25 xm_c148) lv st G E kc ks else xm_run call xm_c148 nL mc ms ret Q f (xm_drop 17 xm_c148) lv st G E kc ks) := by
  rw [xz_148_16]; show xm_cmpI E (.int x) (.int y) _ = _; rw [xc_int, xk_eq]
theorem xy_148_17 {x : Int32} (h : xm_get lv 1 = some (.int x)) : xm_run call xm_c148 nL mc ms ret Q (f + 1) (xm_drop 17 xm_c148) lv st G E kc ks = xm_run call xm_c148 nL mc ms ret Q f (xm_drop 18 xm_c148) lv (.int x :: st) G E kc ks := by
  rw [xz_148_17, h]; rfl
theorem xy_148_19 {x y : Int32} : xm_run call xm_c148 nL mc ms ret Q (f + 1) (xm_drop 19 xm_c148) lv (.int y :: .int x :: st) G E kc ks = (bif decide (x.toInt = y.toInt) then xm_run call xm_c148 nL mc ms ret Q f (xm_drop 25 xm_c148) lv st G E kc ks else xm_run call xm_c148 nL mc ms ret Q f (xm_drop 20 xm_c148) lv st G E kc ks) := by
  rw [xz_148_19]; show xm_cmpI E (.int x) (.int y) _ = _; rw [xc_int, xk_eq]
theorem xy_148_20 {j : Nat} (h : xm_get lv 0 = some (.ref j)) : xm_run call xm_c148 nL mc ms ret Q (f + 1) (xm_drop 20 xm_c148) lv st G E kc ks = xm_run call xm_c148 nL mc ms ret Q f (xm_drop 21 xm_c148) lv (.ref j :: st) G E kc ks := by
  rw [xz_148_20, h]; rfl
theorem xy_148_22 {x : Int32} (h : xm_get lv 2 = some (.int x)) : xm_run call xm_c148 nL mc ms ret Q (f + 1) (xm_drop 22 xm_c148) lv st G E kc ks = xm_run call xm_c148 nL mc ms ret Q f (xm_drop 23 xm_c148) lv (.int x :: st) G E kc ks := by
  rw [xz_148_22, h]; rfl
theorem xy_148_23  : xm_run call xm_c148 nL mc ms ret Q (f + 1) (xm_drop 23 xm_c148) lv st G E kc ks = xm_call call mc ms 131 0 st G E kc ks (fun st G E kc ks => xm_run call xm_c148 nL mc ms ret Q f (xm_drop 24 xm_c148) lv st G E kc ks) := by
  rw [xz_148_23, show (Nat.beq 131 1006 || Nat.beq 131 1007) = false from rfl, cond_false]
theorem xy_148_24_0 : xm_run call xm_c148 nL 0 0 (some .boolean) Q (f + 1) (xm_drop 24 xm_c148) lv [.int 0] G E 0 0 = Q (some (.int 0)) G E := by
  rw [xz_148_24]; rfl
theorem xy_148_24_1 : xm_run call xm_c148 nL 0 0 (some .boolean) Q (f + 1) (xm_drop 24 xm_c148) lv [.int 1] G E 0 0 = Q (some (.int 1)) G E := by
  rw [xz_148_24]; rfl
theorem xy_148_25 {j : Nat} (h : xm_get lv 0 = some (.ref j)) : xm_run call xm_c148 nL mc ms ret Q (f + 1) (xm_drop 25 xm_c148) lv st G E kc ks = xm_run call xm_c148 nL mc ms ret Q f (xm_drop 26 xm_c148) lv (.ref j :: st) G E kc ks := by
  rw [xz_148_25, h]; rfl
theorem xy_148_26 {j : Nat} : xm_run call xm_c148 nL mc ms ret Q (f + 1) (xm_drop 26 xm_c148) lv (.ref j :: st) G E kc ks = xm_run call xm_c148 nL mc ms ret Q f (xm_drop 27 xm_c148) lv (.ref j :: .ref j :: st) G E kc ks := by
  rfl
theorem xy_148_29 {x y : Int32} : xm_run call xm_c148 nL mc ms ret Q (f + 1) (xm_drop 29 xm_c148) lv (.int y :: .int x :: st) G E kc ks = xm_run call xm_c148 nL mc ms ret Q f (xm_drop 30 xm_c148) lv (.int (x + y) :: st) G E kc ks := by
  rw [xz_148_29, xk_add]
theorem xy_148_31 {x : Int32} (h : xm_get lv 1 = some (.int x)) : xm_run call xm_c148 nL mc ms ret Q (f + 1) (xm_drop 31 xm_c148) lv st G E kc ks = xm_run call xm_c148 nL mc ms ret Q f (xm_drop 32 xm_c148) lv (.int x :: st) G E kc ks := by
  rw [xz_148_31, h]; rfl
theorem xy_148_33 {x y : Int32} : xm_run call xm_c148 nL mc ms ret Q (f + 1) (xm_drop 33 xm_c148) lv (.int y :: .int x :: st) G E kc ks = (bif decide (x.toInt = y.toInt) then xm_run call xm_c148 nL mc ms ret Q f (xm_drop 48 xm_c148) lv st G E kc ks else xm_run call xm_c148 nL mc ms ret Q f (xm_drop 34 xm_c148) lv st G E kc ks) := by
  rw [xz_148_33]; show xm_cmpI E (.int x) (.int y) _ = _; rw [xc_int, xk_eq]
theorem xy_148_34 {j : Nat} (h : xm_get lv 0 = some (.ref j)) : xm_run call xm_c148 nL mc ms ret Q (f + 1) (xm_drop 34 xm_c148) lv st G E kc ks = xm_run call xm_c148 nL mc ms ret Q f (xm_drop 35 xm_c148) lv (.ref j :: st) G E kc ks := by
  rw [xz_148_34, h]; rfl
theorem xy_148_36 {j : Nat} (h : xm_get lv 0 = some (.ref j)) : xm_run call xm_c148 nL mc ms ret Q (f + 1) (xm_drop 36 xm_c148) lv st G E kc ks = xm_run call xm_c148 nL mc ms ret Q f (xm_drop 37 xm_c148) lv (.ref j :: st) G E kc ks := by
  rw [xz_148_36, h]; rfl
theorem xy_148_38 {x y : Int32} : xm_run call xm_c148 nL mc ms ret Q (f + 1) (xm_drop 38 xm_c148) lv (.int y :: .int x :: st) G E kc ks = (bif !decide (x.toInt < y.toInt) then xm_run call xm_c148 nL mc ms ret Q f (xm_drop 48 xm_c148) lv st G E kc ks else xm_run call xm_c148 nL mc ms ret Q f (xm_drop 39 xm_c148) lv st G E kc ks) := by
  rw [xz_148_38]; show xm_cmpI E (.int x) (.int y) _ = _; rw [xc_int, xk_ge]
theorem xy_148_39 {j : Nat} (h : xm_get lv 0 = some (.ref j)) : xm_run call xm_c148 nL mc ms ret Q (f + 1) (xm_drop 39 xm_c148) lv st G E kc ks = xm_run call xm_c148 nL mc ms ret Q f (xm_drop 40 xm_c148) lv (.ref j :: st) G E kc ks := by
  rw [xz_148_39, h]; rfl
theorem xy_148_41 {j : Nat} (h : xm_get lv 0 = some (.ref j)) : xm_run call xm_c148 nL mc ms ret Q (f + 1) (xm_drop 41 xm_c148) lv st G E kc ks = xm_run call xm_c148 nL mc ms ret Q f (xm_drop 42 xm_c148) lv (.ref j :: st) G E kc ks := by
  rw [xz_148_41, h]; rfl
theorem xy_148_45 {x y : Int32} : xm_run call xm_c148 nL mc ms ret Q (f + 1) (xm_drop 45 xm_c148) lv (.int y :: .int x :: st) G E kc ks = (bif !decide (x.toInt = y.toInt) then xm_run call xm_c148 nL mc ms ret Q f (xm_drop 48 xm_c148) lv st G E kc ks else xm_run call xm_c148 nL mc ms ret Q f (xm_drop 46 xm_c148) lv st G E kc ks) := by
  rw [xz_148_45]; show xm_cmpI E (.int x) (.int y) _ = _; rw [xc_int, xk_ne]
theorem xy_148_47  : xm_run call xm_c148 nL mc ms ret Q (f + 1) (xm_drop 47 xm_c148) lv st G E kc ks = xm_run call xm_c148 nL mc ms ret Q f (xm_drop 49 xm_c148) lv st G E kc ks := by
  rfl
theorem xy_148_49 {x : Int32} : xm_run call xm_c148 5 mc ms ret Q (f + 1) (xm_drop 49 xm_c148) lv (.int x :: st) G E kc ks = xm_run call xm_c148 5 mc ms ret Q f (xm_drop 50 xm_c148) (xm_set1 lv 3 (.int x)) st G E kc ks := by
  rfl
theorem xy_148_50 {x : Int32} (h : xm_get lv 3 = some (.int x)) : xm_run call xm_c148 nL mc ms ret Q (f + 1) (xm_drop 50 xm_c148) lv st G E kc ks = xm_run call xm_c148 nL mc ms ret Q f (xm_drop 51 xm_c148) lv (.int x :: st) G E kc ks := by
  rw [xz_148_50, h]; rfl
theorem xy_148_51 {x : Int32} : xm_run call xm_c148 nL mc ms ret Q (f + 1) (xm_drop 51 xm_c148) lv (.int x :: st) G E kc ks = (bif decide (x.toInt = 0) then xm_run call xm_c148 nL mc ms ret Q f (xm_drop 58 xm_c148) lv st G E kc ks else xm_run call xm_c148 nL mc ms ret Q f (xm_drop 52 xm_c148) lv st G E kc ks) := by
  rw [xz_148_51]; show xm_cmpI E (.int x) (.int 0) _ = _; rw [xc_int, xk_eq]; rfl
theorem xy_148_52 {j : Nat} (h : xm_get lv 0 = some (.ref j)) : xm_run call xm_c148 nL mc ms ret Q (f + 1) (xm_drop 52 xm_c148) lv st G E kc ks = xm_run call xm_c148 nL mc ms ret Q f (xm_drop 53 xm_c148) lv (.ref j :: st) G E kc ks := by
  rw [xz_148_52, h]; rfl
theorem xy_148_53 {j : Nat} : xm_run call xm_c148 nL mc ms ret Q (f + 1) (xm_drop 53 xm_c148) lv (.ref j :: st) G E kc ks = xm_run call xm_c148 nL mc ms ret Q f (xm_drop 54 xm_c148) lv (.ref j :: .ref j :: st) G E kc ks := by
  rfl
theorem xy_148_56 {x y : Int32} : xm_run call xm_c148 nL mc ms ret Q (f + 1) (xm_drop 56 xm_c148) lv (.int y :: .int x :: st) G E kc ks = xm_run call xm_c148 nL mc ms ret Q f (xm_drop 57 xm_c148) lv (.int (x + y) :: st) G E kc ks := by
  rw [xz_148_56, xk_add]
theorem xy_148_58 {j : Nat} (h : xm_get lv 0 = some (.ref j)) : xm_run call xm_c148 nL mc ms ret Q (f + 1) (xm_drop 58 xm_c148) lv st G E kc ks = xm_run call xm_c148 nL mc ms ret Q f (xm_drop 59 xm_c148) lv (.ref j :: st) G E kc ks := by
  rw [xz_148_58, h]; rfl
theorem xy_148_59 {x : Int32} (h : xm_get lv 2 = some (.int x)) : xm_run call xm_c148 nL mc ms ret Q (f + 1) (xm_drop 59 xm_c148) lv st G E kc ks = xm_run call xm_c148 nL mc ms ret Q f (xm_drop 60 xm_c148) lv (.int x :: st) G E kc ks := by
  rw [xz_148_59, h]; rfl
theorem xy_148_60  : xm_run call xm_c148 nL mc ms ret Q (f + 1) (xm_drop 60 xm_c148) lv st G E kc ks = xm_call call mc ms 141 0 st G E kc ks (fun st G E kc ks => xm_run call xm_c148 nL mc ms ret Q f (xm_drop 61 xm_c148) lv st G E kc ks) := by
  rw [xz_148_60, show (Nat.beq 141 1006 || Nat.beq 141 1007) = false from rfl, cond_false]
theorem xy_148_61 {x : Int32} : xm_run call xm_c148 nL mc ms ret Q (f + 1) (xm_drop 61 xm_c148) lv (.int x :: st) G E kc ks = (bif !decide (x.toInt = 0) then xm_run call xm_c148 nL mc ms ret Q f (xm_drop 64 xm_c148) lv st G E kc ks else xm_run call xm_c148 nL mc ms ret Q f (xm_drop 62 xm_c148) lv st G E kc ks) := by
  rw [xz_148_61]; show xm_cmpI E (.int x) (.int 0) _ = _; rw [xc_int, xk_ne]; rfl
theorem xy_148_63_0 : xm_run call xm_c148 nL 0 0 (some .boolean) Q (f + 1) (xm_drop 63 xm_c148) lv [.int 0] G E 0 0 = Q (some (.int 0)) G E := by
  rw [xz_148_63]; rfl
theorem xy_148_63_1 : xm_run call xm_c148 nL 0 0 (some .boolean) Q (f + 1) (xm_drop 63 xm_c148) lv [.int 1] G E 0 0 = Q (some (.int 1)) G E := by
  rw [xz_148_63]; rfl
theorem xy_148_64 {x : Int32} (h : xm_get lv 1 = some (.int x)) : xm_run call xm_c148 nL mc ms ret Q (f + 1) (xm_drop 64 xm_c148) lv st G E kc ks = xm_run call xm_c148 nL mc ms ret Q f (xm_drop 65 xm_c148) lv (.int x :: st) G E kc ks := by
  rw [xz_148_64, h]; rfl
theorem xy_148_66 {x y : Int32} : xm_run call xm_c148 nL mc ms ret Q (f + 1) (xm_drop 66 xm_c148) lv (.int y :: .int x :: st) G E kc ks = (bif !decide (x.toInt = y.toInt) then xm_run call xm_c148 nL mc ms ret Q f (xm_drop 73 xm_c148) lv st G E kc ks else xm_run call xm_c148 nL mc ms ret Q f (xm_drop 67 xm_c148) lv st G E kc ks) := by
  rw [xz_148_66]; show xm_cmpI E (.int x) (.int y) _ = _; rw [xc_int, xk_ne]
theorem xy_148_67 {x : Int32} (h : xm_get lv 3 = some (.int x)) : xm_run call xm_c148 nL mc ms ret Q (f + 1) (xm_drop 67 xm_c148) lv st G E kc ks = xm_run call xm_c148 nL mc ms ret Q f (xm_drop 68 xm_c148) lv (.int x :: st) G E kc ks := by
  rw [xz_148_67, h]; rfl
theorem xy_148_68 {x : Int32} : xm_run call xm_c148 nL mc ms ret Q (f + 1) (xm_drop 68 xm_c148) lv (.int x :: st) G E kc ks = (bif decide (x.toInt = 0) then xm_run call xm_c148 nL mc ms ret Q f (xm_drop 71 xm_c148) lv st G E kc ks else xm_run call xm_c148 nL mc ms ret Q f (xm_drop 69 xm_c148) lv st G E kc ks) := by
  rw [xz_148_68]; show xm_cmpI E (.int x) (.int 0) _ = _; rw [xc_int, xk_eq]; rfl
theorem xy_148_70  : xm_run call xm_c148 nL mc ms ret Q (f + 1) (xm_drop 70 xm_c148) lv st G E kc ks = xm_run call xm_c148 nL mc ms ret Q f (xm_drop 83 xm_c148) lv st G E kc ks := by
  rfl
theorem xy_148_72  : xm_run call xm_c148 nL mc ms ret Q (f + 1) (xm_drop 72 xm_c148) lv st G E kc ks = xm_run call xm_c148 nL mc ms ret Q f (xm_drop 83 xm_c148) lv st G E kc ks := by
  rfl
theorem xy_148_73 {x : Int32} (h : xm_get lv 1 = some (.int x)) : xm_run call xm_c148 nL mc ms ret Q (f + 1) (xm_drop 73 xm_c148) lv st G E kc ks = xm_run call xm_c148 nL mc ms ret Q f (xm_drop 74 xm_c148) lv (.int x :: st) G E kc ks := by
  rw [xz_148_73, h]; rfl
theorem xy_148_75 {x y : Int32} : xm_run call xm_c148 nL mc ms ret Q (f + 1) (xm_drop 75 xm_c148) lv (.int y :: .int x :: st) G E kc ks = (bif !decide (x.toInt = y.toInt) then xm_run call xm_c148 nL mc ms ret Q f (xm_drop 78 xm_c148) lv st G E kc ks else xm_run call xm_c148 nL mc ms ret Q f (xm_drop 76 xm_c148) lv st G E kc ks) := by
  rw [xz_148_75]; show xm_cmpI E (.int x) (.int y) _ = _; rw [xc_int, xk_ne]
theorem xy_148_77  : xm_run call xm_c148 nL mc ms ret Q (f + 1) (xm_drop 77 xm_c148) lv st G E kc ks = xm_run call xm_c148 nL mc ms ret Q f (xm_drop 83 xm_c148) lv st G E kc ks := by
  rfl
theorem xy_148_78 {x : Int32} (h : xm_get lv 3 = some (.int x)) : xm_run call xm_c148 nL mc ms ret Q (f + 1) (xm_drop 78 xm_c148) lv st G E kc ks = xm_run call xm_c148 nL mc ms ret Q f (xm_drop 79 xm_c148) lv (.int x :: st) G E kc ks := by
  rw [xz_148_78, h]; rfl
theorem xy_148_79 {x : Int32} : xm_run call xm_c148 nL mc ms ret Q (f + 1) (xm_drop 79 xm_c148) lv (.int x :: st) G E kc ks = (bif decide (x.toInt = 0) then xm_run call xm_c148 nL mc ms ret Q f (xm_drop 82 xm_c148) lv st G E kc ks else xm_run call xm_c148 nL mc ms ret Q f (xm_drop 80 xm_c148) lv st G E kc ks) := by
  rw [xz_148_79]; show xm_cmpI E (.int x) (.int 0) _ = _; rw [xc_int, xk_eq]; rfl
theorem xy_148_81  : xm_run call xm_c148 nL mc ms ret Q (f + 1) (xm_drop 81 xm_c148) lv st G E kc ks = xm_run call xm_c148 nL mc ms ret Q f (xm_drop 83 xm_c148) lv st G E kc ks := by
  rfl
theorem xy_148_83 {x : Int32} : xm_run call xm_c148 5 mc ms ret Q (f + 1) (xm_drop 83 xm_c148) lv (.int x :: st) G E kc ks = xm_run call xm_c148 5 mc ms ret Q f (xm_drop 84 xm_c148) (xm_set1 lv 4 (.int x)) st G E kc ks := by
  rfl
theorem xy_148_84 {j : Nat} (h : xm_get lv 0 = some (.ref j)) : xm_run call xm_c148 nL mc ms ret Q (f + 1) (xm_drop 84 xm_c148) lv st G E kc ks = xm_run call xm_c148 nL mc ms ret Q f (xm_drop 85 xm_c148) lv (.ref j :: st) G E kc ks := by
  rw [xz_148_84, h]; rfl
theorem xy_148_85  : xm_run call xm_c148 nL mc ms ret Q (f + 1) (xm_drop 85 xm_c148) lv st G E kc ks = xm_call call mc ms 147 0 st G E kc ks (fun st G E kc ks => xm_run call xm_c148 nL mc ms ret Q f (xm_drop 86 xm_c148) lv st G E kc ks) := by
  rw [xz_148_85, show (Nat.beq 147 1006 || Nat.beq 147 1007) = false from rfl, cond_false]
theorem xy_148_86 {x : Int32} : xm_run call xm_c148 nL mc ms ret Q (f + 1) (xm_drop 86 xm_c148) lv (.int x :: st) G E kc ks = (bif !decide (x.toInt = 0) then xm_run call xm_c148 nL mc ms ret Q f (xm_drop 89 xm_c148) lv st G E kc ks else xm_run call xm_c148 nL mc ms ret Q f (xm_drop 87 xm_c148) lv st G E kc ks) := by
  rw [xz_148_86]; show xm_cmpI E (.int x) (.int 0) _ = _; rw [xc_int, xk_ne]; rfl
theorem xy_148_88_0 : xm_run call xm_c148 nL 0 0 (some .boolean) Q (f + 1) (xm_drop 88 xm_c148) lv [.int 0] G E 0 0 = Q (some (.int 0)) G E := by
  rw [xz_148_88]; rfl
theorem xy_148_88_1 : xm_run call xm_c148 nL 0 0 (some .boolean) Q (f + 1) (xm_drop 88 xm_c148) lv [.int 1] G E 0 0 = Q (some (.int 1)) G E := by
  rw [xz_148_88]; rfl
theorem xy_148_89 {j : Nat} (h : xm_get lv 0 = some (.ref j)) : xm_run call xm_c148 nL mc ms ret Q (f + 1) (xm_drop 89 xm_c148) lv st G E kc ks = xm_run call xm_c148 nL mc ms ret Q f (xm_drop 90 xm_c148) lv (.ref j :: st) G E kc ks := by
  rw [xz_148_89, h]; rfl
theorem xy_148_91 {x : Int32} (h : xm_get lv 4 = some (.int x)) : xm_run call xm_c148 nL mc ms ret Q (f + 1) (xm_drop 91 xm_c148) lv st G E kc ks = xm_run call xm_c148 nL mc ms ret Q f (xm_drop 92 xm_c148) lv (.int x :: st) G E kc ks := by
  rw [xz_148_91, h]; rfl
theorem xy_148_92 {x y : Int32} : xm_run call xm_c148 nL mc ms ret Q (f + 1) (xm_drop 92 xm_c148) lv (.int y :: .int x :: st) G E kc ks = xm_run call xm_c148 nL mc ms ret Q f (xm_drop 93 xm_c148) lv (.int (x + y) :: st) G E kc ks := by
  rw [xz_148_92, xk_add]
theorem xy_148_94  : xm_run call xm_c148 nL mc ms ret Q (f + 1) (xm_drop 94 xm_c148) lv st G E kc ks = xm_call call mc ms 140 0 st G E kc ks (fun st G E kc ks => xm_run call xm_c148 nL mc ms ret Q f (xm_drop 95 xm_c148) lv st G E kc ks) := by
  rw [xz_148_94, show (Nat.beq 140 1006 || Nat.beq 140 1007) = false from rfl, cond_false]
theorem xy_148_96_0 : xm_run call xm_c148 nL 0 0 (some .boolean) Q (f + 1) (xm_drop 96 xm_c148) lv [.int 0] G E 0 0 = Q (some (.int 0)) G E := by
  rw [xz_148_96]; rfl
theorem xy_148_96_1 : xm_run call xm_c148 nL 0 0 (some .boolean) Q (f + 1) (xm_drop 96 xm_c148) lv [.int 1] G E 0 0 = Q (some (.int 1)) G E := by
  rw [xz_148_96]; rfl
theorem xy_149_1 {x : Int32} : xm_run call xm_c149 3 mc ms ret Q (f + 1) (xm_drop 1 xm_c149) lv (.int x :: st) G E kc ks = xm_run call xm_c149 3 mc ms ret Q f (xm_drop 2 xm_c149) (xm_set1 lv 1 (.int x)) st G E kc ks := by
  rfl
theorem xy_149_2 {x : Int32} (h : xm_get lv 1 = some (.int x)) : xm_run call xm_c149 nL mc ms ret Q (f + 1) (xm_drop 2 xm_c149) lv st G E kc ks = xm_run call xm_c149 nL mc ms ret Q f (xm_drop 3 xm_c149) lv (.int x :: st) G E kc ks := by
  rw [xz_149_2, h]; rfl
theorem xy_149_3 {x : Int32} : xm_run call xm_c149 nL mc ms ret Q (f + 1) (xm_drop 3 xm_c149) lv (.int x :: st) G E kc ks = (bif decide (x.toInt = 0) then xm_run call xm_c149 nL mc ms ret Q f (xm_drop 42 xm_c149) lv st G E kc ks else xm_run call xm_c149 nL mc ms ret Q f (xm_drop 4 xm_c149) lv st G E kc ks) := by
  rw [xz_149_3]; show xm_cmpI E (.int x) (.int 0) _ = _; rw [xc_int, xk_eq]; rfl
theorem xy_149_5 {x : Int32} : xm_run call xm_c149 3 mc ms ret Q (f + 1) (xm_drop 5 xm_c149) lv (.int x :: st) G E kc ks = xm_run call xm_c149 3 mc ms ret Q f (xm_drop 6 xm_c149) (xm_set1 lv 1 (.int x)) st G E kc ks := by
  rfl
theorem xy_149_6 {j : Nat} (h : xm_get lv 0 = some (.ref j)) : xm_run call xm_c149 nL mc ms ret Q (f + 1) (xm_drop 6 xm_c149) lv st G E kc ks = xm_run call xm_c149 nL mc ms ret Q f (xm_drop 7 xm_c149) lv (.ref j :: st) G E kc ks := by
  rw [xz_149_6, h]; rfl
theorem xy_149_7  : xm_run call xm_c149 nL mc ms ret Q (f + 1) (xm_drop 7 xm_c149) lv st G E kc ks = xm_call call mc ms 132 0 st G E kc ks (fun st G E kc ks => xm_run call xm_c149 nL mc ms ret Q f (xm_drop 8 xm_c149) lv st G E kc ks) := by
  rw [xz_149_7, show (Nat.beq 132 1006 || Nat.beq 132 1007) = false from rfl, cond_false]
theorem xy_149_8 {x : Int32} : xm_run call xm_c149 3 mc ms ret Q (f + 1) (xm_drop 8 xm_c149) lv (.int x :: st) G E kc ks = xm_run call xm_c149 3 mc ms ret Q f (xm_drop 9 xm_c149) (xm_set1 lv 2 (.int x)) st G E kc ks := by
  rfl
theorem xy_149_9 {j : Nat} (h : xm_get lv 0 = some (.ref j)) : xm_run call xm_c149 nL mc ms ret Q (f + 1) (xm_drop 9 xm_c149) lv st G E kc ks = xm_run call xm_c149 nL mc ms ret Q f (xm_drop 10 xm_c149) lv (.ref j :: st) G E kc ks := by
  rw [xz_149_9, h]; rfl
theorem xy_149_11  : xm_run call xm_c149 nL mc ms ret Q (f + 1) (xm_drop 11 xm_c149) lv st G E kc ks = xm_call call mc ms 135 0 st G E kc ks (fun st G E kc ks => xm_run call xm_c149 nL mc ms ret Q f (xm_drop 12 xm_c149) lv st G E kc ks) := by
  rw [xz_149_11, show (Nat.beq 135 1006 || Nat.beq 135 1007) = false from rfl, cond_false]
theorem xy_149_12 {x : Int32} : xm_run call xm_c149 nL mc ms ret Q (f + 1) (xm_drop 12 xm_c149) lv (.int x :: st) G E kc ks = (bif decide (x.toInt = 0) then xm_run call xm_c149 nL mc ms ret Q f (xm_drop 24 xm_c149) lv st G E kc ks else xm_run call xm_c149 nL mc ms ret Q f (xm_drop 13 xm_c149) lv st G E kc ks) := by
  rw [xz_149_12]; show xm_cmpI E (.int x) (.int 0) _ = _; rw [xc_int, xk_eq]; rfl
theorem xy_149_13 {j : Nat} (h : xm_get lv 0 = some (.ref j)) : xm_run call xm_c149 nL mc ms ret Q (f + 1) (xm_drop 13 xm_c149) lv st G E kc ks = xm_run call xm_c149 nL mc ms ret Q f (xm_drop 14 xm_c149) lv (.ref j :: st) G E kc ks := by
  rw [xz_149_13, h]; rfl
theorem xy_149_15  : xm_run call xm_c149 nL mc ms ret Q (f + 1) (xm_drop 15 xm_c149) lv st G E kc ks = xm_call call mc ms 142 0 st G E kc ks (fun st G E kc ks => xm_run call xm_c149 nL mc ms ret Q f (xm_drop 16 xm_c149) lv st G E kc ks) := by
  rw [xz_149_15, show (Nat.beq 142 1006 || Nat.beq 142 1007) = false from rfl, cond_false]
theorem xy_149_16 {x : Int32} : xm_run call xm_c149 nL mc ms ret Q (f + 1) (xm_drop 16 xm_c149) lv (.int x :: st) G E kc ks = (bif !decide (x.toInt = 0) then xm_run call xm_c149 nL mc ms ret Q f (xm_drop 19 xm_c149) lv st G E kc ks else xm_run call xm_c149 nL mc ms ret Q f (xm_drop 17 xm_c149) lv st G E kc ks) := by
  rw [xz_149_16]; show xm_cmpI E (.int x) (.int 0) _ = _; rw [xc_int, xk_ne]; rfl
theorem xy_149_18_0 : xm_run call xm_c149 nL 0 0 (some .boolean) Q (f + 1) (xm_drop 18 xm_c149) lv [.int 0] G E 0 0 = Q (some (.int 0)) G E := by
  rw [xz_149_18]; rfl
theorem xy_149_18_1 : xm_run call xm_c149 nL 0 0 (some .boolean) Q (f + 1) (xm_drop 18 xm_c149) lv [.int 1] G E 0 0 = Q (some (.int 1)) G E := by
  rw [xz_149_18]; rfl
theorem xy_149_19 {j : Nat} (h : xm_get lv 0 = some (.ref j)) : xm_run call xm_c149 nL mc ms ret Q (f + 1) (xm_drop 19 xm_c149) lv st G E kc ks = xm_run call xm_c149 nL mc ms ret Q f (xm_drop 20 xm_c149) lv (.ref j :: st) G E kc ks := by
  rw [xz_149_19, h]; rfl
theorem xy_149_20  : xm_run call xm_c149 nL mc ms ret Q (f + 1) (xm_drop 20 xm_c149) lv st G E kc ks = xm_call call mc ms 136 0 st G E kc ks (fun st G E kc ks => xm_run call xm_c149 nL mc ms ret Q f (xm_drop 21 xm_c149) lv st G E kc ks) := by
  rw [xz_149_20, show (Nat.beq 136 1006 || Nat.beq 136 1007) = false from rfl, cond_false]
theorem xy_149_22 {x : Int32} : xm_run call xm_c149 3 mc ms ret Q (f + 1) (xm_drop 22 xm_c149) lv (.int x :: st) G E kc ks = xm_run call xm_c149 3 mc ms ret Q f (xm_drop 23 xm_c149) (xm_set1 lv 1 (.int x)) st G E kc ks := by
  rfl
theorem xy_149_23  : xm_run call xm_c149 nL mc ms ret Q (f + 1) (xm_drop 23 xm_c149) lv st G E kc ks = xm_run call xm_c149 nL mc ms ret Q f (xm_drop 41 xm_c149) lv st G E kc ks := by
  rfl
theorem xy_149_24 {x : Int32} (h : xm_get lv 2 = some (.int x)) : xm_run call xm_c149 nL mc ms ret Q (f + 1) (xm_drop 24 xm_c149) lv st G E kc ks = xm_run call xm_c149 nL mc ms ret Q f (xm_drop 25 xm_c149) lv (.int x :: st) G E kc ks := by
  rw [xz_149_24, h]; rfl
theorem xy_149_26 {x y : Int32} : xm_run call xm_c149 nL mc ms ret Q (f + 1) (xm_drop 26 xm_c149) lv (.int y :: .int x :: st) G E kc ks = (bif !decide (x.toInt = y.toInt) then xm_run call xm_c149 nL mc ms ret Q f (xm_drop 41 xm_c149) lv st G E kc ks else xm_run call xm_c149 nL mc ms ret Q f (xm_drop 27 xm_c149) lv st G E kc ks) := by
  rw [xz_149_26]; show xm_cmpI E (.int x) (.int y) _ = _; rw [xc_int, xk_ne]
theorem xy_149_27 {j : Nat} (h : xm_get lv 0 = some (.ref j)) : xm_run call xm_c149 nL mc ms ret Q (f + 1) (xm_drop 27 xm_c149) lv st G E kc ks = xm_run call xm_c149 nL mc ms ret Q f (xm_drop 28 xm_c149) lv (.ref j :: st) G E kc ks := by
  rw [xz_149_27, h]; rfl
theorem xy_149_29  : xm_run call xm_c149 nL mc ms ret Q (f + 1) (xm_drop 29 xm_c149) lv st G E kc ks = xm_call call mc ms 142 0 st G E kc ks (fun st G E kc ks => xm_run call xm_c149 nL mc ms ret Q f (xm_drop 30 xm_c149) lv st G E kc ks) := by
  rw [xz_149_29, show (Nat.beq 142 1006 || Nat.beq 142 1007) = false from rfl, cond_false]
theorem xy_149_30 {x : Int32} : xm_run call xm_c149 nL mc ms ret Q (f + 1) (xm_drop 30 xm_c149) lv (.int x :: st) G E kc ks = (bif !decide (x.toInt = 0) then xm_run call xm_c149 nL mc ms ret Q f (xm_drop 33 xm_c149) lv st G E kc ks else xm_run call xm_c149 nL mc ms ret Q f (xm_drop 31 xm_c149) lv st G E kc ks) := by
  rw [xz_149_30]; show xm_cmpI E (.int x) (.int 0) _ = _; rw [xc_int, xk_ne]; rfl
theorem xy_149_32_0 : xm_run call xm_c149 nL 0 0 (some .boolean) Q (f + 1) (xm_drop 32 xm_c149) lv [.int 0] G E 0 0 = Q (some (.int 0)) G E := by
  rw [xz_149_32]; rfl
theorem xy_149_32_1 : xm_run call xm_c149 nL 0 0 (some .boolean) Q (f + 1) (xm_drop 32 xm_c149) lv [.int 1] G E 0 0 = Q (some (.int 1)) G E := by
  rw [xz_149_32]; rfl
theorem xy_149_33 {j : Nat} (h : xm_get lv 0 = some (.ref j)) : xm_run call xm_c149 nL mc ms ret Q (f + 1) (xm_drop 33 xm_c149) lv st G E kc ks = xm_run call xm_c149 nL mc ms ret Q f (xm_drop 34 xm_c149) lv (.ref j :: st) G E kc ks := by
  rw [xz_149_33, h]; rfl
theorem xy_149_34 {j : Nat} : xm_run call xm_c149 nL mc ms ret Q (f + 1) (xm_drop 34 xm_c149) lv (.ref j :: st) G E kc ks = xm_run call xm_c149 nL mc ms ret Q f (xm_drop 35 xm_c149) lv (.ref j :: .ref j :: st) G E kc ks := by
  rfl
theorem xy_149_37 {x y : Int32} : xm_run call xm_c149 nL mc ms ret Q (f + 1) (xm_drop 37 xm_c149) lv (.int y :: .int x :: st) G E kc ks = xm_run call xm_c149 nL mc ms ret Q f (xm_drop 38 xm_c149) lv (.int (x + y) :: st) G E kc ks := by
  rw [xz_149_37, xk_add]
theorem xy_149_40 {x : Int32} : xm_run call xm_c149 3 mc ms ret Q (f + 1) (xm_drop 40 xm_c149) lv (.int x :: st) G E kc ks = xm_run call xm_c149 3 mc ms ret Q f (xm_drop 41 xm_c149) (xm_set1 lv 1 (.int x)) st G E kc ks := by
  rfl
theorem xy_149_41  : xm_run call xm_c149 nL mc ms ret Q (f + 1) (xm_drop 41 xm_c149) lv st G E kc ks = xm_run call xm_c149 nL mc ms ret Q f (xm_drop 2 xm_c149) lv st G E kc ks := by
  rfl
theorem xy_149_42 {j : Nat} (h : xm_get lv 0 = some (.ref j)) : xm_run call xm_c149 nL mc ms ret Q (f + 1) (xm_drop 42 xm_c149) lv st G E kc ks = xm_run call xm_c149 nL mc ms ret Q f (xm_drop 43 xm_c149) lv (.ref j :: st) G E kc ks := by
  rw [xz_149_42, h]; rfl
theorem xy_149_43  : xm_run call xm_c149 nL mc ms ret Q (f + 1) (xm_drop 43 xm_c149) lv st G E kc ks = xm_call call mc ms 148 0 st G E kc ks (fun st G E kc ks => xm_run call xm_c149 nL mc ms ret Q f (xm_drop 44 xm_c149) lv st G E kc ks) := by
  rw [xz_149_43, show (Nat.beq 148 1006 || Nat.beq 148 1007) = false from rfl, cond_false]
theorem xy_149_44_0 : xm_run call xm_c149 nL 0 0 (some .boolean) Q (f + 1) (xm_drop 44 xm_c149) lv [.int 0] G E 0 0 = Q (some (.int 0)) G E := by
  rw [xz_149_44]; rfl
theorem xy_149_44_1 : xm_run call xm_c149 nL 0 0 (some .boolean) Q (f + 1) (xm_drop 44 xm_c149) lv [.int 1] G E 0 0 = Q (some (.int 1)) G E := by
  rw [xz_149_44]; rfl
theorem xy_150_1 {x : Int32} : xm_run call xm_c150 2 mc ms ret Q (f + 1) (xm_drop 1 xm_c150) lv (.int x :: st) G E kc ks = xm_run call xm_c150 2 mc ms ret Q f (xm_drop 2 xm_c150) (xm_set1 lv 1 (.int x)) st G E kc ks := by
  rfl
theorem xy_150_2 {x : Int32} (h : xm_get lv 1 = some (.int x)) : xm_run call xm_c150 nL mc ms ret Q (f + 1) (xm_drop 2 xm_c150) lv st G E kc ks = xm_run call xm_c150 nL mc ms ret Q f (xm_drop 3 xm_c150) lv (.int x :: st) G E kc ks := by
  rw [xz_150_2, h]; rfl
theorem xy_150_3 {j : Nat} (h : xm_get lv 0 = some (.ref j)) : xm_run call xm_c150 nL mc ms ret Q (f + 1) (xm_drop 3 xm_c150) lv st G E kc ks = xm_run call xm_c150 nL mc ms ret Q f (xm_drop 4 xm_c150) lv (.ref j :: st) G E kc ks := by
  rw [xz_150_3, h]; rfl
theorem xy_150_5 {x y : Int32} : xm_run call xm_c150 nL mc ms ret Q (f + 1) (xm_drop 5 xm_c150) lv (.int y :: .int x :: st) G E kc ks = (bif !decide (x.toInt < y.toInt) then xm_run call xm_c150 nL mc ms ret Q f (xm_drop 16 xm_c150) lv st G E kc ks else xm_run call xm_c150 nL mc ms ret Q f (xm_drop 6 xm_c150) lv st G E kc ks) := by
  rw [xz_150_5]; show xm_cmpI E (.int x) (.int y) _ = _; rw [xc_int, xk_ge]
theorem xy_150_6 {j : Nat} (h : xm_get lv 0 = some (.ref j)) : xm_run call xm_c150 nL mc ms ret Q (f + 1) (xm_drop 6 xm_c150) lv st G E kc ks = xm_run call xm_c150 nL mc ms ret Q f (xm_drop 7 xm_c150) lv (.ref j :: st) G E kc ks := by
  rw [xz_150_6, h]; rfl
theorem xy_150_8 {x : Int32} (h : xm_get lv 1 = some (.int x)) : xm_run call xm_c150 nL mc ms ret Q (f + 1) (xm_drop 8 xm_c150) lv st G E kc ks = xm_run call xm_c150 nL mc ms ret Q f (xm_drop 9 xm_c150) lv (.int x :: st) G E kc ks := by
  rw [xz_150_8, h]; rfl
theorem xy_150_11 {x y : Int32} : xm_run call xm_c150 nL mc ms ret Q (f + 1) (xm_drop 11 xm_c150) lv (.int y :: .int x :: st) G E kc ks = (bif !decide (x.toInt = y.toInt) then xm_run call xm_c150 nL mc ms ret Q f (xm_drop 14 xm_c150) lv st G E kc ks else xm_run call xm_c150 nL mc ms ret Q f (xm_drop 12 xm_c150) lv st G E kc ks) := by
  rw [xz_150_11]; show xm_cmpI E (.int x) (.int y) _ = _; rw [xc_int, xk_ne]
theorem xy_150_13_0 : xm_run call xm_c150 nL 0 0 (some .boolean) Q (f + 1) (xm_drop 13 xm_c150) lv [.int 0] G E 0 0 = Q (some (.int 0)) G E := by
  rw [xz_150_13]; rfl
theorem xy_150_13_1 : xm_run call xm_c150 nL 0 0 (some .boolean) Q (f + 1) (xm_drop 13 xm_c150) lv [.int 1] G E 0 0 = Q (some (.int 1)) G E := by
  rw [xz_150_13]; rfl
theorem xy_150_14 {x : Int32} (h : xm_get lv 1 = some (.int x)) : xm_run call xm_c150 2 mc ms ret Q (f + 1) (xm_drop 14 xm_c150) lv st G E kc ks = xm_run call xm_c150 2 mc ms ret Q f (xm_drop 15 xm_c150) (xm_set1 lv 1 (.int (x + Int32.ofInt 1))) st G E kc ks := by
  rw [xz_150_14, h]; exact xl_frc (x + Int32.ofInt 1) (fun z => xm_run call xm_c150 2 mc ms ret Q f (xm_drop 15 xm_c150) (xm_set1 lv 1 (.int z)) st G E kc ks)
theorem xy_150_15  : xm_run call xm_c150 nL mc ms ret Q (f + 1) (xm_drop 15 xm_c150) lv st G E kc ks = xm_run call xm_c150 nL mc ms ret Q f (xm_drop 2 xm_c150) lv st G E kc ks := by
  rfl
theorem xy_150_17_0 : xm_run call xm_c150 nL 0 0 (some .boolean) Q (f + 1) (xm_drop 17 xm_c150) lv [.int 0] G E 0 0 = Q (some (.int 0)) G E := by
  rw [xz_150_17]; rfl
theorem xy_150_17_1 : xm_run call xm_c150 nL 0 0 (some .boolean) Q (f + 1) (xm_drop 17 xm_c150) lv [.int 1] G E 0 0 = Q (some (.int 1)) G E := by
  rw [xz_150_17]; rfl
theorem xy_151_0 {j : Nat} (h : xm_get lv 0 = some (.ref j)) : xm_run call xm_c151 nL mc ms ret Q (f + 1) (xm_drop 0 xm_c151) lv st G E kc ks = xm_run call xm_c151 nL mc ms ret Q f (xm_drop 1 xm_c151) lv (.ref j :: st) G E kc ks := by
  rw [xz_151_0, h]; rfl
theorem xy_151_2  : xm_run call xm_c151 nL mc ms ret Q (f + 1) (xm_drop 2 xm_c151) lv st G E kc ks = xm_call call mc ms 144 0 st G E kc ks (fun st G E kc ks => xm_run call xm_c151 nL mc ms ret Q f (xm_drop 3 xm_c151) lv st G E kc ks) := by
  rw [xz_151_2, show (Nat.beq 144 1006 || Nat.beq 144 1007) = false from rfl, cond_false]
theorem xy_151_3 {j : Nat} (h : xm_get lv 0 = some (.ref j)) : xm_run call xm_c151 nL mc ms ret Q (f + 1) (xm_drop 3 xm_c151) lv st G E kc ks = xm_run call xm_c151 nL mc ms ret Q f (xm_drop 4 xm_c151) lv (.ref j :: st) G E kc ks := by
  rw [xz_151_3, h]; rfl
theorem xy_151_4  : xm_run call xm_c151 nL mc ms ret Q (f + 1) (xm_drop 4 xm_c151) lv st G E kc ks = xm_call call mc ms 132 0 st G E kc ks (fun st G E kc ks => xm_run call xm_c151 nL mc ms ret Q f (xm_drop 5 xm_c151) lv st G E kc ks) := by
  rw [xz_151_4, show (Nat.beq 132 1006 || Nat.beq 132 1007) = false from rfl, cond_false]
theorem xy_151_6 {x y : Int32} : xm_run call xm_c151 nL mc ms ret Q (f + 1) (xm_drop 6 xm_c151) lv (.int y :: .int x :: st) G E kc ks = (bif !decide (x.toInt = y.toInt) then xm_run call xm_c151 nL mc ms ret Q f (xm_drop 35 xm_c151) lv st G E kc ks else xm_run call xm_c151 nL mc ms ret Q f (xm_drop 7 xm_c151) lv st G E kc ks) := by
  rw [xz_151_6]; show xm_cmpI E (.int x) (.int y) _ = _; rw [xc_int, xk_ne]
theorem xy_151_7 {j : Nat} (h : xm_get lv 0 = some (.ref j)) : xm_run call xm_c151 nL mc ms ret Q (f + 1) (xm_drop 7 xm_c151) lv st G E kc ks = xm_run call xm_c151 nL mc ms ret Q f (xm_drop 8 xm_c151) lv (.ref j :: st) G E kc ks := by
  rw [xz_151_7, h]; rfl
theorem xy_151_8  : xm_run call xm_c151 nL mc ms ret Q (f + 1) (xm_drop 8 xm_c151) lv st G E kc ks = xm_call call mc ms 150 0 st G E kc ks (fun st G E kc ks => xm_run call xm_c151 nL mc ms ret Q f (xm_drop 9 xm_c151) lv st G E kc ks) := by
  rw [xz_151_8, show (Nat.beq 150 1006 || Nat.beq 150 1007) = false from rfl, cond_false]
theorem xy_151_9 {x : Int32} : xm_run call xm_c151 nL mc ms ret Q (f + 1) (xm_drop 9 xm_c151) lv (.int x :: st) G E kc ks = (bif decide (x.toInt = 0) then xm_run call xm_c151 nL mc ms ret Q f (xm_drop 35 xm_c151) lv st G E kc ks else xm_run call xm_c151 nL mc ms ret Q f (xm_drop 10 xm_c151) lv st G E kc ks) := by
  rw [xz_151_9]; show xm_cmpI E (.int x) (.int 0) _ = _; rw [xc_int, xk_eq]; rfl
theorem xy_151_10 {j : Nat} (h : xm_get lv 0 = some (.ref j)) : xm_run call xm_c151 nL mc ms ret Q (f + 1) (xm_drop 10 xm_c151) lv st G E kc ks = xm_run call xm_c151 nL mc ms ret Q f (xm_drop 11 xm_c151) lv (.ref j :: st) G E kc ks := by
  rw [xz_151_10, h]; rfl
theorem xy_151_12  : xm_run call xm_c151 nL mc ms ret Q (f + 1) (xm_drop 12 xm_c151) lv st G E kc ks = xm_call call mc ms 144 0 st G E kc ks (fun st G E kc ks => xm_run call xm_c151 nL mc ms ret Q f (xm_drop 13 xm_c151) lv st G E kc ks) := by
  rw [xz_151_12, show (Nat.beq 144 1006 || Nat.beq 144 1007) = false from rfl, cond_false]
theorem xy_151_13 {j : Nat} (h : xm_get lv 0 = some (.ref j)) : xm_run call xm_c151 nL mc ms ret Q (f + 1) (xm_drop 13 xm_c151) lv st G E kc ks = xm_run call xm_c151 nL mc ms ret Q f (xm_drop 14 xm_c151) lv (.ref j :: st) G E kc ks := by
  rw [xz_151_13, h]; rfl
theorem xy_151_14 {j : Nat} : xm_run call xm_c151 nL mc ms ret Q (f + 1) (xm_drop 14 xm_c151) lv (.ref j :: st) G E kc ks = xm_run call xm_c151 nL mc ms ret Q f (xm_drop 15 xm_c151) lv (.ref j :: .ref j :: st) G E kc ks := by
  rfl
theorem xy_151_17 {x y : Int32} : xm_run call xm_c151 nL mc ms ret Q (f + 1) (xm_drop 17 xm_c151) lv (.int y :: .int x :: st) G E kc ks = xm_run call xm_c151 nL mc ms ret Q f (xm_drop 18 xm_c151) lv (.int (x - y) :: st) G E kc ks := by
  rw [xz_151_17, xk_sub]
theorem xy_151_19 {j : Nat} (h : xm_get lv 0 = some (.ref j)) : xm_run call xm_c151 nL mc ms ret Q (f + 1) (xm_drop 19 xm_c151) lv st G E kc ks = xm_run call xm_c151 nL mc ms ret Q f (xm_drop 20 xm_c151) lv (.ref j :: st) G E kc ks := by
  rw [xz_151_19, h]; rfl
theorem xy_151_20 {j : Nat} : xm_run call xm_c151 nL mc ms ret Q (f + 1) (xm_drop 20 xm_c151) lv (.ref j :: st) G E kc ks = xm_run call xm_c151 nL mc ms ret Q f (xm_drop 21 xm_c151) lv (.ref j :: .ref j :: st) G E kc ks := by
  rfl
theorem xy_151_23 {x y : Int32} : xm_run call xm_c151 nL mc ms ret Q (f + 1) (xm_drop 23 xm_c151) lv (.int y :: .int x :: st) G E kc ks = xm_run call xm_c151 nL mc ms ret Q f (xm_drop 24 xm_c151) lv (.int (x - y) :: st) G E kc ks := by
  rw [xz_151_23, xk_sub]
theorem xy_151_25 {j : Nat} (h : xm_get lv 0 = some (.ref j)) : xm_run call xm_c151 nL mc ms ret Q (f + 1) (xm_drop 25 xm_c151) lv st G E kc ks = xm_run call xm_c151 nL mc ms ret Q f (xm_drop 26 xm_c151) lv (.ref j :: st) G E kc ks := by
  rw [xz_151_25, h]; rfl
theorem xy_151_26 {j : Nat} : xm_run call xm_c151 nL mc ms ret Q (f + 1) (xm_drop 26 xm_c151) lv (.ref j :: st) G E kc ks = xm_run call xm_c151 nL mc ms ret Q f (xm_drop 27 xm_c151) lv (.ref j :: .ref j :: st) G E kc ks := by
  rfl
theorem xy_151_29 {x y : Int32} : xm_run call xm_c151 nL mc ms ret Q (f + 1) (xm_drop 29 xm_c151) lv (.int y :: .int x :: st) G E kc ks = xm_run call xm_c151 nL mc ms ret Q f (xm_drop 30 xm_c151) lv (.int (x + y) :: st) G E kc ks := by
  rw [xz_151_29, xk_add]
theorem xy_151_31 {j : Nat} (h : xm_get lv 0 = some (.ref j)) : xm_run call xm_c151 nL mc ms ret Q (f + 1) (xm_drop 31 xm_c151) lv st G E kc ks = xm_run call xm_c151 nL mc ms ret Q f (xm_drop 32 xm_c151) lv (.ref j :: st) G E kc ks := by
  rw [xz_151_31, h]; rfl
theorem xy_151_33  : xm_run call xm_c151 nL mc ms ret Q (f + 1) (xm_drop 33 xm_c151) lv st G E kc ks = xm_call call mc ms 144 0 st G E kc ks (fun st G E kc ks => xm_run call xm_c151 nL mc ms ret Q f (xm_drop 34 xm_c151) lv st G E kc ks) := by
  rw [xz_151_33, show (Nat.beq 144 1006 || Nat.beq 144 1007) = false from rfl, cond_false]
theorem xy_151_34  : xm_run call xm_c151 nL mc ms ret Q (f + 1) (xm_drop 34 xm_c151) lv st G E kc ks = xm_run call xm_c151 nL mc ms ret Q f (xm_drop 3 xm_c151) lv st G E kc ks := by
  rfl
theorem xy_151_35 : xm_run call xm_c151 nL 0 0 none Q (f + 1) (xm_drop 35 xm_c151) lv [] G E 0 0 = Q none G E := by
  rw [xz_151_35]; rfl
theorem xy_152_0 {j : Nat} (h : xm_get lv 0 = some (.ref j)) : xm_run call xm_c152 nL mc ms ret Q (f + 1) (xm_drop 0 xm_c152) lv st G E kc ks = xm_run call xm_c152 nL mc ms ret Q f (xm_drop 1 xm_c152) lv (.ref j :: st) G E kc ks := by
  rw [xz_152_0, h]; rfl
theorem xy_152_3 {j : Nat} (h : xm_get lv 0 = some (.ref j)) : xm_run call xm_c152 nL mc ms ret Q (f + 1) (xm_drop 3 xm_c152) lv st G E kc ks = xm_run call xm_c152 nL mc ms ret Q f (xm_drop 4 xm_c152) lv (.ref j :: st) G E kc ks := by
  rw [xz_152_3, h]; rfl
theorem xy_152_7 {x : Int32} : xm_run call xm_c152 3 mc ms ret Q (f + 1) (xm_drop 7 xm_c152) lv (.int x :: st) G E kc ks = xm_run call xm_c152 3 mc ms ret Q f (xm_drop 8 xm_c152) (xm_set1 lv 1 (.int x)) st G E kc ks := by
  rfl
theorem xy_152_8 {x : Int32} (h : xm_get lv 1 = some (.int x)) : xm_run call xm_c152 nL mc ms ret Q (f + 1) (xm_drop 8 xm_c152) lv st G E kc ks = xm_run call xm_c152 nL mc ms ret Q f (xm_drop 9 xm_c152) lv (.int x :: st) G E kc ks := by
  rw [xz_152_8, h]; rfl
theorem xy_152_9 {x : Int32} : xm_run call xm_c152 nL mc ms ret Q (f + 1) (xm_drop 9 xm_c152) lv (.int x :: st) G E kc ks = (bif decide (x.toInt = 0) then xm_run call xm_c152 nL mc ms ret Q f (xm_drop 58 xm_c152) lv st G E kc ks else xm_run call xm_c152 nL mc ms ret Q f (xm_drop 10 xm_c152) lv st G E kc ks) := by
  rw [xz_152_9]; show xm_cmpI E (.int x) (.int 0) _ = _; rw [xc_int, xk_eq]; rfl
theorem xy_152_10 {j : Nat} (h : xm_get lv 0 = some (.ref j)) : xm_run call xm_c152 nL mc ms ret Q (f + 1) (xm_drop 10 xm_c152) lv st G E kc ks = xm_run call xm_c152 nL mc ms ret Q f (xm_drop 11 xm_c152) lv (.ref j :: st) G E kc ks := by
  rw [xz_152_10, h]; rfl
theorem xy_152_11  : xm_run call xm_c152 nL mc ms ret Q (f + 1) (xm_drop 11 xm_c152) lv st G E kc ks = xm_call call mc ms 149 0 st G E kc ks (fun st G E kc ks => xm_run call xm_c152 nL mc ms ret Q f (xm_drop 12 xm_c152) lv st G E kc ks) := by
  rw [xz_152_11, show (Nat.beq 149 1006 || Nat.beq 149 1007) = false from rfl, cond_false]
theorem xy_152_12 {x : Int32} : xm_run call xm_c152 nL mc ms ret Q (f + 1) (xm_drop 12 xm_c152) lv (.int x :: st) G E kc ks = (bif !decide (x.toInt = 0) then xm_run call xm_c152 nL mc ms ret Q f (xm_drop 15 xm_c152) lv st G E kc ks else xm_run call xm_c152 nL mc ms ret Q f (xm_drop 13 xm_c152) lv st G E kc ks) := by
  rw [xz_152_12]; show xm_cmpI E (.int x) (.int 0) _ = _; rw [xc_int, xk_ne]; rfl
theorem xy_152_14_0 : xm_run call xm_c152 nL 0 0 (some .boolean) Q (f + 1) (xm_drop 14 xm_c152) lv [.int 0] G E 0 0 = Q (some (.int 0)) G E := by
  rw [xz_152_14]; rfl
theorem xy_152_14_1 : xm_run call xm_c152 nL 0 0 (some .boolean) Q (f + 1) (xm_drop 14 xm_c152) lv [.int 1] G E 0 0 = Q (some (.int 1)) G E := by
  rw [xz_152_14]; rfl
theorem xy_152_15 {j : Nat} (h : xm_get lv 0 = some (.ref j)) : xm_run call xm_c152 nL mc ms ret Q (f + 1) (xm_drop 15 xm_c152) lv st G E kc ks = xm_run call xm_c152 nL mc ms ret Q f (xm_drop 16 xm_c152) lv (.ref j :: st) G E kc ks := by
  rw [xz_152_15, h]; rfl
theorem xy_152_16  : xm_run call xm_c152 nL mc ms ret Q (f + 1) (xm_drop 16 xm_c152) lv st G E kc ks = xm_call call mc ms 151 0 st G E kc ks (fun st G E kc ks => xm_run call xm_c152 nL mc ms ret Q f (xm_drop 17 xm_c152) lv st G E kc ks) := by
  rw [xz_152_16, show (Nat.beq 151 1006 || Nat.beq 151 1007) = false from rfl, cond_false]
theorem xy_152_17 {j : Nat} (h : xm_get lv 0 = some (.ref j)) : xm_run call xm_c152 nL mc ms ret Q (f + 1) (xm_drop 17 xm_c152) lv st G E kc ks = xm_run call xm_c152 nL mc ms ret Q f (xm_drop 18 xm_c152) lv (.ref j :: st) G E kc ks := by
  rw [xz_152_17, h]; rfl
theorem xy_152_19  : xm_run call xm_c152 nL mc ms ret Q (f + 1) (xm_drop 19 xm_c152) lv st G E kc ks = xm_call call mc ms 135 0 st G E kc ks (fun st G E kc ks => xm_run call xm_c152 nL mc ms ret Q f (xm_drop 20 xm_c152) lv st G E kc ks) := by
  rw [xz_152_19, show (Nat.beq 135 1006 || Nat.beq 135 1007) = false from rfl, cond_false]
theorem xy_152_20 {x : Int32} : xm_run call xm_c152 nL mc ms ret Q (f + 1) (xm_drop 20 xm_c152) lv (.int x :: st) G E kc ks = (bif !decide (x.toInt = 0) then xm_run call xm_c152 nL mc ms ret Q f (xm_drop 25 xm_c152) lv st G E kc ks else xm_run call xm_c152 nL mc ms ret Q f (xm_drop 21 xm_c152) lv st G E kc ks) := by
  rw [xz_152_20]; show xm_cmpI E (.int x) (.int 0) _ = _; rw [xc_int, xk_ne]; rfl
theorem xy_152_21 {j : Nat} (h : xm_get lv 0 = some (.ref j)) : xm_run call xm_c152 nL mc ms ret Q (f + 1) (xm_drop 21 xm_c152) lv st G E kc ks = xm_run call xm_c152 nL mc ms ret Q f (xm_drop 22 xm_c152) lv (.ref j :: st) G E kc ks := by
  rw [xz_152_21, h]; rfl
theorem xy_152_23  : xm_run call xm_c152 nL mc ms ret Q (f + 1) (xm_drop 23 xm_c152) lv st G E kc ks = xm_call call mc ms 135 0 st G E kc ks (fun st G E kc ks => xm_run call xm_c152 nL mc ms ret Q f (xm_drop 24 xm_c152) lv st G E kc ks) := by
  rw [xz_152_23, show (Nat.beq 135 1006 || Nat.beq 135 1007) = false from rfl, cond_false]
theorem xy_152_24 {x : Int32} : xm_run call xm_c152 nL mc ms ret Q (f + 1) (xm_drop 24 xm_c152) lv (.int x :: st) G E kc ks = (bif decide (x.toInt = 0) then xm_run call xm_c152 nL mc ms ret Q f (xm_drop 27 xm_c152) lv st G E kc ks else xm_run call xm_c152 nL mc ms ret Q f (xm_drop 25 xm_c152) lv st G E kc ks) := by
  rw [xz_152_24]; show xm_cmpI E (.int x) (.int 0) _ = _; rw [xc_int, xk_eq]; rfl
theorem xy_152_26  : xm_run call xm_c152 nL mc ms ret Q (f + 1) (xm_drop 26 xm_c152) lv st G E kc ks = xm_run call xm_c152 nL mc ms ret Q f (xm_drop 28 xm_c152) lv st G E kc ks := by
  rfl
theorem xy_152_28 {x : Int32} : xm_run call xm_c152 3 mc ms ret Q (f + 1) (xm_drop 28 xm_c152) lv (.int x :: st) G E kc ks = xm_run call xm_c152 3 mc ms ret Q f (xm_drop 29 xm_c152) (xm_set1 lv 1 (.int x)) st G E kc ks := by
  rfl
theorem xy_152_29 {x : Int32} (h : xm_get lv 1 = some (.int x)) : xm_run call xm_c152 nL mc ms ret Q (f + 1) (xm_drop 29 xm_c152) lv st G E kc ks = xm_run call xm_c152 nL mc ms ret Q f (xm_drop 30 xm_c152) lv (.int x :: st) G E kc ks := by
  rw [xz_152_29, h]; rfl
theorem xy_152_30 {x : Int32} : xm_run call xm_c152 nL mc ms ret Q (f + 1) (xm_drop 30 xm_c152) lv (.int x :: st) G E kc ks = (bif decide (x.toInt = 0) then xm_run call xm_c152 nL mc ms ret Q f (xm_drop 8 xm_c152) lv st G E kc ks else xm_run call xm_c152 nL mc ms ret Q f (xm_drop 31 xm_c152) lv st G E kc ks) := by
  rw [xz_152_30]; show xm_cmpI E (.int x) (.int 0) _ = _; rw [xc_int, xk_eq]; rfl
theorem xy_152_31 {j : Nat} (h : xm_get lv 0 = some (.ref j)) : xm_run call xm_c152 nL mc ms ret Q (f + 1) (xm_drop 31 xm_c152) lv st G E kc ks = xm_run call xm_c152 nL mc ms ret Q f (xm_drop 32 xm_c152) lv (.ref j :: st) G E kc ks := by
  rw [xz_152_31, h]; rfl
theorem xy_152_33  : xm_run call xm_c152 nL mc ms ret Q (f + 1) (xm_drop 33 xm_c152) lv st G E kc ks = xm_call call mc ms 135 0 st G E kc ks (fun st G E kc ks => xm_run call xm_c152 nL mc ms ret Q f (xm_drop 34 xm_c152) lv st G E kc ks) := by
  rw [xz_152_33, show (Nat.beq 135 1006 || Nat.beq 135 1007) = false from rfl, cond_false]
theorem xy_152_34 {x : Int32} : xm_run call xm_c152 nL mc ms ret Q (f + 1) (xm_drop 34 xm_c152) lv (.int x :: st) G E kc ks = (bif decide (x.toInt = 0) then xm_run call xm_c152 nL mc ms ret Q f (xm_drop 37 xm_c152) lv st G E kc ks else xm_run call xm_c152 nL mc ms ret Q f (xm_drop 35 xm_c152) lv st G E kc ks) := by
  rw [xz_152_34]; show xm_cmpI E (.int x) (.int 0) _ = _; rw [xc_int, xk_eq]; rfl
theorem xy_152_36  : xm_run call xm_c152 nL mc ms ret Q (f + 1) (xm_drop 36 xm_c152) lv st G E kc ks = xm_run call xm_c152 nL mc ms ret Q f (xm_drop 38 xm_c152) lv st G E kc ks := by
  rfl
theorem xy_152_38 {x : Int32} : xm_run call xm_c152 3 mc ms ret Q (f + 1) (xm_drop 38 xm_c152) lv (.int x :: st) G E kc ks = xm_run call xm_c152 3 mc ms ret Q f (xm_drop 39 xm_c152) (xm_set1 lv 2 (.int x)) st G E kc ks := by
  rfl
theorem xy_152_39 {j : Nat} (h : xm_get lv 0 = some (.ref j)) : xm_run call xm_c152 nL mc ms ret Q (f + 1) (xm_drop 39 xm_c152) lv st G E kc ks = xm_run call xm_c152 nL mc ms ret Q f (xm_drop 40 xm_c152) lv (.ref j :: st) G E kc ks := by
  rw [xz_152_39, h]; rfl
theorem xy_152_40  : xm_run call xm_c152 nL mc ms ret Q (f + 1) (xm_drop 40 xm_c152) lv st G E kc ks = xm_call call mc ms 136 0 st G E kc ks (fun st G E kc ks => xm_run call xm_c152 nL mc ms ret Q f (xm_drop 41 xm_c152) lv st G E kc ks) := by
  rw [xz_152_40, show (Nat.beq 136 1006 || Nat.beq 136 1007) = false from rfl, cond_false]
theorem xy_152_41 {j : Nat} (h : xm_get lv 0 = some (.ref j)) : xm_run call xm_c152 nL mc ms ret Q (f + 1) (xm_drop 41 xm_c152) lv st G E kc ks = xm_run call xm_c152 nL mc ms ret Q f (xm_drop 42 xm_c152) lv (.ref j :: st) G E kc ks := by
  rw [xz_152_41, h]; rfl
theorem xy_152_42 {x : Int32} (h : xm_get lv 2 = some (.int x)) : xm_run call xm_c152 nL mc ms ret Q (f + 1) (xm_drop 42 xm_c152) lv st G E kc ks = xm_run call xm_c152 nL mc ms ret Q f (xm_drop 43 xm_c152) lv (.int x :: st) G E kc ks := by
  rw [xz_152_42, h]; rfl
theorem xy_152_43  : xm_run call xm_c152 nL mc ms ret Q (f + 1) (xm_drop 43 xm_c152) lv st G E kc ks = xm_call call mc ms 143 1 st G E kc ks (fun st G E kc ks => xm_run call xm_c152 nL mc ms ret Q f (xm_drop 44 xm_c152) lv st G E kc ks) := by
  rw [xz_152_43, show Nat.beq 143 1001 = false from rfl, show (Nat.beq 143 1003 || (Nat.beq 143 1004 || Nat.beq 143 1005)) = false from rfl, show Nat.beq 1 3 = false from rfl, cond_false, cond_false, cond_false]
theorem xy_152_44  : xm_run call xm_c152 nL mc ms ret Q (f + 1) (xm_drop 44 xm_c152) lv st G E kc ks = xm_call call mc ms 144 0 st G E kc ks (fun st G E kc ks => xm_run call xm_c152 nL mc ms ret Q f (xm_drop 45 xm_c152) lv st G E kc ks) := by
  rw [xz_152_44, show (Nat.beq 144 1006 || Nat.beq 144 1007) = false from rfl, cond_false]
theorem xy_152_45 {j : Nat} (h : xm_get lv 0 = some (.ref j)) : xm_run call xm_c152 nL mc ms ret Q (f + 1) (xm_drop 45 xm_c152) lv st G E kc ks = xm_run call xm_c152 nL mc ms ret Q f (xm_drop 46 xm_c152) lv (.ref j :: st) G E kc ks := by
  rw [xz_152_45, h]; rfl
theorem xy_152_47 {j : Nat} (h : xm_get lv 0 = some (.ref j)) : xm_run call xm_c152 nL mc ms ret Q (f + 1) (xm_drop 47 xm_c152) lv st G E kc ks = xm_run call xm_c152 nL mc ms ret Q f (xm_drop 48 xm_c152) lv (.ref j :: st) G E kc ks := by
  rw [xz_152_47, h]; rfl
theorem xy_152_49 {x : Int32} (h : xm_get lv 2 = some (.int x)) : xm_run call xm_c152 nL mc ms ret Q (f + 1) (xm_drop 49 xm_c152) lv st G E kc ks = xm_run call xm_c152 nL mc ms ret Q f (xm_drop 50 xm_c152) lv (.int x :: st) G E kc ks := by
  rw [xz_152_49, h]; rfl
theorem xy_152_51 {j : Nat} (h : xm_get lv 0 = some (.ref j)) : xm_run call xm_c152 nL mc ms ret Q (f + 1) (xm_drop 51 xm_c152) lv st G E kc ks = xm_run call xm_c152 nL mc ms ret Q f (xm_drop 52 xm_c152) lv (.ref j :: st) G E kc ks := by
  rw [xz_152_51, h]; rfl
theorem xy_152_52 {j : Nat} : xm_run call xm_c152 nL mc ms ret Q (f + 1) (xm_drop 52 xm_c152) lv (.ref j :: st) G E kc ks = xm_run call xm_c152 nL mc ms ret Q f (xm_drop 53 xm_c152) lv (.ref j :: .ref j :: st) G E kc ks := by
  rfl
theorem xy_152_55 {x y : Int32} : xm_run call xm_c152 nL mc ms ret Q (f + 1) (xm_drop 55 xm_c152) lv (.int y :: .int x :: st) G E kc ks = xm_run call xm_c152 nL mc ms ret Q f (xm_drop 56 xm_c152) lv (.int (x + y) :: st) G E kc ks := by
  rw [xz_152_55, xk_add]
theorem xy_152_57  : xm_run call xm_c152 nL mc ms ret Q (f + 1) (xm_drop 57 xm_c152) lv st G E kc ks = xm_run call xm_c152 nL mc ms ret Q f (xm_drop 8 xm_c152) lv st G E kc ks := by
  rfl
theorem xy_152_58 {j : Nat} (h : xm_get lv 0 = some (.ref j)) : xm_run call xm_c152 nL mc ms ret Q (f + 1) (xm_drop 58 xm_c152) lv st G E kc ks = xm_run call xm_c152 nL mc ms ret Q f (xm_drop 59 xm_c152) lv (.ref j :: st) G E kc ks := by
  rw [xz_152_58, h]; rfl
theorem xy_152_59  : xm_run call xm_c152 nL mc ms ret Q (f + 1) (xm_drop 59 xm_c152) lv st G E kc ks = xm_call call mc ms 150 0 st G E kc ks (fun st G E kc ks => xm_run call xm_c152 nL mc ms ret Q f (xm_drop 60 xm_c152) lv st G E kc ks) := by
  rw [xz_152_59, show (Nat.beq 150 1006 || Nat.beq 150 1007) = false from rfl, cond_false]
theorem xy_152_60 {x : Int32} : xm_run call xm_c152 nL mc ms ret Q (f + 1) (xm_drop 60 xm_c152) lv (.int x :: st) G E kc ks = (bif decide (x.toInt = 0) then xm_run call xm_c152 nL mc ms ret Q f (xm_drop 70 xm_c152) lv st G E kc ks else xm_run call xm_c152 nL mc ms ret Q f (xm_drop 61 xm_c152) lv st G E kc ks) := by
  rw [xz_152_60]; show xm_cmpI E (.int x) (.int 0) _ = _; rw [xc_int, xk_eq]; rfl
theorem xy_152_61 {j : Nat} (h : xm_get lv 0 = some (.ref j)) : xm_run call xm_c152 nL mc ms ret Q (f + 1) (xm_drop 61 xm_c152) lv st G E kc ks = xm_run call xm_c152 nL mc ms ret Q f (xm_drop 62 xm_c152) lv (.ref j :: st) G E kc ks := by
  rw [xz_152_61, h]; rfl
theorem xy_152_62  : xm_run call xm_c152 nL mc ms ret Q (f + 1) (xm_drop 62 xm_c152) lv st G E kc ks = xm_call call mc ms 132 0 st G E kc ks (fun st G E kc ks => xm_run call xm_c152 nL mc ms ret Q f (xm_drop 63 xm_c152) lv st G E kc ks) := by
  rw [xz_152_62, show (Nat.beq 132 1006 || Nat.beq 132 1007) = false from rfl, cond_false]
theorem xy_152_63 {x : Int32} : xm_run call xm_c152 nL mc ms ret Q (f + 1) (xm_drop 63 xm_c152) lv (.int x :: st) G E kc ks = xm_run call xm_c152 nL mc ms ret Q f (xm_drop 64 xm_c152) lv st G E kc ks := by
  rfl
theorem xy_152_64 {j : Nat} (h : xm_get lv 0 = some (.ref j)) : xm_run call xm_c152 nL mc ms ret Q (f + 1) (xm_drop 64 xm_c152) lv st G E kc ks = xm_run call xm_c152 nL mc ms ret Q f (xm_drop 65 xm_c152) lv (.ref j :: st) G E kc ks := by
  rw [xz_152_64, h]; rfl
theorem xy_152_66 {j : Nat} (h : xm_get lv 0 = some (.ref j)) : xm_run call xm_c152 nL mc ms ret Q (f + 1) (xm_drop 66 xm_c152) lv st G E kc ks = xm_run call xm_c152 nL mc ms ret Q f (xm_drop 67 xm_c152) lv (.ref j :: st) G E kc ks := by
  rw [xz_152_66, h]; rfl
theorem xy_152_68  : xm_run call xm_c152 nL mc ms ret Q (f + 1) (xm_drop 68 xm_c152) lv st G E kc ks = xm_call call mc ms 131 0 st G E kc ks (fun st G E kc ks => xm_run call xm_c152 nL mc ms ret Q f (xm_drop 69 xm_c152) lv st G E kc ks) := by
  rw [xz_152_68, show (Nat.beq 131 1006 || Nat.beq 131 1007) = false from rfl, cond_false]
theorem xy_152_69_0 : xm_run call xm_c152 nL 0 0 (some .boolean) Q (f + 1) (xm_drop 69 xm_c152) lv [.int 0] G E 0 0 = Q (some (.int 0)) G E := by
  rw [xz_152_69]; rfl
theorem xy_152_69_1 : xm_run call xm_c152 nL 0 0 (some .boolean) Q (f + 1) (xm_drop 69 xm_c152) lv [.int 1] G E 0 0 = Q (some (.int 1)) G E := by
  rw [xz_152_69]; rfl
theorem xy_152_70 {j : Nat} (h : xm_get lv 0 = some (.ref j)) : xm_run call xm_c152 nL mc ms ret Q (f + 1) (xm_drop 70 xm_c152) lv st G E kc ks = xm_run call xm_c152 nL mc ms ret Q f (xm_drop 71 xm_c152) lv (.ref j :: st) G E kc ks := by
  rw [xz_152_70, h]; rfl
theorem xy_152_72  : xm_run call xm_c152 nL mc ms ret Q (f + 1) (xm_drop 72 xm_c152) lv st G E kc ks = xm_call call mc ms 144 0 st G E kc ks (fun st G E kc ks => xm_run call xm_c152 nL mc ms ret Q f (xm_drop 73 xm_c152) lv st G E kc ks) := by
  rw [xz_152_72, show (Nat.beq 144 1006 || Nat.beq 144 1007) = false from rfl, cond_false]
theorem xy_152_74_0 : xm_run call xm_c152 nL 0 0 (some .boolean) Q (f + 1) (xm_drop 74 xm_c152) lv [.int 0] G E 0 0 = Q (some (.int 0)) G E := by
  rw [xz_152_74]; rfl
theorem xy_152_74_1 : xm_run call xm_c152 nL 0 0 (some .boolean) Q (f + 1) (xm_drop 74 xm_c152) lv [.int 1] G E 0 0 = Q (some (.int 1)) G E := by
  rw [xz_152_74]; rfl
theorem xy_153_0 {j : Nat} (h : xm_get lv 0 = some (.ref j)) : xm_run call xm_c153 nL mc ms ret Q (f + 1) (xm_drop 0 xm_c153) lv st G E kc ks = xm_run call xm_c153 nL mc ms ret Q f (xm_drop 1 xm_c153) lv (.ref j :: st) G E kc ks := by
  rw [xz_153_0, h]; rfl
theorem xy_153_1  : xm_run call xm_c153 nL mc ms ret Q (f + 1) (xm_drop 1 xm_c153) lv st G E kc ks = xm_call call mc ms 136 0 st G E kc ks (fun st G E kc ks => xm_run call xm_c153 nL mc ms ret Q f (xm_drop 2 xm_c153) lv st G E kc ks) := by
  rw [xz_153_1, show (Nat.beq 136 1006 || Nat.beq 136 1007) = false from rfl, cond_false]
theorem xy_153_3 {j : Nat} (h : xm_get lv 0 = some (.ref j)) : xm_run call xm_c153 nL mc ms ret Q (f + 1) (xm_drop 3 xm_c153) lv st G E kc ks = xm_run call xm_c153 nL mc ms ret Q f (xm_drop 4 xm_c153) lv (.ref j :: st) G E kc ks := by
  rw [xz_153_3, h]; rfl
theorem xy_153_5 {x y : Int32} : xm_run call xm_c153 nL mc ms ret Q (f + 1) (xm_drop 5 xm_c153) lv (.int y :: .int x :: st) G E kc ks = xm_run call xm_c153 nL mc ms ret Q f (xm_drop 6 xm_c153) lv (.int (x * y) :: st) G E kc ks := by
  rw [xz_153_5, xk_mul]
theorem xy_153_7 {j : Nat} (h : xm_get lv 0 = some (.ref j)) : xm_run call xm_c153 nL mc ms ret Q (f + 1) (xm_drop 7 xm_c153) lv st G E kc ks = xm_run call xm_c153 nL mc ms ret Q f (xm_drop 8 xm_c153) lv (.ref j :: st) G E kc ks := by
  rw [xz_153_7, h]; rfl
theorem xy_153_9 {j : Nat} (h : xm_get lv 0 = some (.ref j)) : xm_run call xm_c153 nL mc ms ret Q (f + 1) (xm_drop 9 xm_c153) lv st G E kc ks = xm_run call xm_c153 nL mc ms ret Q f (xm_drop 10 xm_c153) lv (.ref j :: st) G E kc ks := by
  rw [xz_153_9, h]; rfl
theorem xy_153_12 {x y : Int32} : xm_run call xm_c153 nL mc ms ret Q (f + 1) (xm_drop 12 xm_c153) lv (.int y :: .int x :: st) G E kc ks = xm_run call xm_c153 nL mc ms ret Q f (xm_drop 13 xm_c153) lv (.int (x * y) :: st) G E kc ks := by
  rw [xz_153_12, xk_mul]
theorem xy_153_13 {x y : Int32} : xm_run call xm_c153 nL mc ms ret Q (f + 1) (xm_drop 13 xm_c153) lv (.int y :: .int x :: st) G E kc ks = xm_run call xm_c153 nL mc ms ret Q f (xm_drop 14 xm_c153) lv (.int (x + y) :: st) G E kc ks := by
  rw [xz_153_13, xk_add]
theorem xy_153_14 {x : Int32} : xm_run call xm_c153 2 mc ms ret Q (f + 1) (xm_drop 14 xm_c153) lv (.int x :: st) G E kc ks = xm_run call xm_c153 2 mc ms ret Q f (xm_drop 15 xm_c153) (xm_set1 lv 1 (.int x)) st G E kc ks := by
  rfl
theorem xy_153_15 {j : Nat} (h : xm_get lv 0 = some (.ref j)) : xm_run call xm_c153 nL mc ms ret Q (f + 1) (xm_drop 15 xm_c153) lv st G E kc ks = xm_run call xm_c153 nL mc ms ret Q f (xm_drop 16 xm_c153) lv (.ref j :: st) G E kc ks := by
  rw [xz_153_15, h]; rfl
theorem xy_153_17 {x : Int32} (h : xm_get lv 1 = some (.int x)) : xm_run call xm_c153 nL mc ms ret Q (f + 1) (xm_drop 17 xm_c153) lv st G E kc ks = xm_run call xm_c153 nL mc ms ret Q f (xm_drop 18 xm_c153) lv (.int x :: st) G E kc ks := by
  rw [xz_153_17, h]; rfl
theorem xy_153_18 {j : Nat} (h : xm_get lv 0 = some (.ref j)) : xm_run call xm_c153 nL mc ms ret Q (f + 1) (xm_drop 18 xm_c153) lv st G E kc ks = xm_run call xm_c153 nL mc ms ret Q f (xm_drop 19 xm_c153) lv (.ref j :: st) G E kc ks := by
  rw [xz_153_18, h]; rfl
theorem xy_153_20 {j : Nat} (h : xm_get lv 0 = some (.ref j)) : xm_run call xm_c153 nL mc ms ret Q (f + 1) (xm_drop 20 xm_c153) lv st G E kc ks = xm_run call xm_c153 nL mc ms ret Q f (xm_drop 21 xm_c153) lv (.ref j :: st) G E kc ks := by
  rw [xz_153_20, h]; rfl
theorem xy_153_24 {j : Nat} (h : xm_get lv 0 = some (.ref j)) : xm_run call xm_c153 nL mc ms ret Q (f + 1) (xm_drop 24 xm_c153) lv st G E kc ks = xm_run call xm_c153 nL mc ms ret Q f (xm_drop 25 xm_c153) lv (.ref j :: st) G E kc ks := by
  rw [xz_153_24, h]; rfl
theorem xy_153_25  : xm_run call xm_c153 nL mc ms ret Q (f + 1) (xm_drop 25 xm_c153) lv st G E kc ks = xm_call call mc ms 147 0 st G E kc ks (fun st G E kc ks => xm_run call xm_c153 nL mc ms ret Q f (xm_drop 26 xm_c153) lv st G E kc ks) := by
  rw [xz_153_25, show (Nat.beq 147 1006 || Nat.beq 147 1007) = false from rfl, cond_false]
theorem xy_153_26 {x : Int32} : xm_run call xm_c153 nL mc ms ret Q (f + 1) (xm_drop 26 xm_c153) lv (.int x :: st) G E kc ks = (bif !decide (x.toInt = 0) then xm_run call xm_c153 nL mc ms ret Q f (xm_drop 29 xm_c153) lv st G E kc ks else xm_run call xm_c153 nL mc ms ret Q f (xm_drop 27 xm_c153) lv st G E kc ks) := by
  rw [xz_153_26]; show xm_cmpI E (.int x) (.int 0) _ = _; rw [xc_int, xk_ne]; rfl
theorem xy_153_28_0 : xm_run call xm_c153 nL 0 0 (some .boolean) Q (f + 1) (xm_drop 28 xm_c153) lv [.int 0] G E 0 0 = Q (some (.int 0)) G E := by
  rw [xz_153_28]; rfl
theorem xy_153_28_1 : xm_run call xm_c153 nL 0 0 (some .boolean) Q (f + 1) (xm_drop 28 xm_c153) lv [.int 1] G E 0 0 = Q (some (.int 1)) G E := by
  rw [xz_153_28]; rfl
theorem xy_153_29 {j : Nat} (h : xm_get lv 0 = some (.ref j)) : xm_run call xm_c153 nL mc ms ret Q (f + 1) (xm_drop 29 xm_c153) lv st G E kc ks = xm_run call xm_c153 nL mc ms ret Q f (xm_drop 30 xm_c153) lv (.ref j :: st) G E kc ks := by
  rw [xz_153_29, h]; rfl
theorem xy_153_31 {x : Int32} (h : xm_get lv 1 = some (.int x)) : xm_run call xm_c153 nL mc ms ret Q (f + 1) (xm_drop 31 xm_c153) lv st G E kc ks = xm_run call xm_c153 nL mc ms ret Q f (xm_drop 32 xm_c153) lv (.int x :: st) G E kc ks := by
  rw [xz_153_31, h]; rfl
theorem xy_153_33 {x y : Int32} : xm_run call xm_c153 nL mc ms ret Q (f + 1) (xm_drop 33 xm_c153) lv (.int y :: .int x :: st) G E kc ks = xm_run call xm_c153 nL mc ms ret Q f (xm_drop 34 xm_c153) lv (.int (x + y) :: st) G E kc ks := by
  rw [xz_153_33, xk_add]
theorem xy_153_34 {j : Nat} (h : xm_get lv 0 = some (.ref j)) : xm_run call xm_c153 nL mc ms ret Q (f + 1) (xm_drop 34 xm_c153) lv st G E kc ks = xm_run call xm_c153 nL mc ms ret Q f (xm_drop 35 xm_c153) lv (.ref j :: st) G E kc ks := by
  rw [xz_153_34, h]; rfl
theorem xy_153_36 {j : Nat} (h : xm_get lv 0 = some (.ref j)) : xm_run call xm_c153 nL mc ms ret Q (f + 1) (xm_drop 36 xm_c153) lv st G E kc ks = xm_run call xm_c153 nL mc ms ret Q f (xm_drop 37 xm_c153) lv (.ref j :: st) G E kc ks := by
  rw [xz_153_36, h]; rfl
theorem xy_153_40 {j : Nat} (h : xm_get lv 0 = some (.ref j)) : xm_run call xm_c153 nL mc ms ret Q (f + 1) (xm_drop 40 xm_c153) lv st G E kc ks = xm_run call xm_c153 nL mc ms ret Q f (xm_drop 41 xm_c153) lv (.ref j :: st) G E kc ks := by
  rw [xz_153_40, h]; rfl
theorem xy_153_42 {x : Int32} (h : xm_get lv 1 = some (.int x)) : xm_run call xm_c153 nL mc ms ret Q (f + 1) (xm_drop 42 xm_c153) lv st G E kc ks = xm_run call xm_c153 nL mc ms ret Q f (xm_drop 43 xm_c153) lv (.int x :: st) G E kc ks := by
  rw [xz_153_42, h]; rfl
theorem xy_153_44 {x y : Int32} : xm_run call xm_c153 nL mc ms ret Q (f + 1) (xm_drop 44 xm_c153) lv (.int y :: .int x :: st) G E kc ks = xm_run call xm_c153 nL mc ms ret Q f (xm_drop 45 xm_c153) lv (.int (x + y) :: st) G E kc ks := by
  rw [xz_153_44, xk_add]
theorem xy_153_47 {j : Nat} (h : xm_get lv 0 = some (.ref j)) : xm_run call xm_c153 nL mc ms ret Q (f + 1) (xm_drop 47 xm_c153) lv st G E kc ks = xm_run call xm_c153 nL mc ms ret Q f (xm_drop 48 xm_c153) lv (.ref j :: st) G E kc ks := by
  rw [xz_153_47, h]; rfl
theorem xy_153_49  : xm_run call xm_c153 nL mc ms ret Q (f + 1) (xm_drop 49 xm_c153) lv st G E kc ks = xm_call call mc ms 137 0 st G E kc ks (fun st G E kc ks => xm_run call xm_c153 nL mc ms ret Q f (xm_drop 50 xm_c153) lv st G E kc ks) := by
  rw [xz_153_49, show (Nat.beq 137 1006 || Nat.beq 137 1007) = false from rfl, cond_false]
theorem xy_153_50 {x : Int32} : xm_run call xm_c153 nL mc ms ret Q (f + 1) (xm_drop 50 xm_c153) lv (.int x :: st) G E kc ks = (bif decide (x.toInt = 0) then xm_run call xm_c153 nL mc ms ret Q f (xm_drop 67 xm_c153) lv st G E kc ks else xm_run call xm_c153 nL mc ms ret Q f (xm_drop 51 xm_c153) lv st G E kc ks) := by
  rw [xz_153_50]; show xm_cmpI E (.int x) (.int 0) _ = _; rw [xc_int, xk_eq]; rfl
theorem xy_153_51 {j : Nat} (h : xm_get lv 0 = some (.ref j)) : xm_run call xm_c153 nL mc ms ret Q (f + 1) (xm_drop 51 xm_c153) lv st G E kc ks = xm_run call xm_c153 nL mc ms ret Q f (xm_drop 52 xm_c153) lv (.ref j :: st) G E kc ks := by
  rw [xz_153_51, h]; rfl
theorem xy_153_53 {x : Int32} (h : xm_get lv 1 = some (.int x)) : xm_run call xm_c153 nL mc ms ret Q (f + 1) (xm_drop 53 xm_c153) lv st G E kc ks = xm_run call xm_c153 nL mc ms ret Q f (xm_drop 54 xm_c153) lv (.int x :: st) G E kc ks := by
  rw [xz_153_53, h]; rfl
theorem xy_153_55 {x y : Int32} : xm_run call xm_c153 nL mc ms ret Q (f + 1) (xm_drop 55 xm_c153) lv (.int y :: .int x :: st) G E kc ks = xm_run call xm_c153 nL mc ms ret Q f (xm_drop 56 xm_c153) lv (.int (x + y) :: st) G E kc ks := by
  rw [xz_153_55, xk_add]
theorem xy_153_56 {j : Nat} (h : xm_get lv 0 = some (.ref j)) : xm_run call xm_c153 nL mc ms ret Q (f + 1) (xm_drop 56 xm_c153) lv st G E kc ks = xm_run call xm_c153 nL mc ms ret Q f (xm_drop 57 xm_c153) lv (.ref j :: st) G E kc ks := by
  rw [xz_153_56, h]; rfl
theorem xy_153_58 {j : Nat} (h : xm_get lv 0 = some (.ref j)) : xm_run call xm_c153 nL mc ms ret Q (f + 1) (xm_drop 58 xm_c153) lv st G E kc ks = xm_run call xm_c153 nL mc ms ret Q f (xm_drop 59 xm_c153) lv (.ref j :: st) G E kc ks := by
  rw [xz_153_58, h]; rfl
theorem xy_153_62 {j : Nat} (h : xm_get lv 0 = some (.ref j)) : xm_run call xm_c153 nL mc ms ret Q (f + 1) (xm_drop 62 xm_c153) lv st G E kc ks = xm_run call xm_c153 nL mc ms ret Q f (xm_drop 63 xm_c153) lv (.ref j :: st) G E kc ks := by
  rw [xz_153_62, h]; rfl
theorem xy_153_63  : xm_run call xm_c153 nL mc ms ret Q (f + 1) (xm_drop 63 xm_c153) lv st G E kc ks = xm_call call mc ms 152 0 st G E kc ks (fun st G E kc ks => xm_run call xm_c153 nL mc ms ret Q f (xm_drop 64 xm_c153) lv st G E kc ks) := by
  rw [xz_153_63, show (Nat.beq 152 1006 || Nat.beq 152 1007) = false from rfl, cond_false]
theorem xy_153_64 {x : Int32} : xm_run call xm_c153 nL mc ms ret Q (f + 1) (xm_drop 64 xm_c153) lv (.int x :: st) G E kc ks = (bif !decide (x.toInt = 0) then xm_run call xm_c153 nL mc ms ret Q f (xm_drop 67 xm_c153) lv st G E kc ks else xm_run call xm_c153 nL mc ms ret Q f (xm_drop 65 xm_c153) lv st G E kc ks) := by
  rw [xz_153_64]; show xm_cmpI E (.int x) (.int 0) _ = _; rw [xc_int, xk_ne]; rfl
theorem xy_153_66_0 : xm_run call xm_c153 nL 0 0 (some .boolean) Q (f + 1) (xm_drop 66 xm_c153) lv [.int 0] G E 0 0 = Q (some (.int 0)) G E := by
  rw [xz_153_66]; rfl
theorem xy_153_66_1 : xm_run call xm_c153 nL 0 0 (some .boolean) Q (f + 1) (xm_drop 66 xm_c153) lv [.int 1] G E 0 0 = Q (some (.int 1)) G E := by
  rw [xz_153_66]; rfl
theorem xy_153_67 {j : Nat} (h : xm_get lv 0 = some (.ref j)) : xm_run call xm_c153 nL mc ms ret Q (f + 1) (xm_drop 67 xm_c153) lv st G E kc ks = xm_run call xm_c153 nL mc ms ret Q f (xm_drop 68 xm_c153) lv (.ref j :: st) G E kc ks := by
  rw [xz_153_67, h]; rfl
theorem xy_153_69 {x : Int32} (h : xm_get lv 1 = some (.int x)) : xm_run call xm_c153 nL mc ms ret Q (f + 1) (xm_drop 69 xm_c153) lv st G E kc ks = xm_run call xm_c153 nL mc ms ret Q f (xm_drop 70 xm_c153) lv (.int x :: st) G E kc ks := by
  rw [xz_153_69, h]; rfl
theorem xy_153_71 {x y : Int32} : xm_run call xm_c153 nL mc ms ret Q (f + 1) (xm_drop 71 xm_c153) lv (.int y :: .int x :: st) G E kc ks = xm_run call xm_c153 nL mc ms ret Q f (xm_drop 72 xm_c153) lv (.int (x + y) :: st) G E kc ks := by
  rw [xz_153_71, xk_add]
theorem xy_153_72 {j : Nat} (h : xm_get lv 0 = some (.ref j)) : xm_run call xm_c153 nL mc ms ret Q (f + 1) (xm_drop 72 xm_c153) lv st G E kc ks = xm_run call xm_c153 nL mc ms ret Q f (xm_drop 73 xm_c153) lv (.ref j :: st) G E kc ks := by
  rw [xz_153_72, h]; rfl
theorem xy_153_74 {j : Nat} (h : xm_get lv 0 = some (.ref j)) : xm_run call xm_c153 nL mc ms ret Q (f + 1) (xm_drop 74 xm_c153) lv st G E kc ks = xm_run call xm_c153 nL mc ms ret Q f (xm_drop 75 xm_c153) lv (.ref j :: st) G E kc ks := by
  rw [xz_153_74, h]; rfl
theorem xy_153_78 {j : Nat} (h : xm_get lv 0 = some (.ref j)) : xm_run call xm_c153 nL mc ms ret Q (f + 1) (xm_drop 78 xm_c153) lv st G E kc ks = xm_run call xm_c153 nL mc ms ret Q f (xm_drop 79 xm_c153) lv (.ref j :: st) G E kc ks := by
  rw [xz_153_78, h]; rfl
theorem xy_153_80 {j : Nat} (h : xm_get lv 0 = some (.ref j)) : xm_run call xm_c153 nL mc ms ret Q (f + 1) (xm_drop 80 xm_c153) lv st G E kc ks = xm_run call xm_c153 nL mc ms ret Q f (xm_drop 81 xm_c153) lv (.ref j :: st) G E kc ks := by
  rw [xz_153_80, h]; rfl
theorem xy_153_82 {x : Int32} {j : Nat} : xm_run call xm_c153 nL mc ms ret Q (f + 1) (xm_drop 82 xm_c153) lv (.int x :: .ref j :: st) G E kc ks = xm_run call xm_c153 nL mc ms ret Q f (xm_drop 83 xm_c153) lv (.int x :: .ref j :: .int x :: .ref j :: st) G E kc ks := by
  rfl
theorem xy_153_85 {x y : Int32} : xm_run call xm_c153 nL mc ms ret Q (f + 1) (xm_drop 85 xm_c153) lv (.int y :: .int x :: st) G E kc ks = xm_run call xm_c153 nL mc ms ret Q f (xm_drop 86 xm_c153) lv (.int (x + y) :: st) G E kc ks := by
  rw [xz_153_85, xk_add]
theorem xy_153_88_0 : xm_run call xm_c153 nL 0 0 (some .boolean) Q (f + 1) (xm_drop 88 xm_c153) lv [.int 0] G E 0 0 = Q (some (.int 0)) G E := by
  rw [xz_153_88]; rfl
theorem xy_153_88_1 : xm_run call xm_c153 nL 0 0 (some .boolean) Q (f + 1) (xm_drop 88 xm_c153) lv [.int 1] G E 0 0 = Q (some (.int 1)) G E := by
  rw [xz_153_88]; rfl
theorem xy_166_0 {j : Nat} (h : xm_get lv 0 = some (.ref j)) : xm_run call xm_c166 nL mc ms ret Q (f + 1) (xm_drop 0 xm_c166) lv st G E kc ks = xm_run call xm_c166 nL mc ms ret Q f (xm_drop 1 xm_c166) lv (.ref j :: st) G E kc ks := by
  rw [xz_166_0, h]; rfl
theorem xy_166_1  : xm_run call xm_c166 nL mc ms ret Q (f + 1) (xm_drop 1 xm_c166) lv st G E kc ks = xm_call call mc ms 132 0 st G E kc ks (fun st G E kc ks => xm_run call xm_c166 nL mc ms ret Q f (xm_drop 2 xm_c166) lv st G E kc ks) := by
  rw [xz_166_1, show (Nat.beq 132 1006 || Nat.beq 132 1007) = false from rfl, cond_false]
theorem xy_166_2 {x : Int32} : xm_run call xm_c166 nL mc ms ret Q (f + 1) (xm_drop 2 xm_c166) lv (.int x :: st) G E kc ks = xm_run call xm_c166 nL mc ms ret Q f (xm_drop 3 xm_c166) lv st G E kc ks := by
  rfl
theorem xy_166_3 {j : Nat} (h : xm_get lv 0 = some (.ref j)) : xm_run call xm_c166 nL mc ms ret Q (f + 1) (xm_drop 3 xm_c166) lv st G E kc ks = xm_run call xm_c166 nL mc ms ret Q f (xm_drop 4 xm_c166) lv (.ref j :: st) G E kc ks := by
  rw [xz_166_3, h]; rfl
theorem xy_166_5 {x : Int32} : xm_run call xm_c166 3 mc ms ret Q (f + 1) (xm_drop 5 xm_c166) lv (.int x :: st) G E kc ks = xm_run call xm_c166 3 mc ms ret Q f (xm_drop 6 xm_c166) (xm_set1 lv 1 (.int x)) st G E kc ks := by
  rfl
theorem xy_166_6 {j : Nat} (h : xm_get lv 0 = some (.ref j)) : xm_run call xm_c166 nL mc ms ret Q (f + 1) (xm_drop 6 xm_c166) lv st G E kc ks = xm_run call xm_c166 nL mc ms ret Q f (xm_drop 7 xm_c166) lv (.ref j :: st) G E kc ks := by
  rw [xz_166_6, h]; rfl
theorem xy_166_9 {x y : Int32} : xm_run call xm_c166 nL mc ms ret Q (f + 1) (xm_drop 9 xm_c166) lv (.int y :: .int x :: st) G E kc ks = (bif !decide (x.toInt = y.toInt) then xm_run call xm_c166 nL mc ms ret Q f (xm_drop 12 xm_c166) lv st G E kc ks else xm_run call xm_c166 nL mc ms ret Q f (xm_drop 10 xm_c166) lv st G E kc ks) := by
  rw [xz_166_9]; show xm_cmpI E (.int x) (.int y) _ = _; rw [xc_int, xk_ne]
theorem xy_166_11  : xm_run call xm_c166 nL mc ms ret Q (f + 1) (xm_drop 11 xm_c166) lv st G E kc ks = xm_run call xm_c166 nL mc ms ret Q f (xm_drop 13 xm_c166) lv st G E kc ks := by
  rfl
theorem xy_166_13 {x : Int32} : xm_run call xm_c166 3 mc ms ret Q (f + 1) (xm_drop 13 xm_c166) lv (.int x :: st) G E kc ks = xm_run call xm_c166 3 mc ms ret Q f (xm_drop 14 xm_c166) (xm_set1 lv 2 (.int x)) st G E kc ks := by
  rfl
theorem xy_166_14 {x : Int32} (h : xm_get lv 2 = some (.int x)) : xm_run call xm_c166 nL mc ms ret Q (f + 1) (xm_drop 14 xm_c166) lv st G E kc ks = xm_run call xm_c166 nL mc ms ret Q f (xm_drop 15 xm_c166) lv (.int x :: st) G E kc ks := by
  rw [xz_166_14, h]; rfl
theorem xy_166_15 {x : Int32} : xm_run call xm_c166 nL mc ms ret Q (f + 1) (xm_drop 15 xm_c166) lv (.int x :: st) G E kc ks = (bif decide (x.toInt = 0) then xm_run call xm_c166 nL mc ms ret Q f (xm_drop 20 xm_c166) lv st G E kc ks else xm_run call xm_c166 nL mc ms ret Q f (xm_drop 16 xm_c166) lv st G E kc ks) := by
  rw [xz_166_15]; show xm_cmpI E (.int x) (.int 0) _ = _; rw [xc_int, xk_eq]; rfl
theorem xy_166_16 {j : Nat} (h : xm_get lv 0 = some (.ref j)) : xm_run call xm_c166 nL mc ms ret Q (f + 1) (xm_drop 16 xm_c166) lv st G E kc ks = xm_run call xm_c166 nL mc ms ret Q f (xm_drop 17 xm_c166) lv (.ref j :: st) G E kc ks := by
  rw [xz_166_16, h]; rfl
theorem xy_166_17  : xm_run call xm_c166 nL mc ms ret Q (f + 1) (xm_drop 17 xm_c166) lv st G E kc ks = xm_call call mc ms 165 0 st G E kc ks (fun st G E kc ks => xm_run call xm_c166 nL mc ms ret Q f (xm_drop 18 xm_c166) lv st G E kc ks) := by
  rw [xz_166_17, show (Nat.beq 165 1006 || Nat.beq 165 1007) = false from rfl, cond_false]
theorem xy_166_18 {x : Int32} : xm_run call xm_c166 nL mc ms ret Q (f + 1) (xm_drop 18 xm_c166) lv (.int x :: st) G E kc ks = (bif !decide (x.toInt = 0) then xm_run call xm_c166 nL mc ms ret Q f (xm_drop 29 xm_c166) lv st G E kc ks else xm_run call xm_c166 nL mc ms ret Q f (xm_drop 19 xm_c166) lv st G E kc ks) := by
  rw [xz_166_18]; show xm_cmpI E (.int x) (.int 0) _ = _; rw [xc_int, xk_ne]; rfl
theorem xy_166_19  : xm_run call xm_c166 nL mc ms ret Q (f + 1) (xm_drop 19 xm_c166) lv st G E kc ks = xm_run call xm_c166 nL mc ms ret Q f (xm_drop 24 xm_c166) lv st G E kc ks := by
  rfl
theorem xy_166_20 {j : Nat} (h : xm_get lv 0 = some (.ref j)) : xm_run call xm_c166 nL mc ms ret Q (f + 1) (xm_drop 20 xm_c166) lv st G E kc ks = xm_run call xm_c166 nL mc ms ret Q f (xm_drop 21 xm_c166) lv (.ref j :: st) G E kc ks := by
  rw [xz_166_20, h]; rfl
theorem xy_166_22  : xm_run call xm_c166 nL mc ms ret Q (f + 1) (xm_drop 22 xm_c166) lv st G E kc ks = xm_call call mc ms 135 0 st G E kc ks (fun st G E kc ks => xm_run call xm_c166 nL mc ms ret Q f (xm_drop 23 xm_c166) lv st G E kc ks) := by
  rw [xz_166_22, show (Nat.beq 135 1006 || Nat.beq 135 1007) = false from rfl, cond_false]
theorem xy_166_23 {x : Int32} : xm_run call xm_c166 nL mc ms ret Q (f + 1) (xm_drop 23 xm_c166) lv (.int x :: st) G E kc ks = (bif !decide (x.toInt = 0) then xm_run call xm_c166 nL mc ms ret Q f (xm_drop 29 xm_c166) lv st G E kc ks else xm_run call xm_c166 nL mc ms ret Q f (xm_drop 24 xm_c166) lv st G E kc ks) := by
  rw [xz_166_23]; show xm_cmpI E (.int x) (.int 0) _ = _; rw [xc_int, xk_ne]; rfl
theorem xy_166_24 {j : Nat} (h : xm_get lv 0 = some (.ref j)) : xm_run call xm_c166 nL mc ms ret Q (f + 1) (xm_drop 24 xm_c166) lv st G E kc ks = xm_run call xm_c166 nL mc ms ret Q f (xm_drop 25 xm_c166) lv (.ref j :: st) G E kc ks := by
  rw [xz_166_24, h]; rfl
theorem xy_166_26 {x : Int32} (h : xm_get lv 1 = some (.int x)) : xm_run call xm_c166 nL mc ms ret Q (f + 1) (xm_drop 26 xm_c166) lv st G E kc ks = xm_run call xm_c166 nL mc ms ret Q f (xm_drop 27 xm_c166) lv (.int x :: st) G E kc ks := by
  rw [xz_166_26, h]; rfl
theorem xy_166_27  : xm_run call xm_c166 nL mc ms ret Q (f + 1) (xm_drop 27 xm_c166) lv st G E kc ks = xm_call call mc ms 131 0 st G E kc ks (fun st G E kc ks => xm_run call xm_c166 nL mc ms ret Q f (xm_drop 28 xm_c166) lv st G E kc ks) := by
  rw [xz_166_27, show (Nat.beq 131 1006 || Nat.beq 131 1007) = false from rfl, cond_false]
theorem xy_166_28_0 : xm_run call xm_c166 nL 0 0 (some .boolean) Q (f + 1) (xm_drop 28 xm_c166) lv [.int 0] G E 0 0 = Q (some (.int 0)) G E := by
  rw [xz_166_28]; rfl
theorem xy_166_28_1 : xm_run call xm_c166 nL 0 0 (some .boolean) Q (f + 1) (xm_drop 28 xm_c166) lv [.int 1] G E 0 0 = Q (some (.int 1)) G E := by
  rw [xz_166_28]; rfl
theorem xy_166_29 {j : Nat} (h : xm_get lv 0 = some (.ref j)) : xm_run call xm_c166 nL mc ms ret Q (f + 1) (xm_drop 29 xm_c166) lv st G E kc ks = xm_run call xm_c166 nL mc ms ret Q f (xm_drop 30 xm_c166) lv (.ref j :: st) G E kc ks := by
  rw [xz_166_29, h]; rfl
theorem xy_166_31 {x : Int32} (h : xm_get lv 2 = some (.int x)) : xm_run call xm_c166 nL mc ms ret Q (f + 1) (xm_drop 31 xm_c166) lv st G E kc ks = xm_run call xm_c166 nL mc ms ret Q f (xm_drop 32 xm_c166) lv (.int x :: st) G E kc ks := by
  rw [xz_166_31, h]; rfl
theorem xy_166_32 {x : Int32} : xm_run call xm_c166 nL mc ms ret Q (f + 1) (xm_drop 32 xm_c166) lv (.int x :: st) G E kc ks = (bif decide (x.toInt = 0) then xm_run call xm_c166 nL mc ms ret Q f (xm_drop 35 xm_c166) lv st G E kc ks else xm_run call xm_c166 nL mc ms ret Q f (xm_drop 33 xm_c166) lv st G E kc ks) := by
  rw [xz_166_32]; show xm_cmpI E (.int x) (.int 0) _ = _; rw [xc_int, xk_eq]; rfl
theorem xy_166_34  : xm_run call xm_c166 nL mc ms ret Q (f + 1) (xm_drop 34 xm_c166) lv st G E kc ks = xm_run call xm_c166 nL mc ms ret Q f (xm_drop 36 xm_c166) lv st G E kc ks := by
  rfl
theorem xy_166_36 {x y : Int32} : xm_run call xm_c166 nL mc ms ret Q (f + 1) (xm_drop 36 xm_c166) lv (.int y :: .int x :: st) G E kc ks = (bif !decide (x.toInt = y.toInt) then xm_run call xm_c166 nL mc ms ret Q f (xm_drop 42 xm_c166) lv st G E kc ks else xm_run call xm_c166 nL mc ms ret Q f (xm_drop 37 xm_c166) lv st G E kc ks) := by
  rw [xz_166_36]; show xm_cmpI E (.int x) (.int y) _ = _; rw [xc_int, xk_ne]
theorem xy_166_37 {j : Nat} (h : xm_get lv 0 = some (.ref j)) : xm_run call xm_c166 nL mc ms ret Q (f + 1) (xm_drop 37 xm_c166) lv st G E kc ks = xm_run call xm_c166 nL mc ms ret Q f (xm_drop 38 xm_c166) lv (.ref j :: st) G E kc ks := by
  rw [xz_166_37, h]; rfl
theorem xy_166_39 {x : Int32} (h : xm_get lv 1 = some (.int x)) : xm_run call xm_c166 nL mc ms ret Q (f + 1) (xm_drop 39 xm_c166) lv st G E kc ks = xm_run call xm_c166 nL mc ms ret Q f (xm_drop 40 xm_c166) lv (.int x :: st) G E kc ks := by
  rw [xz_166_39, h]; rfl
theorem xy_166_40  : xm_run call xm_c166 nL mc ms ret Q (f + 1) (xm_drop 40 xm_c166) lv st G E kc ks = xm_call call mc ms 131 0 st G E kc ks (fun st G E kc ks => xm_run call xm_c166 nL mc ms ret Q f (xm_drop 41 xm_c166) lv st G E kc ks) := by
  rw [xz_166_40, show (Nat.beq 131 1006 || Nat.beq 131 1007) = false from rfl, cond_false]
theorem xy_166_41_0 : xm_run call xm_c166 nL 0 0 (some .boolean) Q (f + 1) (xm_drop 41 xm_c166) lv [.int 0] G E 0 0 = Q (some (.int 0)) G E := by
  rw [xz_166_41]; rfl
theorem xy_166_41_1 : xm_run call xm_c166 nL 0 0 (some .boolean) Q (f + 1) (xm_drop 41 xm_c166) lv [.int 1] G E 0 0 = Q (some (.int 1)) G E := by
  rw [xz_166_41]; rfl
theorem xy_166_42 {j : Nat} (h : xm_get lv 0 = some (.ref j)) : xm_run call xm_c166 nL mc ms ret Q (f + 1) (xm_drop 42 xm_c166) lv st G E kc ks = xm_run call xm_c166 nL mc ms ret Q f (xm_drop 43 xm_c166) lv (.ref j :: st) G E kc ks := by
  rw [xz_166_42, h]; rfl
theorem xy_166_43 {j : Nat} : xm_run call xm_c166 nL mc ms ret Q (f + 1) (xm_drop 43 xm_c166) lv (.ref j :: st) G E kc ks = xm_run call xm_c166 nL mc ms ret Q f (xm_drop 44 xm_c166) lv (.ref j :: .ref j :: st) G E kc ks := by
  rfl
theorem xy_166_46 {x y : Int32} : xm_run call xm_c166 nL mc ms ret Q (f + 1) (xm_drop 46 xm_c166) lv (.int y :: .int x :: st) G E kc ks = xm_run call xm_c166 nL mc ms ret Q f (xm_drop 47 xm_c166) lv (.int (x + y) :: st) G E kc ks := by
  rw [xz_166_46, xk_add]
theorem xy_166_48 {x : Int32} (h : xm_get lv 2 = some (.int x)) : xm_run call xm_c166 nL mc ms ret Q (f + 1) (xm_drop 48 xm_c166) lv st G E kc ks = xm_run call xm_c166 nL mc ms ret Q f (xm_drop 49 xm_c166) lv (.int x :: st) G E kc ks := by
  rw [xz_166_48, h]; rfl
theorem xy_166_49 {x : Int32} : xm_run call xm_c166 nL mc ms ret Q (f + 1) (xm_drop 49 xm_c166) lv (.int x :: st) G E kc ks = (bif decide (x.toInt = 0) then xm_run call xm_c166 nL mc ms ret Q f (xm_drop 54 xm_c166) lv st G E kc ks else xm_run call xm_c166 nL mc ms ret Q f (xm_drop 50 xm_c166) lv st G E kc ks) := by
  rw [xz_166_49]; show xm_cmpI E (.int x) (.int 0) _ = _; rw [xc_int, xk_eq]; rfl
theorem xy_166_50 {j : Nat} (h : xm_get lv 0 = some (.ref j)) : xm_run call xm_c166 nL mc ms ret Q (f + 1) (xm_drop 50 xm_c166) lv st G E kc ks = xm_run call xm_c166 nL mc ms ret Q f (xm_drop 51 xm_c166) lv (.ref j :: st) G E kc ks := by
  rw [xz_166_50, h]; rfl
theorem xy_166_51 {x : Int32} (h : xm_get lv 1 = some (.int x)) : xm_run call xm_c166 nL mc ms ret Q (f + 1) (xm_drop 51 xm_c166) lv st G E kc ks = xm_run call xm_c166 nL mc ms ret Q f (xm_drop 52 xm_c166) lv (.int x :: st) G E kc ks := by
  rw [xz_166_51, h]; rfl
theorem xy_166_52  : xm_run call xm_c166 nL mc ms ret Q (f + 1) (xm_drop 52 xm_c166) lv st G E kc ks = xm_call call mc ms 164 0 st G E kc ks (fun st G E kc ks => xm_run call xm_c166 nL mc ms ret Q f (xm_drop 53 xm_c166) lv st G E kc ks) := by
  rw [xz_166_52, show (Nat.beq 164 1006 || Nat.beq 164 1007) = false from rfl, cond_false]
theorem xy_166_53  : xm_run call xm_c166 nL mc ms ret Q (f + 1) (xm_drop 53 xm_c166) lv st G E kc ks = xm_run call xm_c166 nL mc ms ret Q f (xm_drop 56 xm_c166) lv st G E kc ks := by
  rfl
theorem xy_166_54 {j : Nat} (h : xm_get lv 0 = some (.ref j)) : xm_run call xm_c166 nL mc ms ret Q (f + 1) (xm_drop 54 xm_c166) lv st G E kc ks = xm_run call xm_c166 nL mc ms ret Q f (xm_drop 55 xm_c166) lv (.ref j :: st) G E kc ks := by
  rw [xz_166_54, h]; rfl
theorem xy_166_55  : xm_run call xm_c166 nL mc ms ret Q (f + 1) (xm_drop 55 xm_c166) lv st G E kc ks = xm_call call mc ms 153 0 st G E kc ks (fun st G E kc ks => xm_run call xm_c166 nL mc ms ret Q f (xm_drop 56 xm_c166) lv st G E kc ks) := by
  rw [xz_166_55, show (Nat.beq 153 1006 || Nat.beq 153 1007) = false from rfl, cond_false]
theorem xy_166_56_0 : xm_run call xm_c166 nL 0 0 (some .boolean) Q (f + 1) (xm_drop 56 xm_c166) lv [.int 0] G E 0 0 = Q (some (.int 0)) G E := by
  rw [xz_166_56]; rfl
theorem xy_166_56_1 : xm_run call xm_c166 nL 0 0 (some .boolean) Q (f + 1) (xm_drop 56 xm_c166) lv [.int 1] G E 0 0 = Q (some (.int 1)) G E := by
  rw [xz_166_56]; rfl
theorem xy_167_0 {j : Nat} (h : xm_get lv 0 = some (.ref j)) : xm_run call xm_c167 nL mc ms ret Q (f + 1) (xm_drop 0 xm_c167) lv st G E kc ks = xm_run call xm_c167 nL mc ms ret Q f (xm_drop 1 xm_c167) lv (.ref j :: st) G E kc ks := by
  rw [xz_167_0, h]; rfl
theorem xy_167_2 {j : Nat} (h : xm_get lv 0 = some (.ref j)) : xm_run call xm_c167 nL mc ms ret Q (f + 1) (xm_drop 2 xm_c167) lv st G E kc ks = xm_run call xm_c167 nL mc ms ret Q f (xm_drop 3 xm_c167) lv (.ref j :: st) G E kc ks := by
  rw [xz_167_2, h]; rfl
theorem xy_167_6 {j : Nat} (h : xm_get lv 0 = some (.ref j)) : xm_run call xm_c167 nL mc ms ret Q (f + 1) (xm_drop 6 xm_c167) lv st G E kc ks = xm_run call xm_c167 nL mc ms ret Q f (xm_drop 7 xm_c167) lv (.ref j :: st) G E kc ks := by
  rw [xz_167_6, h]; rfl
theorem xy_167_9 {j : Nat} (h : xm_get lv 0 = some (.ref j)) : xm_run call xm_c167 nL mc ms ret Q (f + 1) (xm_drop 9 xm_c167) lv st G E kc ks = xm_run call xm_c167 nL mc ms ret Q f (xm_drop 10 xm_c167) lv (.ref j :: st) G E kc ks := by
  rw [xz_167_9, h]; rfl
theorem xy_167_12 {j : Nat} (h : xm_get lv 0 = some (.ref j)) : xm_run call xm_c167 nL mc ms ret Q (f + 1) (xm_drop 12 xm_c167) lv st G E kc ks = xm_run call xm_c167 nL mc ms ret Q f (xm_drop 13 xm_c167) lv (.ref j :: st) G E kc ks := by
  rw [xz_167_12, h]; rfl
theorem xy_167_15 {j : Nat} (h : xm_get lv 0 = some (.ref j)) : xm_run call xm_c167 nL mc ms ret Q (f + 1) (xm_drop 15 xm_c167) lv st G E kc ks = xm_run call xm_c167 nL mc ms ret Q f (xm_drop 16 xm_c167) lv (.ref j :: st) G E kc ks := by
  rw [xz_167_15, h]; rfl
theorem xy_167_18 {j : Nat} (h : xm_get lv 0 = some (.ref j)) : xm_run call xm_c167 nL mc ms ret Q (f + 1) (xm_drop 18 xm_c167) lv st G E kc ks = xm_run call xm_c167 nL mc ms ret Q f (xm_drop 19 xm_c167) lv (.ref j :: st) G E kc ks := by
  rw [xz_167_18, h]; rfl
theorem xy_167_19  : xm_run call xm_c167 nL mc ms ret Q (f + 1) (xm_drop 19 xm_c167) lv st G E kc ks = xm_call call mc ms 166 0 st G E kc ks (fun st G E kc ks => xm_run call xm_c167 nL mc ms ret Q f (xm_drop 20 xm_c167) lv st G E kc ks) := by
  rw [xz_167_19, show (Nat.beq 166 1006 || Nat.beq 166 1007) = false from rfl, cond_false]
theorem xy_167_20 {x : Int32} : xm_run call xm_c167 2 mc ms ret Q (f + 1) (xm_drop 20 xm_c167) lv (.int x :: st) G E kc ks = xm_run call xm_c167 2 mc ms ret Q f (xm_drop 21 xm_c167) (xm_set1 lv 1 (.int x)) st G E kc ks := by
  rfl
theorem xy_167_21 {x : Int32} (h : xm_get lv 1 = some (.int x)) : xm_run call xm_c167 nL mc ms ret Q (f + 1) (xm_drop 21 xm_c167) lv st G E kc ks = xm_run call xm_c167 nL mc ms ret Q f (xm_drop 22 xm_c167) lv (.int x :: st) G E kc ks := by
  rw [xz_167_21, h]; rfl
theorem xy_167_22 {x : Int32} : xm_run call xm_c167 nL mc ms ret Q (f + 1) (xm_drop 22 xm_c167) lv (.int x :: st) G E kc ks = (bif decide (x.toInt = 0) then xm_run call xm_c167 nL mc ms ret Q f (xm_drop 37 xm_c167) lv st G E kc ks else xm_run call xm_c167 nL mc ms ret Q f (xm_drop 23 xm_c167) lv st G E kc ks) := by
  rw [xz_167_22]; show xm_cmpI E (.int x) (.int 0) _ = _; rw [xc_int, xk_eq]; rfl
theorem xy_167_23 {j : Nat} (h : xm_get lv 0 = some (.ref j)) : xm_run call xm_c167 nL mc ms ret Q (f + 1) (xm_drop 23 xm_c167) lv st G E kc ks = xm_run call xm_c167 nL mc ms ret Q f (xm_drop 24 xm_c167) lv (.ref j :: st) G E kc ks := by
  rw [xz_167_23, h]; rfl
theorem xy_167_24  : xm_run call xm_c167 nL mc ms ret Q (f + 1) (xm_drop 24 xm_c167) lv st G E kc ks = xm_call call mc ms 132 0 st G E kc ks (fun st G E kc ks => xm_run call xm_c167 nL mc ms ret Q f (xm_drop 25 xm_c167) lv st G E kc ks) := by
  rw [xz_167_24, show (Nat.beq 132 1006 || Nat.beq 132 1007) = false from rfl, cond_false]
theorem xy_167_26 {x y : Int32} : xm_run call xm_c167 nL mc ms ret Q (f + 1) (xm_drop 26 xm_c167) lv (.int y :: .int x :: st) G E kc ks = (bif !decide (x.toInt = y.toInt) then xm_run call xm_c167 nL mc ms ret Q f (xm_drop 37 xm_c167) lv st G E kc ks else xm_run call xm_c167 nL mc ms ret Q f (xm_drop 27 xm_c167) lv st G E kc ks) := by
  rw [xz_167_26]; show xm_cmpI E (.int x) (.int y) _ = _; rw [xc_int, xk_ne]
theorem xy_167_27 {j : Nat} (h : xm_get lv 0 = some (.ref j)) : xm_run call xm_c167 nL mc ms ret Q (f + 1) (xm_drop 27 xm_c167) lv st G E kc ks = xm_run call xm_c167 nL mc ms ret Q f (xm_drop 28 xm_c167) lv (.ref j :: st) G E kc ks := by
  rw [xz_167_27, h]; rfl
theorem xy_167_28 {j : Nat} : xm_run call xm_c167 nL mc ms ret Q (f + 1) (xm_drop 28 xm_c167) lv (.ref j :: st) G E kc ks = xm_run call xm_c167 nL mc ms ret Q f (xm_drop 29 xm_c167) lv (.ref j :: .ref j :: st) G E kc ks := by
  rfl
theorem xy_167_31 {x y : Int32} : xm_run call xm_c167 nL mc ms ret Q (f + 1) (xm_drop 31 xm_c167) lv (.int y :: .int x :: st) G E kc ks = xm_run call xm_c167 nL mc ms ret Q f (xm_drop 32 xm_c167) lv (.int (x + y) :: st) G E kc ks := by
  rw [xz_167_31, xk_add]
theorem xy_167_33 {j : Nat} (h : xm_get lv 0 = some (.ref j)) : xm_run call xm_c167 nL mc ms ret Q (f + 1) (xm_drop 33 xm_c167) lv st G E kc ks = xm_run call xm_c167 nL mc ms ret Q f (xm_drop 34 xm_c167) lv (.ref j :: st) G E kc ks := by
  rw [xz_167_33, h]; rfl
theorem xy_167_34  : xm_run call xm_c167 nL mc ms ret Q (f + 1) (xm_drop 34 xm_c167) lv st G E kc ks = xm_call call mc ms 166 0 st G E kc ks (fun st G E kc ks => xm_run call xm_c167 nL mc ms ret Q f (xm_drop 35 xm_c167) lv st G E kc ks) := by
  rw [xz_167_34, show (Nat.beq 166 1006 || Nat.beq 166 1007) = false from rfl, cond_false]
theorem xy_167_35 {x : Int32} : xm_run call xm_c167 2 mc ms ret Q (f + 1) (xm_drop 35 xm_c167) lv (.int x :: st) G E kc ks = xm_run call xm_c167 2 mc ms ret Q f (xm_drop 36 xm_c167) (xm_set1 lv 1 (.int x)) st G E kc ks := by
  rfl
theorem xy_167_36  : xm_run call xm_c167 nL mc ms ret Q (f + 1) (xm_drop 36 xm_c167) lv st G E kc ks = xm_run call xm_c167 nL mc ms ret Q f (xm_drop 21 xm_c167) lv st G E kc ks := by
  rfl
theorem xy_167_37 {x : Int32} (h : xm_get lv 1 = some (.int x)) : xm_run call xm_c167 nL mc ms ret Q (f + 1) (xm_drop 37 xm_c167) lv st G E kc ks = xm_run call xm_c167 nL mc ms ret Q f (xm_drop 38 xm_c167) lv (.int x :: st) G E kc ks := by
  rw [xz_167_37, h]; rfl
theorem xy_167_38 {x : Int32} : xm_run call xm_c167 nL mc ms ret Q (f + 1) (xm_drop 38 xm_c167) lv (.int x :: st) G E kc ks = (bif decide (x.toInt = 0) then xm_run call xm_c167 nL mc ms ret Q f (xm_drop 49 xm_c167) lv st G E kc ks else xm_run call xm_c167 nL mc ms ret Q f (xm_drop 39 xm_c167) lv st G E kc ks) := by
  rw [xz_167_38]; show xm_cmpI E (.int x) (.int 0) _ = _; rw [xc_int, xk_eq]; rfl
theorem xy_167_39 {j : Nat} (h : xm_get lv 0 = some (.ref j)) : xm_run call xm_c167 nL mc ms ret Q (f + 1) (xm_drop 39 xm_c167) lv st G E kc ks = xm_run call xm_c167 nL mc ms ret Q f (xm_drop 40 xm_c167) lv (.ref j :: st) G E kc ks := by
  rw [xz_167_39, h]; rfl
theorem xy_167_40  : xm_run call xm_c167 nL mc ms ret Q (f + 1) (xm_drop 40 xm_c167) lv st G E kc ks = xm_call call mc ms 132 0 st G E kc ks (fun st G E kc ks => xm_run call xm_c167 nL mc ms ret Q f (xm_drop 41 xm_c167) lv st G E kc ks) := by
  rw [xz_167_40, show (Nat.beq 132 1006 || Nat.beq 132 1007) = false from rfl, cond_false]
theorem xy_167_42 {x y : Int32} : xm_run call xm_c167 nL mc ms ret Q (f + 1) (xm_drop 42 xm_c167) lv (.int y :: .int x :: st) G E kc ks = (bif decide (x.toInt = y.toInt) then xm_run call xm_c167 nL mc ms ret Q f (xm_drop 49 xm_c167) lv st G E kc ks else xm_run call xm_c167 nL mc ms ret Q f (xm_drop 43 xm_c167) lv st G E kc ks) := by
  rw [xz_167_42]; show xm_cmpI E (.int x) (.int y) _ = _; rw [xc_int, xk_eq]
theorem xy_167_43 {j : Nat} (h : xm_get lv 0 = some (.ref j)) : xm_run call xm_c167 nL mc ms ret Q (f + 1) (xm_drop 43 xm_c167) lv st G E kc ks = xm_run call xm_c167 nL mc ms ret Q f (xm_drop 44 xm_c167) lv (.ref j :: st) G E kc ks := by
  rw [xz_167_43, h]; rfl
theorem xy_167_45 {j : Nat} (h : xm_get lv 0 = some (.ref j)) : xm_run call xm_c167 nL mc ms ret Q (f + 1) (xm_drop 45 xm_c167) lv st G E kc ks = xm_run call xm_c167 nL mc ms ret Q f (xm_drop 46 xm_c167) lv (.ref j :: st) G E kc ks := by
  rw [xz_167_45, h]; rfl
theorem xy_167_47  : xm_run call xm_c167 nL mc ms ret Q (f + 1) (xm_drop 47 xm_c167) lv st G E kc ks = xm_call call mc ms 131 0 st G E kc ks (fun st G E kc ks => xm_run call xm_c167 nL mc ms ret Q f (xm_drop 48 xm_c167) lv st G E kc ks) := by
  rw [xz_167_47, show (Nat.beq 131 1006 || Nat.beq 131 1007) = false from rfl, cond_false]
theorem xy_167_48 {x : Int32} : xm_run call xm_c167 nL mc ms ret Q (f + 1) (xm_drop 48 xm_c167) lv (.int x :: st) G E kc ks = xm_run call xm_c167 nL mc ms ret Q f (xm_drop 49 xm_c167) lv st G E kc ks := by
  rfl
theorem xy_167_49 {j : Nat} (h : xm_get lv 0 = some (.ref j)) : xm_run call xm_c167 nL mc ms ret Q (f + 1) (xm_drop 49 xm_c167) lv st G E kc ks = xm_run call xm_c167 nL mc ms ret Q f (xm_drop 50 xm_c167) lv (.ref j :: st) G E kc ks := by
  rw [xz_167_49, h]; rfl
theorem xy_167_52 {j : Nat} (h : xm_get lv 0 = some (.ref j)) : xm_run call xm_c167 nL mc ms ret Q (f + 1) (xm_drop 52 xm_c167) lv st G E kc ks = xm_run call xm_c167 nL mc ms ret Q f (xm_drop 53 xm_c167) lv (.ref j :: st) G E kc ks := by
  rw [xz_167_52, h]; rfl
theorem xy_167_54 {x : Int32} : xm_run call xm_c167 nL mc ms ret Q (f + 1) (xm_drop 54 xm_c167) lv (.int x :: st) G E kc ks = (bif !decide (x.toInt = 0) then xm_run call xm_c167 nL mc ms ret Q f (xm_drop 57 xm_c167) lv st G E kc ks else xm_run call xm_c167 nL mc ms ret Q f (xm_drop 55 xm_c167) lv st G E kc ks) := by
  rw [xz_167_54]; show xm_cmpI E (.int x) (.int 0) _ = _; rw [xc_int, xk_ne]; rfl
theorem xy_167_56  : xm_run call xm_c167 nL mc ms ret Q (f + 1) (xm_drop 56 xm_c167) lv st G E kc ks = xm_run call xm_c167 nL mc ms ret Q f (xm_drop 58 xm_c167) lv st G E kc ks := by
  rfl
theorem xy_167_58_0 : xm_run call xm_c167 nL 0 0 (some .boolean) Q (f + 1) (xm_drop 58 xm_c167) lv [.int 0] G E 0 0 = Q (some (.int 0)) G E := by
  rw [xz_167_58]; rfl
theorem xy_167_58_1 : xm_run call xm_c167 nL 0 0 (some .boolean) Q (f + 1) (xm_drop 58 xm_c167) lv [.int 1] G E 0 0 = Q (some (.int 1)) G E := by
  rw [xz_167_58]; rfl
theorem xy_168_0 {j : Nat} (h : xm_get lv 0 = some (.ref j)) : xm_run call xm_c168 nL mc ms ret Q (f + 1) (xm_drop 0 xm_c168) lv st G E kc ks = xm_run call xm_c168 nL mc ms ret Q f (xm_drop 1 xm_c168) lv (.ref j :: st) G E kc ks := by
  rw [xz_168_0, h]; rfl
theorem xy_168_3 {x y : Int32} : xm_run call xm_c168 nL mc ms ret Q (f + 1) (xm_drop 3 xm_c168) lv (.int y :: .int x :: st) G E kc ks = (bif !decide (x.toInt = y.toInt) then xm_run call xm_c168 nL mc ms ret Q f (xm_drop 6 xm_c168) lv st G E kc ks else xm_run call xm_c168 nL mc ms ret Q f (xm_drop 4 xm_c168) lv st G E kc ks) := by
  rw [xz_168_3]; show xm_cmpI E (.int x) (.int y) _ = _; rw [xc_int, xk_ne]
theorem xy_168_5 {x : Int32} : xm_run call xm_c168 nL 0 0 (some .int) Q (f + 1) (xm_drop 5 xm_c168) lv [.int x] G E 0 0 = Q (some (.int x)) G E := by
  rw [xz_168_5]; rfl
theorem xy_168_6 {j : Nat} (h : xm_get lv 0 = some (.ref j)) : xm_run call xm_c168 nL mc ms ret Q (f + 1) (xm_drop 6 xm_c168) lv st G E kc ks = xm_run call xm_c168 nL mc ms ret Q f (xm_drop 7 xm_c168) lv (.ref j :: st) G E kc ks := by
  rw [xz_168_6, h]; rfl
theorem xy_168_7 {j : Nat} (h : xm_get lv 0 = some (.ref j)) : xm_run call xm_c168 nL mc ms ret Q (f + 1) (xm_drop 7 xm_c168) lv st G E kc ks = xm_run call xm_c168 nL mc ms ret Q f (xm_drop 8 xm_c168) lv (.ref j :: st) G E kc ks := by
  rw [xz_168_7, h]; rfl
theorem xy_168_10 {j : Nat} (h : xm_get lv 0 = some (.ref j)) : xm_run call xm_c168 nL mc ms ret Q (f + 1) (xm_drop 10 xm_c168) lv st G E kc ks = xm_run call xm_c168 nL mc ms ret Q f (xm_drop 11 xm_c168) lv (.ref j :: st) G E kc ks := by
  rw [xz_168_10, h]; rfl
theorem xy_168_12 {j : Nat} (h : xm_get lv 0 = some (.ref j)) : xm_run call xm_c168 nL mc ms ret Q (f + 1) (xm_drop 12 xm_c168) lv st G E kc ks = xm_run call xm_c168 nL mc ms ret Q f (xm_drop 13 xm_c168) lv (.ref j :: st) G E kc ks := by
  rw [xz_168_12, h]; rfl
theorem xy_168_16 {j : Nat} (h : xm_get lv 0 = some (.ref j)) : xm_run call xm_c168 nL mc ms ret Q (f + 1) (xm_drop 16 xm_c168) lv st G E kc ks = xm_run call xm_c168 nL mc ms ret Q f (xm_drop 17 xm_c168) lv (.ref j :: st) G E kc ks := by
  rw [xz_168_16, h]; rfl
theorem xy_168_17  : xm_run call xm_c168 nL mc ms ret Q (f + 1) (xm_drop 17 xm_c168) lv st G E kc ks = xm_call call mc ms 167 0 st G E kc ks (fun st G E kc ks => xm_run call xm_c168 nL mc ms ret Q f (xm_drop 18 xm_c168) lv st G E kc ks) := by
  rw [xz_168_17, show (Nat.beq 167 1006 || Nat.beq 167 1007) = false from rfl, cond_false]
theorem xy_168_18 {x : Int32} : xm_run call xm_c168 nL mc ms ret Q (f + 1) (xm_drop 18 xm_c168) lv (.int x :: st) G E kc ks = (bif !decide (x.toInt = 0) then xm_run call xm_c168 nL mc ms ret Q f (xm_drop 24 xm_c168) lv st G E kc ks else xm_run call xm_c168 nL mc ms ret Q f (xm_drop 19 xm_c168) lv st G E kc ks) := by
  rw [xz_168_18]; show xm_cmpI E (.int x) (.int 0) _ = _; rw [xc_int, xk_ne]; rfl
theorem xy_168_20 {j : Nat} (h : xm_get lv 0 = some (.ref j)) : xm_run call xm_c168 nL mc ms ret Q (f + 1) (xm_drop 20 xm_c168) lv st G E kc ks = xm_run call xm_c168 nL mc ms ret Q f (xm_drop 21 xm_c168) lv (.ref j :: st) G E kc ks := by
  rw [xz_168_20, h]; rfl
theorem xy_168_22 {x y : Int32} : xm_run call xm_c168 nL mc ms ret Q (f + 1) (xm_drop 22 xm_c168) lv (.int y :: .int x :: st) G E kc ks = xm_run call xm_c168 nL mc ms ret Q f (xm_drop 23 xm_c168) lv (.int (x - y) :: st) G E kc ks := by
  rw [xz_168_22, xk_sub]
theorem xy_168_23 {x : Int32} : xm_run call xm_c168 nL 0 0 (some .int) Q (f + 1) (xm_drop 23 xm_c168) lv [.int x] G E 0 0 = Q (some (.int x)) G E := by
  rw [xz_168_23]; rfl
theorem xy_168_24 {j : Nat} (h : xm_get lv 0 = some (.ref j)) : xm_run call xm_c168 nL mc ms ret Q (f + 1) (xm_drop 24 xm_c168) lv st G E kc ks = xm_run call xm_c168 nL mc ms ret Q f (xm_drop 25 xm_c168) lv (.ref j :: st) G E kc ks := by
  rw [xz_168_24, h]; rfl
theorem xy_168_25 {j : Nat} : xm_run call xm_c168 nL mc ms ret Q (f + 1) (xm_drop 25 xm_c168) lv (.ref j :: st) G E kc ks = xm_run call xm_c168 nL mc ms ret Q f (xm_drop 26 xm_c168) lv (.ref j :: .ref j :: st) G E kc ks := by
  rfl
theorem xy_168_28 {x y : Int32} : xm_run call xm_c168 nL mc ms ret Q (f + 1) (xm_drop 28 xm_c168) lv (.int y :: .int x :: st) G E kc ks = xm_run call xm_c168 nL mc ms ret Q f (xm_drop 29 xm_c168) lv (.int (x + y) :: st) G E kc ks := by
  rw [xz_168_28, xk_add]
theorem xy_168_30 {j : Nat} (h : xm_get lv 0 = some (.ref j)) : xm_run call xm_c168 nL mc ms ret Q (f + 1) (xm_drop 30 xm_c168) lv st G E kc ks = xm_run call xm_c168 nL mc ms ret Q f (xm_drop 31 xm_c168) lv (.ref j :: st) G E kc ks := by
  rw [xz_168_30, h]; rfl
theorem xy_168_33 {x y : Int32} : xm_run call xm_c168 nL mc ms ret Q (f + 1) (xm_drop 33 xm_c168) lv (.int y :: .int x :: st) G E kc ks = xm_run call xm_c168 nL mc ms ret Q f (xm_drop 34 xm_c168) lv (.int (x - y) :: st) G E kc ks := by
  rw [xz_168_33, xk_sub]
theorem xy_168_34 {x : Int32} : xm_run call xm_c168 nL 0 0 (some .int) Q (f + 1) (xm_drop 34 xm_c168) lv [.int x] G E 0 0 = Q (some (.int x)) G E := by
  rw [xz_168_34]; rfl
theorem xy_171_0 {j : Nat} (h : xm_get lv 0 = some (.ref j)) : xm_run call xm_c171 nL mc ms ret Q (f + 1) (xm_drop 0 xm_c171) lv st G E kc ks = xm_run call xm_c171 nL mc ms ret Q f (xm_drop 1 xm_c171) lv (.ref j :: st) G E kc ks := by
  rw [xz_171_0, h]; rfl
theorem xy_171_2 {j : Nat} (h : xm_get lv 0 = some (.ref j)) : xm_run call xm_c171 nL mc ms ret Q (f + 1) (xm_drop 2 xm_c171) lv st G E kc ks = xm_run call xm_c171 nL mc ms ret Q f (xm_drop 3 xm_c171) lv (.ref j :: st) G E kc ks := by
  rw [xz_171_2, h]; rfl
theorem xy_171_4 {x : Int64} (h : xm_get lv 1 = some (.long x)) : xm_run call xm_c171 nL mc ms ret Q (f + 1) (xm_drop 4 xm_c171) lv st G E kc ks = xm_run call xm_c171 nL mc ms ret Q f (xm_drop 5 xm_c171) lv (.long x :: st) G E kc ks := by
  rw [xz_171_4, h]; rfl
theorem xy_171_6 {j : Nat} (h : xm_get lv 0 = some (.ref j)) : xm_run call xm_c171 nL mc ms ret Q (f + 1) (xm_drop 6 xm_c171) lv st G E kc ks = xm_run call xm_c171 nL mc ms ret Q f (xm_drop 7 xm_c171) lv (.ref j :: st) G E kc ks := by
  rw [xz_171_6, h]; rfl
theorem xy_171_7 {j : Nat} : xm_run call xm_c171 nL mc ms ret Q (f + 1) (xm_drop 7 xm_c171) lv (.ref j :: st) G E kc ks = xm_run call xm_c171 nL mc ms ret Q f (xm_drop 8 xm_c171) lv (.ref j :: .ref j :: st) G E kc ks := by
  rfl
theorem xy_171_10 {x y : Int32} : xm_run call xm_c171 nL mc ms ret Q (f + 1) (xm_drop 10 xm_c171) lv (.int y :: .int x :: st) G E kc ks = xm_run call xm_c171 nL mc ms ret Q f (xm_drop 11 xm_c171) lv (.int (x + y) :: st) G E kc ks := by
  rw [xz_171_10, xk_add]
theorem xy_171_12 : xm_run call xm_c171 nL 0 0 none Q (f + 1) (xm_drop 12 xm_c171) lv [] G E 0 0 = Q none G E := by
  rw [xz_171_12]; rfl
theorem xy_172_0 {j : Nat} (h : xm_get lv 0 = some (.ref j)) : xm_run call xm_c172 nL mc ms ret Q (f + 1) (xm_drop 0 xm_c172) lv st G E kc ks = xm_run call xm_c172 nL mc ms ret Q f (xm_drop 1 xm_c172) lv (.ref j :: st) G E kc ks := by
  rw [xz_172_0, h]; rfl
theorem xy_172_1 {j : Nat} : xm_run call xm_c172 nL mc ms ret Q (f + 1) (xm_drop 1 xm_c172) lv (.ref j :: st) G E kc ks = xm_run call xm_c172 nL mc ms ret Q f (xm_drop 2 xm_c172) lv (.ref j :: .ref j :: st) G E kc ks := by
  rfl
theorem xy_172_4 {x y : Int32} : xm_run call xm_c172 nL mc ms ret Q (f + 1) (xm_drop 4 xm_c172) lv (.int y :: .int x :: st) G E kc ks = xm_run call xm_c172 nL mc ms ret Q f (xm_drop 5 xm_c172) lv (.int (x - y) :: st) G E kc ks := by
  rw [xz_172_4, xk_sub]
theorem xy_172_6 {j : Nat} (h : xm_get lv 0 = some (.ref j)) : xm_run call xm_c172 nL mc ms ret Q (f + 1) (xm_drop 6 xm_c172) lv st G E kc ks = xm_run call xm_c172 nL mc ms ret Q f (xm_drop 7 xm_c172) lv (.ref j :: st) G E kc ks := by
  rw [xz_172_6, h]; rfl
theorem xy_172_8 {j : Nat} (h : xm_get lv 0 = some (.ref j)) : xm_run call xm_c172 nL mc ms ret Q (f + 1) (xm_drop 8 xm_c172) lv st G E kc ks = xm_run call xm_c172 nL mc ms ret Q f (xm_drop 9 xm_c172) lv (.ref j :: st) G E kc ks := by
  rw [xz_172_8, h]; rfl
theorem xy_172_11 {x : Int64} : xm_run call xm_c172 nL 0 0 (some .long) Q (f + 1) (xm_drop 11 xm_c172) lv [.long x] G E 0 0 = Q (some (.long x)) G E := by
  rw [xz_172_11]; rfl
theorem xy_174_0 {j : Nat} (h : xm_get lv 0 = some (.ref j)) : xm_run call xm_c174 nL mc ms ret Q (f + 1) (xm_drop 0 xm_c174) lv st G E kc ks = xm_run call xm_c174 nL mc ms ret Q f (xm_drop 1 xm_c174) lv (.ref j :: st) G E kc ks := by
  rw [xz_174_0, h]; rfl
theorem xy_174_3 {x : Int32} (h : xm_get lv 2 = some (.int x)) : xm_run call xm_c174 nL mc ms ret Q (f + 1) (xm_drop 3 xm_c174) lv st G E kc ks = xm_run call xm_c174 nL mc ms ret Q f (xm_drop 4 xm_c174) lv (.int x :: st) G E kc ks := by
  rw [xz_174_3, h]; rfl
theorem xy_174_4 {x : Int32} : xm_run call xm_c174 11 mc ms ret Q (f + 1) (xm_drop 4 xm_c174) lv (.int x :: st) G E kc ks = xm_run call xm_c174 11 mc ms ret Q f (xm_drop 5 xm_c174) (xm_set1 lv 4 (.int x)) st G E kc ks := by
  rfl
theorem xy_174_5 {x : Int32} (h : xm_get lv 4 = some (.int x)) : xm_run call xm_c174 nL mc ms ret Q (f + 1) (xm_drop 5 xm_c174) lv st G E kc ks = xm_run call xm_c174 nL mc ms ret Q f (xm_drop 6 xm_c174) lv (.int x :: st) G E kc ks := by
  rw [xz_174_5, h]; rfl
theorem xy_174_6 {x : Int32} (h : xm_get lv 3 = some (.int x)) : xm_run call xm_c174 nL mc ms ret Q (f + 1) (xm_drop 6 xm_c174) lv st G E kc ks = xm_run call xm_c174 nL mc ms ret Q f (xm_drop 7 xm_c174) lv (.int x :: st) G E kc ks := by
  rw [xz_174_6, h]; rfl
theorem xy_174_7 {x y : Int32} : xm_run call xm_c174 nL mc ms ret Q (f + 1) (xm_drop 7 xm_c174) lv (.int y :: .int x :: st) G E kc ks = (bif !decide (x.toInt < y.toInt) then xm_run call xm_c174 nL mc ms ret Q f (xm_drop 71 xm_c174) lv st G E kc ks else xm_run call xm_c174 nL mc ms ret Q f (xm_drop 8 xm_c174) lv st G E kc ks) := by
  rw [xz_174_7]; show xm_cmpI E (.int x) (.int y) _ = _; rw [xc_int, xk_ge]
theorem xy_174_8 {j : Nat} (h : xm_get lv 0 = some (.ref j)) : xm_run call xm_c174 nL mc ms ret Q (f + 1) (xm_drop 8 xm_c174) lv st G E kc ks = xm_run call xm_c174 nL mc ms ret Q f (xm_drop 9 xm_c174) lv (.ref j :: st) G E kc ks := by
  rw [xz_174_8, h]; rfl
theorem xy_174_11 {x : Int32} (h : xm_get lv 1 = some (.int x)) : xm_run call xm_c174 nL mc ms ret Q (f + 1) (xm_drop 11 xm_c174) lv st G E kc ks = xm_run call xm_c174 nL mc ms ret Q f (xm_drop 12 xm_c174) lv (.int x :: st) G E kc ks := by
  rw [xz_174_11, h]; rfl
theorem xy_174_12 {x y : Int32} : xm_run call xm_c174 nL mc ms ret Q (f + 1) (xm_drop 12 xm_c174) lv (.int y :: .int x :: st) G E kc ks = xm_run call xm_c174 nL mc ms ret Q f (xm_drop 13 xm_c174) lv (.int (x * y) :: st) G E kc ks := by
  rw [xz_174_12, xk_mul]
theorem xy_174_13 {x : Int32} (h : xm_get lv 4 = some (.int x)) : xm_run call xm_c174 nL mc ms ret Q (f + 1) (xm_drop 13 xm_c174) lv st G E kc ks = xm_run call xm_c174 nL mc ms ret Q f (xm_drop 14 xm_c174) lv (.int x :: st) G E kc ks := by
  rw [xz_174_13, h]; rfl
theorem xy_174_14 {x y : Int32} : xm_run call xm_c174 nL mc ms ret Q (f + 1) (xm_drop 14 xm_c174) lv (.int y :: .int x :: st) G E kc ks = xm_run call xm_c174 nL mc ms ret Q f (xm_drop 15 xm_c174) lv (.int (x + y) :: st) G E kc ks := by
  rw [xz_174_14, xk_add]
theorem xy_174_17 {x y : Int32} : xm_run call xm_c174 nL mc ms ret Q (f + 1) (xm_drop 17 xm_c174) lv (.int y :: .int x :: st) G E kc ks = xm_run call xm_c174 nL mc ms ret Q f (xm_drop 18 xm_c174) lv (.int (x &&& y) :: st) G E kc ks := by
  rw [xz_174_17, xk_and]
theorem xy_174_18 {x : Int32} : xm_run call xm_c174 11 mc ms ret Q (f + 1) (xm_drop 18 xm_c174) lv (.int x :: st) G E kc ks = xm_run call xm_c174 11 mc ms ret Q f (xm_drop 19 xm_c174) (xm_set1 lv 5 (.int x)) st G E kc ks := by
  rfl
theorem xy_174_19 {j : Nat} (h : xm_get lv 0 = some (.ref j)) : xm_run call xm_c174 nL mc ms ret Q (f + 1) (xm_drop 19 xm_c174) lv st G E kc ks = xm_run call xm_c174 nL mc ms ret Q f (xm_drop 20 xm_c174) lv (.ref j :: st) G E kc ks := by
  rw [xz_174_19, h]; rfl
theorem xy_174_22 {x : Int32} (h : xm_get lv 1 = some (.int x)) : xm_run call xm_c174 nL mc ms ret Q (f + 1) (xm_drop 22 xm_c174) lv st G E kc ks = xm_run call xm_c174 nL mc ms ret Q f (xm_drop 23 xm_c174) lv (.int x :: st) G E kc ks := by
  rw [xz_174_22, h]; rfl
theorem xy_174_23 {x y : Int32} : xm_run call xm_c174 nL mc ms ret Q (f + 1) (xm_drop 23 xm_c174) lv (.int y :: .int x :: st) G E kc ks = xm_run call xm_c174 nL mc ms ret Q f (xm_drop 24 xm_c174) lv (.int (x * y) :: st) G E kc ks := by
  rw [xz_174_23, xk_mul]
theorem xy_174_24 {x : Int32} (h : xm_get lv 4 = some (.int x)) : xm_run call xm_c174 nL mc ms ret Q (f + 1) (xm_drop 24 xm_c174) lv st G E kc ks = xm_run call xm_c174 nL mc ms ret Q f (xm_drop 25 xm_c174) lv (.int x :: st) G E kc ks := by
  rw [xz_174_24, h]; rfl
theorem xy_174_25 {x y : Int32} : xm_run call xm_c174 nL mc ms ret Q (f + 1) (xm_drop 25 xm_c174) lv (.int y :: .int x :: st) G E kc ks = xm_run call xm_c174 nL mc ms ret Q f (xm_drop 26 xm_c174) lv (.int (x + y) :: st) G E kc ks := by
  rw [xz_174_25, xk_add]
theorem xy_174_29 {x : Int32} : xm_run call xm_c174 11 mc ms ret Q (f + 1) (xm_drop 29 xm_c174) lv (.int x :: st) G E kc ks = xm_run call xm_c174 11 mc ms ret Q f (xm_drop 30 xm_c174) (xm_set1 lv 6 (.int x)) st G E kc ks := by
  rfl
theorem xy_174_30 {x : Int32} (h : xm_get lv 5 = some (.int x)) : xm_run call xm_c174 nL mc ms ret Q (f + 1) (xm_drop 30 xm_c174) lv st G E kc ks = xm_run call xm_c174 nL mc ms ret Q f (xm_drop 31 xm_c174) lv (.int x :: st) G E kc ks := by
  rw [xz_174_30, h]; rfl
theorem xy_174_31 {x : Int32} : xm_run call xm_c174 nL mc ms ret Q (f + 1) (xm_drop 31 xm_c174) lv (.int x :: st) G E kc ks = (bif !decide (x.toInt = 0) then xm_run call xm_c174 nL mc ms ret Q f (xm_drop 37 xm_c174) lv st G E kc ks else xm_run call xm_c174 nL mc ms ret Q f (xm_drop 32 xm_c174) lv st G E kc ks) := by
  rw [xz_174_31]; show xm_cmpI E (.int x) (.int 0) _ = _; rw [xc_int, xk_ne]; rfl
theorem xy_174_32 {j : Nat} (h : xm_get lv 0 = some (.ref j)) : xm_run call xm_c174 nL mc ms ret Q (f + 1) (xm_drop 32 xm_c174) lv st G E kc ks = xm_run call xm_c174 nL mc ms ret Q f (xm_drop 33 xm_c174) lv (.ref j :: st) G E kc ks := by
  rw [xz_174_32, h]; rfl
theorem xy_174_33 {x : Int32} (h : xm_get lv 6 = some (.int x)) : xm_run call xm_c174 nL mc ms ret Q (f + 1) (xm_drop 33 xm_c174) lv st G E kc ks = xm_run call xm_c174 nL mc ms ret Q f (xm_drop 34 xm_c174) lv (.int x :: st) G E kc ks := by
  rw [xz_174_33, h]; rfl
theorem xy_174_34 {x : Int32} : xm_run call xm_c174 nL mc ms ret Q (f + 1) (xm_drop 34 xm_c174) lv (.int x :: st) G E kc ks = xm_run call xm_c174 nL mc ms ret Q f (xm_drop 35 xm_c174) lv (.long x.toInt64 :: st) G E kc ks := by
  rfl
theorem xy_174_35  : xm_run call xm_c174 nL mc ms ret Q (f + 1) (xm_drop 35 xm_c174) lv st G E kc ks = xm_call call mc ms 171 0 st G E kc ks (fun st G E kc ks => xm_run call xm_c174 nL mc ms ret Q f (xm_drop 36 xm_c174) lv st G E kc ks) := by
  rw [xz_174_35, show (Nat.beq 171 1006 || Nat.beq 171 1007) = false from rfl, cond_false]
theorem xy_174_36  : xm_run call xm_c174 nL mc ms ret Q (f + 1) (xm_drop 36 xm_c174) lv st G E kc ks = xm_run call xm_c174 nL mc ms ret Q f (xm_drop 69 xm_c174) lv st G E kc ks := by
  rfl
theorem xy_174_37 {x : Int32} (h : xm_get lv 5 = some (.int x)) : xm_run call xm_c174 nL mc ms ret Q (f + 1) (xm_drop 37 xm_c174) lv st G E kc ks = xm_run call xm_c174 nL mc ms ret Q f (xm_drop 38 xm_c174) lv (.int x :: st) G E kc ks := by
  rw [xz_174_37, h]; rfl
theorem xy_174_39 {x y : Int32} : xm_run call xm_c174 nL mc ms ret Q (f + 1) (xm_drop 39 xm_c174) lv (.int y :: .int x :: st) G E kc ks = (bif !decide (x.toInt = y.toInt) then xm_run call xm_c174 nL mc ms ret Q f (xm_drop 47 xm_c174) lv st G E kc ks else xm_run call xm_c174 nL mc ms ret Q f (xm_drop 40 xm_c174) lv st G E kc ks) := by
  rw [xz_174_39]; show xm_cmpI E (.int x) (.int y) _ = _; rw [xc_int, xk_ne]
theorem xy_174_40 {j : Nat} (h : xm_get lv 0 = some (.ref j)) : xm_run call xm_c174 nL mc ms ret Q (f + 1) (xm_drop 40 xm_c174) lv st G E kc ks = xm_run call xm_c174 nL mc ms ret Q f (xm_drop 41 xm_c174) lv (.ref j :: st) G E kc ks := by
  rw [xz_174_40, h]; rfl
theorem xy_174_41 {j : Nat} (h : xm_get lv 0 = some (.ref j)) : xm_run call xm_c174 nL mc ms ret Q (f + 1) (xm_drop 41 xm_c174) lv st G E kc ks = xm_run call xm_c174 nL mc ms ret Q f (xm_drop 42 xm_c174) lv (.ref j :: st) G E kc ks := by
  rw [xz_174_41, h]; rfl
theorem xy_174_43 {x : Int32} (h : xm_get lv 6 = some (.int x)) : xm_run call xm_c174 nL mc ms ret Q (f + 1) (xm_drop 43 xm_c174) lv st G E kc ks = xm_run call xm_c174 nL mc ms ret Q f (xm_drop 44 xm_c174) lv (.int x :: st) G E kc ks := by
  rw [xz_174_43, h]; rfl
theorem xy_174_45  : xm_run call xm_c174 nL mc ms ret Q (f + 1) (xm_drop 45 xm_c174) lv st G E kc ks = xm_call call mc ms 171 0 st G E kc ks (fun st G E kc ks => xm_run call xm_c174 nL mc ms ret Q f (xm_drop 46 xm_c174) lv st G E kc ks) := by
  rw [xz_174_45, show (Nat.beq 171 1006 || Nat.beq 171 1007) = false from rfl, cond_false]
theorem xy_174_46  : xm_run call xm_c174 nL mc ms ret Q (f + 1) (xm_drop 46 xm_c174) lv st G E kc ks = xm_run call xm_c174 nL mc ms ret Q f (xm_drop 69 xm_c174) lv st G E kc ks := by
  rfl
theorem xy_174_47 {x : Int32} (h : xm_get lv 5 = some (.int x)) : xm_run call xm_c174 nL mc ms ret Q (f + 1) (xm_drop 47 xm_c174) lv st G E kc ks = xm_run call xm_c174 nL mc ms ret Q f (xm_drop 48 xm_c174) lv (.int x :: st) G E kc ks := by
  rw [xz_174_47, h]; rfl
theorem xy_174_49 {x y : Int32} : xm_run call xm_c174 nL mc ms ret Q (f + 1) (xm_drop 49 xm_c174) lv (.int y :: .int x :: st) G E kc ks = (bif !decide (x.toInt = y.toInt) then xm_run call xm_c174 nL mc ms ret Q f (xm_drop 57 xm_c174) lv st G E kc ks else xm_run call xm_c174 nL mc ms ret Q f (xm_drop 50 xm_c174) lv st G E kc ks) := by
  rw [xz_174_49]; show xm_cmpI E (.int x) (.int y) _ = _; rw [xc_int, xk_ne]
theorem xy_174_50 {j : Nat} (h : xm_get lv 0 = some (.ref j)) : xm_run call xm_c174 nL mc ms ret Q (f + 1) (xm_drop 50 xm_c174) lv st G E kc ks = xm_run call xm_c174 nL mc ms ret Q f (xm_drop 51 xm_c174) lv (.ref j :: st) G E kc ks := by
  rw [xz_174_50, h]; rfl
theorem xy_174_52 {j : Nat} (h : xm_get lv 0 = some (.ref j)) : xm_run call xm_c174 nL mc ms ret Q (f + 1) (xm_drop 52 xm_c174) lv st G E kc ks = xm_run call xm_c174 nL mc ms ret Q f (xm_drop 53 xm_c174) lv (.ref j :: st) G E kc ks := by
  rw [xz_174_52, h]; rfl
theorem xy_174_53  : xm_run call xm_c174 nL mc ms ret Q (f + 1) (xm_drop 53 xm_c174) lv st G E kc ks = xm_call call mc ms 172 0 st G E kc ks (fun st G E kc ks => xm_run call xm_c174 nL mc ms ret Q f (xm_drop 54 xm_c174) lv st G E kc ks) := by
  rw [xz_174_53, show (Nat.beq 172 1006 || Nat.beq 172 1007) = false from rfl, cond_false]
theorem xy_174_55  : xm_run call xm_c174 nL mc ms ret Q (f + 1) (xm_drop 55 xm_c174) lv st G E kc ks = xm_call call mc ms 171 0 st G E kc ks (fun st G E kc ks => xm_run call xm_c174 nL mc ms ret Q f (xm_drop 56 xm_c174) lv st G E kc ks) := by
  rw [xz_174_55, show (Nat.beq 171 1006 || Nat.beq 171 1007) = false from rfl, cond_false]
theorem xy_174_56  : xm_run call xm_c174 nL mc ms ret Q (f + 1) (xm_drop 56 xm_c174) lv st G E kc ks = xm_run call xm_c174 nL mc ms ret Q f (xm_drop 69 xm_c174) lv st G E kc ks := by
  rfl
theorem xy_174_57 {j : Nat} (h : xm_get lv 0 = some (.ref j)) : xm_run call xm_c174 nL mc ms ret Q (f + 1) (xm_drop 57 xm_c174) lv st G E kc ks = xm_run call xm_c174 nL mc ms ret Q f (xm_drop 58 xm_c174) lv (.ref j :: st) G E kc ks := by
  rw [xz_174_57, h]; rfl
theorem xy_174_58  : xm_run call xm_c174 nL mc ms ret Q (f + 1) (xm_drop 58 xm_c174) lv st G E kc ks = xm_call call mc ms 172 0 st G E kc ks (fun st G E kc ks => xm_run call xm_c174 nL mc ms ret Q f (xm_drop 59 xm_c174) lv st G E kc ks) := by
  rw [xz_174_58, show (Nat.beq 172 1006 || Nat.beq 172 1007) = false from rfl, cond_false]
theorem xy_174_59 {x : Int64} : xm_run call xm_c174 11 mc ms ret Q (f + 1) (xm_drop 59 xm_c174) lv (.long x :: st) G E kc ks = xm_run call xm_c174 11 mc ms ret Q f (xm_drop 60 xm_c174) (xm_set2 lv 7 (.long x)) st G E kc ks := by
  rfl
theorem xy_174_60 {j : Nat} (h : xm_get lv 0 = some (.ref j)) : xm_run call xm_c174 nL mc ms ret Q (f + 1) (xm_drop 60 xm_c174) lv st G E kc ks = xm_run call xm_c174 nL mc ms ret Q f (xm_drop 61 xm_c174) lv (.ref j :: st) G E kc ks := by
  rw [xz_174_60, h]; rfl
theorem xy_174_61  : xm_run call xm_c174 nL mc ms ret Q (f + 1) (xm_drop 61 xm_c174) lv st G E kc ks = xm_call call mc ms 172 0 st G E kc ks (fun st G E kc ks => xm_run call xm_c174 nL mc ms ret Q f (xm_drop 62 xm_c174) lv st G E kc ks) := by
  rw [xz_174_61, show (Nat.beq 172 1006 || Nat.beq 172 1007) = false from rfl, cond_false]
theorem xy_174_62 {x : Int64} : xm_run call xm_c174 11 mc ms ret Q (f + 1) (xm_drop 62 xm_c174) lv (.long x :: st) G E kc ks = xm_run call xm_c174 11 mc ms ret Q f (xm_drop 63 xm_c174) (xm_set2 lv 9 (.long x)) st G E kc ks := by
  rfl
theorem xy_174_63 {j : Nat} (h : xm_get lv 0 = some (.ref j)) : xm_run call xm_c174 nL mc ms ret Q (f + 1) (xm_drop 63 xm_c174) lv st G E kc ks = xm_run call xm_c174 nL mc ms ret Q f (xm_drop 64 xm_c174) lv (.ref j :: st) G E kc ks := by
  rw [xz_174_63, h]; rfl
theorem xy_174_64 {x : Int32} (h : xm_get lv 5 = some (.int x)) : xm_run call xm_c174 nL mc ms ret Q (f + 1) (xm_drop 64 xm_c174) lv st G E kc ks = xm_run call xm_c174 nL mc ms ret Q f (xm_drop 65 xm_c174) lv (.int x :: st) G E kc ks := by
  rw [xz_174_64, h]; rfl
theorem xy_174_65 {x : Int64} (h : xm_get lv 9 = some (.long x)) : xm_run call xm_c174 nL mc ms ret Q (f + 1) (xm_drop 65 xm_c174) lv st G E kc ks = xm_run call xm_c174 nL mc ms ret Q f (xm_drop 66 xm_c174) lv (.long x :: st) G E kc ks := by
  rw [xz_174_65, h]; rfl
theorem xy_174_66 {x : Int64} (h : xm_get lv 7 = some (.long x)) : xm_run call xm_c174 nL mc ms ret Q (f + 1) (xm_drop 66 xm_c174) lv st G E kc ks = xm_run call xm_c174 nL mc ms ret Q f (xm_drop 67 xm_c174) lv (.long x :: st) G E kc ks := by
  rw [xz_174_66, h]; rfl
theorem xy_174_67  : xm_run call xm_c174 nL mc ms ret Q (f + 1) (xm_drop 67 xm_c174) lv st G E kc ks = xm_call call mc ms 173 1 st G E kc ks (fun st G E kc ks => xm_run call xm_c174 nL mc ms ret Q f (xm_drop 68 xm_c174) lv st G E kc ks) := by
  rw [xz_174_67, show Nat.beq 173 1001 = false from rfl, show (Nat.beq 173 1003 || (Nat.beq 173 1004 || Nat.beq 173 1005)) = false from rfl, show Nat.beq 1 3 = false from rfl, cond_false, cond_false, cond_false]
theorem xy_174_68  : xm_run call xm_c174 nL mc ms ret Q (f + 1) (xm_drop 68 xm_c174) lv st G E kc ks = xm_call call mc ms 171 0 st G E kc ks (fun st G E kc ks => xm_run call xm_c174 nL mc ms ret Q f (xm_drop 69 xm_c174) lv st G E kc ks) := by
  rw [xz_174_68, show (Nat.beq 171 1006 || Nat.beq 171 1007) = false from rfl, cond_false]
theorem xy_174_69 {x : Int32} (h : xm_get lv 4 = some (.int x)) : xm_run call xm_c174 11 mc ms ret Q (f + 1) (xm_drop 69 xm_c174) lv st G E kc ks = xm_run call xm_c174 11 mc ms ret Q f (xm_drop 70 xm_c174) (xm_set1 lv 4 (.int (x + Int32.ofInt 1))) st G E kc ks := by
  rw [xz_174_69, h]; exact xl_frc (x + Int32.ofInt 1) (fun z => xm_run call xm_c174 11 mc ms ret Q f (xm_drop 70 xm_c174) (xm_set1 lv 4 (.int z)) st G E kc ks)
theorem xy_174_70  : xm_run call xm_c174 nL mc ms ret Q (f + 1) (xm_drop 70 xm_c174) lv st G E kc ks = xm_run call xm_c174 nL mc ms ret Q f (xm_drop 5 xm_c174) lv st G E kc ks := by
  rfl
theorem xy_174_71 {j : Nat} (h : xm_get lv 0 = some (.ref j)) : xm_run call xm_c174 nL mc ms ret Q (f + 1) (xm_drop 71 xm_c174) lv st G E kc ks = xm_run call xm_c174 nL mc ms ret Q f (xm_drop 72 xm_c174) lv (.ref j :: st) G E kc ks := by
  rw [xz_174_71, h]; rfl
theorem xy_174_72  : xm_run call xm_c174 nL mc ms ret Q (f + 1) (xm_drop 72 xm_c174) lv st G E kc ks = xm_call call mc ms 172 0 st G E kc ks (fun st G E kc ks => xm_run call xm_c174 nL mc ms ret Q f (xm_drop 73 xm_c174) lv st G E kc ks) := by
  rw [xz_174_72, show (Nat.beq 172 1006 || Nat.beq 172 1007) = false from rfl, cond_false]
theorem xy_174_73 {x : Int64} : xm_run call xm_c174 nL 0 0 (some .long) Q (f + 1) (xm_drop 73 xm_c174) lv [.long x] G E 0 0 = Q (some (.long x)) G E := by
  rw [xz_174_73]; rfl
theorem xy_193_1 {x : Int32} : xm_run call xm_c193 4 mc ms ret Q (f + 1) (xm_drop 1 xm_c193) lv (.int x :: st) G E kc ks = xm_run call xm_c193 4 mc ms ret Q f (xm_drop 2 xm_c193) (xm_set1 lv 2 (.int x)) st G E kc ks := by
  rfl
theorem xy_193_2 {x : Int32} (h : xm_get lv 2 = some (.int x)) : xm_run call xm_c193 nL mc ms ret Q (f + 1) (xm_drop 2 xm_c193) lv st G E kc ks = xm_run call xm_c193 nL mc ms ret Q f (xm_drop 3 xm_c193) lv (.int x :: st) G E kc ks := by
  rw [xz_193_2, h]; rfl
theorem xy_193_3 {j : Nat} (h : xm_get lv 0 = some (.ref j)) : xm_run call xm_c193 nL mc ms ret Q (f + 1) (xm_drop 3 xm_c193) lv st G E kc ks = xm_run call xm_c193 nL mc ms ret Q f (xm_drop 4 xm_c193) lv (.ref j :: st) G E kc ks := by
  rw [xz_193_3, h]; rfl
theorem xy_193_5 {x : Int32} (h : xm_get lv 1 = some (.int x)) : xm_run call xm_c193 nL mc ms ret Q (f + 1) (xm_drop 5 xm_c193) lv st G E kc ks = xm_run call xm_c193 nL mc ms ret Q f (xm_drop 6 xm_c193) lv (.int x :: st) G E kc ks := by
  rw [xz_193_5, h]; rfl
theorem xy_193_7 {x y : Int32} : xm_run call xm_c193 nL mc ms ret Q (f + 1) (xm_drop 7 xm_c193) lv (.int y :: .int x :: st) G E kc ks = (bif !decide (x.toInt < y.toInt) then xm_run call xm_c193 nL mc ms ret Q f (xm_drop 57 xm_c193) lv st G E kc ks else xm_run call xm_c193 nL mc ms ret Q f (xm_drop 8 xm_c193) lv st G E kc ks) := by
  rw [xz_193_7]; show xm_cmpI E (.int x) (.int y) _ = _; rw [xc_int, xk_ge]
theorem xy_193_9 {x : Int32} (h : xm_get lv 1 = some (.int x)) : xm_run call xm_c193 nL mc ms ret Q (f + 1) (xm_drop 9 xm_c193) lv st G E kc ks = xm_run call xm_c193 nL mc ms ret Q f (xm_drop 10 xm_c193) lv (.int x :: st) G E kc ks := by
  rw [xz_193_9, h]; rfl
theorem xy_193_10 {x y : Int32} : xm_run call xm_c193 nL mc ms ret Q (f + 1) (xm_drop 10 xm_c193) lv (.int y :: .int x :: st) G E kc ks = xm_run call xm_c193 nL mc ms ret Q f (xm_drop 11 xm_c193) lv (.int (x * y) :: st) G E kc ks := by
  rw [xz_193_10, xk_mul]
theorem xy_193_12 {x : Int32} (h : xm_get lv 2 = some (.int x)) : xm_run call xm_c193 nL mc ms ret Q (f + 1) (xm_drop 12 xm_c193) lv st G E kc ks = xm_run call xm_c193 nL mc ms ret Q f (xm_drop 13 xm_c193) lv (.int x :: st) G E kc ks := by
  rw [xz_193_12, h]; rfl
theorem xy_193_13 {x y : Int32} : xm_run call xm_c193 nL mc ms ret Q (f + 1) (xm_drop 13 xm_c193) lv (.int y :: .int x :: st) G E kc ks = xm_run call xm_c193 nL mc ms ret Q f (xm_drop 14 xm_c193) lv (.int (x * y) :: st) G E kc ks := by
  rw [xz_193_13, xk_mul]
theorem xy_193_14 {x y : Int32} : xm_run call xm_c193 nL mc ms ret Q (f + 1) (xm_drop 14 xm_c193) lv (.int y :: .int x :: st) G E kc ks = xm_run call xm_c193 nL mc ms ret Q f (xm_drop 15 xm_c193) lv (.int (x + y) :: st) G E kc ks := by
  rw [xz_193_14, xk_add]
theorem xy_193_15 {x : Int32} : xm_run call xm_c193 4 mc ms ret Q (f + 1) (xm_drop 15 xm_c193) lv (.int x :: st) G E kc ks = xm_run call xm_c193 4 mc ms ret Q f (xm_drop 16 xm_c193) (xm_set1 lv 3 (.int x)) st G E kc ks := by
  rfl
theorem xy_193_16 {j : Nat} (h : xm_get lv 0 = some (.ref j)) : xm_run call xm_c193 nL mc ms ret Q (f + 1) (xm_drop 16 xm_c193) lv st G E kc ks = xm_run call xm_c193 nL mc ms ret Q f (xm_drop 17 xm_c193) lv (.ref j :: st) G E kc ks := by
  rw [xz_193_16, h]; rfl
theorem xy_193_18 {x : Int32} (h : xm_get lv 3 = some (.int x)) : xm_run call xm_c193 nL mc ms ret Q (f + 1) (xm_drop 18 xm_c193) lv st G E kc ks = xm_run call xm_c193 nL mc ms ret Q f (xm_drop 19 xm_c193) lv (.int x :: st) G E kc ks := by
  rw [xz_193_18, h]; rfl
theorem xy_193_20 {x y : Int32} : xm_run call xm_c193 nL mc ms ret Q (f + 1) (xm_drop 20 xm_c193) lv (.int y :: .int x :: st) G E kc ks = xm_run call xm_c193 nL mc ms ret Q f (xm_drop 21 xm_c193) lv (.int (x + y) :: st) G E kc ks := by
  rw [xz_193_20, xk_add]
theorem xy_193_22 {x : Int32} : xm_run call xm_c193 nL mc ms ret Q (f + 1) (xm_drop 22 xm_c193) lv (.int x :: st) G E kc ks = (bif decide (x.toInt < 0) then xm_run call xm_c193 nL mc ms ret Q f (xm_drop 41 xm_c193) lv st G E kc ks else xm_run call xm_c193 nL mc ms ret Q f (xm_drop 23 xm_c193) lv st G E kc ks) := by
  rw [xz_193_22]; show xm_cmpI E (.int x) (.int 0) _ = _; rw [xc_int, xk_lt]; rfl
theorem xy_193_23 {j : Nat} (h : xm_get lv 0 = some (.ref j)) : xm_run call xm_c193 nL mc ms ret Q (f + 1) (xm_drop 23 xm_c193) lv st G E kc ks = xm_run call xm_c193 nL mc ms ret Q f (xm_drop 24 xm_c193) lv (.ref j :: st) G E kc ks := by
  rw [xz_193_23, h]; rfl
theorem xy_193_24 {x : Int32} (h : xm_get lv 1 = some (.int x)) : xm_run call xm_c193 nL mc ms ret Q (f + 1) (xm_drop 24 xm_c193) lv st G E kc ks = xm_run call xm_c193 nL mc ms ret Q f (xm_drop 25 xm_c193) lv (.int x :: st) G E kc ks := by
  rw [xz_193_24, h]; rfl
theorem xy_193_25 {j : Nat} (h : xm_get lv 0 = some (.ref j)) : xm_run call xm_c193 nL mc ms ret Q (f + 1) (xm_drop 25 xm_c193) lv st G E kc ks = xm_run call xm_c193 nL mc ms ret Q f (xm_drop 26 xm_c193) lv (.ref j :: st) G E kc ks := by
  rw [xz_193_25, h]; rfl
theorem xy_193_27 {x : Int32} (h : xm_get lv 3 = some (.int x)) : xm_run call xm_c193 nL mc ms ret Q (f + 1) (xm_drop 27 xm_c193) lv st G E kc ks = xm_run call xm_c193 nL mc ms ret Q f (xm_drop 28 xm_c193) lv (.int x :: st) G E kc ks := by
  rw [xz_193_27, h]; rfl
theorem xy_193_29 {x y : Int32} : xm_run call xm_c193 nL mc ms ret Q (f + 1) (xm_drop 29 xm_c193) lv (.int y :: .int x :: st) G E kc ks = xm_run call xm_c193 nL mc ms ret Q f (xm_drop 30 xm_c193) lv (.int (x + y) :: st) G E kc ks := by
  rw [xz_193_29, xk_add]
theorem xy_193_31 {j : Nat} (h : xm_get lv 0 = some (.ref j)) : xm_run call xm_c193 nL mc ms ret Q (f + 1) (xm_drop 31 xm_c193) lv st G E kc ks = xm_run call xm_c193 nL mc ms ret Q f (xm_drop 32 xm_c193) lv (.ref j :: st) G E kc ks := by
  rw [xz_193_31, h]; rfl
theorem xy_193_33 {x : Int32} (h : xm_get lv 3 = some (.int x)) : xm_run call xm_c193 nL mc ms ret Q (f + 1) (xm_drop 33 xm_c193) lv st G E kc ks = xm_run call xm_c193 nL mc ms ret Q f (xm_drop 34 xm_c193) lv (.int x :: st) G E kc ks := by
  rw [xz_193_33, h]; rfl
theorem xy_193_35 {x y : Int32} : xm_run call xm_c193 nL mc ms ret Q (f + 1) (xm_drop 35 xm_c193) lv (.int y :: .int x :: st) G E kc ks = xm_run call xm_c193 nL mc ms ret Q f (xm_drop 36 xm_c193) lv (.int (x + y) :: st) G E kc ks := by
  rw [xz_193_35, xk_add]
theorem xy_193_37  : xm_run call xm_c193 nL mc ms ret Q (f + 1) (xm_drop 37 xm_c193) lv st G E kc ks = xm_call call mc ms 174 0 st G E kc ks (fun st G E kc ks => xm_run call xm_c193 nL mc ms ret Q f (xm_drop 38 xm_c193) lv st G E kc ks) := by
  rw [xz_193_37, show (Nat.beq 174 1006 || Nat.beq 174 1007) = false from rfl, cond_false]
theorem xy_193_40 {x : Int32} : xm_run call xm_c193 nL mc ms ret Q (f + 1) (xm_drop 40 xm_c193) lv (.int x :: st) G E kc ks = (bif !decide (x.toInt = 0) then xm_run call xm_c193 nL mc ms ret Q f (xm_drop 55 xm_c193) lv st G E kc ks else xm_run call xm_c193 nL mc ms ret Q f (xm_drop 41 xm_c193) lv st G E kc ks) := by
  rw [xz_193_40]; show xm_cmpI E (.int x) (.int 0) _ = _; rw [xc_int, xk_ne]; rfl
theorem xy_193_41 {j : Nat} (h : xm_get lv 0 = some (.ref j)) : xm_run call xm_c193 nL mc ms ret Q (f + 1) (xm_drop 41 xm_c193) lv st G E kc ks = xm_run call xm_c193 nL mc ms ret Q f (xm_drop 42 xm_c193) lv (.ref j :: st) G E kc ks := by
  rw [xz_193_41, h]; rfl
theorem xy_193_42 {x : Int32} (h : xm_get lv 1 = some (.int x)) : xm_run call xm_c193 nL mc ms ret Q (f + 1) (xm_drop 42 xm_c193) lv st G E kc ks = xm_run call xm_c193 nL mc ms ret Q f (xm_drop 43 xm_c193) lv (.int x :: st) G E kc ks := by
  rw [xz_193_42, h]; rfl
theorem xy_193_43 {j : Nat} (h : xm_get lv 0 = some (.ref j)) : xm_run call xm_c193 nL mc ms ret Q (f + 1) (xm_drop 43 xm_c193) lv st G E kc ks = xm_run call xm_c193 nL mc ms ret Q f (xm_drop 44 xm_c193) lv (.ref j :: st) G E kc ks := by
  rw [xz_193_43, h]; rfl
theorem xy_193_45 {x : Int32} (h : xm_get lv 3 = some (.int x)) : xm_run call xm_c193 nL mc ms ret Q (f + 1) (xm_drop 45 xm_c193) lv st G E kc ks = xm_run call xm_c193 nL mc ms ret Q f (xm_drop 46 xm_c193) lv (.int x :: st) G E kc ks := by
  rw [xz_193_45, h]; rfl
theorem xy_193_47 {j : Nat} (h : xm_get lv 0 = some (.ref j)) : xm_run call xm_c193 nL mc ms ret Q (f + 1) (xm_drop 47 xm_c193) lv st G E kc ks = xm_run call xm_c193 nL mc ms ret Q f (xm_drop 48 xm_c193) lv (.ref j :: st) G E kc ks := by
  rw [xz_193_47, h]; rfl
theorem xy_193_49 {x : Int32} (h : xm_get lv 3 = some (.int x)) : xm_run call xm_c193 nL mc ms ret Q (f + 1) (xm_drop 49 xm_c193) lv st G E kc ks = xm_run call xm_c193 nL mc ms ret Q f (xm_drop 50 xm_c193) lv (.int x :: st) G E kc ks := by
  rw [xz_193_49, h]; rfl
theorem xy_193_51 {x y : Int32} : xm_run call xm_c193 nL mc ms ret Q (f + 1) (xm_drop 51 xm_c193) lv (.int y :: .int x :: st) G E kc ks = xm_run call xm_c193 nL mc ms ret Q f (xm_drop 52 xm_c193) lv (.int (x + y) :: st) G E kc ks := by
  rw [xz_193_51, xk_add]
theorem xy_193_53  : xm_run call xm_c193 nL mc ms ret Q (f + 1) (xm_drop 53 xm_c193) lv st G E kc ks = xm_call call mc ms 174 0 st G E kc ks (fun st G E kc ks => xm_run call xm_c193 nL mc ms ret Q f (xm_drop 54 xm_c193) lv st G E kc ks) := by
  rw [xz_193_53, show (Nat.beq 174 1006 || Nat.beq 174 1007) = false from rfl, cond_false]
theorem xy_193_54 {x : Int64} : xm_run call xm_c193 nL 0 0 (some .long) Q (f + 1) (xm_drop 54 xm_c193) lv [.long x] G E 0 0 = Q (some (.long x)) G E := by
  rw [xz_193_54]; rfl
theorem xy_193_55 {x : Int32} (h : xm_get lv 2 = some (.int x)) : xm_run call xm_c193 4 mc ms ret Q (f + 1) (xm_drop 55 xm_c193) lv st G E kc ks = xm_run call xm_c193 4 mc ms ret Q f (xm_drop 56 xm_c193) (xm_set1 lv 2 (.int (x + Int32.ofInt 1))) st G E kc ks := by
  rw [xz_193_55, h]; exact xl_frc (x + Int32.ofInt 1) (fun z => xm_run call xm_c193 4 mc ms ret Q f (xm_drop 56 xm_c193) (xm_set1 lv 2 (.int z)) st G E kc ks)
theorem xy_193_56  : xm_run call xm_c193 nL mc ms ret Q (f + 1) (xm_drop 56 xm_c193) lv st G E kc ks = xm_run call xm_c193 nL mc ms ret Q f (xm_drop 2 xm_c193) lv st G E kc ks := by
  rfl
theorem xy_193_58 {x : Int64} : xm_run call xm_c193 nL 0 0 (some .long) Q (f + 1) (xm_drop 58 xm_c193) lv [.long x] G E 0 0 = Q (some (.long x)) G E := by
  rw [xz_193_58]; rfl
end XF
