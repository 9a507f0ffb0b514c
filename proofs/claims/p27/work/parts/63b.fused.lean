section XF
variable {call : xm_C} {nL mc ms : Nat} {ret : Option FieldType} {Q : xm_Q} {f : Nat} {lv : xm_L} {st : List Value} {G : xm_H} {E : xm_R} {kc ks : Nat}
theorem xy_76_0 {j : Nat} (h : xm_get lv 0 = some (.ref j)) : xm_run call xm_c76 nL mc ms ret Q (f + 1) (xm_drop 0 xm_c76) lv st G E kc ks = xm_run call xm_c76 nL mc ms ret Q f (xm_drop 1 xm_c76) lv (.ref j :: st) G E kc ks := by
  rw [xz_76_0, h]; rfl
theorem xy_76_2 {j : Nat} (h : xm_get lv 1 = some (.ref j)) : xm_run call xm_c76 nL mc ms ret Q (f + 1) (xm_drop 2 xm_c76) lv st G E kc ks = xm_run call xm_c76 nL mc ms ret Q f (xm_drop 3 xm_c76) lv (.ref j :: st) G E kc ks := by
  rw [xz_76_2, h]; rfl
theorem xy_76_4  : xm_run call xm_c76 nL mc ms ret Q (f + 1) (xm_drop 4 xm_c76) lv st G E kc ks = xm_call call mc ms 25 0 st G E kc ks (fun st G E kc ks => xm_run call xm_c76 nL mc ms ret Q f (xm_drop 5 xm_c76) lv st G E kc ks) := by
  rw [xz_76_4, show (Nat.beq 25 1006 || Nat.beq 25 1007) = false from rfl, cond_false]
theorem xy_76_5 {j : Nat} (h : xm_get lv 0 = some (.ref j)) : xm_run call xm_c76 nL mc ms ret Q (f + 1) (xm_drop 5 xm_c76) lv st G E kc ks = xm_run call xm_c76 nL mc ms ret Q f (xm_drop 6 xm_c76) lv (.ref j :: st) G E kc ks := by
  rw [xz_76_5, h]; rfl
theorem xy_76_7 {j : Nat} (h : xm_get lv 1 = some (.ref j)) : xm_run call xm_c76 nL mc ms ret Q (f + 1) (xm_drop 7 xm_c76) lv st G E kc ks = xm_run call xm_c76 nL mc ms ret Q f (xm_drop 8 xm_c76) lv (.ref j :: st) G E kc ks := by
  rw [xz_76_7, h]; rfl
theorem xy_76_9  : xm_run call xm_c76 nL mc ms ret Q (f + 1) (xm_drop 9 xm_c76) lv st G E kc ks = xm_call call mc ms 2 0 st G E kc ks (fun st G E kc ks => xm_run call xm_c76 nL mc ms ret Q f (xm_drop 10 xm_c76) lv st G E kc ks) := by
  rw [xz_76_9, show (Nat.beq 2 1006 || Nat.beq 2 1007) = false from rfl, cond_false]
theorem xy_76_10 {j : Nat} (h : xm_get lv 0 = some (.ref j)) : xm_run call xm_c76 nL mc ms ret Q (f + 1) (xm_drop 10 xm_c76) lv st G E kc ks = xm_run call xm_c76 nL mc ms ret Q f (xm_drop 11 xm_c76) lv (.ref j :: st) G E kc ks := by
  rw [xz_76_10, h]; rfl
theorem xy_76_12 {j : Nat} (h : xm_get lv 1 = some (.ref j)) : xm_run call xm_c76 nL mc ms ret Q (f + 1) (xm_drop 12 xm_c76) lv st G E kc ks = xm_run call xm_c76 nL mc ms ret Q f (xm_drop 13 xm_c76) lv (.ref j :: st) G E kc ks := by
  rw [xz_76_12, h]; rfl
theorem xy_76_14  : xm_run call xm_c76 nL mc ms ret Q (f + 1) (xm_drop 14 xm_c76) lv st G E kc ks = xm_call call mc ms 37 0 st G E kc ks (fun st G E kc ks => xm_run call xm_c76 nL mc ms ret Q f (xm_drop 15 xm_c76) lv st G E kc ks) := by
  rw [xz_76_14, show (Nat.beq 37 1006 || Nat.beq 37 1007) = false from rfl, cond_false]
theorem xy_76_15 {j : Nat} (h : xm_get lv 1 = some (.ref j)) : xm_run call xm_c76 nL mc ms ret Q (f + 1) (xm_drop 15 xm_c76) lv st G E kc ks = xm_run call xm_c76 nL mc ms ret Q f (xm_drop 16 xm_c76) lv (.ref j :: st) G E kc ks := by
  rw [xz_76_15, h]; rfl
theorem xy_76_18 {j : Nat} (h : xm_get lv 0 = some (.ref j)) : xm_run call xm_c76 nL mc ms ret Q (f + 1) (xm_drop 18 xm_c76) lv st G E kc ks = xm_run call xm_c76 nL mc ms ret Q f (xm_drop 19 xm_c76) lv (.ref j :: st) G E kc ks := by
  rw [xz_76_18, h]; rfl
theorem xy_76_23 {j : Nat} (h : xm_get lv 1 = some (.ref j)) : xm_run call xm_c76 nL mc ms ret Q (f + 1) (xm_drop 23 xm_c76) lv st G E kc ks = xm_run call xm_c76 nL mc ms ret Q f (xm_drop 24 xm_c76) lv (.ref j :: st) G E kc ks := by
  rw [xz_76_23, h]; rfl
theorem xy_76_26 {j : Nat} (h : xm_get lv 0 = some (.ref j)) : xm_run call xm_c76 nL mc ms ret Q (f + 1) (xm_drop 26 xm_c76) lv st G E kc ks = xm_run call xm_c76 nL mc ms ret Q f (xm_drop 27 xm_c76) lv (.ref j :: st) G E kc ks := by
  rw [xz_76_26, h]; rfl
theorem xy_76_31 {j : Nat} (h : xm_get lv 0 = some (.ref j)) : xm_run call xm_c76 nL mc ms ret Q (f + 1) (xm_drop 31 xm_c76) lv st G E kc ks = xm_run call xm_c76 nL mc ms ret Q f (xm_drop 32 xm_c76) lv (.ref j :: st) G E kc ks := by
  rw [xz_76_31, h]; rfl
theorem xy_76_32 {j : Nat} (h : xm_get lv 1 = some (.ref j)) : xm_run call xm_c76 nL mc ms ret Q (f + 1) (xm_drop 32 xm_c76) lv st G E kc ks = xm_run call xm_c76 nL mc ms ret Q f (xm_drop 33 xm_c76) lv (.ref j :: st) G E kc ks := by
  rw [xz_76_32, h]; rfl
theorem xy_76_35 {j : Nat} (h : xm_get lv 0 = some (.ref j)) : xm_run call xm_c76 nL mc ms ret Q (f + 1) (xm_drop 35 xm_c76) lv st G E kc ks = xm_run call xm_c76 nL mc ms ret Q f (xm_drop 36 xm_c76) lv (.ref j :: st) G E kc ks := by
  rw [xz_76_35, h]; rfl
theorem xy_76_36 {j : Nat} (h : xm_get lv 1 = some (.ref j)) : xm_run call xm_c76 nL mc ms ret Q (f + 1) (xm_drop 36 xm_c76) lv st G E kc ks = xm_run call xm_c76 nL mc ms ret Q f (xm_drop 37 xm_c76) lv (.ref j :: st) G E kc ks := by
  rw [xz_76_36, h]; rfl
theorem xy_76_39 {j : Nat} (h : xm_get lv 0 = some (.ref j)) : xm_run call xm_c76 nL mc ms ret Q (f + 1) (xm_drop 39 xm_c76) lv st G E kc ks = xm_run call xm_c76 nL mc ms ret Q f (xm_drop 40 xm_c76) lv (.ref j :: st) G E kc ks := by
  rw [xz_76_39, h]; rfl
theorem xy_76_40 {j : Nat} (h : xm_get lv 1 = some (.ref j)) : xm_run call xm_c76 nL mc ms ret Q (f + 1) (xm_drop 40 xm_c76) lv st G E kc ks = xm_run call xm_c76 nL mc ms ret Q f (xm_drop 41 xm_c76) lv (.ref j :: st) G E kc ks := by
  rw [xz_76_40, h]; rfl
theorem xy_76_43 : xm_run call xm_c76 nL 0 0 none Q (f + 1) (xm_drop 43 xm_c76) lv [] G E 0 0 = Q none G E := by
  rw [xz_76_43]; rfl
theorem xy_113_0 {x : Int32} (h : xm_get lv 1 = some (.int x)) : xm_run call xm_c113 nL mc ms ret Q (f + 1) (xm_drop 0 xm_c113) lv st G E kc ks = xm_run call xm_c113 nL mc ms ret Q f (xm_drop 1 xm_c113) lv (.int x :: st) G E kc ks := by
  rw [xz_113_0, h]; rfl
theorem xy_113_1 {x : Int32} : xm_run call xm_c113 nL mc ms ret Q (f + 1) (xm_drop 1 xm_c113) lv (.int x :: st) G E kc ks = (bif !decide (x.toInt < 0) then xm_run call xm_c113 nL mc ms ret Q f (xm_drop 4 xm_c113) lv st G E kc ks else xm_run call xm_c113 nL mc ms ret Q f (xm_drop 2 xm_c113) lv st G E kc ks) := by
  rw [xz_113_1]; show xm_cmpI E (.int x) (.int 0) _ = _; rw [xc_int, xk_ge]; rfl
theorem xy_113_3 {x : Int32} : xm_run call xm_c113 nL 0 0 (some .int) Q (f + 1) (xm_drop 3 xm_c113) lv [.int x] G E 0 0 = Q (some (.int x)) G E := by
  rw [xz_113_3]; rfl
theorem xy_113_4 {j : Nat} (h : xm_get lv 0 = some (.ref j)) : xm_run call xm_c113 nL mc ms ret Q (f + 1) (xm_drop 4 xm_c113) lv st G E kc ks = xm_run call xm_c113 nL mc ms ret Q f (xm_drop 5 xm_c113) lv (.ref j :: st) G E kc ks := by
  rw [xz_113_4, h]; rfl
theorem xy_113_7 {x : Int32} : xm_run call xm_c113 3 mc ms ret Q (f + 1) (xm_drop 7 xm_c113) lv (.int x :: st) G E kc ks = xm_run call xm_c113 3 mc ms ret Q f (xm_drop 8 xm_c113) (xm_set1 lv 2 (.int x)) st G E kc ks := by
  rfl
theorem xy_113_8 {j : Nat} (h : xm_get lv 0 = some (.ref j)) : xm_run call xm_c113 nL mc ms ret Q (f + 1) (xm_drop 8 xm_c113) lv st G E kc ks = xm_run call xm_c113 nL mc ms ret Q f (xm_drop 9 xm_c113) lv (.ref j :: st) G E kc ks := by
  rw [xz_113_8, h]; rfl
theorem xy_113_10 {x : Int32} (h : xm_get lv 1 = some (.int x)) : xm_run call xm_c113 nL mc ms ret Q (f + 1) (xm_drop 10 xm_c113) lv st G E kc ks = xm_run call xm_c113 nL mc ms ret Q f (xm_drop 11 xm_c113) lv (.int x :: st) G E kc ks := by
  rw [xz_113_10, h]; rfl
theorem xy_113_12 {x : Int32} (h : xm_get lv 2 = some (.int x)) : xm_run call xm_c113 nL mc ms ret Q (f + 1) (xm_drop 12 xm_c113) lv st G E kc ks = xm_run call xm_c113 nL mc ms ret Q f (xm_drop 13 xm_c113) lv (.int x :: st) G E kc ks := by
  rw [xz_113_12, h]; rfl
theorem xy_113_13 {x : Int32} : xm_run call xm_c113 nL 0 0 (some .int) Q (f + 1) (xm_drop 13 xm_c113) lv [.int x] G E 0 0 = Q (some (.int x)) G E := by
  rw [xz_113_13]; rfl
theorem xy_116_0 {x : Int32} (h : xm_get lv 1 = some (.int x)) : xm_run call xm_c116 nL mc ms ret Q (f + 1) (xm_drop 0 xm_c116) lv st G E kc ks = xm_run call xm_c116 nL mc ms ret Q f (xm_drop 1 xm_c116) lv (.int x :: st) G E kc ks := by
  rw [xz_116_0, h]; rfl
theorem xy_116_1 {x : Int32} : xm_run call xm_c116 nL mc ms ret Q (f + 1) (xm_drop 1 xm_c116) lv (.int x :: st) G E kc ks = (bif decide (x.toInt < 0) then xm_run call xm_c116 nL mc ms ret Q f (xm_drop 5 xm_c116) lv st G E kc ks else xm_run call xm_c116 nL mc ms ret Q f (xm_drop 2 xm_c116) lv st G E kc ks) := by
  rw [xz_116_1]; show xm_cmpI E (.int x) (.int 0) _ = _; rw [xc_int, xk_lt]; rfl
theorem xy_116_2 {x : Int32} (h : xm_get lv 1 = some (.int x)) : xm_run call xm_c116 nL mc ms ret Q (f + 1) (xm_drop 2 xm_c116) lv st G E kc ks = xm_run call xm_c116 nL mc ms ret Q f (xm_drop 3 xm_c116) lv (.int x :: st) G E kc ks := by
  rw [xz_116_2, h]; rfl
theorem xy_116_4 {x y : Int32} : xm_run call xm_c116 nL mc ms ret Q (f + 1) (xm_drop 4 xm_c116) lv (.int y :: .int x :: st) G E kc ks = (bif decide (x.toInt < y.toInt) then xm_run call xm_c116 nL mc ms ret Q f (xm_drop 7 xm_c116) lv st G E kc ks else xm_run call xm_c116 nL mc ms ret Q f (xm_drop 5 xm_c116) lv st G E kc ks) := by
  rw [xz_116_4]; show xm_cmpI E (.int x) (.int y) _ = _; rw [xc_int, xk_lt]
theorem xy_116_6 {x : Int32} : xm_run call xm_c116 nL 0 0 (some .int) Q (f + 1) (xm_drop 6 xm_c116) lv [.int x] G E 0 0 = Q (some (.int x)) G E := by
  rw [xz_116_6]; rfl
theorem xy_116_7 {j : Nat} (h : xm_get lv 0 = some (.ref j)) : xm_run call xm_c116 nL mc ms ret Q (f + 1) (xm_drop 7 xm_c116) lv st G E kc ks = xm_run call xm_c116 nL mc ms ret Q f (xm_drop 8 xm_c116) lv (.ref j :: st) G E kc ks := by
  rw [xz_116_7, h]; rfl
theorem xy_116_9 {x : Int32} (h : xm_get lv 1 = some (.int x)) : xm_run call xm_c116 nL mc ms ret Q (f + 1) (xm_drop 9 xm_c116) lv st G E kc ks = xm_run call xm_c116 nL mc ms ret Q f (xm_drop 10 xm_c116) lv (.int x :: st) G E kc ks := by
  rw [xz_116_9, h]; rfl
theorem xy_116_11 {j : Nat} (h : xm_get lv 0 = some (.ref j)) : xm_run call xm_c116 nL mc ms ret Q (f + 1) (xm_drop 11 xm_c116) lv st G E kc ks = xm_run call xm_c116 nL mc ms ret Q f (xm_drop 12 xm_c116) lv (.ref j :: st) G E kc ks := by
  rw [xz_116_11, h]; rfl
theorem xy_116_13  : xm_run call xm_c116 nL mc ms ret Q (f + 1) (xm_drop 13 xm_c116) lv st G E kc ks = xm_call call mc ms 76 0 st G E kc ks (fun st G E kc ks => xm_run call xm_c116 nL mc ms ret Q f (xm_drop 14 xm_c116) lv st G E kc ks) := by
  rw [xz_116_13, show (Nat.beq 76 1006 || Nat.beq 76 1007) = false from rfl, cond_false]
theorem xy_116_14 {j : Nat} (h : xm_get lv 0 = some (.ref j)) : xm_run call xm_c116 nL mc ms ret Q (f + 1) (xm_drop 14 xm_c116) lv st G E kc ks = xm_run call xm_c116 nL mc ms ret Q f (xm_drop 15 xm_c116) lv (.ref j :: st) G E kc ks := by
  rw [xz_116_14, h]; rfl
theorem xy_116_16 {x : Int32} (h : xm_get lv 1 = some (.int x)) : xm_run call xm_c116 nL mc ms ret Q (f + 1) (xm_drop 16 xm_c116) lv st G E kc ks = xm_run call xm_c116 nL mc ms ret Q f (xm_drop 17 xm_c116) lv (.int x :: st) G E kc ks := by
  rw [xz_116_16, h]; rfl
theorem xy_116_20 {j : Nat} (h : xm_get lv 0 = some (.ref j)) : xm_run call xm_c116 nL mc ms ret Q (f + 1) (xm_drop 20 xm_c116) lv st G E kc ks = xm_run call xm_c116 nL mc ms ret Q f (xm_drop 21 xm_c116) lv (.ref j :: st) G E kc ks := by
  rw [xz_116_20, h]; rfl
theorem xy_116_24 {x : Int32} : xm_run call xm_c116 nL 0 0 (some .int) Q (f + 1) (xm_drop 24 xm_c116) lv [.int x] G E 0 0 = Q (some (.int x)) G E := by
  rw [xz_116_24]; rfl
theorem xy_117_0 {x : Int32} (h : xm_get lv 1 = some (.int x)) : xm_run call xm_c117 nL mc ms ret Q (f + 1) (xm_drop 0 xm_c117) lv st G E kc ks = xm_run call xm_c117 nL mc ms ret Q f (xm_drop 1 xm_c117) lv (.int x :: st) G E kc ks := by
  rw [xz_117_0, h]; rfl
theorem xy_117_1 {x : Int32} : xm_run call xm_c117 nL mc ms ret Q (f + 1) (xm_drop 1 xm_c117) lv (.int x :: st) G E kc ks = (bif decide (x.toInt < 0) then xm_run call xm_c117 nL mc ms ret Q f (xm_drop 11 xm_c117) lv st G E kc ks else xm_run call xm_c117 nL mc ms ret Q f (xm_drop 2 xm_c117) lv st G E kc ks) := by
  rw [xz_117_1]; show xm_cmpI E (.int x) (.int 0) _ = _; rw [xc_int, xk_lt]; rfl
theorem xy_117_2 {x : Int32} (h : xm_get lv 1 = some (.int x)) : xm_run call xm_c117 nL mc ms ret Q (f + 1) (xm_drop 2 xm_c117) lv st G E kc ks = xm_run call xm_c117 nL mc ms ret Q f (xm_drop 3 xm_c117) lv (.int x :: st) G E kc ks := by
  rw [xz_117_2, h]; rfl
theorem xy_117_4 {x y : Int32} : xm_run call xm_c117 nL mc ms ret Q (f + 1) (xm_drop 4 xm_c117) lv (.int y :: .int x :: st) G E kc ks = (bif !decide (x.toInt < y.toInt) then xm_run call xm_c117 nL mc ms ret Q f (xm_drop 11 xm_c117) lv st G E kc ks else xm_run call xm_c117 nL mc ms ret Q f (xm_drop 5 xm_c117) lv st G E kc ks) := by
  rw [xz_117_4]; show xm_cmpI E (.int x) (.int y) _ = _; rw [xc_int, xk_ge]
theorem xy_117_5 {j : Nat} (h : xm_get lv 0 = some (.ref j)) : xm_run call xm_c117 nL mc ms ret Q (f + 1) (xm_drop 5 xm_c117) lv st G E kc ks = xm_run call xm_c117 nL mc ms ret Q f (xm_drop 6 xm_c117) lv (.ref j :: st) G E kc ks := by
  rw [xz_117_5, h]; rfl
theorem xy_117_7 {x : Int32} (h : xm_get lv 1 = some (.int x)) : xm_run call xm_c117 nL mc ms ret Q (f + 1) (xm_drop 7 xm_c117) lv st G E kc ks = xm_run call xm_c117 nL mc ms ret Q f (xm_drop 8 xm_c117) lv (.int x :: st) G E kc ks := by
  rw [xz_117_7, h]; rfl
theorem xy_117_10 {x : Int32} : xm_run call xm_c117 nL mc ms ret Q (f + 1) (xm_drop 10 xm_c117) lv (.int x :: st) G E kc ks = (bif !decide (x.toInt = 0) then xm_run call xm_c117 nL mc ms ret Q f (xm_drop 13 xm_c117) lv st G E kc ks else xm_run call xm_c117 nL mc ms ret Q f (xm_drop 11 xm_c117) lv st G E kc ks) := by
  rw [xz_117_10]; show xm_cmpI E (.int x) (.int 0) _ = _; rw [xc_int, xk_ne]; rfl
theorem xy_117_12 {x : Int32} : xm_run call xm_c117 nL 0 0 (some .int) Q (f + 1) (xm_drop 12 xm_c117) lv [.int x] G E 0 0 = Q (some (.int x)) G E := by
  rw [xz_117_12]; rfl
theorem xy_117_13 {j : Nat} (h : xm_get lv 0 = some (.ref j)) : xm_run call xm_c117 nL mc ms ret Q (f + 1) (xm_drop 13 xm_c117) lv st G E kc ks = xm_run call xm_c117 nL mc ms ret Q f (xm_drop 14 xm_c117) lv (.ref j :: st) G E kc ks := by
  rw [xz_117_13, h]; rfl
theorem xy_117_15 {j : Nat} (h : xm_get lv 0 = some (.ref j)) : xm_run call xm_c117 nL mc ms ret Q (f + 1) (xm_drop 15 xm_c117) lv st G E kc ks = xm_run call xm_c117 nL mc ms ret Q f (xm_drop 16 xm_c117) lv (.ref j :: st) G E kc ks := by
  rw [xz_117_15, h]; rfl
theorem xy_117_17 {x : Int32} (h : xm_get lv 1 = some (.int x)) : xm_run call xm_c117 nL mc ms ret Q (f + 1) (xm_drop 17 xm_c117) lv st G E kc ks = xm_run call xm_c117 nL mc ms ret Q f (xm_drop 18 xm_c117) lv (.int x :: st) G E kc ks := by
  rw [xz_117_17, h]; rfl
theorem xy_117_19  : xm_run call xm_c117 nL mc ms ret Q (f + 1) (xm_drop 19 xm_c117) lv st G E kc ks = xm_call call mc ms 76 0 st G E kc ks (fun st G E kc ks => xm_run call xm_c117 nL mc ms ret Q f (xm_drop 20 xm_c117) lv st G E kc ks) := by
  rw [xz_117_19, show (Nat.beq 76 1006 || Nat.beq 76 1007) = false from rfl, cond_false]
theorem xy_117_20 {j : Nat} (h : xm_get lv 0 = some (.ref j)) : xm_run call xm_c117 nL mc ms ret Q (f + 1) (xm_drop 20 xm_c117) lv st G E kc ks = xm_run call xm_c117 nL mc ms ret Q f (xm_drop 21 xm_c117) lv (.ref j :: st) G E kc ks := by
  rw [xz_117_20, h]; rfl
theorem xy_117_22  : xm_run call xm_c117 nL mc ms ret Q (f + 1) (xm_drop 22 xm_c117) lv st G E kc ks = xm_call call mc ms 19 0 st G E kc ks (fun st G E kc ks => xm_run call xm_c117 nL mc ms ret Q f (xm_drop 23 xm_c117) lv st G E kc ks) := by
  rw [xz_117_22, show (Nat.beq 19 1006 || Nat.beq 19 1007) = false from rfl, cond_false]
theorem xy_117_23 {j : Nat} (h : xm_get lv 0 = some (.ref j)) : xm_run call xm_c117 nL mc ms ret Q (f + 1) (xm_drop 23 xm_c117) lv st G E kc ks = xm_run call xm_c117 nL mc ms ret Q f (xm_drop 24 xm_c117) lv (.ref j :: st) G E kc ks := by
  rw [xz_117_23, h]; rfl
theorem xy_117_27 {x : Int32} : xm_run call xm_c117 nL 0 0 (some .int) Q (f + 1) (xm_drop 27 xm_c117) lv [.int x] G E 0 0 = Q (some (.int x)) G E := by
  rw [xz_117_27]; rfl
theorem xy_231_0 {x : Int32} (h : xm_get lv 1 = some (.int x)) : xm_run call xm_c231 nL mc ms ret Q (f + 1) (xm_drop 0 xm_c231) lv st G E kc ks = xm_run call xm_c231 nL mc ms ret Q f (xm_drop 1 xm_c231) lv (.int x :: st) G E kc ks := by
  rw [xz_231_0, h]; rfl
theorem xy_231_1 {x : Int32} : xm_run call xm_c231 nL mc ms ret Q (f + 1) (xm_drop 1 xm_c231) lv (.int x :: st) G E kc ks = (bif !decide (x.toInt < 0) then xm_run call xm_c231 nL mc ms ret Q f (xm_drop 4 xm_c231) lv st G E kc ks else xm_run call xm_c231 nL mc ms ret Q f (xm_drop 2 xm_c231) lv st G E kc ks) := by
  rw [xz_231_1]; show xm_cmpI E (.int x) (.int 0) _ = _; rw [xc_int, xk_ge]; rfl
theorem xy_231_3 {x : Int32} : xm_run call xm_c231 nL 0 0 (some .int) Q (f + 1) (xm_drop 3 xm_c231) lv [.int x] G E 0 0 = Q (some (.int x)) G E := by
  rw [xz_231_3]; rfl
theorem xy_231_4 {j : Nat} (h : xm_get lv 0 = some (.ref j)) : xm_run call xm_c231 nL mc ms ret Q (f + 1) (xm_drop 4 xm_c231) lv st G E kc ks = xm_run call xm_c231 nL mc ms ret Q f (xm_drop 5 xm_c231) lv (.ref j :: st) G E kc ks := by
  rw [xz_231_4, h]; rfl
theorem xy_231_6 {x : Int32} : xm_run call xm_c231 3 mc ms ret Q (f + 1) (xm_drop 6 xm_c231) lv (.int x :: st) G E kc ks = xm_run call xm_c231 3 mc ms ret Q f (xm_drop 7 xm_c231) (xm_set1 lv 2 (.int x)) st G E kc ks := by
  rfl
theorem xy_231_7 {j : Nat} (h : xm_get lv 0 = some (.ref j)) : xm_run call xm_c231 nL mc ms ret Q (f + 1) (xm_drop 7 xm_c231) lv st G E kc ks = xm_run call xm_c231 nL mc ms ret Q f (xm_drop 8 xm_c231) lv (.ref j :: st) G E kc ks := by
  rw [xz_231_7, h]; rfl
theorem xy_231_8 {x : Int32} (h : xm_get lv 1 = some (.int x)) : xm_run call xm_c231 nL mc ms ret Q (f + 1) (xm_drop 8 xm_c231) lv st G E kc ks = xm_run call xm_c231 nL mc ms ret Q f (xm_drop 9 xm_c231) lv (.int x :: st) G E kc ks := by
  rw [xz_231_8, h]; rfl
theorem xy_231_10 {x : Int32} (h : xm_get lv 2 = some (.int x)) : xm_run call xm_c231 nL mc ms ret Q (f + 1) (xm_drop 10 xm_c231) lv st G E kc ks = xm_run call xm_c231 nL mc ms ret Q f (xm_drop 11 xm_c231) lv (.int x :: st) G E kc ks := by
  rw [xz_231_10, h]; rfl
theorem xy_231_11 {x : Int32} : xm_run call xm_c231 nL 0 0 (some .int) Q (f + 1) (xm_drop 11 xm_c231) lv [.int x] G E 0 0 = Q (some (.int x)) G E := by
  rw [xz_231_11]; rfl
theorem xy_236_0 {x : Int32} (h : xm_get lv 1 = some (.int x)) : xm_run call xm_c236 nL mc ms ret Q (f + 1) (xm_drop 0 xm_c236) lv st G E kc ks = xm_run call xm_c236 nL mc ms ret Q f (xm_drop 1 xm_c236) lv (.int x :: st) G E kc ks := by
  rw [xz_236_0, h]; rfl
theorem xy_236_1 {x : Int32} : xm_run call xm_c236 nL mc ms ret Q (f + 1) (xm_drop 1 xm_c236) lv (.int x :: st) G E kc ks = xm_run call xm_c236 nL mc ms ret Q f (xm_drop 2 xm_c236) lv (.long x.toInt64 :: st) G E kc ks := by
  rfl
theorem xy_236_4  : xm_run call xm_c236 nL mc ms ret Q (f + 1) (xm_drop 4 xm_c236) lv st G E kc ks = xm_call call mc ms 125 1 st G E kc ks (fun st G E kc ks => xm_run call xm_c236 nL mc ms ret Q f (xm_drop 5 xm_c236) lv st G E kc ks) := by
  rw [xz_236_4, show Nat.beq 125 1001 = false from rfl, show (Nat.beq 125 1003 || (Nat.beq 125 1004 || Nat.beq 125 1005)) = false from rfl, show Nat.beq 1 3 = false from rfl, cond_false, cond_false, cond_false]
theorem xy_236_5 {x : Int32} : xm_run call xm_c236 nL mc ms ret Q (f + 1) (xm_drop 5 xm_c236) lv (.int x :: st) G E kc ks = (bif !decide (x.toInt = 0) then xm_run call xm_c236 nL mc ms ret Q f (xm_drop 8 xm_c236) lv st G E kc ks else xm_run call xm_c236 nL mc ms ret Q f (xm_drop 6 xm_c236) lv st G E kc ks) := by
  rw [xz_236_5]; show xm_cmpI E (.int x) (.int 0) _ = _; rw [xc_int, xk_ne]; rfl
theorem xy_236_7 {x : Int32} : xm_run call xm_c236 nL 0 0 (some .int) Q (f + 1) (xm_drop 7 xm_c236) lv [.int x] G E 0 0 = Q (some (.int x)) G E := by
  rw [xz_236_7]; rfl
theorem xy_236_8 {j : Nat} (h : xm_get lv 0 = some (.ref j)) : xm_run call xm_c236 nL mc ms ret Q (f + 1) (xm_drop 8 xm_c236) lv st G E kc ks = xm_run call xm_c236 nL mc ms ret Q f (xm_drop 9 xm_c236) lv (.ref j :: st) G E kc ks := by
  rw [xz_236_8, h]; rfl
theorem xy_236_10 {x : Int32} (h : xm_get lv 1 = some (.int x)) : xm_run call xm_c236 nL mc ms ret Q (f + 1) (xm_drop 10 xm_c236) lv st G E kc ks = xm_run call xm_c236 nL mc ms ret Q f (xm_drop 11 xm_c236) lv (.int x :: st) G E kc ks := by
  rw [xz_236_10, h]; rfl
theorem xy_236_13 {j : Nat} (h : xm_get lv 0 = some (.ref j)) : xm_run call xm_c236 nL mc ms ret Q (f + 1) (xm_drop 13 xm_c236) lv st G E kc ks = xm_run call xm_c236 nL mc ms ret Q f (xm_drop 14 xm_c236) lv (.ref j :: st) G E kc ks := by
  rw [xz_236_13, h]; rfl
theorem xy_236_15 {x : Int32} (h : xm_get lv 1 = some (.int x)) : xm_run call xm_c236 nL mc ms ret Q (f + 1) (xm_drop 15 xm_c236) lv st G E kc ks = xm_run call xm_c236 nL mc ms ret Q f (xm_drop 16 xm_c236) lv (.int x :: st) G E kc ks := by
  rw [xz_236_15, h]; rfl
theorem xy_236_16 {j : Nat} (h : xm_get lv 0 = some (.ref j)) : xm_run call xm_c236 nL mc ms ret Q (f + 1) (xm_drop 16 xm_c236) lv st G E kc ks = xm_run call xm_c236 nL mc ms ret Q f (xm_drop 17 xm_c236) lv (.ref j :: st) G E kc ks := by
  rw [xz_236_16, h]; rfl
theorem xy_236_19 {j : Nat} (h : xm_get lv 0 = some (.ref j)) : xm_run call xm_c236 nL mc ms ret Q (f + 1) (xm_drop 19 xm_c236) lv st G E kc ks = xm_run call xm_c236 nL mc ms ret Q f (xm_drop 20 xm_c236) lv (.ref j :: st) G E kc ks := by
  rw [xz_236_19, h]; rfl
theorem xy_236_21 {x : Int32} (h : xm_get lv 1 = some (.int x)) : xm_run call xm_c236 nL mc ms ret Q (f + 1) (xm_drop 21 xm_c236) lv st G E kc ks = xm_run call xm_c236 nL mc ms ret Q f (xm_drop 22 xm_c236) lv (.int x :: st) G E kc ks := by
  rw [xz_236_21, h]; rfl
theorem xy_236_22 {j : Nat} (h : xm_get lv 0 = some (.ref j)) : xm_run call xm_c236 nL mc ms ret Q (f + 1) (xm_drop 22 xm_c236) lv st G E kc ks = xm_run call xm_c236 nL mc ms ret Q f (xm_drop 23 xm_c236) lv (.ref j :: st) G E kc ks := by
  rw [xz_236_22, h]; rfl
theorem xy_236_26 {x : Int32} : xm_run call xm_c236 3 mc ms ret Q (f + 1) (xm_drop 26 xm_c236) lv (.int x :: st) G E kc ks = xm_run call xm_c236 3 mc ms ret Q f (xm_drop 27 xm_c236) (xm_set1 lv 2 (.int x)) st G E kc ks := by
  rfl
theorem xy_236_27 {x : Int32} (h : xm_get lv 2 = some (.int x)) : xm_run call xm_c236 nL mc ms ret Q (f + 1) (xm_drop 27 xm_c236) lv st G E kc ks = xm_run call xm_c236 nL mc ms ret Q f (xm_drop 28 xm_c236) lv (.int x :: st) G E kc ks := by
  rw [xz_236_27, h]; rfl
theorem xy_236_29 {x y : Int32} : xm_run call xm_c236 nL mc ms ret Q (f + 1) (xm_drop 29 xm_c236) lv (.int y :: .int x :: st) G E kc ks = (bif !decide (x.toInt < y.toInt) then xm_run call xm_c236 nL mc ms ret Q f (xm_drop 44 xm_c236) lv st G E kc ks else xm_run call xm_c236 nL mc ms ret Q f (xm_drop 30 xm_c236) lv st G E kc ks) := by
  rw [xz_236_29]; show xm_cmpI E (.int x) (.int y) _ = _; rw [xc_int, xk_ge]
theorem xy_236_30 {j : Nat} (h : xm_get lv 0 = some (.ref j)) : xm_run call xm_c236 nL mc ms ret Q (f + 1) (xm_drop 30 xm_c236) lv st G E kc ks = xm_run call xm_c236 nL mc ms ret Q f (xm_drop 31 xm_c236) lv (.ref j :: st) G E kc ks := by
  rw [xz_236_30, h]; rfl
theorem xy_236_33 {x : Int32} (h : xm_get lv 1 = some (.int x)) : xm_run call xm_c236 nL mc ms ret Q (f + 1) (xm_drop 33 xm_c236) lv st G E kc ks = xm_run call xm_c236 nL mc ms ret Q f (xm_drop 34 xm_c236) lv (.int x :: st) G E kc ks := by
  rw [xz_236_33, h]; rfl
theorem xy_236_34 {x y : Int32} : xm_run call xm_c236 nL mc ms ret Q (f + 1) (xm_drop 34 xm_c236) lv (.int y :: .int x :: st) G E kc ks = xm_run call xm_c236 nL mc ms ret Q f (xm_drop 35 xm_c236) lv (.int (x * y) :: st) G E kc ks := by
  rw [xz_236_34, xk_mul]
theorem xy_236_35 {x : Int32} (h : xm_get lv 2 = some (.int x)) : xm_run call xm_c236 nL mc ms ret Q (f + 1) (xm_drop 35 xm_c236) lv st G E kc ks = xm_run call xm_c236 nL mc ms ret Q f (xm_drop 36 xm_c236) lv (.int x :: st) G E kc ks := by
  rw [xz_236_35, h]; rfl
theorem xy_236_36 {x y : Int32} : xm_run call xm_c236 nL mc ms ret Q (f + 1) (xm_drop 36 xm_c236) lv (.int y :: .int x :: st) G E kc ks = xm_run call xm_c236 nL mc ms ret Q f (xm_drop 37 xm_c236) lv (.int (x + y) :: st) G E kc ks := by
  rw [xz_236_36, xk_add]
theorem xy_236_37 {j : Nat} (h : xm_get lv 0 = some (.ref j)) : xm_run call xm_c236 nL mc ms ret Q (f + 1) (xm_drop 37 xm_c236) lv st G E kc ks = xm_run call xm_c236 nL mc ms ret Q f (xm_drop 38 xm_c236) lv (.ref j :: st) G E kc ks := by
  rw [xz_236_37, h]; rfl
theorem xy_236_39 {x : Int32} (h : xm_get lv 2 = some (.int x)) : xm_run call xm_c236 nL mc ms ret Q (f + 1) (xm_drop 39 xm_c236) lv st G E kc ks = xm_run call xm_c236 nL mc ms ret Q f (xm_drop 40 xm_c236) lv (.int x :: st) G E kc ks := by
  rw [xz_236_39, h]; rfl
theorem xy_236_42 {x : Int32} (h : xm_get lv 2 = some (.int x)) : xm_run call xm_c236 3 mc ms ret Q (f + 1) (xm_drop 42 xm_c236) lv st G E kc ks = xm_run call xm_c236 3 mc ms ret Q f (xm_drop 43 xm_c236) (xm_set1 lv 2 (.int (x + Int32.ofInt 1))) st G E kc ks := by
  rw [xz_236_42, h]; exact xl_frc (x + Int32.ofInt 1) (fun z => xm_run call xm_c236 3 mc ms ret Q f (xm_drop 43 xm_c236) (xm_set1 lv 2 (.int z)) st G E kc ks)
theorem xy_236_43  : xm_run call xm_c236 nL mc ms ret Q (f + 1) (xm_drop 43 xm_c236) lv st G E kc ks = xm_run call xm_c236 nL mc ms ret Q f (xm_drop 27 xm_c236) lv st G E kc ks := by
  rfl
theorem xy_236_44 {j : Nat} (h : xm_get lv 0 = some (.ref j)) : xm_run call xm_c236 nL mc ms ret Q (f + 1) (xm_drop 44 xm_c236) lv st G E kc ks = xm_run call xm_c236 nL mc ms ret Q f (xm_drop 45 xm_c236) lv (.ref j :: st) G E kc ks := by
  rw [xz_236_44, h]; rfl
theorem xy_236_48 {x : Int32} : xm_run call xm_c236 nL 0 0 (some .int) Q (f + 1) (xm_drop 48 xm_c236) lv [.int x] G E 0 0 = Q (some (.int x)) G E := by
  rw [xz_236_48]; rfl
theorem xy_237_0 {x : Int32} (h : xm_get lv 1 = some (.int x)) : xm_run call xm_c237 nL mc ms ret Q (f + 1) (xm_drop 0 xm_c237) lv st G E kc ks = xm_run call xm_c237 nL mc ms ret Q f (xm_drop 1 xm_c237) lv (.int x :: st) G E kc ks := by
  rw [xz_237_0, h]; rfl
theorem xy_237_1 {x : Int32} : xm_run call xm_c237 nL mc ms ret Q (f + 1) (xm_drop 1 xm_c237) lv (.int x :: st) G E kc ks = xm_run call xm_c237 nL mc ms ret Q f (xm_drop 2 xm_c237) lv (.long x.toInt64 :: st) G E kc ks := by
  rfl
theorem xy_237_4  : xm_run call xm_c237 nL mc ms ret Q (f + 1) (xm_drop 4 xm_c237) lv st G E kc ks = xm_call call mc ms 125 1 st G E kc ks (fun st G E kc ks => xm_run call xm_c237 nL mc ms ret Q f (xm_drop 5 xm_c237) lv st G E kc ks) := by
  rw [xz_237_4, show Nat.beq 125 1001 = false from rfl, show (Nat.beq 125 1003 || (Nat.beq 125 1004 || Nat.beq 125 1005)) = false from rfl, show Nat.beq 1 3 = false from rfl, cond_false, cond_false, cond_false]
theorem xy_237_5 {x : Int32} : xm_run call xm_c237 nL mc ms ret Q (f + 1) (xm_drop 5 xm_c237) lv (.int x :: st) G E kc ks = (bif decide (x.toInt = 0) then xm_run call xm_c237 nL mc ms ret Q f (xm_drop 11 xm_c237) lv st G E kc ks else xm_run call xm_c237 nL mc ms ret Q f (xm_drop 6 xm_c237) lv st G E kc ks) := by
  rw [xz_237_5]; show xm_cmpI E (.int x) (.int 0) _ = _; rw [xc_int, xk_eq]; rfl
theorem xy_237_6 {j : Nat} (h : xm_get lv 0 = some (.ref j)) : xm_run call xm_c237 nL mc ms ret Q (f + 1) (xm_drop 6 xm_c237) lv st G E kc ks = xm_run call xm_c237 nL mc ms ret Q f (xm_drop 7 xm_c237) lv (.ref j :: st) G E kc ks := by
  rw [xz_237_6, h]; rfl
theorem xy_237_8 {x : Int32} (h : xm_get lv 1 = some (.int x)) : xm_run call xm_c237 nL mc ms ret Q (f + 1) (xm_drop 8 xm_c237) lv st G E kc ks = xm_run call xm_c237 nL mc ms ret Q f (xm_drop 9 xm_c237) lv (.int x :: st) G E kc ks := by
  rw [xz_237_8, h]; rfl
theorem xy_237_10 {x : Int32} : xm_run call xm_c237 nL mc ms ret Q (f + 1) (xm_drop 10 xm_c237) lv (.int x :: st) G E kc ks = (bif !decide (x.toInt = 0) then xm_run call xm_c237 nL mc ms ret Q f (xm_drop 13 xm_c237) lv st G E kc ks else xm_run call xm_c237 nL mc ms ret Q f (xm_drop 11 xm_c237) lv st G E kc ks) := by
  rw [xz_237_10]; show xm_cmpI E (.int x) (.int 0) _ = _; rw [xc_int, xk_ne]; rfl
theorem xy_237_12 {x : Int32} : xm_run call xm_c237 nL 0 0 (some .int) Q (f + 1) (xm_drop 12 xm_c237) lv [.int x] G E 0 0 = Q (some (.int x)) G E := by
  rw [xz_237_12]; rfl
theorem xy_237_13 {j : Nat} (h : xm_get lv 0 = some (.ref j)) : xm_run call xm_c237 nL mc ms ret Q (f + 1) (xm_drop 13 xm_c237) lv st G E kc ks = xm_run call xm_c237 nL mc ms ret Q f (xm_drop 14 xm_c237) lv (.ref j :: st) G E kc ks := by
  rw [xz_237_13, h]; rfl
theorem xy_237_14 {j : Nat} (h : xm_get lv 0 = some (.ref j)) : xm_run call xm_c237 nL mc ms ret Q (f + 1) (xm_drop 14 xm_c237) lv st G E kc ks = xm_run call xm_c237 nL mc ms ret Q f (xm_drop 15 xm_c237) lv (.ref j :: st) G E kc ks := by
  rw [xz_237_14, h]; rfl
theorem xy_237_16 {x : Int32} (h : xm_get lv 1 = some (.int x)) : xm_run call xm_c237 nL mc ms ret Q (f + 1) (xm_drop 16 xm_c237) lv st G E kc ks = xm_run call xm_c237 nL mc ms ret Q f (xm_drop 17 xm_c237) lv (.int x :: st) G E kc ks := by
  rw [xz_237_16, h]; rfl
theorem xy_237_19 {j : Nat} (h : xm_get lv 0 = some (.ref j)) : xm_run call xm_c237 nL mc ms ret Q (f + 1) (xm_drop 19 xm_c237) lv st G E kc ks = xm_run call xm_c237 nL mc ms ret Q f (xm_drop 20 xm_c237) lv (.ref j :: st) G E kc ks := by
  rw [xz_237_19, h]; rfl
theorem xy_237_20 {j : Nat} (h : xm_get lv 0 = some (.ref j)) : xm_run call xm_c237 nL mc ms ret Q (f + 1) (xm_drop 20 xm_c237) lv st G E kc ks = xm_run call xm_c237 nL mc ms ret Q f (xm_drop 21 xm_c237) lv (.ref j :: st) G E kc ks := by
  rw [xz_237_20, h]; rfl
theorem xy_237_22 {x : Int32} (h : xm_get lv 1 = some (.int x)) : xm_run call xm_c237 nL mc ms ret Q (f + 1) (xm_drop 22 xm_c237) lv st G E kc ks = xm_run call xm_c237 nL mc ms ret Q f (xm_drop 23 xm_c237) lv (.int x :: st) G E kc ks := by
  rw [xz_237_22, h]; rfl
theorem xy_237_25 {j : Nat} (h : xm_get lv 0 = some (.ref j)) : xm_run call xm_c237 nL mc ms ret Q (f + 1) (xm_drop 25 xm_c237) lv st G E kc ks = xm_run call xm_c237 nL mc ms ret Q f (xm_drop 26 xm_c237) lv (.ref j :: st) G E kc ks := by
  rw [xz_237_25, h]; rfl
theorem xy_237_29 {x : Int32} : xm_run call xm_c237 3 mc ms ret Q (f + 1) (xm_drop 29 xm_c237) lv (.int x :: st) G E kc ks = xm_run call xm_c237 3 mc ms ret Q f (xm_drop 30 xm_c237) (xm_set1 lv 2 (.int x)) st G E kc ks := by
  rfl
theorem xy_237_30 {x : Int32} (h : xm_get lv 2 = some (.int x)) : xm_run call xm_c237 nL mc ms ret Q (f + 1) (xm_drop 30 xm_c237) lv st G E kc ks = xm_run call xm_c237 nL mc ms ret Q f (xm_drop 31 xm_c237) lv (.int x :: st) G E kc ks := by
  rw [xz_237_30, h]; rfl
theorem xy_237_32 {x y : Int32} : xm_run call xm_c237 nL mc ms ret Q (f + 1) (xm_drop 32 xm_c237) lv (.int y :: .int x :: st) G E kc ks = (bif !decide (x.toInt < y.toInt) then xm_run call xm_c237 nL mc ms ret Q f (xm_drop 47 xm_c237) lv st G E kc ks else xm_run call xm_c237 nL mc ms ret Q f (xm_drop 33 xm_c237) lv st G E kc ks) := by
  rw [xz_237_32]; show xm_cmpI E (.int x) (.int y) _ = _; rw [xc_int, xk_ge]
theorem xy_237_33 {j : Nat} (h : xm_get lv 0 = some (.ref j)) : xm_run call xm_c237 nL mc ms ret Q (f + 1) (xm_drop 33 xm_c237) lv st G E kc ks = xm_run call xm_c237 nL mc ms ret Q f (xm_drop 34 xm_c237) lv (.ref j :: st) G E kc ks := by
  rw [xz_237_33, h]; rfl
theorem xy_237_35 {x : Int32} (h : xm_get lv 2 = some (.int x)) : xm_run call xm_c237 nL mc ms ret Q (f + 1) (xm_drop 35 xm_c237) lv st G E kc ks = xm_run call xm_c237 nL mc ms ret Q f (xm_drop 36 xm_c237) lv (.int x :: st) G E kc ks := by
  rw [xz_237_35, h]; rfl
theorem xy_237_36 {j : Nat} (h : xm_get lv 0 = some (.ref j)) : xm_run call xm_c237 nL mc ms ret Q (f + 1) (xm_drop 36 xm_c237) lv st G E kc ks = xm_run call xm_c237 nL mc ms ret Q f (xm_drop 37 xm_c237) lv (.ref j :: st) G E kc ks := by
  rw [xz_237_36, h]; rfl
theorem xy_237_39 {x : Int32} (h : xm_get lv 1 = some (.int x)) : xm_run call xm_c237 nL mc ms ret Q (f + 1) (xm_drop 39 xm_c237) lv st G E kc ks = xm_run call xm_c237 nL mc ms ret Q f (xm_drop 40 xm_c237) lv (.int x :: st) G E kc ks := by
  rw [xz_237_39, h]; rfl
theorem xy_237_40 {x y : Int32} : xm_run call xm_c237 nL mc ms ret Q (f + 1) (xm_drop 40 xm_c237) lv (.int y :: .int x :: st) G E kc ks = xm_run call xm_c237 nL mc ms ret Q f (xm_drop 41 xm_c237) lv (.int (x * y) :: st) G E kc ks := by
  rw [xz_237_40, xk_mul]
theorem xy_237_41 {x : Int32} (h : xm_get lv 2 = some (.int x)) : xm_run call xm_c237 nL mc ms ret Q (f + 1) (xm_drop 41 xm_c237) lv st G E kc ks = xm_run call xm_c237 nL mc ms ret Q f (xm_drop 42 xm_c237) lv (.int x :: st) G E kc ks := by
  rw [xz_237_41, h]; rfl
theorem xy_237_42 {x y : Int32} : xm_run call xm_c237 nL mc ms ret Q (f + 1) (xm_drop 42 xm_c237) lv (.int y :: .int x :: st) G E kc ks = xm_run call xm_c237 nL mc ms ret Q f (xm_drop 43 xm_c237) lv (.int (x + y) :: st) G E kc ks := by
  rw [xz_237_42, xk_add]
theorem xy_237_45 {x : Int32} (h : xm_get lv 2 = some (.int x)) : xm_run call xm_c237 3 mc ms ret Q (f + 1) (xm_drop 45 xm_c237) lv st G E kc ks = xm_run call xm_c237 3 mc ms ret Q f (xm_drop 46 xm_c237) (xm_set1 lv 2 (.int (x + Int32.ofInt 1))) st G E kc ks := by
  rw [xz_237_45, h]; exact xl_frc (x + Int32.ofInt 1) (fun z => xm_run call xm_c237 3 mc ms ret Q f (xm_drop 46 xm_c237) (xm_set1 lv 2 (.int z)) st G E kc ks)
theorem xy_237_46  : xm_run call xm_c237 nL mc ms ret Q (f + 1) (xm_drop 46 xm_c237) lv st G E kc ks = xm_run call xm_c237 nL mc ms ret Q f (xm_drop 30 xm_c237) lv st G E kc ks := by
  rfl
theorem xy_237_47 {j : Nat} (h : xm_get lv 0 = some (.ref j)) : xm_run call xm_c237 nL mc ms ret Q (f + 1) (xm_drop 47 xm_c237) lv st G E kc ks = xm_run call xm_c237 nL mc ms ret Q f (xm_drop 48 xm_c237) lv (.ref j :: st) G E kc ks := by
  rw [xz_237_47, h]; rfl
theorem xy_237_51 {x : Int32} : xm_run call xm_c237 nL 0 0 (some .int) Q (f + 1) (xm_drop 51 xm_c237) lv [.int x] G E 0 0 = Q (some (.int x)) G E := by
  rw [xz_237_51]; rfl
end XF
