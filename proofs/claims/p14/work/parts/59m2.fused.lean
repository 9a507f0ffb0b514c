section XF
variable {call : xm_C} {nL mc ms : Nat} {ret : Option FieldType} {Q : xm_Q} {f : Nat} {lv : xm_L} {st : List Value} {G : xm_H} {E : xm_R} {kc ks : Nat}
theorem xy_137_0 {j : Nat} (h : xm_get lv 0 = some (.ref j)) : xm_run call xm_c137 nL mc ms ret Q (f + 1) (xm_drop 0 xm_c137) lv st G E kc ks = xm_run call xm_c137 nL mc ms ret Q f (xm_drop 1 xm_c137) lv (.ref j :: st) G E kc ks := by
  rw [xz_137_0, h]; rfl
theorem xy_137_1 {x : Int64} (h : xm_get lv 1 = some (.long x)) : xm_run call xm_c137 nL mc ms ret Q (f + 1) (xm_drop 1 xm_c137) lv st G E kc ks = xm_run call xm_c137 nL mc ms ret Q f (xm_drop 2 xm_c137) lv (.long x :: st) G E kc ks := by
  rw [xz_137_1, h]; rfl
theorem xy_137_2  : xm_run call xm_c137 nL mc ms ret Q (f + 1) (xm_drop 2 xm_c137) lv st G E kc ks = xm_call call mc ms 135 0 st G E kc ks (fun st G E kc ks => xm_run call xm_c137 nL mc ms ret Q f (xm_drop 3 xm_c137) lv st G E kc ks) := by
  rw [xz_137_2, show (Nat.beq 135 1006 || Nat.beq 135 1007) = false from rfl, cond_false]
theorem xy_137_3 {x : Int32} : xm_run call xm_c137 nL mc ms ret Q (f + 1) (xm_drop 3 xm_c137) lv (.int x :: st) G E kc ks = (bif !decide (x.toInt = 0) then xm_run call xm_c137 nL mc ms ret Q f (xm_drop 6 xm_c137) lv st G E kc ks else xm_run call xm_c137 nL mc ms ret Q f (xm_drop 4 xm_c137) lv st G E kc ks) := by
  rw [xz_137_3]; show xm_cmpI E (.int x) (.int 0) _ = _; rw [xc_int, xk_ne]; rfl
theorem xy_137_5_0 : xm_run call xm_c137 nL 0 0 (some .boolean) Q (f + 1) (xm_drop 5 xm_c137) lv [.int 0] G E 0 0 = Q (some (.int 0)) G E := by
  rw [xz_137_5]; rfl
theorem xy_137_5_1 : xm_run call xm_c137 nL 0 0 (some .boolean) Q (f + 1) (xm_drop 5 xm_c137) lv [.int 1] G E 0 0 = Q (some (.int 1)) G E := by
  rw [xz_137_5]; rfl
theorem xy_137_6 {j : Nat} (h : xm_get lv 0 = some (.ref j)) : xm_run call xm_c137 nL mc ms ret Q (f + 1) (xm_drop 6 xm_c137) lv st G E kc ks = xm_run call xm_c137 nL mc ms ret Q f (xm_drop 7 xm_c137) lv (.ref j :: st) G E kc ks := by
  rw [xz_137_6, h]; rfl
theorem xy_137_7  : xm_run call xm_c137 nL mc ms ret Q (f + 1) (xm_drop 7 xm_c137) lv st G E kc ks = xm_call call mc ms 136 0 st G E kc ks (fun st G E kc ks => xm_run call xm_c137 nL mc ms ret Q f (xm_drop 8 xm_c137) lv st G E kc ks) := by
  rw [xz_137_7, show (Nat.beq 136 1006 || Nat.beq 136 1007) = false from rfl, cond_false]
theorem xy_137_9_0 : xm_run call xm_c137 nL 0 0 (some .boolean) Q (f + 1) (xm_drop 9 xm_c137) lv [.int 0] G E 0 0 = Q (some (.int 0)) G E := by
  rw [xz_137_9]; rfl
theorem xy_137_9_1 : xm_run call xm_c137 nL 0 0 (some .boolean) Q (f + 1) (xm_drop 9 xm_c137) lv [.int 1] G E 0 0 = Q (some (.int 1)) G E := by
  rw [xz_137_9]; rfl
end XF
