/-! by hand: what a plain run comes to -/
section XT
theorem xg_hit {i : Nat} {v : Value} {l : xm_L} : xm_get ((i, v) :: l) i = some v := by
  show cond (Nat.beq i i) (some v) (xm_get l i) = some v
  rw [Nat.beq_refl]
  rfl
theorem xg_miss {i j : Nat} {v : Value} {l : xm_L} (h : Nat.beq i j = false) : xm_get ((i, v) :: l) j = xm_get l j := by
  show cond (Nat.beq i j) (some v) (xm_get l j) = xm_get l j
  rw [h]
  rfl
theorem xc_int {E : xm_R} {x y : Int32} {k : xm_R → Int → Bool} : xm_cmpI E (.int x) (.int y) k = k E (xm_sgn x.toInt y.toInt) := rfl
theorem xk_i2 {i : Instr} {x z c : Int32} {R : xm_R} {sc : List Value} {k : List Value → xm_R → Bool} (h : xm_iop i x z = some c) : xm_int2 i (.int z :: .int x :: sc) R k = k (.int c :: sc) R := ys_fi2 h
theorem xk_add {x z : Int32} {R : xm_R} {sc : List Value} {k : List Value → xm_R → Bool} : xm_int2 .iadd (.int z :: .int x :: sc) R k = k (.int (x + z) :: sc) R := ys_fi2 rfl
theorem xk_sub {x z : Int32} {R : xm_R} {sc : List Value} {k : List Value → xm_R → Bool} : xm_int2 .isub (.int z :: .int x :: sc) R k = k (.int (x - z) :: sc) R := ys_fi2 rfl
theorem xk_mul {x z : Int32} {R : xm_R} {sc : List Value} {k : List Value → xm_R → Bool} : xm_int2 .imul (.int z :: .int x :: sc) R k = k (.int (x * z) :: sc) R := ys_fi2 rfl
theorem xk_and {x z : Int32} {R : xm_R} {sc : List Value} {k : List Value → xm_R → Bool} : xm_iand (.int z :: .int x :: sc) R k = k (.int (x &&& z) :: sc) R := ys_fi2 (i := .iand) rfl
theorem xk_inc {x c : Int32} {R : xm_R} {k : xm_R → Int32 → Bool} : xm_conc R (.int x) k = k R x := rfl
/-- a field is read, is written -/
theorem xk_getf {a b j : Nat} {vs st : List Value} {w : Value} {G : xm_H} {k : List Value → Bool} (hg : xm_hget G j = some (a, vs)) (hw : vs[b]? = some w) : xm_getf a b (.ref j :: st) G k = k (w :: st) := by
  show (match xm_hget G j with
    | some (t, vs) => bif Nat.beq t a then (match xm_nth vs b with
      | some w => k (w :: st)
      | none => false) else false
    | none => false) = _
  rw [hg]
  dsimp only
  rw [Nat.beq_refl, cond_true, xl_nth, hw]
theorem xk_lt {x z : Int32} : xm_holds .lt (xm_sgn x.toInt z.toInt) = decide (x.toInt < z.toInt) := (ys_sg _ _).2.1
theorem xk_ge {x z : Int32} : xm_holds .ge (xm_sgn x.toInt z.toInt) = !decide (x.toInt < z.toInt) := (ys_sg _ _).2.2.2.2.1
theorem xk_gt {x z : Int32} : xm_holds .gt (xm_sgn x.toInt z.toInt) = decide (z.toInt < x.toInt) := (ys_sg _ _).2.2.1
theorem xk_le {x z : Int32} : xm_holds .le (xm_sgn x.toInt z.toInt) = !decide (z.toInt < x.toInt) := (ys_sg _ _).2.2.2.2.2
theorem xk_eq {x z : Int32} : xm_holds .eq (xm_sgn x.toInt z.toInt) = decide (x.toInt = z.toInt) := (ys_sg _ _).1
theorem xk_ne {x z : Int32} : xm_holds .ne (xm_sgn x.toInt z.toInt) = !decide (x.toInt = z.toInt) := (ys_sg _ _).2.2.2.1
end XT
/-- the tape's cell -/
def yt_at (G : xm_H) (j b : Nat) (len kind place size fault : Int32) : Prop := xm_hget G j = some (9, [.ref b, .int len, .int kind, .int place, .int size, .int fault])
def yt_same (G G' : xm_H) (j : Nat) : Prop := ∀ i, i ≠ j → xm_hget G' i = xm_hget G i
theorem yt_putf {G : xm_H} {j b f : Nat} {len kind place size fault : Int32} {w : Value} {st : List Value} {k : xm_H → Bool} (h : yt_at G j b len kind place size fault) (hj : 7 ≤ j) : True := trivial
section TF
variable {call : xm_C} {Q : xm_Q} {f j b : Nat} {G : xm_H} {E : xm_R} {len kind place size fault n : Int32}
theorem yt_put {i : Nat} {w : Value} (h : yt_at G j b len kind place size fault) : xm_hget (xm_hput G j (9, xm_put w [.ref b, .int len, .int kind, .int place, .int size, .int fault] i)) j = some (9, [Value.ref b, .int len, .int kind, .int place, .int size, .int fault].set i w) := by
  rw [xl_hput, if_pos rfl, xl_put]
theorem yt_fail (h : yt_at G j b len kind place size fault) (hj : 7 ≤ j) (hQ : ∀ G' fault', yt_same G G' j → yt_at G' j b len (-2) place 0 fault' → Q none G' E = true) : xm_run call xm_c81 2 0 0 none Q (f + 30) (xm_drop 0 xm_c81) [(0, .ref j), (1, .int n)] [] G E 0 0 = true := by
  have h7 : Nat.ble 7 j = true := Nat.ble_eq_true_of_le hj
  have hg : xm_hget G j = some (9, [.ref b, .int len, .int kind, .int place, .int size, .int fault]) := h
  simp only [xz_81_0, xz_81_1, xz_81_2, xz_81_3, xz_81_4, xz_81_5, xz_81_6, xz_81_7, xz_81_8, xz_81_9, xz_81_10, xz_81_11, xz_81_12, xz_81_13, xz_81_14, xz_81_15, xz_81_16, xz_81_17, xz_81_18, xz_81_19, xg_hit, xg_miss (i := 0) (j := 1) rfl, xm_isI, xm_isA, cond_true, xk_getf hg (show ([.ref b, .int len, .int kind, .int place, .int size, .int fault] : List Value)[5]? = some (.int fault) from rfl)]
  sorry
end TF
