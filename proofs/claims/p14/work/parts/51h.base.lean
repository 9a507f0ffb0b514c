/-! by hand: what a plain run comes to -/
section XT
theorem xg_hit {i : Nat} {v : Value} {l : xm_L} : xm_get ((i, v) :: l) i = some v := by
  show cond (Nat.beq i i) (some v) (xm_get l i) = some v
  rw [Nat.beq_refl]
  rfl
theorem xg_miss {i j : Nat} {v : Value} {l : xm_L} (h : Nat.beq i j = false) : xm_get ((i, v) :: l) j = xm_get l j := by
  show cond (Nat.beq i j) (some v) (xm_get l j) = xm_get l j
  rw [h]
  rfl
theorem xc_int {E : xm_R} {x y : Int32} {k : xm_R → Int → Bool} : xm_cmpI E (.int x) (.int y) k = k E (xm_sgn x.toInt y.toInt) := rfl
theorem xk_i2 {i : Instr} {x z c : Int32} {R : xm_R} {sc : List Value} {k : List Value → xm_R → Bool} (h : xm_iop i x z = some c) : xm_int2 i (.int z :: .int x :: sc) R k = k (.int c :: sc) R := ys_fi2 h
theorem xk_add {x z : Int32} {R : xm_R} {sc : List Value} {k : List Value → xm_R → Bool} : xm_int2 .iadd (.int z :: .int x :: sc) R k = k (.int (x + z) :: sc) R := ys_fi2 rfl
theorem xk_sub {x z : Int32} {R : xm_R} {sc : List Value} {k : List Value → xm_R → Bool} : xm_int2 .isub (.int z :: .int x :: sc) R k = k (.int (x - z) :: sc) R := ys_fi2 rfl
theorem xk_mul {x z : Int32} {R : xm_R} {sc : List Value} {k : List Value → xm_R → Bool} : xm_int2 .imul (.int z :: .int x :: sc) R k = k (.int (x * z) :: sc) R := ys_fi2 rfl
theorem xk_and {x z : Int32} {R : xm_R} {sc : List Value} {k : List Value → xm_R → Bool} : xm_iand (.int z :: .int x :: sc) R k = k (.int (x &&& z) :: sc) R := ys_fi2 (i := .iand) rfl
theorem xk_inc {x c : Int32} {R : xm_R} {k : xm_R → Int32 → Bool} : xm_conc R (.int x) k = k R x := rfl
/-- a field is read, is written -/
theorem xk_getf {a b j : Nat} {vs st : List Value} {w : Value} {G : xm_H} {k : List Value → Bool} (hg : xm_hget G j = some (a, vs)) (hw : vs[b]? = some w) : xm_getf a b (.ref j :: st) G k = k (w :: st) := by
  show (match xm_hget G j with
    | some (t, vs) => bif Nat.beq t a then (match xm_nth vs b with
      | some w => k (w :: st)
      | none => false) else false
    | none => false) = _
  rw [hg]
  dsimp only
  rw [Nat.beq_refl, cond_true, xl_nth, hw]
theorem xk_lt {x z : Int} : xm_holds .lt (xm_sgn x z) = decide (x < z) := (ys_sg _ _).2.1
theorem xk_ge {x z : Int} : xm_holds .ge (xm_sgn x z) = !decide (x < z) := (ys_sg _ _).2.2.2.2.1
theorem xk_gt {x z : Int} : xm_holds .gt (xm_sgn x z) = decide (z < x) := (ys_sg _ _).2.2.1
theorem xk_le {x z : Int} : xm_holds .le (xm_sgn x z) = !decide (z < x) := (ys_sg _ _).2.2.2.2.2
theorem xk_eq {x z : Int} : xm_holds .eq (xm_sgn x z) = decide (x = z) := (ys_sg _ _).1
theorem xk_ne {x z : Int} : xm_holds .ne (xm_sgn x z) = !decide (x = z) := (ys_sg _ _).2.2.2.1
end XT
/-- the tape's cell -/
def yt_at (G : xm_H) (j b : Nat) (len kind place size fault : Int32) : Prop := xm_hget G j = some (9, [.ref b, .int len, .int kind, .int place, .int size, .int fault])
def yt_same (G G' : xm_H) (j : Nat) : Prop := ∀ i, i ≠ j → xm_hget G' i = xm_hget G i
/-- a field of the tape is read -/
theorem yt_get {G : xm_H} {j b i : Nat} {len kind place size fault : Int32} {w : Value} {st : List Value} {k : List Value → Bool} (h : yt_at G j b len kind place size fault) (hi : ([.ref b, .int len, .int kind, .int place, .int size, .int fault] : List Value)[i]? = some w) : xm_getf 9 i (.ref j :: st) G k = k (w :: st) := xk_getf h hi
/-- a field is written -/
theorem xk_putf {a i j : Nat} {vs st : List Value} {w : Value} {G : xm_H} {k : List Value → xm_H → Bool} (hg : xm_hget G j = some (a, vs)) (hj : 7 ≤ j) (hf : xm_fit (xm_ty a i) w = true) (hi : i < vs.length) : xm_putf a i (w :: .ref j :: st) G k = k st (xm_hput G j (a, vs.set i w)) := by
  have h7 : Nat.ble 7 j = true := Nat.ble_eq_true_of_le hj
  have hl : Nat.blt i (xm_len vs) = true := by rw [xl_len]; exact Nat.ble_eq_true_of_le hi
  show (match xm_hget G j with
      | some (t, vs) => bif Nat.beq t a && (Nat.ble 7 j && (xm_fit (xm_ty t i) w && Nat.blt i (xm_len vs))) then k st (xm_hput G j (t, xm_put w vs i)) else false
      | none => false) = _
  rw [hg]
  dsimp only
  rw [Nat.beq_refl, h7, hf, hl, xl_put]
  rfl
/-- of the tape: how it is behind that -/
theorem yt_put {G : xm_H} {j b i : Nat} {len kind place size fault : Int32} {w : Value} {st : List Value} {k : List Value → xm_H → Bool} {len' kind' place' size' fault' : Int32} (h : yt_at G j b len kind place size fault) (hj : 7 ≤ j) (hf : xm_fit (xm_ty 9 i) w = true) (hi : i < 6) (he : ([.ref b, .int len, .int kind, .int place, .int size, .int fault] : List Value).set i w = [.ref b, .int len', .int kind', .int place', .int size', .int fault']) (hk : ∀ G', yt_same G G' j → yt_at G' j b len' kind' place' size' fault' → k st G' = true) : xm_putf 9 i (w :: .ref j :: st) G k = true := by
  rw [xk_putf h hj hf hi]
  refine hk _ (fun i hi => by rw [xl_hput, if_neg hi]) ?_
  show xm_hget _ j = _
  rw [xl_hput, if_pos rfl, he]
theorem yt_hput {G : xm_H} {j : Nat} {o : xm_O} : yt_same G (xm_hput G j o) j := fun i hi => by rw [xl_hput, if_neg hi]
theorem yt_same.tr {G G1 G2 : xm_H} {j : Nat} (h : yt_same G G1 j) (h' : yt_same G1 G2 j) : yt_same G G2 j := fun i hi => by rw [h' i hi, h i hi]
section TF
variable {call : xm_C} {Q : xm_Q} {f j b : Nat} {G : xm_H} {E : xm_R} {len kind place size fault n : Int32}
theorem yt_fail (h : yt_at G j b len kind place size fault) (hj : 7 ≤ j) (hQ : ∀ G' fault', yt_same G G' j → yt_at G' j b len (-2) place 0 fault' → Q none G' E = true) : xm_run call xm_c81 2 0 0 none Q (f + 30) (xm_drop 0 xm_c81) [(0, .ref j), (1, .int n)] [] G E 0 0 = true := by
  have tail : ∀ (G1 : xm_H) (fault1 : Int32), yt_same G G1 j → yt_at G1 j b len kind place size fault1 → ∀ f, xm_run call xm_c81 2 0 0 none Q (f + 10) (xm_drop 13 xm_c81) [(0, .ref j), (1, .int n)] [] G1 E 0 0 = true := by
    intro G1 fault1 hs h1 f
    simp only [xz_81_13, xz_81_14, xz_81_15, xg_hit, xm_isA, cond_true]
    refine yt_put h1 hj rfl (by decide) rfl (fun G2 s2 h2 => ?_)
    simp only [xz_81_16, xz_81_17, xz_81_18, xg_hit, xm_isA, cond_true]
    refine yt_put h2 hj rfl (by decide) rfl (fun G3 s3 h3 => ?_)
    simp only [xz_81_19]
    exact hQ _ fault1 ((hs.tr s2).tr s3) h3
  simp only [xz_81_0, xz_81_1, xz_81_2, xg_hit, xm_isA, cond_true, yt_get h (i := 5) rfl, xc_int]
  cases hc : xm_holds .ne (xm_sgn fault.toInt (0 : Int32).toInt) with
  | true =>
    rw [cond_true]
    exact tail G fault (fun _ _ => rfl) h _
  | false =>
    rw [cond_false]
    simp only [xz_81_3, xz_81_4, xz_81_5, xz_81_6, xz_81_7, xz_81_8, xz_81_9, xz_81_10, xz_81_11, xz_81_12, xg_hit, xg_miss (i := 0) (j := 1) rfl, xm_isI, xm_isA, cond_true, yt_get h (i := 3) rfl, xk_mul, xk_add]
    exact yt_put h hj rfl (by decide) rfl (fun G2 s2 h2 => tail G2 _ s2 h2 _)
end TF
