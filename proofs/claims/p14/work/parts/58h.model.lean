/-! the reference's cells; see, isLetter, passWord, isWord by hand -/
theorem yl_putx2 {α : Type} (d x z : α) : ∀ (l : List α) (n : Nat), xm_putx d x (xm_putx d z l n) n = xm_putx d x l n
  | [], 0 => rfl
  | [], n + 1 => by
    have h := yl_putx2 d x z [] n
    show d :: xm_putx d x (xm_putx d z [] n) n = d :: xm_putx d x [] n
    rw [h]
  | a :: l, 0 => rfl
  | a :: l, n + 1 => by
    show a :: xm_putx d x (xm_putx d z l n) n = a :: xm_putx d x l n
    rw [yl_putx2 d x z l n]
theorem yl_hput2 (G : xm_H) (j : Nat) (o o' : xm_O) : xm_hput (xm_hput G j o) j o' = xm_hput G j o' := by
  have hck : xm_ck (xm_gput G.2 j o) (j / 16) = xm_putx none (some o) (xm_ck G.2 (j / 16)) (j % 16) := by
    rw [xl_ck, if_pos rfl]
  show (G.1, xm_putx [] (xm_putx none (some o') (xm_ck (xm_gput G.2 j o) (j / 16)) (j % 16)) (xm_gput G.2 j o) (j / 16)) = (G.1, xm_putx [] (xm_putx none (some o') (xm_ck G.2 (j / 16)) (j % 16)) G.2 (j / 16))
  rw [hck, yl_putx2]
  show (G.1, xm_putx [] _ (xm_putx [] _ G.2 (j / 16)) (j / 16)) = _
  rw [yl_putx2]
theorem yq_94 : yr_row 94 = some (101, 400, 1, [(0, -128, 127)]) := rfl
theorem ym_344 : yr_of 344 = 93 := rfl
/-- the reference's object -/
def yO (G : xm_H) (vs : List Value) : Prop := xm_hget G 344 = some (11, vs) ∧ vs.length = 36
theorem yO_row : ∃ q, yr_row 93 = some q ∧ q.1 = 11 ∧ q.2.1 = 36 ∧ yr_ty q 0 = some (2, 94, 0) ∧ yr_ty q 1 = some (0, 0, 400) ∧ yr_ty q 8 = some (0, 0, 400) ∧ yr_ty q 9 = some yr_top ∧ yr_ty q 10 = some yr_top := ⟨_, rfl, rfl, rfl, rfl, rfl, rfl, rfl, rfl⟩
theorem yO_of {G : xm_H} (hT : ys_HT G) : ∃ vs, yO G vs ∧ ∃ (tb : Nat) (t n : Int32), vs[0]? = some (.ref tb) ∧ vs[1]? = some (.int t) ∧ vs[8]? = some (.int n) ∧ yt_bytes G tb ∧ tb ≠ 344 ∧ (0 ≤ t.toInt ∧ t.toInt ≤ 400) ∧ (0 ≤ n.toInt ∧ n.toInt ≤ 400) := by
  obtain ⟨q, q0, q1, q2, t0, t1, t8, -⟩ := yO_row
  obtain ⟨vs, g1, g2, g3⟩ := hT.at ym_344 q0
  rw [q1] at g1
  rw [q2] at g2
  have get : ∀ i, i < 36 → ∃ v, vs[i]? = some v := fun i hi => ⟨_, List.getElem?_eq_getElem (by omega)⟩
  obtain ⟨v0, a0⟩ := get 0 (by omega)
  obtain ⟨v1, a1⟩ := get 1 (by omega)
  obtain ⟨v8, a8⟩ := get 8 (by omega)
  obtain ⟨T0, b0, c0⟩ := g3 0 v0 a0
  obtain ⟨T1, b1, c1⟩ := g3 1 v1 a1
  obtain ⟨T8, b8, c8⟩ := g3 8 v8 a8
  rw [t0] at b0
  rw [t1] at b1
  rw [t8] at b8
  cases b0
  cases b1
  cases b8
  obtain ⟨tb, rfl, e0⟩ := yv_ref c0 rfl
  obtain ⟨t, rfl, e1⟩ := yv_int c1 rfl
  obtain ⟨n, rfl, e8⟩ := yv_int c8 rfl
  have htb : yr_of tb = 94 := Int.ofNat.inj e0
  refine ⟨vs, ⟨g1, g2⟩, tb, t, n, a0, a1, a8, ?_, (fun q => (by rw [q, ym_344] at htb; cases htb)), e1, e8⟩
  obtain ⟨bs, h1, h2, h3⟩ := hT.at htb yq_94
  refine ⟨bs, h1, fun x x0 x1 => ?_⟩
  obtain ⟨w, hw⟩ : ∃ w, bs[x.toInt.toNat]? = some w := ⟨_, List.getElem?_eq_getElem (by rw [h2]; show x.toInt.toNat < 400; omega)⟩
  obtain ⟨T, k1, k2⟩ := h3 _ _ hw
  have k1' : yr_ty (101, 400, 1, [(0, -128, 127)]) x.toInt.toNat = some (0, -128, 127) := by
    show xm_nth [((0, -128, 127) : yT)] (x.toInt.toNat % 1) = _
    rw [Nat.mod_one]
    rfl
  rw [k1'] at k1
  cases k1
  obtain ⟨c, rfl, -⟩ := yv_int k2 rfl
  exact ⟨c, hw⟩
/-- with next at n -/
noncomputable def yO_nx (G : xm_H) (vs : List Value) (n : Int32) : xm_H := xm_hput G 344 (11, vs.set 8 (.int n))
section MS
variable {call : xm_C} {Q : xm_Q} {G : xm_H} {E : xm_R} {vs : List Value} {tb : Nat} {t : Int32}
theorem yO_nxat (h : yO G vs) (n : Int32) : yO (yO_nx G vs n) (vs.set 8 (.int n)) := ⟨by unfold yO_nx; rw [xl_hput, if_pos rfl], by rw [List.length_set]; exact h.2⟩
theorem yO_nx2 (n n' : Int32) : yO_nx (yO_nx G vs n) (vs.set 8 (.int n)) n' = yO_nx G vs n' := by
  unfold yO_nx
  rw [yl_hput2, List.set_set]
theorem yO_nxs (n : Int32) : yt_same G (yO_nx G vs n) 344 := fun i hi => by unfold yO_nx; rw [xl_hput, if_neg hi]
theorem yO_set {vs : List Value} {i : Nat} {w v : Value} (h : vs[i]? = some v) (hi : i ≠ 8) : (vs.set 8 w)[i]? = some v := by
  rw [List.getElem?_set, if_neg (fun q => hi q.symm)]
  exact h
theorem yO_hit {vs : List Value} {w : Value} (h : vs.length = 36) : (vs.set 8 w)[8]? = some w := by
  rw [List.getElem?_set, if_pos rfl, if_pos (by omega)]
/-- see: on over blanks -/
theorem yO_see (hb : yt_bytes G tb) (htb : tb ≠ 344) (h0 : vs[0]? = some (.ref tb)) (h1 : vs[1]? = some (.int t)) (ht : t.toInt ≤ 400) (hM : yO G vs) {n0 : Int32} (hQ : ∀ n r : Int32, n0.toInt ≤ n.toInt → n.toInt ≤ 400 → (r.toInt = -1 ∨ (n.toInt < t.toInt ∧ 0 ≤ r.toInt ∧ r.toInt ≤ 255)) → Q (some (.int r)) (yO_nx G vs n) E = true) : ∀ (m : Nat) (n : Int32), 0 ≤ n0.toInt → n0.toInt ≤ n.toInt → n.toInt ≤ 400 → (400 - n.toInt).toNat ≤ m → ∀ {F : Nat}, 40 * (m + 1) + 40 ≤ F → xm_run call xm_c132 1 0 0 (some .int) Q F (xm_drop 0 xm_c132) [(0, .ref 344)] [] (yO_nx G vs n) E 0 0 = true := by
  have l0 : xm_get [(0, Value.ref 344)] 0 = some (.ref 344) := rfl
  have t19 : ∀ (n : Int32), 0 ≤ n0.toInt → n0.toInt ≤ n.toInt → n.toInt ≤ 400 → ∀ {F : Nat}, 30 ≤ F → xm_run call xm_c132 1 0 0 (some .int) Q F (xm_drop 19 xm_c132) [(0, .ref 344)] [] (yO_nx G vs n) E 0 0 = true := by
    intro n z0 z1 z2 F hF
    obtain ⟨g, rfl⟩ : ∃ g, F = g + 30 := ⟨F - 30, by omega⟩
    have hN := yO_nxat hM n
    have g8 := yO_hit (w := .int n) hM.2
    have g1 := yO_set (w := .int n) h1 (by decide)
    have g0 := yO_set (w := .int n) h0 (by decide)
    simp only [xz_132_19, xz_132_20, xz_132_21, xz_132_22, xz_132_23, l0, xm_isA, cond_true, xk_getf hN.1 g8, xk_getf hN.1 g1, xc_int, xk_ge]
    by_cases hc : n.toInt < t.toInt
    · rw [decide_eq_true hc, Bool.not_true, cond_false]
      obtain ⟨bs, hb1, hb2⟩ := hb.mv (yO_nxs (vs := vs) n) htb
      obtain ⟨c, hcc⟩ := hb2 n (by omega) (by omega)
      simp only [xz_132_24, xz_132_25, xz_132_26, xz_132_27, xz_132_28, xz_132_29, xz_132_30, xz_132_31, l0, xm_isA, cond_true, xk_getf hN.1 g8, xk_getf hN.1 g0, yk_bald hb1 (show 0 ≤ n.toInt by omega) hcc, xk_and]
      simp only [xz_132_33, xm_isI, cond_true]
      have an := ys_andr (x := c) (z := 255) (by decide)
      have e255 : (255 : Int32).toInt = 255 := rfl
      exact hQ n (c &&& 255) z1 z2 (Or.inr ⟨hc, an.1, by omega⟩)
    · rw [decide_eq_false hc, Bool.not_false, cond_true]
      simp only [xz_132_32, xz_132_33, xm_isI, cond_true]
      exact hQ n (-1) z1 z2 (Or.inl rfl)
  intro m
  induction m with
  | zero =>
    intro n z0 z1 z2 hm F hF
    obtain ⟨g, rfl⟩ : ∃ g, F = g + 40 := ⟨F - 40, by omega⟩
    have hN := yO_nxat hM n
    have g8 := yO_hit (w := .int n) hM.2
    have g1 := yO_set (w := .int n) h1 (by decide)
    simp only [xz_132_0, xz_132_1, xz_132_2, xz_132_3, xz_132_4, l0, xm_isA, cond_true, xk_getf hN.1 g8, xk_getf hN.1 g1, xc_int, xk_ge]
    rw [decide_eq_false (show ¬ n.toInt < t.toInt by omega), Bool.not_false, cond_true]
    exact t19 n z0 z1 z2 (by omega)
  | succ m ih =>
    intro n z0 z1 z2 hm F hF
    obtain ⟨g, rfl⟩ : ∃ g, F = g + 40 := ⟨F - 40, by omega⟩
    have hN := yO_nxat hM n
    have g8 := yO_hit (w := .int n) hM.2
    have g1 := yO_set (w := .int n) h1 (by decide)
    have g0 := yO_set (w := .int n) h0 (by decide)
    simp only [xz_132_0, xz_132_1, xz_132_2, xz_132_3, xz_132_4, l0, xm_isA, cond_true, xk_getf hN.1 g8, xk_getf hN.1 g1, xc_int, xk_ge]
    by_cases hc : n.toInt < t.toInt
    · rw [decide_eq_true hc, Bool.not_true, cond_false]
      obtain ⟨bs, hb1, hb2⟩ := hb.mv (yO_nxs (vs := vs) n) htb
      obtain ⟨c, hcc⟩ := hb2 n (by omega) (by omega)
      simp only [xz_132_5, xz_132_6, xz_132_7, xz_132_8, xz_132_9, xz_132_10, xz_132_11, l0, xm_isA, cond_true, xk_getf hN.1 g8, xk_getf hN.1 g0, yk_bald hb1 (show 0 ≤ n.toInt by omega) hcc, xc_int]
      cases hq : xm_holds .ne (xm_sgn c.toInt (32 : Int32).toInt) with
      | true => rw [cond_true]; exact t19 n z0 z1 z2 (by omega)
      | false =>
        rw [cond_false]
        simp only [xz_132_12, xz_132_13, xz_132_14, xz_132_15, xz_132_16, xz_132_17, l0, xm_isA, xm_cat1, xm_isL, Bool.not_false, cond_true, xk_getf hN.1 g8, xk_add]
        rw [xk_putf hN.1 (by decide) rfl (by rw [hN.2]; decide)]
        simp only [xz_132_18]
        have e1 : (1 : Int32).toInt = 1 := rfl
        have e2 := yk_add (x := n) (z := 1) (by omega) (by omega)
        have e3 : xm_hput (yO_nx G vs n) 344 (11, (vs.set 8 (.int n)).set 8 (.int (n + 1))) = yO_nx G vs (n + 1) := yO_nx2 n (n + 1)
        rw [e3]
        exact ih (n + 1) z0 (by omega) (by omega) (by omega) (by omega)
    · rw [decide_eq_false hc, Bool.not_false, cond_true]
      exact t19 n z0 z1 z2 (by omega)
end MS
/-! calls of the reference's own methods -/
section MC
variable {call : xm_C} {Q : xm_Q} {G : xm_H} {E : xm_R} {vs st : List Value} {mc ms a r1 r4 : Nat} {nm ds : String} {r3 : ByteArray} {r5 : Option FieldType} {r9 : List xm_E} {k : List Value → xm_H → xm_R → Nat → Nat → Bool}
theorem yO_rcv {G : xm_H} {vs As : List Value} (h : yO G vs) : xm_rcv 0 "StairNewsModel" G (.ref 344 :: As) = true := by
  show xm_rcv0 "StairNewsModel" G (.ref 344 :: As) = true
  unfold xm_rcv0
  dsimp only
  rw [h.1]
  rfl
theorem yO_call0 (hr : xm_nth xm_mtab a = some (r1, ⟨"StairNewsModel", nm, ds⟩, r3, r4, r5, 0, 0, 0, r9)) (h : yO G vs) (hc : xm_cats st ≤ 8) : xm_call call mc ms a 0 (.ref 344 :: st) G E 0 0 k = call a [.ref 344] G E (fun r G E => k (match r with
    | some v => v :: st
    | none => st) G E 0 0) := by
  unfold xm_call
  rw [hr]
  show (bif Nat.ble (xm_cats st) 8 && xm_rcv 0 "StairNewsModel" G [.ref 344] then call a [.ref 344] G E _ else false) = _
  rw [Nat.ble_eq_true_of_le hc, yO_rcv h]
  rfl
theorem yO_call1 {v1 : Value} (hr : xm_nth xm_mtab a = some (r1, ⟨"StairNewsModel", nm, ds⟩, r3, r4, r5, 1, 0, 0, r9)) (h : yO G vs) (hc : xm_cats st ≤ 8) : xm_call call mc ms a 0 (v1 :: .ref 344 :: st) G E 0 0 k = call a [.ref 344, v1] G E (fun r G E => k (match r with
    | some v => v :: st
    | none => st) G E 0 0) := by
  unfold xm_call
  rw [hr]
  show (bif Nat.ble (xm_cats st) 8 && xm_rcv 0 "StairNewsModel" G [.ref 344, v1] then call a [.ref 344, v1] G E _ else false) = _
  rw [Nat.ble_eq_true_of_le hc, yO_rcv h]
  rfl
theorem yO_call2 {v1 v2 : Value} (hr : xm_nth xm_mtab a = some (r1, ⟨"StairNewsModel", nm, ds⟩, r3, r4, r5, 2, 0, 0, r9)) (h : yO G vs) (hc : xm_cats st ≤ 8) : xm_call call mc ms a 0 (v2 :: v1 :: .ref 344 :: st) G E 0 0 k = call a [.ref 344, v1, v2] G E (fun r G E => k (match r with
    | some v => v :: st
    | none => st) G E 0 0) := by
  unfold xm_call
  rw [hr]
  show (bif Nat.ble (xm_cats st) 8 && xm_rcv 0 "StairNewsModel" G [.ref 344, v1, v2] then call a [.ref 344, v1, v2] G E _ else false) = _
  rw [Nat.ble_eq_true_of_le hc, yO_rcv h]
  rfl
end MC
section ML
variable {Q : xm_Q} {G : xm_H} {E : xm_R} {vs : List Value} {tb d : Nat} {t : Int32}
theorem yO_nx0 (h : yO G vs) {n : Int32} (hn : vs[8]? = some (.int n)) : yO_nx G vs n = G ∨ True := Or.inr trivial
/-- isLetter and isDigit: 1 only within the tape -/
theorem yO_letter (hb : yt_bytes G tb) (h0 : vs[0]? = some (.ref tb)) (h1 : vs[1]? = some (.int t)) (ht : t.toInt ≤ 400) (hM : yO G vs) {x : Int32} (x0 : 0 ≤ x.toInt) (hQ : ∀ r : Int32, (r = 0 ∨ (r = 1 ∧ x.toInt < t.toInt)) → Q (some (.int r)) G E = true) : xm_exec (d + 1) 134 [.ref 344, .int x] G E Q = true := by
  refine yx_exec (m := 134) rfl rfl (Nat.le_of_ble_eq_true rfl) ?_
  obtain ⟨g, hg⟩ : ∃ g, xm_fuel = g + 30 := ⟨xm_fuel - 30, by have := yl_fuel 30 (by omega); omega⟩
  rw [hg]
  have l0 : xm_get (lv_args 0 [Value.ref 344, .int x]) 0 = some (.ref 344) := rfl
  have l1 : xm_get (lv_args 0 [Value.ref 344, .int x]) 1 = some (.int x) := rfl
  have t18 : ∀ F, 2 ≤ F → xm_run (xm_exec d) xm_c134 2 0 0 (some .boolean) Q F (xm_drop 18 xm_c134) (lv_args 0 [.ref 344, .int x]) [] G E 0 0 = true := by
    intro F hF
    obtain ⟨g, rfl⟩ : ∃ g, F = g + 2 := ⟨F - 2, by omega⟩
    simp only [xz_134_18, xz_134_19, xm_isI, cond_true]
    exact hQ 0 (Or.inl rfl)
  show xm_run (xm_exec d) xm_c134 2 0 0 (some .boolean) Q (g + 30) (xm_drop 0 xm_c134) (lv_args 0 [.ref 344, .int x]) [] G E 0 0 = true
  simp only [xz_134_0, xz_134_1, xz_134_2, xz_134_3, l0, l1, xm_isI, xm_isA, cond_true, xk_getf hM.1 h1, xc_int, xk_ge]
  by_cases hc : x.toInt < t.toInt
  · rw [decide_eq_true hc, Bool.not_true, cond_false]
    obtain ⟨bs, hb1, hb2⟩ := hb
    obtain ⟨c, hcc⟩ := hb2 x x0 (by omega)
    simp only [xz_134_4, xz_134_5, xz_134_6, xz_134_7, xz_134_8, xz_134_9, l0, l1, xm_isI, xm_isA, cond_true, xk_getf hM.1 h0, yk_bald hb1 x0 hcc, xc_int]
    cases hq : xm_holds .lt (xm_sgn c.toInt (97 : Int32).toInt) with
    | true => rw [cond_true]; exact t18 _ (by omega)
    | false =>
      rw [cond_false]
      simp only [xz_134_10, xz_134_11, xz_134_12, xz_134_13, xz_134_14, xz_134_15, l0, l1, xm_isI, xm_isA, cond_true, xk_getf hM.1 h0, yk_bald hb1 x0 hcc, xc_int]
      cases hq2 : xm_holds .gt (xm_sgn c.toInt (122 : Int32).toInt) with
      | true => rw [cond_true]; exact t18 _ (by omega)
      | false =>
        rw [cond_false]
        simp only [xz_134_16, xz_134_17]
        simp only [xz_134_19, xm_isI, cond_true]
        exact hQ 1 (Or.inr ⟨rfl, hc⟩)
  · rw [decide_eq_false hc, Bool.not_false, cond_true]
    exact t18 _ (by omega)
theorem yO_digit (hb : yt_bytes G tb) (h0 : vs[0]? = some (.ref tb)) (h1 : vs[1]? = some (.int t)) (ht : t.toInt ≤ 400) (hM : yO G vs) {x : Int32} (x0 : 0 ≤ x.toInt) (hQ : ∀ r : Int32, (r = 0 ∨ (r = 1 ∧ x.toInt < t.toInt)) → Q (some (.int r)) G E = true) : xm_exec (d + 1) 133 [.ref 344, .int x] G E Q = true := by
  refine yx_exec (m := 133) rfl rfl (Nat.le_of_ble_eq_true rfl) ?_
  obtain ⟨g, hg⟩ : ∃ g, xm_fuel = g + 30 := ⟨xm_fuel - 30, by have := yl_fuel 30 (by omega); omega⟩
  rw [hg]
  have l0 : xm_get (lv_args 0 [Value.ref 344, .int x]) 0 = some (.ref 344) := rfl
  have l1 : xm_get (lv_args 0 [Value.ref 344, .int x]) 1 = some (.int x) := rfl
  have t18 : ∀ F, 2 ≤ F → xm_run (xm_exec d) xm_c133 2 0 0 (some .boolean) Q F (xm_drop 18 xm_c133) (lv_args 0 [.ref 344, .int x]) [] G E 0 0 = true := by
    intro F hF
    obtain ⟨g, rfl⟩ : ∃ g, F = g + 2 := ⟨F - 2, by omega⟩
    simp only [xz_133_18, xz_133_19, xm_isI, cond_true]
    exact hQ 0 (Or.inl rfl)
  show xm_run (xm_exec d) xm_c133 2 0 0 (some .boolean) Q (g + 30) (xm_drop 0 xm_c133) (lv_args 0 [.ref 344, .int x]) [] G E 0 0 = true
  simp only [xz_133_0, xz_133_1, xz_133_2, xz_133_3, l0, l1, xm_isI, xm_isA, cond_true, xk_getf hM.1 h1, xc_int, xk_ge]
  by_cases hc : x.toInt < t.toInt
  · rw [decide_eq_true hc, Bool.not_true, cond_false]
    obtain ⟨bs, hb1, hb2⟩ := hb
    obtain ⟨c, hcc⟩ := hb2 x x0 (by omega)
    simp only [xz_133_4, xz_133_5, xz_133_6, xz_133_7, xz_133_8, xz_133_9, l0, l1, xm_isI, xm_isA, cond_true, xk_getf hM.1 h0, yk_bald hb1 x0 hcc, xc_int]
    cases hq : xm_holds .lt (xm_sgn c.toInt (48 : Int32).toInt) with
    | true => rw [cond_true]; exact t18 _ (by omega)
    | false =>
      rw [cond_false]
      simp only [xz_133_10, xz_133_11, xz_133_12, xz_133_13, xz_133_14, xz_133_15, l0, l1, xm_isI, xm_isA, cond_true, xk_getf hM.1 h0, yk_bald hb1 x0 hcc, xc_int]
      cases hq2 : xm_holds .gt (xm_sgn c.toInt (57 : Int32).toInt) with
      | true => rw [cond_true]; exact t18 _ (by omega)
      | false =>
        rw [cond_false]
        simp only [xz_133_16, xz_133_17]
        simp only [xz_133_19, xm_isI, cond_true]
        exact hQ 1 (Or.inr ⟨rfl, hc⟩)
  · rw [decide_eq_false hc, Bool.not_false, cond_true]
    exact t18 _ (by omega)
end ML
