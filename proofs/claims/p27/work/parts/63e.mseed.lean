/-! seed, image, back of the reference -/
theorem yM_in {Q : xm_Q} {G : xm_H} {E : xm_R} {d : Nat} {v lo hi : Int64} (hQ : Q (some (.int (if lo.toInt ≤ v.toInt ∧ v.toInt ≤ hi.toInt then 1 else 0))) G E = true) : xm_exec (d + 1) 125 [.long v, .long lo, .long hi] G E Q = true := by
  refine yx_exec (m := 125) rfl rfl (Nat.le_of_ble_eq_true rfl) ?_
  obtain ⟨g, hg⟩ : ∃ g, xm_fuel = g + 30 := ⟨xm_fuel - 30, by have := yl_fuel 30 (by omega); omega⟩
  rw [hg]
  have l0 : xm_get (lv_args 0 [Value.long v, .long lo, .long hi]) 0 = some (.long v) := rfl
  have l1 : xm_get (lv_args 0 [Value.long v, .long lo, .long hi]) 2 = some (.long lo) := rfl
  have l2 : xm_get (lv_args 0 [Value.long v, .long lo, .long hi]) 4 = some (.long hi) := rfl
  have cl : ∀ (E : xm_R) (x z : Int64) (k : xm_R → Int → Bool), xm_cmpL E (.long x) (.long z) k = k E (xm_sgn x.toInt z.toInt) := fun _ _ _ _ => rfl
  have sg : ∀ a b : Int, (Int32.ofInt (xm_sgn a b)).toInt = xm_sgn a b := fun a b => ys_of32 (by unfold xm_sgn; cases decide (a < b) <;> cases decide (a = b) <;> decide) (by unfold xm_sgn; cases decide (a < b) <;> cases decide (a = b) <;> decide)
  have e0 : (0 : Int32).toInt = 0 := rfl
  have hlt : ∀ a b : Int, xm_holds .lt (xm_sgn (xm_sgn a b) 0) = decide (a < b) := fun a b => by
    rw [xk_lt]
    unfold xm_sgn
    by_cases h : a < b
    · rw [decide_eq_true h]; rfl
    · rw [decide_eq_false h]
      cases decide (a = b) <;> rfl
  have hgt : ∀ a b : Int, xm_holds .gt (xm_sgn (xm_sgn a b) 0) = decide (b < a) := fun a b => by
    rw [xk_gt]
    unfold xm_sgn
    by_cases h : a < b
    · rw [decide_eq_true h, decide_eq_false (show ¬ b < a by omega)]; rfl
    · by_cases h2 : a = b
      · rw [decide_eq_false h, decide_eq_true h2, decide_eq_false (show ¬ b < a by omega)]; rfl
      · rw [decide_eq_false h, decide_eq_false h2, decide_eq_true (show b < a by omega)]; rfl
  have t10 : ¬ (lo.toInt ≤ v.toInt ∧ v.toInt ≤ hi.toInt) → ∀ F, 2 ≤ F → xm_run (xm_exec d) xm_c125 6 0 0 (some .boolean) Q F (xm_drop 10 xm_c125) (lv_args 0 [.long v, .long lo, .long hi]) [] G E 0 0 = true := by
    intro hn F hF
    obtain ⟨g, rfl⟩ : ∃ g, F = g + 2 := ⟨F - 2, by omega⟩
    simp only [xz_125_10, xz_125_11, xm_isI, cond_true]
    rw [if_neg hn] at hQ
    exact hQ
  show xm_run (xm_exec d) xm_c125 6 0 0 (some .boolean) Q (g + 30) (xm_drop 0 xm_c125) (lv_args 0 [.long v, .long lo, .long hi]) [] G E 0 0 = true
  simp only [xz_125_0, xz_125_1, xz_125_2, xz_125_3, l0, l1, xm_isL, cond_true, cl, xc_int, sg, e0, hlt]
  by_cases h1 : v.toInt < lo.toInt
  · rw [decide_eq_true h1, cond_true]
    exact t10 (by omega) _ (by omega)
  · rw [decide_eq_false h1, cond_false]
    simp only [xz_125_4, xz_125_5, xz_125_6, xz_125_7, l0, l2, xm_isL, cond_true, cl, xc_int, sg, e0, hgt]
    by_cases h2 : hi.toInt < v.toInt
    · rw [decide_eq_true h2, cond_true]
      exact t10 (by omega) _ (by omega)
    · rw [decide_eq_false h2, cond_false]
      simp only [xz_125_8, xz_125_9]
      simp only [xz_125_11, xm_isI, cond_true]
      rw [if_pos ⟨by omega, by omega⟩] at hQ
      exact hQ
theorem xk_ialg {G : xm_H} (hT : ys_HT G) {j r : Nat} {q : yW} (hr : yr_of j = r) (hq : yr_row r = some q) (h1 : q.1 = 100) (hj : Nat.beq j 0 = false) {x : Int32} {v : Value} {st : List Value} {E : xm_R} {k : List Value → xm_R → Bool} (h0 : 0 ≤ x.toInt) (h : yR G j x.toInt.toNat = some v) : xm_iald (.int x :: .ref j :: st) G E k = k (v :: st) E := by
  obtain ⟨vs, g1, g2, g3⟩ := hT.at hr hq
  rw [yR_eq g1] at h
  rw [h1] at g1
  show (bif Nat.beq j 0 then _ else xm_ald (fun t => Nat.beq t 100) (.int x :: .ref j :: st) G E k) = _
  rw [hj, cond_false]
  exact ys_xald g1 rfl h0 h
theorem xk_iasg {G : xm_H} (hT : ys_HT G) {j r : Nat} {q : yW} (hr : yr_of j = r) (hq : yr_row r = some q) (h1 : q.1 = 100) (hj : 7 ≤ j) {x w : Int32} {st : List Value} {E : xm_R} {k : List Value → xm_H → xm_R → Bool} (h0 : 0 ≤ x.toInt) (h : x.toInt.toNat < q.2.1) : xm_ast (fun t => Nat.beq t 100) xm_kI (.int w :: .int x :: .ref j :: st) G E k = k st (yU G j x.toInt.toNat (.int w)) E := by
  obtain ⟨vs, g1, g2, g3⟩ := hT.at hr hq
  rw [yU_eq g1]
  rw [h1] at g1 ⊢
  rw [ys_xast (ok := fun t => Nat.beq t 100) (okv := xm_kI) (w' := .int w) (show xm_kI (.int w) = some (.int w) from rfl) g1 rfl hj h0 (by omega), xl_put]
theorem yq_110 : yr_row 110 = some (100, 4, 1, [(0, (-1), 5)]) := rfl
theorem yq_111 : yr_row 111 = some (100, 4, 1, [(0, 0, 2147483647)]) := rfl
theorem yq_112 : yr_row 112 = some (103, 4, 1, [(0, 0, 1)]) := rfl
theorem yq_103 : yr_row 103 = some (100, 146, 146, yr_said) := rfl
theorem yq_109 : yr_row 109 = some (100, 584, 146, yr_said) := rfl
theorem yr_saidI : yr_said.all (fun T => Nat.beq T.1 0) = true := by decide +kernel
theorem xk_zas {G : xm_H} (hT : ys_HT G) {x : Int32} {st : List Value} {E : xm_R} {k : List Value → xm_H → xm_R → Bool} (h0 : 0 ≤ x.toInt) (h : x.toInt < 4) : xm_bast (.int 1 :: .int x :: .ref 363 :: st) G E k = k st (yU G 363 x.toInt.toNat (.int 1)) E := by
  obtain ⟨vs, g1, g2, g3⟩ := hT.at (j := 363) (r := 112) rfl yq_112
  have g1 : xm_hget G 363 = some (103, vs) := g1
  have g2 : vs.length = 4 := g2
  rw [yU_eq g1]
  show (match xm_hget G 363 with
    | some (t, _) => bif Nat.beq t 103 then xm_ast (fun t => Nat.beq t 103) xm_kZ (.int 1 :: .int x :: .ref 363 :: st) G E k else xm_ast (fun t => Nat.beq t 101) xm_kB (.int 1 :: .int x :: .ref 363 :: st) G E k
    | none => false) = _
  rw [g1]
  show xm_ast (fun t => Nat.beq t 103) xm_kZ (.int 1 :: .int x :: .ref 363 :: st) G E k = _
  rw [ys_xast (ok := fun t => Nat.beq t 103) (okv := xm_kZ) (w' := .int 1) rfl g1 rfl (by decide) h0 (by omega), xl_put]
theorem xk_zal {G : xm_H} (hT : ys_HT G) {x : Int32} {v : Value} {st : List Value} {E : xm_R} {k : List Value → xm_R → Bool} (h0 : 0 ≤ x.toInt) (h : yR G 363 x.toInt.toNat = some v) : xm_bald (.int x :: .ref 363 :: st) G E k = k (v :: st) E := by
  obtain ⟨vs, g1, g2, g3⟩ := hT.at (j := 363) (r := 112) rfl yq_112
  have g1 : xm_hget G 363 = some (103, vs) := g1
  rw [yR_eq g1] at h
  show (match xm_hget G 363 with
    | some (t, _) => bif Nat.beq t 103 then xm_ald (fun t => Nat.beq t 103) (.int x :: .ref 363 :: st) G E k else xm_ald (fun t => Nat.beq t 101) (.int x :: .ref 363 :: st) G E k
    | none => false) = _
  rw [g1]
  exact ys_xald g1 rfl h0 h
theorem ySaid {i n : Nat} {T : yT} (h : yr_ty (100, n, 146, yr_said) i = some T) : T.1 = 0 := by
  have h : xm_nth yr_said (i % 146) = some T := h
  rw [xl_nth] at h
  exact Nat.eq_of_beq_eq_true (List.all_eq_true.mp yr_saidI T (List.mem_of_getElem? h))
section MS2
variable {J : xm_H → Prop} {G : xm_H} {d : Nat} {Q : xm_Q} {E : xm_R} {s : Int32} {zs ms : Nat → Int32}
theorem yM_seed (hJ : yj_ok J) (hT : ys_HT G) (hI : yi_Inv J G) (hC : yRs G s zs ms) {x : Int32} (hQ : ∀ G' : xm_H, ys_HT G' → yi_Inv J G' → ys_Fr [(93, 22)] G G' → yRs G' (ySd x s) zs ms → Q (some (.int (ySa x s))) G' E = true) : xm_exec (d + 1) 231 [.ref 344, .int x] G E Q = true := by
  refine yx_exec (m := 231) rfl rfl (Nat.le_of_ble_eq_true rfl) ?_
  obtain ⟨g, hg⟩ := xn_f
  rw [hg]
  have l0 : xm_get (lv_args 0 [Value.ref 344, .int x]) 0 = some (.ref 344) := rfl
  have l1 : xm_get (lv_args 0 [Value.ref 344, .int x]) 1 = some (.int x) := rfl
  show xm_run (xm_exec d) xm_c231 3 0 0 (some .int) Q (g + 40000) (xm_drop 0 xm_c231) (lv_args 0 [.ref 344, .int x]) [] G E 0 0 = true
  generalize lv_args 0 [Value.ref 344, .int x] = lv at l0 l1 ⊢
  simp only [xy_231_0 l1, xy_231_1]
  by_cases hx : x.toInt < 0
  · rw [decide_eq_true hx, Bool.not_true, cond_false]
    simp only [xz_231_2, xy_231_3]
    have e1 : ySa x s = -1 := if_pos hx
    have e2 : ySd x s = s := if_pos hx
    rw [e1, e2] at hQ
    exact hQ G hT hI (ys_Fr.refl _ _) hC
  · rw [decide_eq_false hx, Bool.not_false, cond_true]
    have e1 : ySa x s = s := if_neg hx
    have e2 : ySd x s = x := if_neg hx
    rw [e1, e2] at hQ
    simp only [xy_231_4 l0, xz_231_5, xy_231_6, xk_gf hT hC.1]
    have l2 : xm_get (xm_set1 lv 2 (.int s)) 2 = some (.int s) := xl_gs1
    replace l0 : xm_get (xm_set1 lv 2 (.int s)) 0 = some (.ref 344) := xl_s1 (by decide) (Or.inl rfl) l0
    replace l1 : xm_get (xm_set1 lv 2 (.int s)) 1 = some (.int x) := xl_s1 (by decide) (Or.inl rfl) l1
    generalize xm_set1 lv 2 (.int s) = lv1 at l0 l1 l2 ⊢
    simp only [xy_231_7 l0, xy_231_8 l1]
    rw [xz_231_9, xk_pf hT rfl (by decide)]
    have hb := ys_b32 x
    obtain ⟨T1, F1⟩ := yU_HT (md := [(93, 22)]) hT (j := 344) (i := 22) (w := .int x) ym_344 yq_93 (by rw [yq93_2]; decide) (show yr_ty yq93 22 = some (0, 0, 2147483647) from rfl) ⟨rfl, by show 0 ≤ x.toInt; omega, hb.2⟩ rfl
    have k7 : yR (yU G 344 22 (.int x)) 344 22 = some (.int x) := yU_hit hC.1
    have u : ∀ j i : Nat, (j ≠ 344 ∨ i ≠ 22) → yR (yU G 344 22 (.int x)) j i = yR G j i := fun j i h => yU_miss h
    generalize yU G 344 22 (.int x) = G1 at T1 F1 k7 u ⊢
    simp only [xy_231_10 l2, xy_231_11]
    refine hQ G1 T1 (yi_Inv.free hJ _ (by decide +kernel) G G1 T1 F1 hI) F1 ⟨k7, fun k hk => ?_⟩
    obtain ⟨a, b⟩ := hC.2 k hk
    exact ⟨by rw [u _ _ (Or.inl (by decide))]; exact a, by rw [u _ _ (Or.inl (by decide))]; exact b⟩
theorem yM_imgl {G0 : xm_H} {x : Int32} (hx : 0 ≤ x.toInt ∧ x.toInt ≤ 3) (hQ : ∀ (G' : xm_H) (r : Int32), ys_HT G' → ys_Fr [(109, 100000)] G0 G' → Q (some (.int r)) G' E = true) : ∀ (n : Nat) (G : xm_H) (i : Int32) (lv : xm_L), ys_HT G → ys_Fr [(109, 100000)] G0 G → 0 ≤ i.toInt → i.toInt ≤ 146 → (146 - i.toInt).toNat ≤ n → xm_get lv 0 = some (.ref 344) → xm_get lv 1 = some (.int x) → xm_get lv 2 = some (.int i) → ∀ {F : Nat}, 30 * (n + 1) ≤ F → xm_run (xm_exec d) xm_c236 3 0 0 (some .int) Q F (xm_drop 27 xm_c236) lv [] G E 0 0 = true := by
  have n146 : (146 : Int32).toInt = 146 := rfl
  have n1 : (1 : Int32).toInt = 1 := rfl
  have n4 : (4 : Int32).toInt = 4 := rfl
  have fin : ∀ (G : xm_H) (lv : xm_L), ys_HT G → ys_Fr [(109, 100000)] G0 G → xm_get lv 0 = some (.ref 344) → ∀ F, 10 ≤ F → xm_run (xm_exec d) xm_c236 3 0 0 (some .int) Q F (xm_drop 44 xm_c236) lv [] G E 0 0 = true := by
    intro G lv hT hF l0 F hFu
    obtain ⟨f, rfl⟩ : ∃ f, F = f + 10 := ⟨F - 10, by omega⟩
    have r20 : yR G 344 20 = some (.ref 354) := yM_ref hT (r := 103) (by decide) rfl (by decide)
    obtain ⟨v, v1, v2⟩ := yR_ty hT (j := 354) (r := 103) (i := (4 : Int32).toInt.toNat) (T := yr_top) rfl yq_103 (by decide) rfl
    obtain ⟨y, rfl, -⟩ := yv_int v2 rfl
    simp only [xy_236_44 l0, xz_236_45, xz_236_46, xz_236_47, xk_gf hT r20, xk_ialg hT (j := 354) (r := 103) rfl yq_103 rfl rfl (show 0 ≤ (4 : Int32).toInt by decide) v1]
    simp only [xy_236_48]
    exact hQ G y hT hF
  intro n
  induction n with
  | zero =>
    intro G i lv hT hF i0 i1 hn l0 l1 l2 F hFu
    obtain ⟨f, rfl⟩ : ∃ f, F = f + 30 := ⟨F - 30, by omega⟩
    simp only [xy_236_27 l2, xz_236_28, xy_236_29, n146]
    rw [decide_eq_false (show ¬ i.toInt < 146 by omega), Bool.not_false, cond_true]
    exact fin G lv hT hF l0 _ (by omega)
  | succ n ih =>
    intro G i lv hT hF i0 i1 hn l0 l1 l2 F hFu
    obtain ⟨f, rfl⟩ : ∃ f, F = f + 30 := ⟨F - 30, by omega⟩
    simp only [xy_236_27 l2, xz_236_28, xy_236_29, n146]
    by_cases hlt : i.toInt < 146
    · rw [decide_eq_true hlt, Bool.not_true, cond_false]
      have r20 : yR G 344 20 = some (.ref 354) := yM_ref hT (r := 103) (by decide) rfl (by decide)
      have r32 : yR G 344 32 = some (.ref 360) := yM_ref hT (r := 109) (by decide) rfl (by decide)
      have j1 : (146 * x : Int32).toInt = 146 * x.toInt := by rw [yk_mul] <;> rw [n146] <;> omega
      have j2 : (146 * x + i : Int32).toInt = 146 * x.toInt + i.toInt := by rw [yk_add] <;> rw [j1] <;> omega
      have j3 : (i + Int32.ofInt 1).toInt = i.toInt + 1 := by
        show (i + 1).toInt = _
        rw [yk_add] <;> rw [n1] <;> omega
      obtain ⟨vs, g1, g2, g3⟩ := hT.at (j := 354) (r := 103) rfl yq_103
      have g2 : vs.length = 146 := g2
      obtain ⟨v, hv⟩ : ∃ v, vs[i.toInt.toNat]? = some v := ⟨_, List.getElem?_eq_getElem (by omega)⟩
      obtain ⟨T, t1, t2⟩ := g3 _ _ hv
      obtain ⟨y, rfl, -⟩ := yv_int t2 (ySaid t1)
      have hv' : yR G 354 i.toInt.toNat = some (.int y) := by rw [yR_eq g1]; exact hv
      have t1' : yr_ty (100, 584, 146, yr_said) (146 * x + i : Int32).toInt.toNat = some T := by
        show xm_nth yr_said ((146 * x + i : Int32).toInt.toNat % 146) = some T
        rw [show (146 * x + i : Int32).toInt.toNat = 146 * x.toInt.toNat + i.toInt.toNat by omega, Nat.mul_add_mod]
        exact t1
      simp only [xy_236_30 l0, xz_236_31, xz_236_32, xy_236_33 l1, xy_236_34, xy_236_35 l2, xy_236_36, xy_236_37 l0, xz_236_38, xy_236_39 l2, xz_236_40, xk_gf hT r20, xk_gf hT r32, xk_ialg hT (j := 354) (r := 103) rfl yq_103 rfl rfl i0 hv']
      rw [xz_236_41, xk_iasg hT (j := 360) (r := 109) rfl yq_109 rfl (by decide) (by omega) (show _ < 584 by omega)]
      obtain ⟨T1, F1⟩ := yU_HT (md := [(109, 100000)]) hT (j := 360) (i := (146 * x + i : Int32).toInt.toNat) (w := .int y) (r := 109) rfl yq_109 (show _ < 584 by omega) t1' t2 (yf_mod List.mem_cons_self)
      generalize yU G 360 (146 * x + i : Int32).toInt.toNat (.int y) = G1 at T1 F1 ⊢
      simp only [xy_236_42 l2, xy_236_43]
      exact ih G1 (i + Int32.ofInt 1) _ T1 (hF.trans F1) (by omega) (by omega) (by omega) (xl_s1 (by decide) (Or.inl rfl) l0) (xl_s1 (by decide) (Or.inl rfl) l1) xl_gs1 (by omega)
    · rw [decide_eq_false hlt, Bool.not_false, cond_true]
      exact fin G lv hT hF l0 _ (by omega)
theorem yM_backl {G0 : xm_H} {x : Int32} (hx : 0 ≤ x.toInt ∧ x.toInt ≤ 3) (hQ : ∀ (G' : xm_H) (r : Int32), ys_HT G' → ys_Fr [(103, 100000)] G0 G' → Q (some (.int r)) G' E = true) : ∀ (n : Nat) (G : xm_H) (i : Int32) (lv : xm_L), ys_HT G → ys_Fr [(103, 100000)] G0 G → 0 ≤ i.toInt → i.toInt ≤ 146 → (146 - i.toInt).toNat ≤ n → xm_get lv 0 = some (.ref 344) → xm_get lv 1 = some (.int x) → xm_get lv 2 = some (.int i) → ∀ {F : Nat}, 30 * (n + 1) ≤ F → xm_run (xm_exec d) xm_c237 3 0 0 (some .int) Q F (xm_drop 30 xm_c237) lv [] G E 0 0 = true := by
  have n146 : (146 : Int32).toInt = 146 := rfl
  have n1 : (1 : Int32).toInt = 1 := rfl
  have fin : ∀ (G : xm_H) (lv : xm_L), ys_HT G → ys_Fr [(103, 100000)] G0 G → xm_get lv 0 = some (.ref 344) → ∀ F, 10 ≤ F → xm_run (xm_exec d) xm_c237 3 0 0 (some .int) Q F (xm_drop 47 xm_c237) lv [] G E 0 0 = true := by
    intro G lv hT hF l0 F hFu
    obtain ⟨f, rfl⟩ : ∃ f, F = f + 10 := ⟨F - 10, by omega⟩
    have r20 : yR G 344 20 = some (.ref 354) := yM_ref hT (r := 103) (by decide) rfl (by decide)
    obtain ⟨v, v1, v2⟩ := yR_ty hT (j := 354) (r := 103) (i := (4 : Int32).toInt.toNat) (T := yr_top) rfl yq_103 (by decide) rfl
    obtain ⟨y, rfl, -⟩ := yv_int v2 rfl
    simp only [xy_237_47 l0, xz_237_48, xz_237_49, xz_237_50, xk_gf hT r20, xk_ialg hT (j := 354) (r := 103) rfl yq_103 rfl rfl (show 0 ≤ (4 : Int32).toInt by decide) v1]
    simp only [xy_237_51]
    exact hQ G y hT hF
  intro n
  induction n with
  | zero =>
    intro G i lv hT hF i0 i1 hn l0 l1 l2 F hFu
    obtain ⟨f, rfl⟩ : ∃ f, F = f + 30 := ⟨F - 30, by omega⟩
    simp only [xy_237_30 l2, xz_237_31, xy_237_32, n146]
    rw [decide_eq_false (show ¬ i.toInt < 146 by omega), Bool.not_false, cond_true]
    exact fin G lv hT hF l0 _ (by omega)
  | succ n ih =>
    intro G i lv hT hF i0 i1 hn l0 l1 l2 F hFu
    obtain ⟨f, rfl⟩ : ∃ f, F = f + 30 := ⟨F - 30, by omega⟩
    simp only [xy_237_30 l2, xz_237_31, xy_237_32, n146]
    by_cases hlt : i.toInt < 146
    · rw [decide_eq_true hlt, Bool.not_true, cond_false]
      have r20 : yR G 344 20 = some (.ref 354) := yM_ref hT (r := 103) (by decide) rfl (by decide)
      have r32 : yR G 344 32 = some (.ref 360) := yM_ref hT (r := 109) (by decide) rfl (by decide)
      have j1 : (146 * x : Int32).toInt = 146 * x.toInt := by rw [yk_mul] <;> rw [n146] <;> omega
      have j2 : (146 * x + i : Int32).toInt = 146 * x.toInt + i.toInt := by rw [yk_add] <;> rw [j1] <;> omega
      have j3 : (i + Int32.ofInt 1).toInt = i.toInt + 1 := by
        show (i + 1).toInt = _
        rw [yk_add] <;> rw [n1] <;> omega
      obtain ⟨vs, g1, g2, g3⟩ := hT.at (j := 360) (r := 109) rfl yq_109
      have g2 : vs.length = 584 := g2
      obtain ⟨v, hv⟩ : ∃ v, vs[(146 * x + i : Int32).toInt.toNat]? = some v := ⟨_, List.getElem?_eq_getElem (by omega)⟩
      obtain ⟨T, t1, t2⟩ := g3 _ _ hv
      obtain ⟨y, rfl, -⟩ := yv_int t2 (ySaid t1)
      have hv' : yR G 360 (146 * x + i : Int32).toInt.toNat = some (.int y) := by rw [yR_eq g1]; exact hv
      have t1' : yr_ty (100, 146, 146, yr_said) i.toInt.toNat = some T := by
        have t0 : xm_nth yr_said ((146 * x + i : Int32).toInt.toNat % 146) = some T := t1
        rw [show (146 * x + i : Int32).toInt.toNat = 146 * x.toInt.toNat + i.toInt.toNat by omega, Nat.mul_add_mod] at t0
        exact t0
      simp only [xy_237_33 l0, xz_237_34, xy_237_35 l2, xy_237_36 l0, xz_237_37, xz_237_38, xy_237_39 l1, xy_237_40, xy_237_41 l2, xy_237_42, xz_237_43, xk_gf hT r20, xk_gf hT r32, xk_ialg hT (j := 360) (r := 109) rfl yq_109 rfl rfl (show 0 ≤ (146 * x + i : Int32).toInt by omega) hv']
      rw [xz_237_44, xk_iasg hT (j := 354) (r := 103) rfl yq_103 rfl (by decide) i0 (show _ < 146 by omega)]
      obtain ⟨T1, F1⟩ := yU_HT (md := [(103, 100000)]) hT (j := 354) (i := i.toInt.toNat) (w := .int y) (r := 103) rfl yq_103 (show _ < 146 by omega) t1' t2 (yf_mod List.mem_cons_self)
      generalize yU G 354 i.toInt.toNat (.int y) = G1 at T1 F1 ⊢
      simp only [xy_237_45 l2, xy_237_46]
      exact ih G1 (i + Int32.ofInt 1) _ T1 (hF.trans F1) (by omega) (by omega) (by omega) (xl_s1 (by decide) (Or.inl rfl) l0) (xl_s1 (by decide) (Or.inl rfl) l1) xl_gs1 (by omega)
    · rw [decide_eq_false hlt, Bool.not_false, cond_true]
      exact fin G lv hT hF l0 _ (by omega)
end MS2
