/-! house empties the tape, on both sides (the contracts of 61, 62 with that said) -/
def yi_290 : yI := (90, [(2, 7, 0)], [], [(some yr_top, [(0, [0, 1], (0, 0, 0))])], [(8, 1), (8, 2), (8, 3), (8, 4), (8, 5), (10, 5), (11, 0), (11, 1), (11, 2), (11, 3), (11, 4), (11, 5), (11, 6), (11, 7), (11, 8), (11, 9), (12, 100000), (13, 100000), (14, 100000), (15, 100000), (16, 100000), (17, 100000), (18, 100000), (19, 0), (19, 1), (20, 100000), (21, 100000), (22, 100000), (23, 100000), (24, 0), (25, 100000), (26, 100000), (27, 100000), (30, 0), (30, 1), (30, 2), (30, 3), (30, 4), (30, 5), (30, 6), (30, 7), (30, 8), (30, 9), (31, 100000), (32, 100000), (33, 100000), (34, 100000), (35, 100000), (36, 100000), (37, 100000), (40, 3)])
def yi_291 : yI := (167, [(2, 93, 0)], [(0, [11], (0, 6, 6))], [(some (0, 0, 1), [(0, [1], (0, 0, 0))])], yMH)
def yi_292 : yI := (169, [(2, 93, 0)], [], [(some yr_top, [(0, [1], (0, 0, 0))])], [(93, 1), (93, 8), (93, 9), (93, 10), (93, 11), (93, 12), (93, 14), (93, 26), (96, 100000), (99, 100000), (103, 100000)])
section HX2
variable {J : xm_H → Prop} {G0 G G' : xm_H} {d : Nat} {Q : xm_Q} {E : xm_R}
def yXq2 (J : xm_H → Prop) (Q : xm_Q) (E : xm_R) (G0 : xm_H) : Prop := ∀ (G' : xm_H) (r : Int32), yX J G0 G' → yR G' 344 1 = some (.int 0) → (r = 0 ∨ r = 1) → Q (some (.int r)) G' E = true
theorem yX_end2 (hJ : yj_ok J) (hQ : yXq2 J Q E G0) {lv : xm_L} {call : xm_C} (l0 : xm_get lv 0 = some (.ref 344)) {G : xm_H} (hX : yX J G0 G) {F : Nat} (hFu : 30 ≤ F) : xm_run call xm_c167 2 0 0 (some .boolean) Q F (xm_drop 49 xm_c167) lv [] G E 0 0 = true := by
  obtain ⟨f, rfl⟩ : ∃ f, F = f + 30 := ⟨F - 30, by omega⟩
  simp only [xy_167_49 l0, xz_167_50]
  rw [xz_167_51, xk_pf hX.1 rfl (by decide)]
  have X1 := hX.put hJ (i := 1) (w := .int 0) (T := (0, 0, 400)) (by decide) rfl ⟨rfl, by decide, by decide⟩ (by decide +kernel) (by decide +kernel) (by decide +kernel)
  have k1 : yR (yU G 344 1 (.int 0)) 344 1 = some (.int 0) := by
    obtain ⟨z, z1, -⟩ := yM_int hX.1 (i := 1) (lo := 0) (hi := 400) (by decide) rfl
    exact yU_hit z1
  generalize yU G 344 1 (.int 0) = G1 at X1 k1 ⊢
  obtain ⟨x, p9, -⟩ := yM_int X1.1 (i := 9) (lo := -2147483648) (hi := 2147483647) (by decide) rfl
  simp only [xy_167_52 l0, xz_167_53, xy_167_54, xk_gf X1.1 p9]
  by_cases hx : x.toInt = 0
  · rw [decide_eq_true hx, Bool.not_true, cond_false]
    simp only [xz_167_55, xy_167_56]
    simp only [xy_167_58_0, xy_167_58_1]
    exact hQ G1 1 X1 k1 (Or.inr rfl)
  · rw [decide_eq_false hx, Bool.not_false, cond_true]
    simp only [xz_167_57, xy_167_58_0, xy_167_58_1]
    exact hQ G1 0 X1 k1 (Or.inl rfl)
theorem yX_b2 (hJ : yj_ok J) (hC : ∀ c : Int, 0 ≤ c → c < 40 → yc_ok (yi_Inv J) (yhc c) (xm_exec (d + 1))) (hC4 : yc_ok (yi_Inv J) yi_223 (xm_exec (d + 1))) (hQ : yXq2 J Q E G0) {G : xm_H} {lv : xm_L} {ln : Int32} (hX : yX J G0 G) (hl : yR G 344 14 = some (.int ln)) (hl0 : 0 ≤ ln.toInt) (hl4 : ln.toInt ≤ 40) (l0 : xm_get lv 0 = some (.ref 344)) (l1 : xm_get lv 1 = some (.int 1)) {g : Nat} (hrec : ∀ (G' : xm_H) (ln' : Int32) (lv' : xm_L) (F : Nat), g ≤ F → yX J G0 G' → yR G' 344 14 = some (.int ln') → ln'.toInt = ln.toInt + 1 → ln'.toInt ≤ 40 → xm_get lv' 0 = some (.ref 344) → xm_get lv' 1 = some (.int 1) → xm_run (xm_exec (d + 1)) xm_c167 2 0 0 (some .boolean) Q F (xm_drop 21 xm_c167) lv' [] G' E 0 0 = true) : xm_run (xm_exec (d + 1)) xm_c167 2 0 0 (some .boolean) Q (g + 200) (xm_drop 21 xm_c167) lv [] G E 0 0 = true := by
  have n59 : (59 : Int32).toInt = 59 := rfl
  have n1 : (1 : Int32).toInt = 1 := rfl
  have mm : (-1 : Int32).toInt = -1 := rfl
  obtain ⟨v0, hM0⟩ := hX.obj
  simp only [xy_167_21 l1, xy_167_22, xy_167_23 l0, xy_167_24, xi_1, cond_false]
  rw [yO_call0 (a := 132) rfl hM0 (Nat.le_of_ble_eq_true rfl)]
  refine hX.see hJ (fun G1 c X1 q1 k1 => ?_)
  simp only [xz_167_25, xy_167_26, n59]
  by_cases c1 : c.toInt = 59
  · rw [decide_eq_true c1, Bool.not_true, cond_false]
    obtain ⟨nx, p8, z0, z4⟩ := q1.resolve_left (by omega)
    simp only [xy_167_27 l0, xy_167_28, xz_167_29, xz_167_30, xy_167_31, xk_gf X1.1 p8]
    rw [xz_167_32, xk_pf X1.1 rfl (by decide)]
    have inx : (nx + 1).toInt = nx.toInt + 1 := by rw [yk_add] <;> rw [n1] <;> omega
    have X2 := X1.put hJ (i := 8) (w := .int (nx + 1)) (T := (0, 0, 400)) (by decide) rfl ⟨rfl, by show 0 ≤ (nx + 1).toInt; omega, by show (nx + 1).toInt ≤ 400; omega⟩ (by decide +kernel) (by decide +kernel) (by decide +kernel)
    have hl2 : yR (yU G1 344 8 (.int (nx + 1))) 344 14 = some (.int ln) := by rw [yU_miss (Or.inr (by decide))]; exact k1 _ hl
    generalize yU G1 344 8 (.int (nx + 1)) = G2 at X2 hl2 ⊢
    obtain ⟨v2, hM2⟩ := X2.obj
    simp only [xy_167_33 l0, xy_167_34]
    rw [yO_call0 (a := 166) rfl hM2 (Nat.le_of_ble_eq_true rfl)]
    refine X2.clause hJ hC hC4 hl2 hl0 hl4 (fun G3 X3 => ?_) (fun G3 ln3 X3 hl3 e3 e4 => ?_)
    · simp only [xy_167_35, xy_167_36]
      have l1' : xm_get (xm_set1 lv 1 (.int 0)) 1 = some (.int 0) := xl_gs1
      replace l0 : xm_get (xm_set1 lv 1 (.int 0)) 0 = some (.ref 344) := xl_s1 (by decide) (Or.inl rfl) l0
      generalize xm_set1 lv 1 (.int 0) = lv3 at l0 l1' ⊢
      replace l1 := l1'
      simp only [xy_167_21 l1, xy_167_22, xi_0, cond_true]
      simp only [xy_167_37 l1, xy_167_38, xi_0, cond_true]
      exact yX_end2 hJ hQ l0 X3 (by omega)
    · simp only [xy_167_35, xy_167_36]
      exact hrec G3 ln3 _ _ (by omega) X3 hl3 e3 e4 (xl_s1 (by decide) (Or.inl rfl) l0) xl_gs1
  · rw [decide_eq_false c1, Bool.not_false, cond_true]
    obtain ⟨v1, hM1⟩ := X1.obj
    simp only [xy_167_37 l1, xy_167_38, xy_167_39 l0, xy_167_40, xi_1, cond_false]
    rw [yO_call0 (a := 132) rfl hM1 (Nat.le_of_ble_eq_true rfl)]
    refine X1.see hJ (fun G2 c2 X2 q2 k2 => ?_)
    simp only [xz_167_41, xy_167_42, mm]
    by_cases c3 : c2.toInt = -1
    · rw [decide_eq_true c3, cond_true]
      exact yX_end2 hJ hQ l0 X2 (by omega)
    · rw [decide_eq_false c3, cond_false]
      obtain ⟨v2, hM2⟩ := X2.obj
      obtain ⟨nx, p8, -⟩ := X2.nx
      simp only [xy_167_43 l0, xz_167_44, xy_167_45 l0, xz_167_46, xy_167_47, xk_gf X2.1 p8]
      rw [yO_call2 (a := 131) rfl hM2 (Nat.le_of_ble_eq_true rfl)]
      refine X2.fails hJ (fun G3 X3 => ?_)
      simp only [xy_167_48]
      exact yX_end2 hJ hQ l0 X3 (by omega)
theorem yX_r2 (hJ : yj_ok J) (hC : ∀ c : Int, 0 ≤ c → c < 40 → yc_ok (yi_Inv J) (yhc c) (xm_exec (d + 1))) (hC4 : yc_ok (yi_Inv J) yi_223 (xm_exec (d + 1))) (hQ : yXq2 J Q E G0) : ∀ (n : Nat) (G : xm_H) (lv : xm_L) (ln : Int32), yX J G0 G → yR G 344 14 = some (.int ln) → 0 ≤ ln.toInt → ln.toInt ≤ 40 → xm_get lv 0 = some (.ref 344) → xm_get lv 1 = some (.int 1) → (40 - ln.toInt).toNat ≤ n → ∀ {F : Nat}, 200 * (n + 1) ≤ F → xm_run (xm_exec (d + 1)) xm_c167 2 0 0 (some .boolean) Q F (xm_drop 21 xm_c167) lv [] G E 0 0 = true := by
  intro n
  induction n with
  | zero =>
    intro G lv ln hX hl hl0 hl4 l0 l1 hn F hFu
    obtain ⟨g, rfl⟩ : ∃ g, F = g + 200 := ⟨F - 200, by omega⟩
    exact yX_b2 hJ hC hC4 hQ hX hl hl0 hl4 l0 l1 (fun G' ln' lv' F' hg X' hl' e1 e2 l0' l1' => by omega)
  | succ n ih =>
    intro G lv ln hX hl hl0 hl4 l0 l1 hn F hFu
    obtain ⟨g, rfl⟩ : ∃ g, F = g + 200 := ⟨F - 200, by omega⟩
    exact yX_b2 hJ hC hC4 hQ hX hl hl0 hl4 l0 l1 (fun G' ln' lv' F' hg X' hl' e1 e2 l0' l1' => ih G' lv' ln' X' hl' (by omega) e2 l0' l1' (by omega) (by omega))
/-- readsAll of a house -/
theorem yc_all2 (hJ : yj_ok J) (hC : ∀ c : Int, 0 ≤ c → c < 40 → yc_ok (yi_Inv J) (yhc c) (xm_exec (d + 1))) (hC4 : yc_ok (yi_Inv J) yi_223 (xm_exec (d + 1))) : yc_ok (yi_Inv J) yi_291 (xm_exec (d + 2)) := by
  intro G As Ec Q hT hI hA hF hQ
  match As, hA with
  | [a], hA =>
    obtain ⟨j, rfl, hj⟩ := yv_ref hA.1 rfl
    have hj := yr_oneM (Int.ofNat.inj hj)
    subst hj
    obtain ⟨v, v1, v2⟩ := hF (0, [11], (0, 6, 6)) List.mem_cons_self
    have v1 : some (Value.ref 344) = some v := v1
    cases v1
    obtain ⟨w, w1, w2⟩ := yf_of v2
    obtain ⟨t, rfl, t0, t1⟩ := yv_int w2 rfl
    dsimp only at t0 t1
    have et : t = 6 := Int32.toInt_inj.mp (show t.toInt = (6 : Int32).toInt by have : (6 : Int32).toInt = 6 := rfl; omega)
    subst et
    have X0 : yX J G G := ⟨hT, hI, ys_Fr.refl _ _, w1⟩
    have hQ' : yXq2 J Q Ec G := fun G' r X' k1 hr => hQ _ G' X'.1 X'.2.1 X'.2.2.1 ⟨(some (0, 0, 1), [(0, [1], (0, 0, 0))]), List.mem_cons_self, by rcases hr with rfl | rfl <;> exact ⟨rfl, by decide, by decide⟩, fun q hq => by
      rw [List.mem_singleton] at hq
      subst hq
      exact ⟨.ref 344, rfl, yf_mk k1 ⟨rfl, by decide, by decide⟩⟩⟩
    refine yx_exec (m := 167) rfl rfl (Nat.le_of_ble_eq_true rfl) ?_
    obtain ⟨g, hg⟩ := xn_f
    rw [hg]
    have l0 : xm_get (lv_args 0 [Value.ref 344]) 0 = some (.ref 344) := rfl
    show xm_run (xm_exec (d + 1)) xm_c167 2 0 0 (some .boolean) Q (g + 40000) (xm_drop 0 xm_c167) (lv_args 0 [.ref 344]) [] G Ec 0 0 = true
    generalize lv_args 0 [Value.ref 344] = lv at l0 ⊢
    have r4 : yR G 344 4 = some (.ref 347) := yM_ref hT (r := 96) (by decide) rfl (by decide)
    simp only [xy_167_0 l0, xz_167_1, xy_167_2 l0, xz_167_3, xz_167_4, xk_gf hT r4, xk_gf hT w1]
    rw [xz_167_5, xk_ias hT (j := 347) (r := 96) rfl yq_96 (by decide) (by decide) (by show _ < ((7 : Nat) : Int); decide)]
    obtain ⟨x1, x2⟩ := yU_HT (md := [(96, 100000)]) hT (j := 347) (i := (6 : Int32).toInt.toNat) (w := .int 0) (r := 96) rfl yq_96 (show _ < 7 by decide) yv_one ⟨rfl, by decide, by decide⟩ (yf_mod (by simp))
    have X1 := X0.fr hJ x1 x2 (by decide +kernel) (by decide +kernel) (by decide +kernel)
    generalize yU G 347 (6 : Int32).toInt.toNat (.int 0) = G1 at X1 ⊢
    simp only [xy_167_6 l0, xz_167_7]
    rw [xz_167_8, xk_pf X1.1 rfl (by decide)]
    have X2 := X1.put hJ (i := 14) (w := .int 0) (T := yr_top) (by decide) rfl ⟨rfl, ys_b32 _⟩ (by decide +kernel) (by decide +kernel) (by decide +kernel)
    have k14 : yR (yU G1 344 14 (.int 0)) 344 14 = some (.int 0) := by
      obtain ⟨z, z1, -⟩ := yM_int X1.1 (i := 14) (lo := -2147483648) (hi := 2147483647) (by decide) rfl
      exact yU_hit z1
    generalize yU G1 344 14 (.int 0) = G2 at X2 k14 ⊢
    simp only [xy_167_9 l0, xz_167_10]
    rw [xz_167_11, xk_pf X2.1 rfl (by decide)]
    have X3 := X2.put hJ (i := 8) (w := .int 0) (T := (0, 0, 400)) (by decide) rfl ⟨rfl, by decide, by decide⟩ (by decide +kernel) (by decide +kernel) (by decide +kernel)
    replace k14 : yR (yU G2 344 8 (.int 0)) 344 14 = some (.int 0) := by rw [yU_miss (Or.inr (by decide))]; exact k14
    generalize yU G2 344 8 (.int 0) = G3 at X3 k14 ⊢
    simp only [xy_167_12 l0, xz_167_13]
    rw [xz_167_14, xk_pf X3.1 rfl (by decide)]
    have X4 := X3.put hJ (i := 9) (w := .int 0) (T := yr_top) (by decide) rfl ⟨rfl, ys_b32 _⟩ (by decide +kernel) (by decide +kernel) (by decide +kernel)
    replace k14 : yR (yU G3 344 9 (.int 0)) 344 14 = some (.int 0) := by rw [yU_miss (Or.inr (by decide))]; exact k14
    generalize yU G3 344 9 (.int 0) = G4 at X4 k14 ⊢
    simp only [xy_167_15 l0, xz_167_16]
    rw [xz_167_17, xk_pf X4.1 rfl (by decide)]
    have X5 := X4.put hJ (i := 12) (w := .int 0) (T := (0, 0, 60)) (by decide) rfl ⟨rfl, by decide, by decide⟩ (by decide +kernel) (by decide +kernel) (by decide +kernel)
    replace k14 : yR (yU G4 344 12 (.int 0)) 344 14 = some (.int 0) := by rw [yU_miss (Or.inr (by decide))]; exact k14
    generalize yU G4 344 12 (.int 0) = G5 at X5 k14 ⊢
    obtain ⟨v5, hM5⟩ := X5.obj
    simp only [xy_167_18 l0, xy_167_19]
    rw [yO_call0 (a := 166) rfl hM5 (Nat.le_of_ble_eq_true rfl)]
    refine X5.clause hJ hC hC4 k14 (by decide) (by decide) (fun G6 X6 => ?_) (fun G6 ln6 X6 hl6 e6 e7 => ?_)
    · simp only [xy_167_20]
      have l1 : xm_get (xm_set1 lv 1 (.int 0)) 1 = some (.int 0) := xl_gs1
      replace l0 : xm_get (xm_set1 lv 1 (.int 0)) 0 = some (.ref 344) := xl_s1 (by decide) (Or.inl rfl) l0
      generalize xm_set1 lv 1 (.int 0) = lv3 at l0 l1 ⊢
      simp only [xy_167_21 l1, xy_167_22, xi_0, cond_true]
      simp only [xy_167_37 l1, xy_167_38, xi_0, cond_true]
      exact yX_end2 hJ hQ' l0 X6 (by omega)
    · simp only [xy_167_20]
      have z0 : (0 : Int32).toInt = 0 := rfl
      exact yX_r2 hJ hC hC4 hQ' 40 G6 _ ln6 X6 hl6 (by omega) e7 (xl_s1 (by decide) (Or.inl rfl) l0) xl_gs1 (by omega) (by omega)
end HX2
theorem yk_290 : yk_inst yt_135 yi_290 yw_135 yx_135 yh_135 (fun _ _ => none) [] = true := by decide +kernel
theorem yk_292 : yk_inst [yi_291, yi_225] yi_292 yw_226 [] [] (fun _ _ => none) [] = true := by decide +kernel
theorem yc_290 {J : xm_H → Prop} (hJ : yj_ok J) : ∀ d, 26 ≤ d → yc_ok (yi_Inv J) yi_290 (xm_exec d) := yc_inst (tb := yt_135) (D0 := 22) hJ (ys_nohk _ _) yk_290 (List.forall_mem_cons.mpr ⟨fun d hd => yc_72 hJ d (Nat.le_trans (by decide) hd), (List.forall_mem_cons.mpr ⟨fun d hd => yc_125 hJ d (Nat.le_trans (by decide) hd), (List.forall_mem_cons.mpr ⟨fun d hd => yc_130 hJ d (Nat.le_trans (by decide) hd), (fun _ h => absurd h List.not_mem_nil)⟩)⟩)⟩)
theorem yd_291 : ∀ d, 16 ≤ d → yc_ok (yi_Inv yJ) yi_291 (xm_exec d) := fun d hd => by
  obtain ⟨e, rfl⟩ : ∃ e, d = e + 2 := ⟨d - 2, by omega⟩
  exact yc_all2 yJ_ok (yd_cl (by omega)) (yd_223 (e + 1) (by omega))
theorem yd_292 : ∀ d, 20 ≤ d → yc_ok (yi_Inv yJ) yi_292 (xm_exec d) := yc_inst (tb := [yi_291, yi_225]) (D0 := 16) yJ_ok (ys_nohk _ _) yk_292 (List.forall_mem_cons.mpr ⟨fun d hd => yd_291 d (Nat.le_trans (by decide) hd), (List.forall_mem_cons.mpr ⟨fun d hd => yd_225 d (Nat.le_trans (by decide) hd), (fun _ h => absurd h List.not_mem_nil)⟩)⟩)
