/-! wordHere, value -/
theorem xi_0 : decide ((0 : Int32).toInt = 0) = true := rfl
theorem xi_1 : decide ((1 : Int32).toInt = 0) = false := rfl
theorem yH_num {v : Int32} {h : Nat} (hh : h < 64) : yH1 (some (.int (0 + 16 * v))) h = some (h + 1) := by
  have e : (0 + 16 * v) &&& 15 = (0 : Int32) := by
    have e1 : ((0 + 16 * v) &&& 15 : Int32).toBitVec.toNat = 0 := by
      rw [Int32.zero_add, Int32.toBitVec_and, BitVec.toNat_and, Int32.toBitVec_mul, BitVec.toNat_mul]
      show (16 * v.toBitVec.toNat % 2 ^ 32) &&& (2 ^ 4 - 1) = _
      rw [Nat.and_two_pow_sub_one_eq_mod]
      omega
    exact Int32.toBitVec_inj.mp (BitVec.eq_of_toNat_eq e1)
  unfold yH1
  dsimp only
  rw [if_pos e, if_pos hh]
theorem yH_word {w : Int32} {h : Nat} (h0 : 0 ≤ w.toInt) (h1 : w.toInt ≤ 10) (hh : h < 64) : yH1 (some (.int (1 + 16 * w))) h = some (h + 1) := by
  have k : ∀ z : Int32, z &&& 15 ≠ 0 → z &&& 15 = 1 → 0 ≤ (z >>> (4 &&& 31)).toInt ∧ (z >>> (4 &&& 31)).toInt ≤ 10 → yH1 (some (.int z)) h = some (h + 1) := by
    intro z z0 z1 z2
    unfold yH1
    dsimp only
    rw [if_neg z0, if_pos z1, if_pos ⟨hh, z2⟩]
  have c : w.toInt = 0 ∨ w.toInt = 1 ∨ w.toInt = 2 ∨ w.toInt = 3 ∨ w.toInt = 4 ∨ w.toInt = 5 ∨ w.toInt = 6 ∨ w.toInt = 7 ∨ w.toInt = 8 ∨ w.toInt = 9 ∨ w.toInt = 10 := by omega
  have i : ∀ z : Int32, w.toInt = z.toInt → w = z := fun z hz => Int32.toInt_inj.mp hz
  rcases c with c | c | c | c | c | c | c | c | c | c | c
  · rw [i 0 c]; exact k _ (by decide) (by decide) (by decide)
  · rw [i 1 c]; exact k _ (by decide) (by decide) (by decide)
  · rw [i 2 c]; exact k _ (by decide) (by decide) (by decide)
  · rw [i 3 c]; exact k _ (by decide) (by decide) (by decide)
  · rw [i 4 c]; exact k _ (by decide) (by decide) (by decide)
  · rw [i 5 c]; exact k _ (by decide) (by decide) (by decide)
  · rw [i 6 c]; exact k _ (by decide) (by decide) (by decide)
  · rw [i 7 c]; exact k _ (by decide) (by decide) (by decide)
  · rw [i 8 c]; exact k _ (by decide) (by decide) (by decide)
  · rw [i 9 c]; exact k _ (by decide) (by decide) (by decide)
  · rw [i 10 c]; exact k _ (by decide) (by decide) (by decide)
section PV
variable {G0 G : xm_H} {t L O m dp : Int32} {op : Nat → Option Value} {b h d : Nat} {Q : xm_Q} {E : xm_R}
theorem yS.word (hS : yS G0 G t L O m dp op b h) (hQ : ∀ (G' : xm_H) (r : Int32), yS G0 G' t L O m dp op b h → -1 ≤ r.toInt → r.toInt ≤ 10 → Q (some (.int r)) G' E = true) : xm_exec (d + 3) 139 [.ref 344] G E Q = true := by
  refine yx_exec (m := 139) rfl rfl (Nat.le_of_ble_eq_true rfl) ?_
  obtain ⟨g, hg⟩ := xn_f
  rw [hg]
  have l0 : xm_get (lv_args 0 [Value.ref 344]) 0 = some (.ref 344) := rfl
  show xm_run (xm_exec (d + 2)) xm_c139 1 0 0 (some .int) Q (g + 40000) (xm_drop 0 xm_c139) (lv_args 0 [.ref 344]) [] G E 0 0 = true
  obtain ⟨v0, hM0⟩ := hS.obj
  simp only [xy_139_0 l0, xz_139_1, xy_139_2]
  rw [yO_call1 (a := 135) rfl hM0 (Nat.le_of_ble_eq_true rfl)]
  refine hS.isw (fun G1 r1 S1 q1 => ?_)
  obtain ⟨v1, hM1⟩ := S1.obj
  by_cases e1 : r1 = 1
  · subst e1
    simp only [xy_139_3, xz_139_4, xy_139_5, xi_1, cond_false]
    exact hQ G1 0 S1 (by decide) (by decide)
  have z1 := q1.resolve_right e1
  subst z1
  simp only [xy_139_3, xi_0, cond_true]
  simp only [xy_139_6 l0, xz_139_7, xy_139_8]
  rw [yO_call1 (a := 135) rfl hM1 (Nat.le_of_ble_eq_true rfl)]
  refine S1.isw (fun G2 r2 S2 q2 => ?_)
  obtain ⟨v2, hM2⟩ := S2.obj
  by_cases e2 : r2 = 1
  · subst e2
    simp only [xy_139_9, xz_139_10, xy_139_11, xi_1, cond_false]
    exact hQ G2 1 S2 (by decide) (by decide)
  have z2 := q2.resolve_right e2
  subst z2
  simp only [xy_139_9, xi_0, cond_true]
  simp only [xy_139_12 l0, xz_139_13, xy_139_14]
  rw [yO_call1 (a := 135) rfl hM2 (Nat.le_of_ble_eq_true rfl)]
  refine S2.isw (fun G3 r3 S3 q3 => ?_)
  obtain ⟨v3, hM3⟩ := S3.obj
  by_cases e3 : r3 = 1
  · subst e3
    simp only [xy_139_15, xz_139_16, xy_139_17, xi_1, cond_false]
    exact hQ G3 2 S3 (by decide) (by decide)
  have z3 := q3.resolve_right e3
  subst z3
  simp only [xy_139_15, xi_0, cond_true]
  simp only [xy_139_18 l0, xz_139_19, xy_139_20]
  rw [yO_call1 (a := 135) rfl hM3 (Nat.le_of_ble_eq_true rfl)]
  refine S3.isw (fun G4 r4 S4 q4 => ?_)
  obtain ⟨v4, hM4⟩ := S4.obj
  by_cases e4 : r4 = 1
  · subst e4
    simp only [xy_139_21, xz_139_22, xy_139_23, xi_1, cond_false]
    exact hQ G4 3 S4 (by decide) (by decide)
  have z4 := q4.resolve_right e4
  subst z4
  simp only [xy_139_21, xi_0, cond_true]
  simp only [xy_139_24 l0, xz_139_25, xy_139_26]
  rw [yO_call1 (a := 135) rfl hM4 (Nat.le_of_ble_eq_true rfl)]
  refine S4.isw (fun G5 r5 S5 q5 => ?_)
  obtain ⟨v5, hM5⟩ := S5.obj
  by_cases e5 : r5 = 1
  · subst e5
    simp only [xy_139_27, xz_139_28, xy_139_29, xi_1, cond_false]
    exact hQ G5 4 S5 (by decide) (by decide)
  have z5 := q5.resolve_right e5
  subst z5
  simp only [xy_139_27, xi_0, cond_true]
  simp only [xy_139_30 l0, xz_139_31, xy_139_32]
  rw [yO_call1 (a := 135) rfl hM5 (Nat.le_of_ble_eq_true rfl)]
  refine S5.isw (fun G6 r6 S6 q6 => ?_)
  obtain ⟨v6, hM6⟩ := S6.obj
  by_cases e6 : r6 = 1
  · subst e6
    simp only [xy_139_33, xz_139_34, xy_139_35, xi_1, cond_false]
    exact hQ G6 5 S6 (by decide) (by decide)
  have z6 := q6.resolve_right e6
  subst z6
  simp only [xy_139_33, xi_0, cond_true]
  simp only [xy_139_36 l0, xz_139_37, xy_139_38]
  rw [yO_call1 (a := 135) rfl hM6 (Nat.le_of_ble_eq_true rfl)]
  refine S6.isw (fun G7 r7 S7 q7 => ?_)
  obtain ⟨v7, hM7⟩ := S7.obj
  by_cases e7 : r7 = 1
  · subst e7
    simp only [xy_139_39, xz_139_40, xy_139_41, xi_1, cond_false]
    exact hQ G7 6 S7 (by decide) (by decide)
  have z7 := q7.resolve_right e7
  subst z7
  simp only [xy_139_39, xi_0, cond_true]
  simp only [xy_139_42 l0, xz_139_43, xy_139_44]
  rw [yO_call1 (a := 135) rfl hM7 (Nat.le_of_ble_eq_true rfl)]
  refine S7.isw (fun G8 r8 S8 q8 => ?_)
  obtain ⟨v8, hM8⟩ := S8.obj
  by_cases e8 : r8 = 1
  · subst e8
    simp only [xy_139_45, xz_139_46, xy_139_47, xi_1, cond_false]
    exact hQ G8 7 S8 (by decide) (by decide)
  have z8 := q8.resolve_right e8
  subst z8
  simp only [xy_139_45, xi_0, cond_true]
  simp only [xy_139_48 l0, xz_139_49, xy_139_50]
  rw [yO_call1 (a := 135) rfl hM8 (Nat.le_of_ble_eq_true rfl)]
  refine S8.isw (fun G9 r9 S9 q9 => ?_)
  obtain ⟨v9, hM9⟩ := S9.obj
  by_cases e9 : r9 = 1
  · subst e9
    simp only [xy_139_51, xz_139_52, xy_139_53, xi_1, cond_false]
    exact hQ G9 8 S9 (by decide) (by decide)
  have z9 := q9.resolve_right e9
  subst z9
  simp only [xy_139_51, xi_0, cond_true]
  simp only [xy_139_54 l0, xz_139_55, xy_139_56]
  rw [yO_call1 (a := 135) rfl hM9 (Nat.le_of_ble_eq_true rfl)]
  refine S9.isw (fun G10 r10 S10 q10 => ?_)
  obtain ⟨v10, hM10⟩ := S10.obj
  by_cases e10 : r10 = 1
  · subst e10
    simp only [xy_139_57, xz_139_58, xy_139_59, xi_1, cond_false]
    simp only [xy_139_67]
    exact hQ G10 9 S10 (by decide) (by decide)
  have z10 := q10.resolve_right e10
  subst z10
  simp only [xy_139_57, xi_0, cond_true]
  simp only [xy_139_60 l0, xz_139_61, xy_139_62]
  rw [yO_call1 (a := 135) rfl hM10 (Nat.le_of_ble_eq_true rfl)]
  refine S10.isw (fun G11 r11 S11 q11 => ?_)
  obtain ⟨v11, hM11⟩ := S11.obj
  by_cases e11 : r11 = 1
  · subst e11
    simp only [xy_139_63, xz_139_64, xy_139_65, xi_1, cond_false]
    simp only [xy_139_67]
    exact hQ G11 10 S11 (by decide) (by decide)
  have z11 := q11.resolve_right e11
  subst z11
  simp only [xy_139_63, xi_0, cond_true]
  simp only [xz_139_66, xy_139_67]
  exact hQ G11 (-1) S11 (by decide) (by decide)
theorem yS.value (hS : yS G0 G t L O m dp op b h) (hA : L.toInt + 2 * (60 - m.toInt) ≤ 399) (hF : yFl Q E G0) (hQ : ∀ (G' : xm_H) (L' m' : Int32), L'.toInt = L.toInt + 1 → m'.toInt = m.toInt + 1 → yS G0 G' t L' O m' dp op b (h + 1) → Q (some (.int 1)) G' E = true) : xm_exec (d + 4) 145 [.ref 344] G E Q = true := by
  refine yx_exec (m := 145) rfl rfl (Nat.le_of_ble_eq_true rfl) ?_
  obtain ⟨g, hg⟩ := xn_f
  rw [hg]
  have hm := hS.mr
  have hLr := hS.Lr
  have hh := hS.2.2.2.2.2.2
  have n1 : (1 : Int32).toInt = 1 := rfl
  have iL : (L + 1).toInt = L.toInt + 1 := by rw [yk_add] <;> rw [n1] <;> omega
  have im : (m + 1).toInt = m.toInt + 1 := by rw [yk_add] <;> rw [n1] <;> omega
  have l0 : xm_get (lv_args 0 [Value.ref 344]) 0 = some (.ref 344) := rfl
  show xm_run (xm_exec (d + 3)) xm_c145 3 0 0 (some .boolean) Q (g + 40000) (xm_drop 0 xm_c145) (lv_args 0 [.ref 344]) [] G E 0 0 = true
  generalize lv_args 0 [Value.ref 344] = lv0 at l0 ⊢
  obtain ⟨v0, hM0⟩ := hS.obj
  simp only [xy_145_0 l0, xy_145_1]
  rw [yO_call0 (a := 132) rfl hM0 (Nat.le_of_ble_eq_true rfl)]
  refine hS.see (fun G1 r S1 _ => ?_)
  obtain ⟨v1, hM1⟩ := S1.obj
  obtain ⟨n, p8, n0, n4⟩ := S1.nx
  simp only [xy_145_2, xy_145_3 l0, xz_145_4, xy_145_5, xk_gf S1.1.1 p8]
  have l1 : xm_get (xm_set1 lv0 1 (.int n)) 1 = some (.int n) := xl_gs1
  replace l0 : xm_get (xm_set1 lv0 1 (.int n)) 0 = some (.ref 344) := xl_s1 (by decide) (Or.inl rfl) l0
  generalize xm_set1 lv0 1 (.int n) = lv1 at l0 l1 ⊢
  simp only [xy_145_6 l0, xy_145_7 l0, xz_145_8, xy_145_9, xk_gf S1.1.1 p8]
  rw [yO_call1 (a := 133) rfl hM1 (Nat.le_of_ble_eq_true rfl)]
  refine S1.digit n0 (fun r hr => ?_)
  rcases hr with rfl | rfl
  · simp only [xy_145_10, xi_0, cond_true]
    simp only [xy_145_29 l0, xy_145_30]
    rw [yO_call0 (a := 139) rfl hM1 (Nat.le_of_ble_eq_true rfl)]
    refine S1.word (fun G2 w S2 w0 w1 => ?_)
    obtain ⟨v2, hM2⟩ := S2.obj
    simp only [xy_145_31]
    have l2 : xm_get (xm_set1 lv1 2 (.int w)) 2 = some (.int w) := xl_gs1
    replace l0 : xm_get (xm_set1 lv1 2 (.int w)) 0 = some (.ref 344) := xl_s1 (by decide) (Or.inl rfl) l0
    replace l1 : xm_get (xm_set1 lv1 2 (.int w)) 1 = some (.int n) := xl_s1 (by decide) (Or.inl rfl) l1
    generalize xm_set1 lv1 2 (.int w) = lv2 at l0 l1 l2 ⊢
    simp only [xy_145_32 l2, xy_145_33]
    by_cases hw0 : w.toInt < 0
    · rw [decide_eq_true hw0, Bool.not_true, cond_false]
      simp only [xy_145_34 l0, xz_145_35, xy_145_36 l1, xy_145_37]
      rw [yO_call2 (a := 131) rfl hM2 (Nat.le_of_ble_eq_true rfl)]
      refine S2.fails (fun G3 S3 => ?_)
      simp only [xy_145_38_0, xy_145_38_1]
      exact hF.of S3
    · rw [decide_eq_false hw0, Bool.not_false, cond_true]
      simp only [xy_145_39 l0, xy_145_40 l1, xy_145_41]
      rw [yO_call1 (a := 141) rfl hM2 (Nat.le_of_ble_eq_true rfl)]
      refine S2.makes (fun G3 S3 => ?_) (fun h6 G3 S3 => ?_)
      · simp only [xy_145_42, xz_145_43, xy_145_44_0, xy_145_44_1, xi_0, Bool.not_true, cond_false]
        exact hF.of S3
      · obtain ⟨v3, hM3⟩ := S3.obj
        simp only [xy_145_42, xi_1, Bool.not_false, cond_true]
        simp only [xy_145_45 l0, xy_145_46]
        rw [yO_call0 (a := 136) rfl hM3 (Nat.le_of_ble_eq_true rfl)]
        refine S3.pass (fun G4 S4 => ?_)
        obtain ⟨v4, hM4⟩ := S4.obj
        simp only [xy_145_47 l0, xz_145_48, xy_145_49 l2, xy_145_50]
        rw [yO_call2 (a := 140) rfl hM4 (Nat.le_of_ble_eq_true rfl)]
        refine S4.puts (h' := h + 1) (by omega) (yH_word (by omega) w1 (by omega)) (by omega) (fun G5 S5 _ => ?_)
        simp only [xz_145_51, xy_145_52_0, xy_145_52_1]
        exact hQ G5 _ _ iL im S5
  · simp only [xy_145_10, xi_1, cond_false]
    simp only [xy_145_11 l0, xz_145_12, xz_145_13, xy_145_14]
    rw [yO_call2 (a := 138) rfl hM1 (Nat.le_of_ble_eq_true rfl)]
    refine S1.num (fun G2 r S2 hr => ?_)
    obtain ⟨v2, hM2⟩ := S2.obj
    rcases hr with rfl | ⟨rfl, v, p10, -⟩
    · simp only [xy_145_15, xi_0, cond_true]
      simp only [xz_145_20, xy_145_21_0, xy_145_21_1]
      exact hF.of S2
    · simp only [xy_145_15, xi_1, cond_false]
      simp only [xy_145_16 l0, xy_145_17 l1, xy_145_18]
      rw [yO_call1 (a := 141) rfl hM2 (Nat.le_of_ble_eq_true rfl)]
      have keep : ∀ G3 : xm_H, True := fun _ => trivial
      refine S2.makes (fun G3 S3 => ?_) (fun h6 G3 S3 => ?_)
      · simp only [xy_145_19, xz_145_20, xy_145_21_0, xy_145_21_1, xi_0, Bool.not_true, cond_false]
        exact hF.of S3
      · obtain ⟨v3, hM3⟩ := S3.obj
        obtain ⟨u, p10', -⟩ := yM_int S3.1.1 (i := 10) (by decide) rfl
        simp only [xy_145_19, xi_1, Bool.not_false, cond_true]
        simp only [xy_145_22 l0, xz_145_23, xy_145_24 l0, xz_145_25, xy_145_26, xk_gf S3.1.1 p10']
        rw [yO_call2 (a := 140) rfl hM3 (Nat.le_of_ble_eq_true rfl)]
        refine S3.puts (h' := h + 1) (by omega) (yH_num (by omega)) (by omega) (fun G5 S5 _ => ?_)
        simp only [xz_145_27, xy_145_28_0, xy_145_28_1]
        exact hQ G5 _ _ iL im S5
end PV
