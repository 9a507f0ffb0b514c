/-! compare, fact -/
section PC
variable {G0 : xm_H} {t O dp : Int32} {op : Nat → Option Value} {b h d : Nat} {Q : xm_Q} {E : xm_R}
theorem yS.compare {G : xm_H} {L m : Int32} (hS : yS G0 G t L O m dp op b h) (hA : L.toInt + 2 * (60 - m.toInt) ≤ 399) (hF : yFl Q E G0) (hQ : ∀ (G' : xm_H) (L' m' : Int32), L'.toInt + 2 * (60 - m'.toInt) = L.toInt + 2 * (60 - m.toInt) - 3 → m.toInt + 3 ≤ m'.toInt → yS G0 G' t L' O m' dp op b (h + 1) → Q (some (.int 1)) G' E = true) : xm_exec (d + 7) 148 [.ref 344] G E Q = true := by
  refine yx_exec (m := 148) rfl rfl (Nat.le_of_ble_eq_true rfl) ?_
  obtain ⟨g, hg⟩ := xn_f
  rw [hg]
  have n1 : (1 : Int32).toInt = 1 := rfl
  have n60 : (60 : Int32).toInt = 60 := rfl
  have n61 : (61 : Int32).toInt = 61 := rfl
  have n62 : (62 : Int32).toInt = 62 := rfl
  have l0 : xm_get (lv_args 0 [Value.ref 344]) 0 = some (.ref 344) := rfl
  show xm_run (xm_exec (d + 6)) xm_c148 5 0 0 (some .boolean) Q (g + 40000) (xm_drop 0 xm_c148) (lv_args 0 [.ref 344]) [] G E 0 0 = true
  generalize lv_args 0 [Value.ref 344] = lv0 at l0 ⊢
  obtain ⟨v0, hM0⟩ := hS.obj
  simp only [xy_148_0 l0, xy_148_1]
  rw [yO_call0 (a := 147) rfl hM0 (Nat.le_of_ble_eq_true rfl)]
  refine hS.sum hA ?_ (fun G1 L1 m1 e1 e2 S1 => ?_)
  · intro G3 a1 a2 a3
    simp only [xy_148_2, xz_148_3, xy_148_4_0, xy_148_4_1, xi_0, Bool.not_true, cond_false]
    exact hF G3 a1 a2 a3
  simp only [xy_148_2, xi_1, Bool.not_false, cond_true]
  obtain ⟨v1, hM1⟩ := S1.obj
  simp only [xy_148_5 l0, xy_148_6]
  rw [yO_call0 (a := 132) rfl hM1 (Nat.le_of_ble_eq_true rfl)]
  refine S1.see (fun G2 c S2 q2 => ?_)
  simp only [xy_148_7]
  have l1 : xm_get (xm_set1 lv0 1 (.int c)) 1 = some (.int c) := xl_gs1
  replace l0 : xm_get (xm_set1 lv0 1 (.int c)) 0 = some (.ref 344) := xl_s1 (by decide) (Or.inl rfl) l0
  generalize xm_set1 lv0 1 (.int c) = lv1 at l0 l1 ⊢
  obtain ⟨n, p8, n0, n4⟩ := S2.nx
  simp only [xy_148_8 l0, xz_148_9, xy_148_10, xk_gf S2.1.1 p8]
  have l2 : xm_get (xm_set1 lv1 2 (.int n)) 2 = some (.int n) := xl_gs1
  replace l0 : xm_get (xm_set1 lv1 2 (.int n)) 0 = some (.ref 344) := xl_s1 (by decide) (Or.inl rfl) l0
  replace l1 : xm_get (xm_set1 lv1 2 (.int n)) 1 = some (.int c) := xl_s1 (by decide) (Or.inl rfl) l1
  generalize xm_set1 lv1 2 (.int n) = lv2 at l0 l1 l2 ⊢
  have hm1 := S1.mr
  have hL1 := S1.Lr
  -- from the second sum on
  have t83 : ∀ (G3 : xm_H) (lv : xm_L) (s : Int32) (F : Nat), 40 ≤ F → yS G0 G3 t L1 O (m1 + 1) dp op b (h + 1) → xm_get lv 0 = some (.ref 344) → (s = 0 ∨ s = 1 ∨ s = 2 ∨ s = 3 ∨ s = 4) → xm_run (xm_exec (d + 6)) xm_c148 5 0 0 (some .boolean) Q F (xm_drop 83 xm_c148) lv [.int s] G3 E 0 0 = true := by
    intro G3 lv s F hFu S3 l0 hs
    obtain ⟨f, rfl⟩ : ∃ f, F = f + 40 := ⟨F - 40, by omega⟩
    have im : (m1 + 1).toInt = m1.toInt + 1 := by rw [yk_add] <;> rw [n1] <;> omega
    simp only [xy_148_83]
    have l4 : xm_get (xm_set1 lv 4 (.int s)) 4 = some (.int s) := xl_gs1
    replace l0 : xm_get (xm_set1 lv 4 (.int s)) 0 = some (.ref 344) := xl_s1 (by decide) (Or.inl rfl) l0
    generalize xm_set1 lv 4 (.int s) = lv4 at l0 l4 ⊢
    obtain ⟨v3, hM3⟩ := S3.obj
    simp only [xy_148_84 l0, xy_148_85]
    rw [yO_call0 (a := 147) rfl hM3 (Nat.le_of_ble_eq_true rfl)]
    refine S3.sum (by omega) ?_ (fun G4 L4 m4 e3 e4 S4 => ?_)
    · intro G4 a1 a2 a3
      simp only [xy_148_86, xz_148_87, xy_148_88_0, xy_148_88_1, xi_0, Bool.not_true, cond_false]
      exact hF G4 a1 a2 a3
    simp only [xy_148_86, xi_1, Bool.not_false, cond_true]
    have h4 := S4.2.2.2.2.2.2
    have hm4 := S4.mr
    have hL4 := S4.Lr
    obtain ⟨v4, hM4⟩ := S4.obj
    simp only [xy_148_89 l0, xz_148_90, xy_148_91 l4, xy_148_92, xz_148_93, xy_148_94]
    rw [yO_call2 (a := 140) rfl hM4 (Nat.le_of_ble_eq_true rfl)]
    have iL : (L4 + 1).toInt = L4.toInt + 1 := by rw [yk_add] <;> rw [n1] <;> omega
    refine S4.puts (h' := h + 1) (by omega) (yH_bin (n := h) (by rcases hs with rfl | rfl | rfl | rfl | rfl <;> decide)) (by omega) (fun G5 S5 _ => ?_)
    simp only [xz_148_95, xy_148_96_0, xy_148_96_1]
    exact hQ G5 (L4 + 1) m4 (by omega) (by omega) S5
  -- from 'makes' on
  have t58 : ∀ (G3 : xm_H) (lv : xm_L) (a : Int32) (F : Nat), 80 ≤ F → yS G0 G3 t L1 O m1 dp op b (h + 1) → xm_get lv 0 = some (.ref 344) → xm_get lv 1 = some (.int c) → xm_get lv 2 = some (.int n) → xm_get lv 3 = some (.int a) → (a = 0 ∨ a = 1) → xm_run (xm_exec (d + 6)) xm_c148 5 0 0 (some .boolean) Q F (xm_drop 58 xm_c148) lv [] G3 E 0 0 = true := by
    intro G3 lv a F hFu S3 l0 l1 l2 l3 ha
    obtain ⟨f, rfl⟩ : ∃ f, F = f + 80 := ⟨F - 80, by omega⟩
    obtain ⟨v3, hM3⟩ := S3.obj
    simp only [xy_148_58 l0, xy_148_59 l2, xy_148_60]
    rw [yO_call1 (a := 141) rfl hM3 (Nat.le_of_ble_eq_true rfl)]
    refine S3.makes (fun G4 S4 => ?_) (fun h6 G4 S4 => ?_)
    · simp only [xy_148_61, xz_148_62, xy_148_63_0, xy_148_63_1, xi_0, Bool.not_true, cond_false]
      exact hF.of S4
    simp only [xy_148_61, xi_1, Bool.not_false, cond_true]
    simp only [xy_148_64 l1, xz_148_65, xy_148_66, n60]
    by_cases c0 : c.toInt = 60
    · rw [decide_eq_true c0, Bool.not_true, cond_false]
      simp only [xy_148_67 l3, xy_148_68]
      rcases ha with rfl | rfl
      · rw [xi_0, cond_true]
        simp only [xz_148_71, xy_148_72]
        exact t83 G4 lv 0 _ (by omega) S4 l0 (Or.inl rfl)
      · rw [xi_1, cond_false]
        simp only [xz_148_69, xy_148_70]
        exact t83 G4 lv 1 _ (by omega) S4 l0 (Or.inr (Or.inl rfl))
    rw [decide_eq_false c0, Bool.not_false, cond_true]
    simp only [xy_148_73 l1, xz_148_74, xy_148_75, n61]
    by_cases c1 : c.toInt = 61
    · rw [decide_eq_true c1, Bool.not_true, cond_false]
      simp only [xz_148_76, xy_148_77]
      exact t83 G4 lv 2 _ (by omega) S4 l0 (Or.inr (Or.inr (Or.inl rfl)))
    rw [decide_eq_false c1, Bool.not_false, cond_true]
    simp only [xy_148_78 l3, xy_148_79]
    rcases ha with rfl | rfl
    · rw [xi_0, cond_true]
      simp only [xz_148_82]
      exact t83 G4 lv 4 _ (by omega) S4 l0 (Or.inr (Or.inr (Or.inr (Or.inr rfl))))
    · rw [xi_1, cond_false]
      simp only [xz_148_80, xy_148_81]
      exact t83 G4 lv 3 _ (by omega) S4 l0 (Or.inr (Or.inr (Or.inr (Or.inl rfl))))
  have t49 : ∀ (G3 : xm_H) (a : Int32) (F : Nat), 100 ≤ F → yS G0 G3 t L1 O m1 dp op b (h + 1) → (a = 0 ∨ (a = 1 ∧ yNx G3)) → xm_run (xm_exec (d + 6)) xm_c148 5 0 0 (some .boolean) Q F (xm_drop 49 xm_c148) lv2 [.int a] G3 E 0 0 = true := by
    intro G3 a F hFu S3 ha
    obtain ⟨f, rfl⟩ : ∃ f, F = f + 100 := ⟨F - 100, by omega⟩
    simp only [xy_148_49]
    have l3 : xm_get (xm_set1 lv2 3 (.int a)) 3 = some (.int a) := xl_gs1
    have l0 : xm_get (xm_set1 lv2 3 (.int a)) 0 = some (.ref 344) := xl_s1 (by decide) (Or.inl rfl) l0
    have l1 : xm_get (xm_set1 lv2 3 (.int a)) 1 = some (.int c) := xl_s1 (by decide) (Or.inl rfl) l1
    have l2 : xm_get (xm_set1 lv2 3 (.int a)) 2 = some (.int n) := xl_s1 (by decide) (Or.inl rfl) l2
    generalize xm_set1 lv2 3 (.int a) = lv3 at l0 l1 l2 l3 ⊢
    simp only [xy_148_50 l3, xy_148_51]
    rcases ha with rfl | ⟨rfl, n', p8, z0, z4⟩
    · rw [xi_0, cond_true]
      exact t58 G3 lv3 0 _ (by omega) S3 l0 l1 l2 l3 (Or.inl rfl)
    · rw [xi_1, cond_false]
      simp only [xy_148_52 l0, xy_148_53, xz_148_54, xz_148_55, xy_148_56, xk_gf S3.1.1 p8]
      rw [xz_148_57, xk_pf S3.1.1 rfl (by decide)]
      have S4 := S3.inc z0 z4
      generalize yU G3 344 8 (.int (n' + 1)) = G4 at S4 ⊢
      exact t58 G4 lv3 1 _ (by omega) S4 l0 l1 l2 l3 (Or.inr rfl)
  have t25 : c.toInt ≠ -1 → ∀ F : Nat, 150 ≤ F → xm_run (xm_exec (d + 6)) xm_c148 5 0 0 (some .boolean) Q F (xm_drop 25 xm_c148) lv2 [] G2 E 0 0 = true := by
    intro hc F hFu
    obtain ⟨f, rfl⟩ : ∃ f, F = f + 150 := ⟨F - 150, by omega⟩
    obtain ⟨n', p8', z0, z4⟩ := q2.resolve_left hc
    simp only [xy_148_25 l0, xy_148_26, xz_148_27, xz_148_28, xy_148_29, xk_gf S2.1.1 p8']
    rw [xz_148_30, xk_pf S2.1.1 rfl (by decide)]
    have S3 := S2.inc z0 z4
    have k8 : yR (yU G2 344 8 (.int (n' + 1))) 344 8 = some (.int (n' + 1)) := yU_hit p8'
    generalize yU G2 344 8 (.int (n' + 1)) = G3 at S3 k8 ⊢
    simp only [xy_148_31 l1, xz_148_32, xy_148_33, n61]
    by_cases c1 : c.toInt = 61
    · rw [decide_eq_true c1, cond_true]
      simp only [xz_148_48]
      exact t49 G3 0 _ (by omega) S3 (Or.inl rfl)
    rw [decide_eq_false c1, cond_false]
    obtain ⟨tt, p1, t0, t4⟩ := yM_int S3.1.1 (i := 1) (lo := 0) (hi := 400) (by decide) rfl
    simp only [xy_148_34 l0, xz_148_35, xy_148_36 l0, xz_148_37, xy_148_38, xk_gf S3.1.1 k8, xk_gf S3.1.1 p1]
    have i8 : (n' + 1).toInt = n'.toInt + 1 := by rw [yk_add] <;> rw [n1] <;> omega
    by_cases hlt : (n' + 1).toInt < tt.toInt
    · rw [decide_eq_true hlt, Bool.not_true, cond_false]
      obtain ⟨r0, cc, hcc⟩ := S3.tape (n := n' + 1) (by omega) (by omega)
      simp only [xy_148_39 l0, xz_148_40, xy_148_41 l0, xz_148_42, xz_148_43, xz_148_44, xy_148_45, xk_gf S3.1.1 r0, xk_gf S3.1.1 k8, hcc, n61]
      by_cases c2 : cc.toInt = 61
      · rw [decide_eq_true c2, Bool.not_true, cond_false]
        simp only [xz_148_46, xy_148_47]
        exact t49 G3 1 _ (by omega) S3 (Or.inr ⟨rfl, n' + 1, k8, by omega, by omega⟩)
      · rw [decide_eq_false c2, Bool.not_false, cond_true]
        simp only [xz_148_48]
        exact t49 G3 0 _ (by omega) S3 (Or.inl rfl)
    · rw [decide_eq_false hlt, Bool.not_false, cond_true]
      simp only [xz_148_48]
      exact t49 G3 0 _ (by omega) S3 (Or.inl rfl)
  simp only [xy_148_11 l1, xz_148_12, xy_148_13, n60]
  by_cases c0 : c.toInt = 60
  · rw [decide_eq_true c0, cond_true]
    exact t25 (by omega) _ (by omega)
  rw [decide_eq_false c0, cond_false]
  simp only [xy_148_14 l1, xz_148_15, xy_148_16, n61]
  by_cases c1 : c.toInt = 61
  · rw [decide_eq_true c1, cond_true]
    exact t25 (by omega) _ (by omega)
  rw [decide_eq_false c1, cond_false]
  simp only [xy_148_17 l1, xz_148_18, xy_148_19, n62]
  by_cases c2 : c.toInt = 62
  · rw [decide_eq_true c2, cond_true]
    exact t25 (by omega) _ (by omega)
  rw [decide_eq_false c2, cond_false]
  obtain ⟨v2, hM2⟩ := S2.obj
  simp only [xy_148_20 l0, xz_148_21, xy_148_22 l2, xy_148_23]
  rw [yO_call2 (a := 131) rfl hM2 (Nat.le_of_ble_eq_true rfl)]
  refine S2.fails (fun G3 S3 => ?_)
  simp only [xy_148_24_0, xy_148_24_1]
  exact hF.of S3
end PC
/-! fact -/
theorem yBin_op {op : Nat → Option Value} {k : Nat} {w : Int32} (hw : w ≠ 12 ∧ w ≠ 13) : yBin (yOp op k (.int w)) (k + 1) = yBin op k := by
  show yBin (yOp op k (.int w)) k + (if yOp op k (.int w) k = some (.int 12) ∨ yOp op k (.int w) k = some (.int 13) then 1 else 0) = _
  have e : yOp op k (.int w) k = some (.int w) := by unfold yOp; rw [if_pos rfl]
  rw [e, if_neg (by
    rintro (q | q)
    · cases q; exact hw.1 rfl
    · cases q; exact hw.2 rfl), yBin_congr (g := op) (fun i hi => by unfold yOp; rw [if_neg (by omega)])]
  rfl
theorem yBin_op1 {op : Nat → Option Value} {k : Nat} {w : Int32} (hw : w = 12 ∨ w = 13) : yBin (yOp op k (.int w)) (k + 1) = yBin op k + 1 := by
  show yBin (yOp op k (.int w)) k + (if yOp op k (.int w) k = some (.int 12) ∨ yOp op k (.int w) k = some (.int 13) then 1 else 0) = _
  have e : yOp op k (.int w) k = some (.int w) := by unfold yOp; rw [if_pos rfl]
  rw [e, if_pos (by
    rcases hw with rfl | rfl
    · exact Or.inl rfl
    · exact Or.inr rfl), yBin_congr (g := op) (fun i hi => by unfold yOp; rw [if_neg (by omega)])]
section PF
variable {G0 : xm_H} {t L m : Int32} {b d : Nat} {Q : xm_Q} {E : xm_R}
/-- how a fact ends -/
def yFq (Q : xm_Q) (E : xm_R) (G0 : xm_H) (t L m : Int32) (b : Nat) (D : Int) : Prop := ∀ (G' : xm_H) (L' O' m' dp' : Int32) (op' : Nat → Option Value), L'.toInt + 2 * (60 - m'.toInt) = L.toInt + 2 * (60 - m.toInt) - 3 → m.toInt + 3 ≤ m'.toInt → O'.toInt - dp'.toInt = D → dp'.toInt ≤ 10 → dp'.toInt = O'.toInt - yBin op' O'.toInt.toNat → yS G0 G' t L' O' m' dp' op' b (yBin op' O'.toInt.toNat + 1) → Q (some (.int 1)) G' E = true
theorem yS_factb {D : Int} (hD : D ≤ 380) (hA : L.toInt + 2 * (60 - m.toInt) ≤ 399) (hF : yFl Q E G0) (hQ : yFq Q E G0 t L m b D) {G : xm_H} {O dp : Int32} {op : Nat → Option Value} {lv : xm_L} (l0 : xm_get lv 0 = some (.ref 344)) (l1 : xm_get lv 1 = some (.int 1)) (hS : yS G0 G t L O m dp op b (yBin op O.toInt.toNat)) (hOD : O.toInt - dp.toInt = D) (hd : dp.toInt = O.toInt - yBin op O.toInt.toNat) (hd1 : dp.toInt ≤ 10) {g : Nat} (hrec : ∀ (G' : xm_H) (O' dp' : Int32) (op' : Nat → Option Value) (lv' : xm_L) (F : Nat), g ≤ F → xm_get lv' 0 = some (.ref 344) → xm_get lv' 1 = some (.int 1) → yS G0 G' t L O' m dp' op' b (yBin op' O'.toInt.toNat) → O'.toInt - dp'.toInt = D → dp'.toInt = O'.toInt - yBin op' O'.toInt.toNat → dp'.toInt ≤ 10 → dp'.toInt = dp.toInt + 1 → xm_run (xm_exec (d + 7)) xm_c149 3 0 0 (some .boolean) Q F (xm_drop 2 xm_c149) lv' [] G' E 0 0 = true) : xm_run (xm_exec (d + 7)) xm_c149 3 0 0 (some .boolean) Q (g + 200) (xm_drop 2 xm_c149) lv [] G E 0 0 = true := by
  have n1 : (1 : Int32).toInt = 1 := rfl
  have n91 : (91 : Int32).toInt = 91 := rfl
  have hb0 := yBin_le (f := op) (n := O.toInt.toNat)
  have hO := hS.Or
  -- the end: more is 0
  have t41 : ∀ (G1 : xm_H) (lv1 : xm_L) (F : Nat), 20 ≤ F → yS G0 G1 t L O m dp op b (yBin op O.toInt.toNat) → xm_get lv1 0 = some (.ref 344) → xm_get lv1 1 = some (.int 0) → xm_run (xm_exec (d + 7)) xm_c149 3 0 0 (some .boolean) Q F (xm_drop 41 xm_c149) lv1 [] G1 E 0 0 = true := by
    intro G1 lv1 F hFu S1 l0 l1
    obtain ⟨f, rfl⟩ : ∃ f, F = f + 20 := ⟨F - 20, by omega⟩
    simp only [xy_149_41]
    simp only [xy_149_2 l1, xy_149_3, xi_0, cond_true]
    obtain ⟨v1, hM1⟩ := S1.obj
    simp only [xy_149_42 l0, xy_149_43]
    rw [yO_call0 (a := 148) rfl hM1 (Nat.le_of_ble_eq_true rfl)]
    refine S1.compare hA ?_ (fun G2 L2 m2 e1 e2 S2 => ?_)
    · intro G3 a1 a2 a3
      simp only [xy_149_44_0, xy_149_44_1]
      exact hF G3 a1 a2 a3
    · simp only [xy_149_44_0, xy_149_44_1]
      exact hQ G2 L2 O m2 dp op e1 e2 hOD hd1 hd S2
  -- more is 1 again
  have again : ∀ (G1 : xm_H) (w : Int32) (lv1 : xm_L) (F : Nat), g + 5 ≤ F → (w = 11 ∨ w = 91) → dp.toInt < 10 → yS G0 G1 t L (O + 1) m (dp + 1) (yOp op O.toInt.toNat (.int w)) b (yBin op O.toInt.toNat) → xm_get lv1 0 = some (.ref 344) → xm_get lv1 1 = some (.int 1) → xm_run (xm_exec (d + 7)) xm_c149 3 0 0 (some .boolean) Q F (xm_drop 41 xm_c149) lv1 [] G1 E 0 0 = true := by
    intro G1 w lv1 F hFu hw hlt S1 l0 l1
    obtain ⟨f, rfl⟩ : ∃ f, F = f + 5 := ⟨F - 5, by omega⟩
    have iO : (O + 1).toInt = O.toInt + 1 := by rw [yk_add] <;> rw [n1] <;> omega
    have id1 : (dp + 1).toInt = dp.toInt + 1 := by rw [yk_add] <;> rw [n1] <;> omega
    have eb : yBin (yOp op O.toInt.toNat (.int w)) (O + 1).toInt.toNat = yBin op O.toInt.toNat := by
      rw [show (O + 1).toInt.toNat = O.toInt.toNat + 1 by omega]
      exact yBin_op (by rcases hw with rfl | rfl <;> decide)
    simp only [xy_149_41]
    rw [← eb] at S1
    exact hrec G1 (O + 1) (dp + 1) _ lv1 _ (by omega) l0 l1 S1 (by omega) (by rw [eb]; omega) (by omega) (by omega)
  simp only [xy_149_2 l1, xy_149_3, xz_149_4, xy_149_5, xi_1, cond_false]
  have l1' : xm_get (xm_set1 lv 1 (.int 0)) 1 = some (.int 0) := xl_gs1
  replace l0 : xm_get (xm_set1 lv 1 (.int 0)) 0 = some (.ref 344) := xl_s1 (by decide) (Or.inl rfl) l0
  generalize xm_set1 lv 1 (.int 0) = lv1 at l0 l1' ⊢
  obtain ⟨v0, hM0⟩ := hS.obj
  simp only [xy_149_6 l0, xy_149_7]
  rw [yO_call0 (a := 132) rfl hM0 (Nat.le_of_ble_eq_true rfl)]
  refine hS.see2 (fun G1 c S1 q1 q1' => ?_)
  simp only [xy_149_8]
  have l2 : xm_get (xm_set1 lv1 2 (.int c)) 2 = some (.int c) := xl_gs1
  replace l0 : xm_get (xm_set1 lv1 2 (.int c)) 0 = some (.ref 344) := xl_s1 (by decide) (Or.inl rfl) l0
  replace l1' : xm_get (xm_set1 lv1 2 (.int c)) 1 = some (.int 0) := xl_s1 (by decide) (Or.inl rfl) l1'
  generalize xm_set1 lv1 2 (.int c) = lv2 at l0 l1' l2 ⊢
  obtain ⟨v1, hM1⟩ := S1.obj
  simp only [xy_149_9 l0, xz_149_10, xy_149_11]
  rw [yO_call1 (a := 135) rfl hM1 (Nat.le_of_ble_eq_true rfl)]
  -- behind isWord
  have t12 : ∀ (G2 : xm_H) (r : Int32), yS G0 G2 t L O m dp op b (yBin op O.toInt.toNat) → (r = 0 ∨ r = 1) → (c.toInt = 91 → yNx G2) → ∀ F : Nat, g + 150 ≤ F → xm_run (xm_exec (d + 7)) xm_c149 3 0 0 (some .boolean) Q F (xm_drop 12 xm_c149) lv2 [.int r] G2 E 0 0 = true := by
    intro G2 r S2 hr hN F hFu
    obtain ⟨f, rfl⟩ : ∃ f, F = f + 150 := ⟨F - 150, by omega⟩
    obtain ⟨v2, hM2⟩ := S2.obj
    rcases hr with rfl | rfl
    · simp only [xy_149_12, xi_0, cond_true]
      simp only [xy_149_24 l2, xz_149_25, xy_149_26, n91]
      by_cases c1 : c.toInt = 91
      · rw [decide_eq_true c1, Bool.not_true, cond_false]
        simp only [xy_149_27 l0, xz_149_28, xy_149_29]
        rw [yO_call1 (a := 142) rfl hM2 (Nat.le_of_ble_eq_true rfl)]
        refine S2.opens (by omega) hd1 (by omega) (fun G3 S3 => ?_) (fun hlt G3 S3 x3 => ?_)
        · simp only [xy_149_30, xz_149_31, xy_149_32_0, xy_149_32_1, xi_0, Bool.not_true, cond_false]
          exact hF.of S3
        · simp only [xy_149_30, xi_1, Bool.not_false, cond_true]
          obtain ⟨n', p8, z0, z4⟩ := hN c1
          have p8' : yR G3 344 8 = some (.int n') := by rw [x3]; exact p8
          simp only [xy_149_33 l0, xy_149_34, xz_149_35, xz_149_36, xy_149_37, xk_gf S3.1.1 p8']
          rw [xz_149_38, xk_pf S3.1.1 rfl (by decide)]
          have S4 := S3.inc z0 z4
          generalize yU G3 344 8 (.int (n' + 1)) = G4 at S4 ⊢
          simp only [xz_149_39, xy_149_40]
          exact again G4 91 _ _ (by omega) (Or.inr rfl) hlt S4 (xl_s1 (by decide) (Or.inl rfl) l0) xl_gs1
      · rw [decide_eq_false c1, Bool.not_false, cond_true]
        exact t41 G2 lv2 _ (by omega) S2 l0 l1'
    · simp only [xy_149_12, xi_1, cond_false]
      simp only [xy_149_13 l0, xz_149_14, xy_149_15]
      rw [yO_call1 (a := 142) rfl hM2 (Nat.le_of_ble_eq_true rfl)]
      refine S2.opens (by omega) hd1 (by omega) (fun G3 S3 => ?_) (fun hlt G3 S3 x3 => ?_)
      · simp only [xy_149_16, xz_149_17, xy_149_18_0, xy_149_18_1, xi_0, Bool.not_true, cond_false]
        exact hF.of S3
      · simp only [xy_149_16, xi_1, Bool.not_false, cond_true]
        obtain ⟨v3, hM3⟩ := S3.obj
        simp only [xy_149_19 l0, xy_149_20]
        rw [yO_call0 (a := 136) rfl hM3 (Nat.le_of_ble_eq_true rfl)]
        refine S3.pass (fun G4 S4 => ?_)
        simp only [xz_149_21, xy_149_22, xy_149_23]
        exact again G4 11 _ _ (by omega) (Or.inl rfl) hlt S4 (xl_s1 (by decide) (Or.inl rfl) l0) xl_gs1
  by_cases c1 : c.toInt = 91
  · have hNb := (q1'.resolve_left (by omega)).resolve_left (by omega)
    refine S1.isw0 hNb (fun r hr => ?_)
    exact t12 G1 r S1 hr (fun _ => hNb.nx) _ (by omega)
  · refine S1.isw (fun G2 r S2 hr => ?_)
    exact t12 G2 r S2 hr (fun q => absurd q c1) _ (by omega)
theorem yS_factr {D : Int} (hD : D ≤ 380) (hA : L.toInt + 2 * (60 - m.toInt) ≤ 399) (hF : yFl Q E G0) (hQ : yFq Q E G0 t L m b D) : ∀ (n : Nat) (G : xm_H) (O dp : Int32) (op : Nat → Option Value) (lv : xm_L), xm_get lv 0 = some (.ref 344) → xm_get lv 1 = some (.int 1) → yS G0 G t L O m dp op b (yBin op O.toInt.toNat) → O.toInt - dp.toInt = D → dp.toInt = O.toInt - yBin op O.toInt.toNat → dp.toInt ≤ 10 → (10 - dp.toInt).toNat ≤ n → ∀ {F : Nat}, 200 * (n + 1) ≤ F → xm_run (xm_exec (d + 7)) xm_c149 3 0 0 (some .boolean) Q F (xm_drop 2 xm_c149) lv [] G E 0 0 = true := by
  intro n
  induction n with
  | zero =>
    intro G O dp op lv l0 l1 hS hOD hd hd1 hn F hFu
    obtain ⟨g, rfl⟩ : ∃ g, F = g + 200 := ⟨F - 200, by omega⟩
    exact yS_factb hD hA hF hQ l0 l1 hS hOD hd hd1 (fun G' O' dp' op' lv' F' hg l0' l1' S' e1 e2 e3 e4 => by omega)
  | succ n ih =>
    intro G O dp op lv l0 l1 hS hOD hd hd1 hn F hFu
    obtain ⟨g, rfl⟩ : ∃ g, F = g + 200 := ⟨F - 200, by omega⟩
    exact yS_factb hD hA hF hQ l0 l1 hS hOD hd hd1 (fun G' O' dp' op' lv' F' hg l0' l1' S' e1 e2 e3 e4 => ih G' O' dp' op' lv' l0' l1' S' e1 e2 e3 (by omega) (by omega))
theorem yS.fact {G : xm_H} {O dp : Int32} {op : Nat → Option Value} (hS : yS G0 G t L O m dp op b (yBin op O.toInt.toNat)) (hD : O.toInt - dp.toInt ≤ 380) (hA : L.toInt + 2 * (60 - m.toInt) ≤ 399) (hd : dp.toInt = O.toInt - yBin op O.toInt.toNat) (hd1 : dp.toInt ≤ 10) (hF : yFl Q E G0) (hQ : yFq Q E G0 t L m b (O.toInt - dp.toInt)) : xm_exec (d + 8) 149 [.ref 344] G E Q = true := by
  refine yx_exec (m := 149) rfl rfl (Nat.le_of_ble_eq_true rfl) ?_
  obtain ⟨g, hg⟩ := xn_f
  rw [hg]
  have l0 : xm_get (lv_args 0 [Value.ref 344]) 0 = some (.ref 344) := rfl
  show xm_run (xm_exec (d + 7)) xm_c149 3 0 0 (some .boolean) Q (g + 40000) (xm_drop 0 xm_c149) (lv_args 0 [.ref 344]) [] G E 0 0 = true
  simp only [xz_149_0, xy_149_1]
  have hb0 := yBin_le (f := op) (n := O.toInt.toNat)
  have hO := hS.Or
  exact yS_factr hD hA hF hQ 10 G O dp op _ (xl_s1 (by decide) (Or.inl rfl) l0) xl_gs1 hS rfl hd hd1 (by omega) (by omega)
end PF
