/-! clauseHere of a rule, readsAll of a rule, rule -/
def yZ (G0 G : xm_H) : Prop := ys_HT G ∧ yi_Inv yJ G ∧ ys_Fr yMR G0 G
theorem yI_put {G : xm_H} (a1 : ys_HT G) (hI : yi_Inv yJ G) {i : Nat} {w : Value} {T : yT} (hi : i < 36) (ht : yr_ty yq93 i = some T) (hw : ys_T T w) : ys_HT (yU G 344 i w) ∧ yi_Inv yJ (yU G 344 i w) ∧ ys_Fr [(93, i)] G (yU G 344 i w) := by
  obtain ⟨a2, a3, -, a4⟩ := hI
  obtain ⟨x1, x2⟩ := yU_HT (md := [(93, i)]) a1 (j := 344) (i := i) (w := w) ym_344 yq_93 (by rw [yq93_2]; exact hi) ht hw (by
    show ((Nat.beq 93 93 && (Nat.beq i i || Nat.beq i 100000)) || false) = true
    rw [Nat.beq_refl i]
    rfl)
  have u : ∀ {j i' : Nat}, j ≠ 344 → yR (yU G 344 i w) j i' = yR G j i' := fun hj => yU_miss (Or.inl hj)
  generalize yU G 344 i w = G1 at x1 x2 u ⊢
  exact ⟨x1, ⟨a2.fr x1 x2 rfl rfl, a3.fr x2 (fun i => rfl), x1, yMI_congr (fun i => u (by decide)) (fun i => u (by decide)) (fun i => u (by decide)) a4⟩, x2⟩
theorem yZ.put {G0 G : xm_H} (h : yZ G0 G) {i : Nat} {w : Value} {T : yT} (hi : i < 36) (ht : yr_ty yq93 i = some T) (hw : ys_T T w) (hm : ym_mod yMR 93 i = true) : yZ G0 (yU G 344 i w) := by
  obtain ⟨x1, x2, -⟩ := yI_put h.1 h.2.1 hi ht hw
  exact ⟨x1, x2, h.2.2.trans (yU_HT (md := yMR) h.1 (j := 344) (i := i) (w := w) ym_344 yq_93 (by rw [yq93_2]; exact hi) ht hw hm).2⟩
theorem yK.z {G0 G : xm_H} {t L m n : Int32} (h : yK G0 G t L m n) : yZ G0 G := ⟨h.1.1, ⟨h.1.2.2.1, h.1.2.2.2.1, h.1.1, yMI_weak h.1.2.2.2.2⟩, h.1.2.1⟩
theorem yS.z {G0 G G1 : xm_H} {t L O m dp : Int32} {op : Nat → Option Value} {b h : Nat} (hf : ys_Fr yMR G0 G) (hS : yS G G1 t L O m dp op b h) : yZ G0 G1 := ⟨hS.inv.1, hS.inv.2.1, hf.trans (hS.inv.2.2.mds yMD_MR)⟩
section RK
variable {G0 G G1 : xm_H} {t L m n O dp : Int32} {op : Nat → Option Value} {b h d : Nat} {Q : xm_Q} {E : xm_R}
theorem yK.mv (hK : yK G0 G t L m n) (hS : yS G G1 t L O m dp op b h) : yK G0 G1 t L m n := by
  obtain ⟨⟨a1, a2, a3, a4, a5⟩, ⟨c1, c2⟩, ⟨e1, e2⟩, f1, f2⟩ := hK
  obtain ⟨ka, kb, kc⟩ := hS.keep a1
  exact ⟨⟨hS.1.1, a2.trans (hS.1.2.1.1.mds yMD_MR), hS.1.2.2.1, hS.1.2.2.2.1, hS.1.2.2.2.2⟩, ⟨hS.2.1.1, hS.2.1.2.1⟩, ⟨hS.2.2.1.1, by rw [kb]; exact e2⟩, f1, f2⟩
/-- a field beside those of the state is written -/
theorem yK.put (hK : yK G0 G t L m n) {i : Nat} {w : Value} {T : yT} (hi : i < 36) (h11 : i ≠ 11) (h12 : i ≠ 12) (ht : yr_ty yq93 i = some T) (hw : ys_T T w) (hm : ym_mod yMR 93 i = true) : yK G0 (yU G 344 i w) t L m n := by
  have hz := hK.z.put hi ht hw hm
  obtain ⟨⟨a1, a2, a3, a4, a5⟩, ⟨c1, c2⟩, ⟨e1, e2⟩, f1, f2⟩ := hK
  have u : ∀ j i' : Nat, j ≠ 344 ∨ i' ≠ i → yR (yU G 344 i w) j i' = yR G j i' := fun j i' hj => yU_miss hj
  generalize yU G 344 i w = G1 at hz u ⊢
  refine ⟨⟨hz.1, hz.2.2, hz.2.1.1, hz.2.1.2.1, yMI_congr (fun i => u _ _ (Or.inl (by decide))) (fun i => u _ _ (Or.inl (by decide))) (fun i => u _ _ (Or.inl (by decide))) a5⟩, ⟨?_, ?_⟩, ⟨?_, ?_⟩, f1, f2⟩
  · rw [u _ _ (Or.inr (fun q => h11 q.symm))]; exact c1
  · rw [u _ _ (Or.inr (fun q => h12 q.symm))]; exact c2
  · rw [u _ _ (Or.inl (by decide))]; exact e1
  · rw [u _ _ (Or.inl (by decide))]; exact e2
theorem yK.clause (hK : yK G0 G t L m n) {ln : Int32} (hl : yR G 344 14 = some (.int ln)) (hl0 : n.toInt ≤ ln.toInt) (hl1 : ln.toInt ≤ 12) (hF : yFL Q E G0) (hQ : ln.toInt < 12 → ∀ (G' : xm_H) (L' m' : Int32), yK G0 G' t L' m' (n + 1) → yR G' 344 14 = some (.int (ln + 1)) → Q (some (.int 1)) G' E = true) : xm_exec (d + 11) 166 [.ref 344] G E Q = true := by
  have hnr := hK.nr
  obtain ⟨O, dp, op, S0⟩ := hK.s
  have fr0 := hK.1.2.1
  have f1 := hK.2.2.2.1
  have n1 : (1 : Int32).toInt = 1 := rfl
  have n6 : (6 : Int32).toInt = 6 := rfl
  have n12 : (12 : Int32).toInt = 12 := rfl
  refine yx_exec (m := 166) rfl rfl (Nat.le_of_ble_eq_true rfl) ?_
  obtain ⟨g, hg⟩ := xn_f
  rw [hg]
  have l0 : xm_get (lv_args 0 [Value.ref 344]) 0 = some (.ref 344) := rfl
  show xm_run (xm_exec (d + 10)) xm_c166 3 0 0 (some .boolean) Q (g + 40000) (xm_drop 0 xm_c166) (lv_args 0 [.ref 344]) [] G E 0 0 = true
  generalize lv_args 0 [Value.ref 344] = lv0 at l0 ⊢
  obtain ⟨v0, hM0⟩ := S0.obj
  simp only [xy_166_0 l0, xy_166_1]
  rw [yO_call0 (a := 132) rfl hM0 (Nat.le_of_ble_eq_true rfl)]
  refine S0.see (fun G1 r S1 _ => ?_)
  obtain ⟨nx, p8, -⟩ := S1.nx
  simp only [xy_166_2, xy_166_3 l0, xz_166_4, xy_166_5, xk_gf S1.1.1 p8]
  have l1 : xm_get (xm_set1 lv0 1 (.int nx)) 1 = some (.int nx) := xl_gs1
  replace l0 : xm_get (xm_set1 lv0 1 (.int nx)) 0 = some (.ref 344) := xl_s1 (by decide) (Or.inl rfl) l0
  generalize xm_set1 lv0 1 (.int nx) = lv1 at l0 l1 ⊢
  simp only [xy_166_6 l0, xz_166_7, xz_166_8, xy_166_9, xk_gf S1.1.1 S1.2.1.1, n6]
  rw [decide_eq_false (show ¬ t.toInt = 6 by omega), Bool.not_false, cond_true]
  simp only [xz_166_12, xy_166_13]
  have l2 : xm_get (xm_set1 lv1 2 (.int 0)) 2 = some (.int 0) := xl_gs1
  replace l0 : xm_get (xm_set1 lv1 2 (.int 0)) 0 = some (.ref 344) := xl_s1 (by decide) (Or.inl rfl) l0
  replace l1 : xm_get (xm_set1 lv1 2 (.int 0)) 1 = some (.int nx) := xl_s1 (by decide) (Or.inl rfl) l1
  generalize xm_set1 lv1 2 (.int 0) = lv2 at l0 l1 l2 ⊢
  simp only [xy_166_14 l2, xy_166_15, xi_0, cond_true]
  obtain ⟨v1, hM1⟩ := S1.obj
  simp only [xy_166_20 l0, xz_166_21, xy_166_22]
  rw [yO_call1 (a := 135) rfl hM1 (Nat.le_of_ble_eq_true rfl)]
  refine S1.isw (fun G2 r S2 hr => ?_)
  obtain ⟨v2, hM2⟩ := S2.obj
  rcases hr with rfl | rfl
  · simp only [xy_166_23, xy_166_24 l0, xz_166_25, xy_166_26 l1, xy_166_27, xi_0, Bool.not_true, cond_false]
    rw [yO_call2 (a := 131) rfl hM2 (Nat.le_of_ble_eq_true rfl)]
    refine S2.fails (fun G3 S3 => ?_)
    simp only [xy_166_28_0, xy_166_28_1]
    have z := S3.z fr0
    exact hF G3 z.1 z.2.1 z.2.2
  simp only [xy_166_23, xi_1, Bool.not_false, cond_true]
  have hl2 := (S2.keep hK.1.1).2.2 _ hl
  simp only [xy_166_29 l0, xz_166_30, xy_166_31 l2, xy_166_32, xk_gf S2.1.1 hl2, xi_0, cond_true]
  simp only [xz_166_35, xy_166_36, n12]
  by_cases c12 : ln.toInt = 12
  · rw [decide_eq_true c12, Bool.not_true, cond_false]
    simp only [xy_166_37 l0, xz_166_38, xy_166_39 l1, xy_166_40]
    rw [yO_call2 (a := 131) rfl hM2 (Nat.le_of_ble_eq_true rfl)]
    refine S2.fails (fun G3 S3 => ?_)
    simp only [xy_166_41_0, xy_166_41_1]
    have z := S3.z fr0
    exact hF G3 z.1 z.2.1 z.2.2
  rw [decide_eq_false c12, Bool.not_false, cond_true]
  simp only [xy_166_42 l0, xy_166_43, xz_166_44, xz_166_45, xy_166_46, xk_gf S2.1.1 hl2]
  rw [xz_166_47, xk_pf S2.1.1 rfl (by decide)]
  have K3 := (hK.mv S2).put (i := 14) (w := .int (ln + 1)) (T := yr_top) (by decide) (by decide) (by decide) rfl ⟨rfl, ys_b32 _⟩ rfl
  have k14 : yR (yU G2 344 14 (.int (ln + 1))) 344 14 = some (.int (ln + 1)) := yU_hit hl2
  generalize yU G2 344 14 (.int (ln + 1)) = G3 at K3 k14 ⊢
  simp only [xy_166_48 l2, xy_166_49, xi_0, cond_true]
  obtain ⟨O3, dp3, op3, S3⟩ := K3.s
  obtain ⟨v3, hM3⟩ := S3.obj
  simp only [xy_166_54 l0, xy_166_55]
  rw [yO_call0 (a := 153) rfl hM3 (Nat.le_of_ble_eq_true rfl)]
  refine K3.tell (by omega) k14 ?_ (fun G4 L4 m4 K4 k4 => ?_)
  · intro G4 b1 b2 b3
    simp only [xy_166_56_0, xy_166_56_1]
    exact hF G4 b1 b2 b3
  · simp only [xy_166_56_0, xy_166_56_1]
    exact hQ (by omega) G4 L4 m4 K4 k4
/-- readsAll: its end -/
def yRq (Q : xm_Q) (E : xm_R) (G0 : xm_H) : Prop := ∀ (G' : xm_H) (r : Int32), yZ G0 G' → (r = 0 ∨ r = 1) → Q (some (.int r)) G' E = true
theorem yZ_end (hQ : yRq Q E G0) {G : xm_H} {lv : xm_L} {call : xm_C} (l0 : xm_get lv 0 = some (.ref 344)) (hZ : yZ G0 G) {F : Nat} (hFu : 30 ≤ F) : xm_run call xm_c167 2 0 0 (some .boolean) Q F (xm_drop 49 xm_c167) lv [] G E 0 0 = true := by
  obtain ⟨f, rfl⟩ : ∃ f, F = f + 30 := ⟨F - 30, by omega⟩
  have z0 : (0 : Int32).toInt = 0 := rfl
  simp only [xy_167_49 l0, xz_167_50]
  rw [xz_167_51, xk_pf hZ.1 rfl (by decide)]
  have Z1 := hZ.put (i := 1) (w := .int 0) (T := (0, 0, 400)) (by decide) rfl ⟨rfl, by decide, by decide⟩ rfl
  generalize yU G 344 1 (.int 0) = G1 at Z1 ⊢
  obtain ⟨x, p9, -⟩ := yM_int Z1.1 (i := 9) (lo := -2147483648) (hi := 2147483647) (by decide) rfl
  simp only [xy_167_52 l0, xz_167_53, xy_167_54, xk_gf Z1.1 p9]
  by_cases hx : x.toInt = 0
  · rw [decide_eq_true hx, Bool.not_true, cond_false]
    simp only [xz_167_55, xy_167_56]
    simp only [xy_167_58_0, xy_167_58_1]
    exact hQ G1 1 Z1 (Or.inr rfl)
  · rw [decide_eq_false hx, Bool.not_false, cond_true]
    simp only [xz_167_57, xy_167_58_0, xy_167_58_1]
    exact hQ G1 0 Z1 (Or.inl rfl)
theorem yK_rl (hQ : yRq Q E G0) : ∀ (k : Nat) (G : xm_H) (L m n ln : Int32) (lv : xm_L), yK G0 G t L m n → yR G 344 14 = some (.int ln) → n.toInt ≤ ln.toInt → ln.toInt ≤ 12 → (12 - ln.toInt).toNat ≤ k → xm_get lv 0 = some (.ref 344) → xm_get lv 1 = some (.int 1) → ∀ {F : Nat}, 100 * (k + 1) + 100 ≤ F → xm_run (xm_exec (d + 11)) xm_c167 2 0 0 (some .boolean) Q F (xm_drop 21 xm_c167) lv [] G E 0 0 = true := by
  have n1 : (1 : Int32).toInt = 1 := rfl
  have n59 : (59 : Int32).toInt = 59 := rfl
  have mm : (-1 : Int32).toInt = -1 := rfl
  intro k
  induction k with
  | zero =>
    intro G L m n ln lv hK hl hl0 hl1 hk l0 l1 F hFu
    obtain ⟨f, rfl⟩ : ∃ f, F = f + 200 := ⟨F - 200, by omega⟩
    obtain ⟨O, dp, op, S0⟩ := hK.s
    obtain ⟨v0, hM0⟩ := S0.obj
    simp only [xy_167_21 l1, xy_167_22, xy_167_23 l0, xy_167_24, xi_1, cond_false]
    rw [yO_call0 (a := 132) rfl hM0 (Nat.le_of_ble_eq_true rfl)]
    refine S0.see (fun G1 c S1 q1 => ?_)
    have K1 := hK.mv S1
    simp only [xz_167_25, xy_167_26, n59]
    by_cases c1 : c.toInt = 59
    · rw [decide_eq_true c1, Bool.not_true, cond_false]
      obtain ⟨nx, p8, z0, z4⟩ := q1.resolve_left (by omega)
      simp only [xy_167_27 l0, xy_167_28, xz_167_29, xz_167_30, xy_167_31, xk_gf S1.1.1 p8]
      rw [xz_167_32, xk_pf S1.1.1 rfl (by decide)]
      have S2 := S1.inc z0 z4
      generalize yU G1 344 8 (.int (nx + 1)) = G2 at S2 ⊢
      have K2 := hK.mv S2
      have hl2 := (S2.keep hK.1.1).2.2 _ hl
      obtain ⟨v2, hM2⟩ := S2.obj
      simp only [xy_167_33 l0, xy_167_34]
      rw [yO_call0 (a := 166) rfl hM2 (Nat.le_of_ble_eq_true rfl)]
      refine K2.clause hl2 hl0 hl1 ?_ (fun q => by omega)
      intro G3 b1 b2 b3
      simp only [xy_167_35, xy_167_36]
      have l1' : xm_get (xm_set1 lv 1 (.int 0)) 1 = some (.int 0) := xl_gs1
      replace l0 : xm_get (xm_set1 lv 1 (.int 0)) 0 = some (.ref 344) := xl_s1 (by decide) (Or.inl rfl) l0
      generalize xm_set1 lv 1 (.int 0) = lv3 at l0 l1' ⊢
      replace l1 := l1'
      simp only [xy_167_21 l1, xy_167_22, xi_0, cond_true]
      simp only [xy_167_37 l1, xy_167_38, xi_0, cond_true]
      exact yZ_end hQ l0 ⟨b1, b2, b3⟩ (by omega)
    · rw [decide_eq_false c1, Bool.not_false, cond_true]
      obtain ⟨v1, hM1⟩ := S1.obj
      simp only [xy_167_37 l1, xy_167_38, xy_167_39 l0, xy_167_40, xi_1, cond_false]
      rw [yO_call0 (a := 132) rfl hM1 (Nat.le_of_ble_eq_true rfl)]
      refine S1.see (fun G2 c2 S2 q2 => ?_)
      simp only [xz_167_41, xy_167_42, mm]
      by_cases c3 : c2.toInt = -1
      · rw [decide_eq_true c3, cond_true]
        exact yZ_end hQ l0 (S2.z hK.1.2.1) (by omega)
      · rw [decide_eq_false c3, cond_false]
        obtain ⟨v2, hM2⟩ := S2.obj
        obtain ⟨nx, p8, -⟩ := S2.nx
        simp only [xy_167_43 l0, xz_167_44, xy_167_45 l0, xz_167_46, xy_167_47, xk_gf S2.1.1 p8]
        rw [yO_call2 (a := 131) rfl hM2 (Nat.le_of_ble_eq_true rfl)]
        refine S2.fails (fun G3 S3 => ?_)
        simp only [xy_167_48]
        exact yZ_end hQ l0 (S3.z hK.1.2.1) (by omega)
  | succ k ih =>
    intro G L m n ln lv hK hl hl0 hl1 hk l0 l1 F hFu
    obtain ⟨f, rfl⟩ : ∃ f, F = f + 200 := ⟨F - 200, by omega⟩
    obtain ⟨O, dp, op, S0⟩ := hK.s
    obtain ⟨v0, hM0⟩ := S0.obj
    simp only [xy_167_21 l1, xy_167_22, xy_167_23 l0, xy_167_24, xi_1, cond_false]
    rw [yO_call0 (a := 132) rfl hM0 (Nat.le_of_ble_eq_true rfl)]
    refine S0.see (fun G1 c S1 q1 => ?_)
    have K1 := hK.mv S1
    simp only [xz_167_25, xy_167_26, n59]
    by_cases c1 : c.toInt = 59
    · rw [decide_eq_true c1, Bool.not_true, cond_false]
      obtain ⟨nx, p8, z0, z4⟩ := q1.resolve_left (by omega)
      simp only [xy_167_27 l0, xy_167_28, xz_167_29, xz_167_30, xy_167_31, xk_gf S1.1.1 p8]
      rw [xz_167_32, xk_pf S1.1.1 rfl (by decide)]
      have S2 := S1.inc z0 z4
      generalize yU G1 344 8 (.int (nx + 1)) = G2 at S2 ⊢
      have K2 := hK.mv S2
      have hl2 := (S2.keep hK.1.1).2.2 _ hl
      obtain ⟨v2, hM2⟩ := S2.obj
      simp only [xy_167_33 l0, xy_167_34]
      rw [yO_call0 (a := 166) rfl hM2 (Nat.le_of_ble_eq_true rfl)]
      have hnr := hK.nr
      refine K2.clause hl2 hl0 hl1 ?_ (fun q G3 L3 m3 K3 hl3 => ?_)
      · intro G3 b1 b2 b3
        simp only [xy_167_35, xy_167_36]
        have l1' : xm_get (xm_set1 lv 1 (.int 0)) 1 = some (.int 0) := xl_gs1
        replace l0 : xm_get (xm_set1 lv 1 (.int 0)) 0 = some (.ref 344) := xl_s1 (by decide) (Or.inl rfl) l0
        generalize xm_set1 lv 1 (.int 0) = lv3 at l0 l1' ⊢
        replace l1 := l1'
        simp only [xy_167_21 l1, xy_167_22, xi_0, cond_true]
        simp only [xy_167_37 l1, xy_167_38, xi_0, cond_true]
        exact yZ_end hQ l0 ⟨b1, b2, b3⟩ (by omega)
      · simp only [xy_167_35, xy_167_36]
        have il : (ln + 1).toInt = ln.toInt + 1 := by rw [yk_add] <;> rw [n1] <;> omega
        have inn : (n + 1).toInt = n.toInt + 1 := by rw [yk_add] <;> rw [n1] <;> omega
        exact ih G3 L3 m3 (n + 1) (ln + 1) _ K3 hl3 (by omega) (by omega) (by omega) (xl_s1 (by decide) (Or.inl rfl) l0) xl_gs1 (by omega)
    · rw [decide_eq_false c1, Bool.not_false, cond_true]
      obtain ⟨v1, hM1⟩ := S1.obj
      simp only [xy_167_37 l1, xy_167_38, xy_167_39 l0, xy_167_40, xi_1, cond_false]
      rw [yO_call0 (a := 132) rfl hM1 (Nat.le_of_ble_eq_true rfl)]
      refine S1.see (fun G2 c2 S2 q2 => ?_)
      simp only [xz_167_41, xy_167_42, mm]
      by_cases c3 : c2.toInt = -1
      · rw [decide_eq_true c3, cond_true]
        exact yZ_end hQ l0 (S2.z hK.1.2.1) (by omega)
      · rw [decide_eq_false c3, cond_false]
        obtain ⟨v2, hM2⟩ := S2.obj
        obtain ⟨nx, p8, -⟩ := S2.nx
        simp only [xy_167_43 l0, xz_167_44, xy_167_45 l0, xz_167_46, xy_167_47, xk_gf S2.1.1 p8]
        rw [yO_call2 (a := 131) rfl hM2 (Nat.le_of_ble_eq_true rfl)]
        refine S2.fails (fun G3 S3 => ?_)
        simp only [xy_167_48]
        exact yZ_end hQ l0 (S3.z hK.1.2.1) (by omega)
/-- from the first clause on -/
theorem yK_r18 (hQ : yRq Q E G0) {lv : xm_L} (l0 : xm_get lv 0 = some (.ref 344)) {G : xm_H} (hK : yK G0 G t L m n) (hl : yR G 344 14 = some (.int 0)) (hn : n.toInt = 0) {F : Nat} (hFu : 2000 ≤ F) : xm_run (xm_exec (d + 11)) xm_c167 2 0 0 (some .boolean) Q F (xm_drop 18 xm_c167) lv [] G E 0 0 = true := by
  obtain ⟨f, rfl⟩ : ∃ f, F = f + 2000 := ⟨F - 2000, by omega⟩
  have n1 : (1 : Int32).toInt = 1 := rfl
  have z0 : (0 : Int32).toInt = 0 := rfl
  obtain ⟨O, dp, op, S0⟩ := hK.s
  obtain ⟨v0, hM0⟩ := S0.obj
  simp only [xy_167_18 l0, xy_167_19]
  rw [yO_call0 (a := 166) rfl hM0 (Nat.le_of_ble_eq_true rfl)]
  refine hK.clause hl (by omega) (by decide) ?_ (fun q G3 L3 m3 K3 hl3 => ?_)
  · intro G3 b1 b2 b3
    simp only [xy_167_20]
    have l1 : xm_get (xm_set1 lv 1 (.int 0)) 1 = some (.int 0) := xl_gs1
    replace l0 : xm_get (xm_set1 lv 1 (.int 0)) 0 = some (.ref 344) := xl_s1 (by decide) (Or.inl rfl) l0
    generalize xm_set1 lv 1 (.int 0) = lv3 at l0 l1 ⊢
    simp only [xy_167_21 l1, xy_167_22, xi_0, cond_true]
    simp only [xy_167_37 l1, xy_167_38, xi_0, cond_true]
    exact yZ_end hQ l0 ⟨b1, b2, b3⟩ (by omega)
  · simp only [xy_167_20]
    have inn : (n + 1).toInt = n.toInt + 1 := by rw [yk_add] <;> rw [n1] <;> omega
    exact yK_rl hQ 12 G3 L3 m3 (n + 1) (0 + 1) _ K3 hl3 (by rw [inn, hn]; decide) (by decide) (by decide) (xl_s1 (by decide) (Or.inl rfl) l0) xl_gs1 (by omega)
theorem yMI_start {t : Int32} {n : Int32} {G : xm_H} (hn : yR G 349 t.toInt.toNat = some (.int n)) (ht : 0 ≤ t.toInt) (h0 : n.toInt = 0) (h : yMI (-1) 0 G) : yMI t.toInt 0 G := by
  intro t' ht' n' hn' c hc
  by_cases e : t' = t.toInt.toNat
  · subst e
    rw [hn] at hn'
    cases hn'
    omega
  · obtain ⟨b0, e0, b1, e1, p1, p2, p3, p4, p5, p6, -⟩ := h t' ht' n' hn' c hc
    exact ⟨b0, e0, b1, e1, p1, p2, p3, p4, p5, p6, fun q => by omega⟩
theorem yK_all (hQ : yRq Q E G0) {G : xm_H} (hZ : yZ G0 G) (ht : 0 ≤ t.toInt ∧ t.toInt ≤ 5) (h11 : yR G 344 11 = some (.int t)) (hn : yR G 349 t.toInt.toNat = some (.int n)) (hn0 : n.toInt = 0) : xm_exec (d + 12) 167 [.ref 344] G E Q = true := by
  refine yx_exec (m := 167) rfl rfl (Nat.le_of_ble_eq_true rfl) ?_
  obtain ⟨g, hg⟩ := xn_f
  rw [hg]
  have l0 : xm_get (lv_args 0 [Value.ref 344]) 0 = some (.ref 344) := rfl
  have z0 : (0 : Int32).toInt = 0 := rfl
  show xm_run (xm_exec (d + 11)) xm_c167 2 0 0 (some .boolean) Q (g + 40000) (xm_drop 0 xm_c167) (lv_args 0 [.ref 344]) [] G E 0 0 = true
  generalize lv_args 0 [Value.ref 344] = lv at l0 ⊢
  obtain ⟨a1, ⟨a2, a3, -, a4⟩, a5⟩ := hZ
  have r4 : yR G 344 4 = some (.ref 347) := yM_ref a1 (r := 96) (by decide) rfl (by decide)
  simp only [xy_167_0 l0, xz_167_1, xy_167_2 l0, xz_167_3, xz_167_4, xk_gf a1 r4, xk_gf a1 h11]
  rw [xz_167_5, xk_ias a1 (j := 347) (r := 96) rfl yq_96 (by decide) ht.1 (by show _ < ((7 : Nat) : Int); omega)]
  obtain ⟨x1, x2⟩ := yU_HT (md := yMR) a1 (j := 347) (i := t.toInt.toNat) (w := .int 0) (r := 96) rfl yq_96 (show _ < 7 by omega) yv_one ⟨rfl, by decide, by decide⟩ (yf_mod (by show _ ∈ ([(93, 1), (93, 8), (93, 9), (93, 10), (93, 12), (93, 13), (93, 14), (93, 16), (95, 100000), (96, 100000), (97, 100000), (98, 100000), (100, 100000)] : List (Nat × Nat)); simp))
  have hit : yR (yU G 347 t.toInt.toNat (.int 0)) 347 t.toInt.toNat = some (.int 0) := by
    obtain ⟨z, z1, -⟩ := yA_int a1 (j := 347) (r := 96) (i := t.toInt.toNat) rfl yq_96 (by omega)
    exact yU_hit z1
  have u : ∀ j i' : Nat, j ≠ 347 → yR (yU G 347 t.toInt.toNat (.int 0)) j i' = yR G j i' := fun j i' hj => yU_miss (Or.inl hj)
  generalize yU G 347 t.toInt.toNat (.int 0) = G1 at x1 x2 hit u ⊢
  have hn1 : yR G1 349 t.toInt.toNat = some (.int n) := by rw [u _ _ (by decide)]; exact hn
  have mi : yMI t.toInt 0 G1 := yMI_start hn1 ht.1 hn0 (yMI_congr (fun i => u _ _ (by decide)) (fun i => u _ _ (by decide)) (fun i => u _ _ (by decide)) a4)
  obtain ⟨m0, hm0, hm1, hm2⟩ := yM_int x1 (i := 12) (lo := 0) (hi := 60) (by decide) rfl
  -- fields 14, 8, 9
  have K1 : yK G0 G1 t 0 m0 n ∨ True := Or.inr trivial
  simp only [xy_167_6 l0, xz_167_7]
  rw [xz_167_8, xk_pf x1 rfl (by decide)]
  have stp : ∀ (H : xm_H) (i : Nat) (T : yT), i < 36 → i ≠ 11 → yr_ty yq93 i = some T → ys_T T (.int 0) → ym_mod yMR 93 i = true → (yZ G0 H ∧ yMI t.toInt 0 H ∧ yR H 344 11 = some (.int t) ∧ yR H 347 t.toInt.toNat = some (.int 0) ∧ yR H 349 t.toInt.toNat = some (.int n)) → (yZ G0 (yU H 344 i (.int 0)) ∧ yMI t.toInt 0 (yU H 344 i (.int 0)) ∧ yR (yU H 344 i (.int 0)) 344 11 = some (.int t) ∧ yR (yU H 344 i (.int 0)) 347 t.toInt.toNat = some (.int 0) ∧ yR (yU H 344 i (.int 0)) 349 t.toInt.toNat = some (.int n)) := by
    intro H i T hi h11 hT hw hm ⟨q1, q2, q3, q4, q5⟩
    have u : ∀ j i' : Nat, j ≠ 344 ∨ i' ≠ i → yR (yU H 344 i (.int 0)) j i' = yR H j i' := fun j i' hj => yU_miss hj
    refine ⟨q1.put hi hT hw hm, yMI_congr (fun i => u _ _ (Or.inl (by decide))) (fun i => u _ _ (Or.inl (by decide))) (fun i => u _ _ (Or.inl (by decide))) q2, ?_, ?_, ?_⟩
    · rw [u _ _ (Or.inr (fun q => h11 q.symm))]; exact q3
    · rw [u _ _ (Or.inl (by decide))]; exact q4
    · rw [u _ _ (Or.inl (by decide))]; exact q5
  have P1 : yZ G0 G1 ∧ yMI t.toInt 0 G1 ∧ yR G1 344 11 = some (.int t) ∧ yR G1 347 t.toInt.toNat = some (.int 0) ∧ yR G1 349 t.toInt.toNat = some (.int n) := ⟨⟨x1, ⟨a2.fr x1 x2 rfl rfl, a3.fr x2 (fun i => rfl), x1, yMI_weak mi⟩, a5.trans x2⟩, mi, by rw [u _ _ (by decide)]; exact h11, hit, hn1⟩
  have P2 := stp G1 14 yr_top (by decide) (by decide) rfl ⟨rfl, ys_b32 _⟩ rfl P1
  have k14 : yR (yU G1 344 14 (.int 0)) 344 14 = some (.int 0) := by
    obtain ⟨z, z1, -⟩ := yM_int x1 (i := 14) (lo := -2147483648) (hi := 2147483647) (by decide) rfl
    exact yU_hit z1
  generalize yU G1 344 14 (.int 0) = G2 at P2 k14 ⊢
  simp only [xy_167_9 l0, xz_167_10]
  rw [xz_167_11, xk_pf P2.1.1 rfl (by decide)]
  have P3 := stp G2 8 (0, 0, 400) (by decide) (by decide) rfl ⟨rfl, by decide, by decide⟩ rfl P2
  replace k14 : yR (yU G2 344 8 (.int 0)) 344 14 = some (.int 0) := by rw [yU_miss (Or.inr (by decide))]; exact k14
  generalize yU G2 344 8 (.int 0) = G3 at P3 k14 ⊢
  simp only [xy_167_12 l0, xz_167_13]
  rw [xz_167_14, xk_pf P3.1.1 rfl (by decide)]
  have P4 := stp G3 9 yr_top (by decide) (by decide) rfl ⟨rfl, ys_b32 _⟩ rfl P3
  replace k14 : yR (yU G3 344 9 (.int 0)) 344 14 = some (.int 0) := by rw [yU_miss (Or.inr (by decide))]; exact k14
  generalize yU G3 344 9 (.int 0) = G4 at P4 k14 ⊢
  simp only [xy_167_15 l0, xz_167_16]
  rw [xz_167_17, xk_pf P4.1.1 rfl (by decide)]
  have P5 := stp G4 12 (0, 0, 60) (by decide) (by decide) rfl ⟨rfl, by decide, by decide⟩ rfl P4
  replace k14 : yR (yU G4 344 12 (.int 0)) 344 14 = some (.int 0) := by rw [yU_miss (Or.inr (by decide))]; exact k14
  have k12 : yR (yU G4 344 12 (.int 0)) 344 12 = some (.int 0) := by
    obtain ⟨z, z1, -⟩ := yM_int P4.1.1 (i := 12) (lo := 0) (hi := 60) (by decide) rfl
    exact yU_hit z1
  generalize yU G4 344 12 (.int 0) = G5 at P5 k14 k12 ⊢
  obtain ⟨Z5, mi5, h11', h347, h349⟩ := P5
  exact yK_r18 (L := 0) (m := 0) hQ l0 ⟨⟨Z5.1, Z5.2.2, Z5.2.1.1, Z5.2.1.2.1, mi5⟩, ⟨h11', k12⟩, ⟨h347, h349⟩, ht, by decide⟩ k14 hn0 (by omega)
end RK
def yMQ : yM := [(93, 1), (93, 2), (93, 8), (93, 9), (93, 10), (93, 11), (93, 12), (93, 13), (93, 14), (93, 16), (95, 100000), (96, 100000), (97, 100000), (98, 100000), (100, 100000)]
theorem yMQ_eq : yi_227 = (168, [(2, 93, 0)], [], [(some yr_top, [])], yMQ) := rfl
theorem yMR_MQ : ym_mds yMR yMQ = true := by decide +kernel
theorem y98_MQ : ym_mds [(98, 100000)] yMQ = true := by decide +kernel
theorem y2_MQ : ym_mds [(93, 2)] yMQ = true := by decide +kernel
theorem y11_MQ : ym_mds [(93, 11)] yMQ = true := by decide +kernel
/-- rule -/
theorem yc_rule (d : Nat) : yc_ok (yi_Inv yJ) yi_227 (xm_exec (d + 13)) := by
  intro G As Ec Q hT hI hA hF hQ
  match As, hA with
  | [a], hA =>
    obtain ⟨j, rfl, hj⟩ := yv_ref hA.1 rfl
    have hj := yr_oneM (Int.ofNat.inj hj)
    subst hj
    have hQ' : ∀ (G' : xm_H) (r : Int32), ys_HT G' → yi_Inv yJ G' → ys_Fr yMQ G G' → Q (some (.int r)) G' Ec = true := fun G' r h1 h2 h3 => hQ _ G' h1 h2 h3 ⟨(some yr_top, []), List.mem_cons_self, ⟨rfl, ys_b32 _⟩, fun q hq => by cases hq⟩
    refine yx_exec (m := 168) rfl rfl (Nat.le_of_ble_eq_true rfl) ?_
    obtain ⟨g, hg⟩ := xn_f
    rw [hg]
    have l0 : xm_get (lv_args 0 [Value.ref 344]) 0 = some (.ref 344) := rfl
    have n6 : (6 : Int32).toInt = 6 := rfl
    have n1 : (1 : Int32).toInt = 1 := rfl
    show xm_run (xm_exec (d + 12)) xm_c168 1 0 0 (some .int) Q (g + 40000) (xm_drop 0 xm_c168) (lv_args 0 [.ref 344]) [] G Ec 0 0 = true
    generalize lv_args 0 [Value.ref 344] = lv at l0 ⊢
    obtain ⟨t, p2, t0, t6⟩ := yM_int hT (i := 2) (lo := 0) (hi := 6) (by decide) rfl
    simp only [xy_168_0 l0, xz_168_1, xz_168_2, xy_168_3, xk_gf hT p2, n6]
    by_cases ht : t.toInt = 6
    · rw [decide_eq_true ht, Bool.not_true, cond_false]
      simp only [xz_168_4, xy_168_5]
      exact hQ' G _ hT hI (ys_Fr.refl _ _)
    rw [decide_eq_false ht, Bool.not_false, cond_true]
    simp only [xy_168_6 l0, xy_168_7 l0, xz_168_8, xk_gf hT p2]
    rw [xz_168_9, xk_pf hT rfl (by decide)]
    obtain ⟨T1, I1, F1⟩ := yI_put hT hI (i := 11) (w := .int t) (T := (0, 0, 6)) (by decide) rfl ⟨rfl, t0, t6⟩
    have k11 : yR (yU G 344 11 (.int t)) 344 11 = some (.int t) := by
      obtain ⟨z, z1, -⟩ := yM_int hT (i := 11) (lo := 0) (hi := 6) (by decide) rfl
      exact yU_hit z1
    have k2 : yR (yU G 344 11 (.int t)) 344 2 = some (.int t) := by rw [yU_miss (Or.inr (by decide))]; exact p2
    generalize yU G 344 11 (.int t) = G1 at T1 I1 F1 k11 k2 ⊢
    have r6 : yR G1 344 6 = some (.ref 349) := yM_ref T1 (r := 98) (by decide) rfl (by decide)
    simp only [xy_168_10 l0, xz_168_11, xy_168_12 l0, xz_168_13, xz_168_14, xk_gf T1 k11, xk_gf T1 r6]
    rw [xz_168_15, xk_ias T1 (j := 349) (r := 98) rfl yq_98 (by decide) t0 (by show _ < ((6 : Nat) : Int); omega)]
    obtain ⟨x1, x2⟩ := yU_HT (md := [(98, 100000)]) T1 (j := 349) (i := t.toInt.toNat) (w := .int 0) (r := 98) rfl yq_98 (show _ < 6 by omega) yv_one ⟨rfl, by decide, by decide⟩ (yf_mod (by simp))
    have hit : yR (yU G1 349 t.toInt.toNat (.int 0)) 349 t.toInt.toNat = some (.int 0) := by
      obtain ⟨z, z1, -⟩ := yA_int T1 (j := 349) (r := 98) (i := t.toInt.toNat) rfl yq_98 (by omega)
      exact yU_hit z1
    have u : ∀ j i' : Nat, j ≠ 349 ∨ i' ≠ t.toInt.toNat → yR (yU G1 349 t.toInt.toNat (.int 0)) j i' = yR G1 j i' := fun j i' hj => yU_miss hj
    generalize yU G1 349 t.toInt.toNat (.int 0) = G2 at x1 x2 hit u ⊢
    have mi : yMI (-1) 0 G2 := by
      intro t' ht' n' hn' c hc
      have k346 : yR G2 346 = yR G1 346 := funext (fun i => u _ _ (Or.inl (by decide)))
      have k348 : yR G2 348 = yR G1 348 := funext (fun i => u _ _ (Or.inl (by decide)))
      by_cases e : t' = t.toInt.toNat
      · subst e
        rw [hit] at hn'
        cases hn'
        exact absurd hc (by have : (0 : Int32).toInt = 0 := rfl; omega)
      · rw [u _ _ (Or.inr e)] at hn'
        rw [k346, k348]
        exact I1.2.2.2 t' ht' n' hn' c hc
    have I2 : yi_Inv yJ G2 := ⟨I1.1.fr x1 x2 rfl rfl, I1.2.1.fr x2 (fun i => rfl), x1, mi⟩
    have F2 : ys_Fr yMQ G G2 := (F1.mds y11_MQ).trans (x2.mds y98_MQ)
    have k2' : yR G2 344 2 = some (.int t) := by rw [u _ _ (Or.inl (by decide))]; exact k2
    obtain ⟨v2, hM2, -⟩ := yO_of x1
    simp only [xy_168_16 l0, xy_168_17]
    rw [yO_call0 (a := 167) rfl hM2 (Nat.le_of_ble_eq_true rfl)]
    refine yK_all (G0 := G2) (t := t) (n := 0) ?_ ⟨x1, I2, ys_Fr.refl _ _⟩ ⟨t0, by omega⟩ (by rw [u _ _ (Or.inl (by decide))]; exact k11) hit rfl
    intro G3 r Z3 hr
    rcases hr with rfl | rfl
    · obtain ⟨x, p9, -⟩ := yM_int Z3.1 (i := 9) (lo := -2147483648) (hi := 2147483647) (by decide) rfl
      simp only [xy_168_18, xz_168_19, xy_168_20 l0, xz_168_21, xy_168_22, xy_168_23, xi_0, Bool.not_true, cond_false, xk_gf Z3.1 p9]
      exact hQ' G3 _ Z3.1 Z3.2.1 (F2.trans (Z3.2.2.mds yMR_MQ))
    · simp only [xy_168_18, xi_1, Bool.not_false, cond_true]
      have q2 : yR G3 344 2 = some (.int t) := yR_fr Z3.2.2 rfl k2'
      simp only [xy_168_24 l0, xy_168_25, xz_168_26, xz_168_27, xy_168_28, xk_gf Z3.1 q2]
      rw [xz_168_29, xk_pf Z3.1 rfl (by decide)]
      have ix : (t + 1).toInt = t.toInt + 1 := by rw [yk_add] <;> rw [n1] <;> omega
      obtain ⟨T4, I4, F4⟩ := yI_put Z3.1 Z3.2.1 (i := 2) (w := .int (t + 1)) (T := (0, 0, 6)) (by decide) rfl ⟨rfl, by show 0 ≤ (t + 1).toInt; omega, by show (t + 1).toInt ≤ 6; omega⟩
      have k2'' := yU_hit (w := .int (t + 1)) q2
      generalize yU G3 344 2 (.int (t + 1)) = G4 at T4 I4 F4 k2'' ⊢
      simp only [xy_168_30 l0, xz_168_31, xz_168_32, xy_168_33, xy_168_34, xk_gf T4 k2'']
      exact hQ' G4 _ T4 I4 ((F2.trans (Z3.2.2.mds yMR_MQ)).trans (F4.mds y2_MQ))
