/-! image, back of the reference -/
theorem xk_inx {x : Int32} : ((0 : Int64).toInt ≤ x.toInt64.toInt ∧ x.toInt64.toInt ≤ (3 : Int64).toInt) ↔ (0 ≤ x.toInt ∧ x.toInt ≤ 3) := by
  have z0 : (0 : Int64).toInt = 0 := rfl
  have z3 : (3 : Int64).toInt = 3 := rfl
  rw [z0, z3, Int32.toInt_toInt64]
section MI2
variable {J : xm_H → Prop} {G : xm_H} {d : Nat} {Q : xm_Q} {E : xm_R} {s : Int32} {zs ms : Nat → Int32}
theorem yM_image (hJ : yj_ok J) (hT : ys_HT G) (hI : yi_Inv J G) (hC : yRs G s zs ms) {x : Int32} (hQ : ∀ (G' : xm_H) (r : Int32), ys_HT G' → yi_Inv J G' → ys_Fr yi_287.2.2.2.2 G G' → yRs G' s (yZi x s zs) (yZi x 1 ms) → Q (some (.int r)) G' E = true) : xm_exec (d + 2) 236 [.ref 344, .int x] G E Q = true := by
  refine yx_exec (m := 236) rfl rfl (Nat.le_of_ble_eq_true rfl) ?_
  obtain ⟨g, hg⟩ := xn_f
  rw [hg]
  have l0 : xm_get (lv_args 0 [Value.ref 344, .int x]) 0 = some (.ref 344) := rfl
  have l1 : xm_get (lv_args 0 [Value.ref 344, .int x]) 1 = some (.int x) := rfl
  show xm_run (xm_exec (d + 1)) xm_c236 3 0 0 (some .int) Q (g + 40000) (xm_drop 0 xm_c236) (lv_args 0 [.ref 344, .int x]) [] G E 0 0 = true
  generalize lv_args 0 [Value.ref 344, .int x] = lv at l0 l1 ⊢
  simp only [xy_236_0 l1, xy_236_1, xz_236_2, xz_236_3]
  rw [xy_236_4, yO_scall (Nat.le_of_ble_eq_true rfl)]
  refine yM_in ?_
  by_cases hx : 0 ≤ x.toInt ∧ x.toInt ≤ 3
  · rw [if_pos (xk_inx.mpr hx)]
    simp only [xy_236_5, xi_1, Bool.not_false, cond_true]
    have r35 : yR G 344 35 = some (.ref 363) := yM_ref hT (r := 112) (by decide) rfl (by decide)
    simp only [xy_236_8 l0, xz_236_9, xy_236_10 l1, xz_236_11, xk_gf hT r35]
    rw [xz_236_12, xk_zas hT hx.1 (by omega)]
    obtain ⟨T1, F1⟩ := yU_HT (md := [(112, 100000)]) hT (j := 363) (i := x.toInt.toNat) (w := .int 1) (r := 112) rfl yq_112 (show _ < 4 by omega) yv_one ⟨rfl, by decide, by decide⟩ (yf_mod List.mem_cons_self)
    have u1 : ∀ j i : Nat, (j ≠ 363 ∨ i ≠ x.toInt.toNat) → yR (yU G 363 x.toInt.toNat (.int 1)) j i = yR G j i := fun j i h => yU_miss h
    have k1 : yR (yU G 363 x.toInt.toNat (.int 1)) 363 x.toInt.toNat = some (.int 1) := yU_hit (hC.2 _ (by omega)).2
    generalize yU G 363 x.toInt.toNat (.int 1) = G1 at T1 F1 u1 k1 ⊢
    have r33 : yR G1 344 33 = some (.ref 361) := yM_ref T1 (r := 110) (by decide) rfl (by decide)
    obtain ⟨f, p21, f0, f1⟩ := yM_int T1 (i := 21) (lo := -1) (hi := 5) (by decide) rfl
    simp only [xy_236_13 l0, xz_236_14, xy_236_15 l1, xy_236_16 l0, xz_236_17, xk_gf T1 r33, xk_gf T1 p21]
    rw [xz_236_18, xk_ias T1 (j := 361) (r := 110) rfl yq_110 (by decide) hx.1 (by show _ < ((4 : Nat) : Int); omega)]
    obtain ⟨T2, F2⟩ := yU_HT (md := [(110, 100000)]) T1 (j := 361) (i := x.toInt.toNat) (w := .int f) (r := 110) rfl yq_110 (show _ < 4 by omega) yv_one ⟨rfl, f0, f1⟩ (yf_mod List.mem_cons_self)
    have u2 : ∀ j i : Nat, j ≠ 361 → yR (yU G1 361 x.toInt.toNat (.int f)) j i = yR G1 j i := fun j i h => yU_miss (Or.inl h)
    generalize yU G1 361 x.toInt.toNat (.int f) = G2 at T2 F2 u2 ⊢
    have r34 : yR G2 344 34 = some (.ref 362) := yM_ref T2 (r := 111) (by decide) rfl (by decide)
    have p22 : yR G2 344 22 = some (.int s) := by rw [u2 _ _ (by decide), u1 _ _ (Or.inl (by decide))]; exact hC.1
    have s0 := yM_intx T2 (i := 22) (lo := 0) (hi := 2147483647) p22 (by decide) rfl
    simp only [xy_236_19 l0, xz_236_20, xy_236_21 l1, xy_236_22 l0, xz_236_23, xk_gf T2 r34, xk_gf T2 p22]
    rw [xz_236_24, xk_ias T2 (j := 362) (r := 111) rfl yq_111 (by decide) hx.1 (by show _ < ((4 : Nat) : Int); omega)]
    obtain ⟨T3, F3⟩ := yU_HT (md := [(111, 100000)]) T2 (j := 362) (i := x.toInt.toNat) (w := .int s) (r := 111) rfl yq_111 (show _ < 4 by omega) yv_one ⟨rfl, s0⟩ (yf_mod List.mem_cons_self)
    have u3 : ∀ j i : Nat, (j ≠ 362 ∨ i ≠ x.toInt.toNat) → yR (yU G2 362 x.toInt.toNat (.int s)) j i = yR G2 j i := fun j i h => yU_miss h
    have k3 : yR (yU G2 362 x.toInt.toNat (.int s)) 362 x.toInt.toNat = some (.int s) := by
      have : yR G2 362 x.toInt.toNat = some (.int (zs x.toInt.toNat)) := by rw [u2 _ _ (by decide), u1 _ _ (Or.inl (by decide))]; exact (hC.2 _ (by omega)).1
      exact yU_hit this
    generalize yU G2 362 x.toInt.toNat (.int s) = G3 at T3 F3 u3 k3 ⊢
    have I3 : yi_Inv J G3 := yi_Inv.free hJ _ (by decide +kernel) G2 G3 T3 F3 (yi_Inv.free hJ _ (by decide +kernel) G1 G2 T2 F2 (yi_Inv.free hJ _ (by decide +kernel) G G1 T1 F1 hI))
    have F03 : ys_Fr yi_287.2.2.2.2 G G3 := ((F1.mds (by decide +kernel)).trans (F2.mds (by decide +kernel))).trans (F3.mds (by decide +kernel))
    have C3 : yRs G3 s (yZi x s zs) (yZi x 1 ms) := by
      refine ⟨by rw [u3 _ _ (Or.inl (by decide))]; exact p22, fun k hk => ?_⟩
      obtain ⟨a, b⟩ := hC.2 k hk
      by_cases e : k = x.toInt.toNat
      · rw [e, yZi_at hx, yZi_at hx]
        exact ⟨k3, by rw [u3 _ _ (Or.inl (by decide)), u2 _ _ (by decide)]; exact k1⟩
      · rw [yZi_ne e, yZi_ne e]
        exact ⟨by rw [u3 _ _ (Or.inr e), u2 _ _ (by decide), u1 _ _ (Or.inl (by decide))]; exact a, by rw [u3 _ _ (Or.inl (by decide)), u2 _ _ (by decide), u1 _ _ (Or.inr e)]; exact b⟩
    simp only [xz_236_25, xy_236_26]
    refine yM_imgl (G0 := G3) hx (fun G' r T' F' => hQ G' r T' (yi_Inv.free hJ _ (by decide +kernel) G3 G' T' F' I3) (F03.trans (F'.mds (by decide +kernel))) (C3.fr F' rfl (fun i => rfl) (fun i => rfl))) 146 G3 0 _ T3 (ys_Fr.refl _ _) (by decide) (by decide) (by decide) (xl_s1 (by decide) (Or.inl rfl) l0) (xl_s1 (by decide) (Or.inl rfl) l1) xl_gs1 (by omega)
  · rw [if_neg (fun q => hx (xk_inx.mp q))]
    simp only [xy_236_5, xz_236_6, xy_236_7, xi_0, Bool.not_true, cond_false]
    rw [yZi_out hx, yZi_out hx] at hQ
    exact hQ G _ hT hI (ys_Fr.refl _ _) hC
theorem yM_back (hJ : yj_ok J) (hT : ys_HT G) (hI : yi_Inv J G) (hC : yRs G s zs ms) {x : Int32} (hQ : ∀ (G' : xm_H) (r : Int32), ys_HT G' → yi_Inv J G' → ys_Fr yi_288.2.2.2.2 G G' → yRs G' (yBk x s zs ms) zs ms → Q (some (.int r)) G' E = true) : xm_exec (d + 2) 237 [.ref 344, .int x] G E Q = true := by
  refine yx_exec (m := 237) rfl rfl (Nat.le_of_ble_eq_true rfl) ?_
  obtain ⟨g, hg⟩ := xn_f
  rw [hg]
  have l0 : xm_get (lv_args 0 [Value.ref 344, .int x]) 0 = some (.ref 344) := rfl
  have l1 : xm_get (lv_args 0 [Value.ref 344, .int x]) 1 = some (.int x) := rfl
  show xm_run (xm_exec (d + 1)) xm_c237 3 0 0 (some .int) Q (g + 40000) (xm_drop 0 xm_c237) (lv_args 0 [.ref 344, .int x]) [] G E 0 0 = true
  generalize lv_args 0 [Value.ref 344, .int x] = lv at l0 l1 ⊢
  have out : yBk x s zs ms = s → ∀ F, 5 ≤ F → xm_run (xm_exec (d + 1)) xm_c237 3 0 0 (some .int) Q F (xm_drop 11 xm_c237) lv [] G E 0 0 = true := by
    intro ho F hF
    obtain ⟨f, rfl⟩ : ∃ f, F = f + 5 := ⟨F - 5, by omega⟩
    simp only [xz_237_11, xy_237_12]
    rw [ho] at hQ
    exact hQ G _ hT hI (ys_Fr.refl _ _) hC
  simp only [xy_237_0 l1, xy_237_1, xz_237_2, xz_237_3]
  rw [xy_237_4, yO_scall (Nat.le_of_ble_eq_true rfl)]
  refine yM_in ?_
  by_cases hx : 0 ≤ x.toInt ∧ x.toInt ≤ 3
  · rw [if_pos (xk_inx.mpr hx)]
    simp only [xy_237_5, xi_1, cond_false]
    obtain ⟨c1, c2⟩ := hC.2 x.toInt.toNat (by omega)
    have r35 : yR G 344 35 = some (.ref 363) := yM_ref hT (r := 112) (by decide) rfl (by decide)
    simp only [xy_237_6 l0, xz_237_7, xy_237_8 l1, xk_gf hT r35]
    rw [xz_237_9, xk_zal hT hx.1 c2]
    simp only [xy_237_10]
    by_cases hm : (ms x.toInt.toNat).toInt = 0
    · rw [decide_eq_true hm, Bool.not_true, cond_false]
      exact out (if_neg (fun q => q.2 hm)) _ (by omega)
    · rw [decide_eq_false hm, Bool.not_false, cond_true]
      have eB : yBk x s zs ms = zs x.toInt.toNat := if_pos ⟨hx, hm⟩
      rw [eB] at hQ
      have r33 : yR G 344 33 = some (.ref 361) := yM_ref hT (r := 110) (by decide) rfl (by decide)
      obtain ⟨f, pf, f0, f1⟩ := yA_int hT (j := 361) (r := 110) (i := x.toInt.toNat) rfl yq_110 (by omega)
      simp only [xy_237_13 l0, xy_237_14 l0, xz_237_15, xy_237_16 l1, xz_237_17, xk_gf hT r33, xk_ial hT (j := 361) (r := 110) rfl yq_110 rfl hx.1 pf]
      rw [xz_237_18, xk_pf hT rfl (by decide)]
      obtain ⟨T1, F1⟩ := yU_HT (md := [(93, 21)]) hT (j := 344) (i := 21) (w := .int f) ym_344 yq_93 (by rw [yq93_2]; decide) (show yr_ty yq93 21 = some (0, (-1), 5) from rfl) ⟨rfl, f0, f1⟩ rfl
      have u1 : ∀ j i : Nat, (j ≠ 344 ∨ i ≠ 21) → yR (yU G 344 21 (.int f)) j i = yR G j i := fun j i h => yU_miss h
      generalize yU G 344 21 (.int f) = G1 at T1 F1 u1 ⊢
      have r34 : yR G1 344 34 = some (.ref 362) := yM_ref T1 (r := 111) (by decide) rfl (by decide)
      have p22 : yR G1 344 22 = some (.int s) := by rw [u1 _ _ (Or.inr (by decide))]; exact hC.1
      have c1' : yR G1 362 x.toInt.toNat = some (.int (zs x.toInt.toNat)) := by rw [u1 _ _ (Or.inl (by decide))]; exact c1
      have z0 : 0 ≤ (zs x.toInt.toNat).toInt ∧ (zs x.toInt.toNat).toInt ≤ 2147483647 := by
        obtain ⟨y, py, y0, y1⟩ := yA_int T1 (j := 362) (r := 111) (i := x.toInt.toNat) rfl yq_111 (by omega)
        rw [c1'] at py
        cases py
        exact ⟨y0, y1⟩
      simp only [xy_237_19 l0, xy_237_20 l0, xz_237_21, xy_237_22 l1, xz_237_23, xk_gf T1 r34, xk_ial T1 (j := 362) (r := 111) rfl yq_111 rfl hx.1 c1']
      rw [xz_237_24, xk_pf T1 rfl (by decide)]
      obtain ⟨T2, F2⟩ := yU_HT (md := [(93, 22)]) T1 (j := 344) (i := 22) (w := .int (zs x.toInt.toNat)) ym_344 yq_93 (by rw [yq93_2]; decide) (show yr_ty yq93 22 = some (0, 0, 2147483647) from rfl) ⟨rfl, z0⟩ rfl
      have k2 : yR (yU G1 344 22 (.int (zs x.toInt.toNat))) 344 22 = some (.int (zs x.toInt.toNat)) := yU_hit p22
      have u2 : ∀ j i : Nat, (j ≠ 344 ∨ i ≠ 22) → yR (yU G1 344 22 (.int (zs x.toInt.toNat))) j i = yR G1 j i := fun j i h => yU_miss h
      generalize yU G1 344 22 (.int (zs x.toInt.toNat)) = G2 at T2 F2 k2 u2 ⊢
      simp only [xy_237_25 l0, xz_237_26]
      rw [xz_237_27, xk_pf T2 rfl (by decide)]
      obtain ⟨T3, F3⟩ := yU_HT (md := [(93, 26)]) T2 (j := 344) (i := 26) (w := .int 0) ym_344 yq_93 (by rw [yq93_2]; decide) (show yr_ty yq93 26 = some (0, 0, 20) from rfl) ⟨rfl, by decide, by decide⟩ rfl
      have u3 : ∀ j i : Nat, (j ≠ 344 ∨ i ≠ 26) → yR (yU G2 344 26 (.int 0)) j i = yR G2 j i := fun j i h => yU_miss h
      generalize yU G2 344 26 (.int 0) = G3 at T3 F3 u3 ⊢
      have I3 : yi_Inv J G3 := yi_Inv.free hJ _ (by decide +kernel) G2 G3 T3 F3 (yi_Inv.free hJ _ (by decide +kernel) G1 G2 T2 F2 (yi_Inv.free hJ _ (by decide +kernel) G G1 T1 F1 hI))
      have F03 : ys_Fr yi_288.2.2.2.2 G G3 := ((F1.mds (by decide +kernel)).trans (F2.mds (by decide +kernel))).trans (F3.mds (by decide +kernel))
      have C3 : yRs G3 (zs x.toInt.toNat) zs ms := by
        refine ⟨by rw [u3 _ _ (Or.inr (by decide))]; exact k2, fun k hk => ?_⟩
        obtain ⟨a, b⟩ := hC.2 k hk
        exact ⟨by rw [u3 _ _ (Or.inl (by decide)), u2 _ _ (Or.inl (by decide)), u1 _ _ (Or.inl (by decide))]; exact a, by rw [u3 _ _ (Or.inl (by decide)), u2 _ _ (Or.inl (by decide)), u1 _ _ (Or.inl (by decide))]; exact b⟩
      simp only [xz_237_28, xy_237_29]
      refine yM_backl (G0 := G3) hx (fun G' r T' F' => hQ G' r T' (yi_Inv.free hJ _ (by decide +kernel) G3 G' T' F' I3) (F03.trans (F'.mds (by decide +kernel))) (C3.fr F' rfl (fun i => rfl) (fun i => rfl))) 146 G3 0 _ T3 (ys_Fr.refl _ _) (by decide) (by decide) (by decide) (xl_s1 (by decide) (Or.inl rfl) l0) (xl_s1 (by decide) (Or.inl rfl) l1) xl_gs1 (by omega)
  · rw [if_neg (fun q => hx (xk_inx.mp q))]
    simp only [xy_237_5, xi_0, cond_true]
    exact out (if_neg (fun q => hx q.1)) _ (by omega)
end MI2
