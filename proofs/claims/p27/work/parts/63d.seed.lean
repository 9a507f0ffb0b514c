/-! seed, image, back of both: the seeds and what is made stay alike -/
def yCs (G : xm_H) (s : Int32) (zs ms : Nat → Int32) : Prop := yR G 10 7 = some (.int s) ∧ ∀ k : Nat, k < 4 → yR G 223 k = some (.ref (264 + 20 * k)) ∧ yR G (264 + 20 * k) 7 = some (.int (zs k)) ∧ yR G (264 + 20 * k) 8 = some (.int (ms k))
def yRs (G : xm_H) (s : Int32) (zs ms : Nat → Int32) : Prop := yR G 344 22 = some (.int s) ∧ ∀ k : Nat, k < 4 → yR G 362 k = some (.int (zs k)) ∧ yR G 363 k = some (.int (ms k))
theorem yr_im {k : Nat} (h : k < 4) : yr_of (264 + 20 * k) = 73 := by
  match k, h with
  | 0, _ => rfl
  | 1, _ => rfl
  | 2, _ => rfl
  | 3, _ => rfl
theorem yCs.fr {G G' : xm_H} {s : Int32} {zs ms : Nat → Int32} {md : yM} (h : yCs G s zs ms) (hF : ys_Fr md G G') (h1 : ym_mod md 10 7 = false) (h2 : ym_mod md 73 7 = false) (h3 : ym_mod md 73 8 = false) (h4 : ∀ i, ym_mod md 52 i = false) : yCs G' s zs ms := by
  refine ⟨yR_fr hF h1 h.1, fun k hk => ?_⟩
  obtain ⟨a, b, c⟩ := h.2 k hk
  exact ⟨yR_fr hF (h4 k) a, yR_fr hF (by rw [yr_im hk]; exact h2) b, yR_fr hF (by rw [yr_im hk]; exact h3) c⟩
theorem yRs.fr {G G' : xm_H} {s : Int32} {zs ms : Nat → Int32} {md : yM} (h : yRs G s zs ms) (hF : ys_Fr md G G') (h1 : ym_mod md 93 22 = false) (h2 : ∀ i, ym_mod md 111 i = false) (h3 : ∀ i, ym_mod md 112 i = false) : yRs G' s zs ms := by
  refine ⟨yR_fr hF (by rw [ym_344]; exact h1) h.1, fun k hk => ?_⟩
  obtain ⟨a, b⟩ := h.2 k hk
  exact ⟨yR_fr hF (h2 k) a, yR_fr hF (h3 k) b⟩
def ySa (x s : Int32) : Int32 := if x.toInt < 0 then -1 else s
def ySd (x s : Int32) : Int32 := if x.toInt < 0 then s else x
def yZi (k s : Int32) (zs : Nat → Int32) : Nat → Int32 := fun i => if (0 ≤ k.toInt ∧ k.toInt ≤ 3) ∧ i = k.toInt.toNat then s else zs i
def yBk (k s : Int32) (zs ms : Nat → Int32) : Int32 := if (0 ≤ k.toInt ∧ k.toInt ≤ 3) ∧ (ms k.toInt.toNat).toInt ≠ 0 then zs k.toInt.toNat else s
theorem yZi_out {k s : Int32} {zs : Nat → Int32} (h : ¬ (0 ≤ k.toInt ∧ k.toInt ≤ 3)) : yZi k s zs = zs := funext (fun i => by
  unfold yZi
  rw [if_neg (fun q => h q.1)])
theorem yZi_at {k s : Int32} {zs : Nat → Int32} (h : 0 ≤ k.toInt ∧ k.toInt ≤ 3) : yZi k s zs k.toInt.toNat = s := by
  unfold yZi
  rw [if_pos ⟨h, rfl⟩]
theorem yZi_ne {k s : Int32} {zs : Nat → Int32} {i : Nat} (h : i ≠ k.toInt.toNat) : yZi k s zs i = zs i := by
  unfold yZi
  rw [if_neg (fun q => h q.2)]
theorem yr_7 : yr_of 7 = 7 := rfl
theorem yr_10 : yr_of 10 = 10 := rfl
theorem yr_223 : yr_of 223 = 52 := rfl
theorem yq_52 : yr_row 52 = some (107, 4, 1, [(2, 73, 0)]) := rfl
theorem yX7_1 {G : xm_H} (hT : ys_HT G) : yR G 7 1 = some (.ref 10) := by
  obtain ⟨v, h1, h2⟩ := yR_ty hT yr_7 yq_7 (i := 1) (T := (2, 10, 0)) (by decide +kernel) rfl
  obtain ⟨j, rfl, hj⟩ := yv_ref h2 rfl
  have e : yr_of j = 10 := Int.ofNat.inj hj
  rw [h1, (yr_pin (by rw [e]; decide)).1 e]
theorem yX7_6 {G : xm_H} (hT : ys_HT G) : yR G 7 6 = some (.ref 223) := by
  obtain ⟨v, h1, h2⟩ := yR_ty hT yr_7 yq_7 (i := 6) (T := (2, 52, 0)) (by decide +kernel) rfl
  obtain ⟨j, rfl, hj⟩ := yv_ref h2 rfl
  have e : yr_of j = 52 := Int.ofNat.inj hj
  rw [h1, (yr_pin (by rw [e]; decide)).2 e]
theorem xk_aal {G : xm_H} (hT : ys_HT G) {x : Int32} {v : Value} {st : List Value} {E : xm_R} {k : List Value → xm_R → Bool} (h0 : 0 ≤ x.toInt) (h : yR G 223 x.toInt.toNat = some v) : xm_ald xm_isAr (.int x :: .ref 223 :: st) G E k = k (v :: st) E := by
  obtain ⟨vs, g1, g2, g3⟩ := hT.at yr_223 yq_52
  rw [yR_eq g1] at h
  exact ys_xald g1 rfl h0 h
section CS
variable {J : xm_H → Prop} {G : xm_H} {d : Nat} {Q : xm_Q} {E : xm_R} {s : Int32} {zs ms : Nat → Int32}
theorem yC_seed (hJ : yj_ok J) (hT : ys_HT G) (hI : yi_Inv J G) (hC : yCs G s zs ms) {x : Int32} (hQ : ∀ G' : xm_H, ys_HT G' → yi_Inv J G' → ys_Fr [(10, 7)] G G' → yCs G' (ySd x s) zs ms → Q (some (.int (ySa x s))) G' E = true) : xm_exec (d + 1) 113 [.ref 7, .int x] G E Q = true := by
  refine yx_exec (m := 113) rfl rfl (Nat.le_of_ble_eq_true rfl) ?_
  obtain ⟨g, hg⟩ := xn_f
  rw [hg]
  have l0 : xm_get (lv_args 0 [Value.ref 7, .int x]) 0 = some (.ref 7) := rfl
  have l1 : xm_get (lv_args 0 [Value.ref 7, .int x]) 1 = some (.int x) := rfl
  show xm_run (xm_exec d) xm_c113 3 0 0 (some .int) Q (g + 40000) (xm_drop 0 xm_c113) (lv_args 0 [.ref 7, .int x]) [] G E 0 0 = true
  generalize lv_args 0 [Value.ref 7, .int x] = lv at l0 l1 ⊢
  simp only [xy_113_0 l1, xy_113_1]
  by_cases hx : x.toInt < 0
  · rw [decide_eq_true hx, Bool.not_true, cond_false]
    simp only [xz_113_2, xy_113_3]
    have e1 : ySa x s = -1 := if_pos hx
    have e2 : ySd x s = s := if_pos hx
    rw [e1, e2] at hQ
    exact hQ G hT hI (ys_Fr.refl _ _) hC
  · rw [decide_eq_false hx, Bool.not_false, cond_true]
    have e1 : ySa x s = s := if_neg hx
    have e2 : ySd x s = x := if_neg hx
    rw [e1, e2] at hQ
    simp only [xy_113_4 l0, xz_113_5, xz_113_6, xy_113_7, xk_gfr hT yr_7 yq_7 yq7_1 (yX7_1 hT), xk_gfr hT yr_10 yq_10 yq10_1 hC.1]
    have l2 : xm_get (xm_set1 lv 2 (.int s)) 2 = some (.int s) := xl_gs1
    replace l0 : xm_get (xm_set1 lv 2 (.int s)) 0 = some (.ref 7) := xl_s1 (by decide) (Or.inl rfl) l0
    replace l1 : xm_get (xm_set1 lv 2 (.int s)) 1 = some (.int x) := xl_s1 (by decide) (Or.inl rfl) l1
    generalize xm_set1 lv 2 (.int s) = lv1 at l0 l1 l2 ⊢
    simp only [xy_113_8 l0, xz_113_9, xy_113_10 l1, xk_gfr hT yr_7 yq_7 yq7_1 (yX7_1 hT)]
    rw [xz_113_11, xk_pfr hT yr_10 yq_10 yq10_1 (by decide) rfl (by rw [yq10_2]; decide)]
    have hb := ys_b32 x
    obtain ⟨T1, F1⟩ := yU_HT (md := [(10, 7)]) hT (j := 10) (i := 7) (w := .int x) yr_10 yq_10 (by rw [yq10_2]; decide) (show yr_ty yq10 7 = some (0, 0, 2147483647) from rfl) ⟨rfl, by show 0 ≤ x.toInt; omega, hb.2⟩ rfl
    have k7 : yR (yU G 10 7 (.int x)) 10 7 = some (.int x) := yU_hit hC.1
    have u : ∀ j i : Nat, (j ≠ 10 ∨ i ≠ 7) → yR (yU G 10 7 (.int x)) j i = yR G j i := fun j i h => yU_miss h
    generalize yU G 10 7 (.int x) = G1 at T1 F1 k7 u ⊢
    simp only [xy_113_12 l2, xy_113_13]
    refine hQ G1 T1 (yi_Inv.free hJ _ (by decide +kernel) G G1 T1 F1 hI) F1 ⟨k7, fun k hk => ?_⟩
    obtain ⟨a, b, c⟩ := hC.2 k hk
    exact ⟨by rw [u _ _ (Or.inl (by decide))]; exact a, by rw [u _ _ (Or.inl (by omega))]; exact b, by rw [u _ _ (Or.inl (by omega))]; exact c⟩
theorem yC_bell (hT : ys_HT G) : ∃ (f : Nat) (x : Int32), yR G 10 1 = some (.ref f) ∧ yr_of f = 19 ∧ yR G f 0 = some (.int x) := by
  obtain ⟨v, h1, h2⟩ := yR_ty hT yr_10 yq_10 (i := 1) (T := (2, 19, 0)) (by rw [yq10_2]; decide) rfl
  obtain ⟨f, rfl, hf⟩ := yv_ref h2 rfl
  have e : yr_of f = 19 := Int.ofNat.inj hf
  obtain ⟨w, w1, w2⟩ := yR_ty hT e (rfl : yr_row 19 = some _) (i := 0) (T := yr_top) (by decide +kernel) rfl
  obtain ⟨x, rfl, -⟩ := yv_int w2 rfl
  exact ⟨f, x, h1, e, w1⟩
theorem yC_image (hJ : yj_ok J) (cH : yc_ok (yi_Inv J) yi_24 (xm_exec d)) (cF : yc_ok (yi_Inv J) yi_19 (xm_exec d)) (cL : yc_ok (yi_Inv J) yi_20 (xm_exec d)) (hT : ys_HT G) (hI : yi_Inv J G) (hC : yCs G s zs ms) {x : Int32} (hQ : ∀ (G' : xm_H) (r : Int32), ys_HT G' → yi_Inv J G' → ys_Fr yi_161.2.2.2.2 G G' → yCs G' s (yZi x s zs) (yZi x 1 ms) → Q (some (.int r)) G' E = true) : xm_exec (d + 2) 116 [.ref 7, .int x] G E Q = true := by
  refine yx_exec (m := 116) rfl rfl (Nat.le_of_ble_eq_true rfl) ?_
  obtain ⟨g, hg⟩ := xn_f
  rw [hg]
  have l0 : xm_get (lv_args 0 [Value.ref 7, .int x]) 0 = some (.ref 7) := rfl
  have l1 : xm_get (lv_args 0 [Value.ref 7, .int x]) 1 = some (.int x) := rfl
  have n4 : (4 : Int32).toInt = 4 := rfl
  show xm_run (xm_exec (d + 1)) xm_c116 2 0 0 (some .int) Q (g + 40000) (xm_drop 0 xm_c116) (lv_args 0 [.ref 7, .int x]) [] G E 0 0 = true
  generalize lv_args 0 [Value.ref 7, .int x] = lv at l0 l1 ⊢
  have out : ¬ (0 ≤ x.toInt ∧ x.toInt ≤ 3) → ∀ F, 5 ≤ F → xm_run (xm_exec (d + 1)) xm_c116 2 0 0 (some .int) Q F (xm_drop 5 xm_c116) lv [] G E 0 0 = true := by
    intro ho F hF
    obtain ⟨f, rfl⟩ : ∃ f, F = f + 5 := ⟨F - 5, by omega⟩
    simp only [xz_116_5, xy_116_6]
    rw [yZi_out ho, yZi_out ho] at hQ
    exact hQ G _ hT hI (ys_Fr.refl _ _) hC
  simp only [xy_116_0 l1, xy_116_1]
  by_cases h0 : x.toInt < 0
  · rw [decide_eq_true h0, cond_true]
    exact out (by omega) _ (by omega)
  rw [decide_eq_false h0, cond_false]
  simp only [xy_116_2 l1, xz_116_3, xy_116_4, n4]
  by_cases h4 : x.toInt < 4
  · rw [decide_eq_true h4, cond_true]
    have hk : x.toInt.toNat < 4 := by omega
    have hin : 0 ≤ x.toInt ∧ x.toInt ≤ 3 := by omega
    obtain ⟨p1, p2, p3⟩ := hC.2 _ hk
    have hA := yr_im hk
    simp only [xy_116_7 l0, xz_116_8, xy_116_9 l1, xk_gfr hT yr_7 yq_7 yq7_1 (yX7_6 hT)]
    rw [xz_116_10, xk_aal hT hin.1 p1]
    simp only [xy_116_11 l0, xz_116_12, xy_116_13, xk_gfr hT yr_7 yq_7 yq7_1 (yX7_1 hT)]
    obtain ⟨us, u1, -⟩ := hT.at hA yq_73
    rw [yq73_1] at u1
    rw [yl_call1 (a := 76) rfl (yl_rcv u1 (by decide +kernel)) (Nat.le_of_ble_eq_true rfl) (Nat.le_refl 0) (Nat.le_refl 0)]
    refine yC_IN cH cF cL hJ hA yr_10 hT hI (fun G1 T1 I1 F1 s1 k1 => ?_)
    have q1 : yR G1 223 x.toInt.toNat = some (.ref (264 + 20 * x.toInt.toNat)) := yR_fr F1 rfl p1
    simp only [xy_116_14 l0, xz_116_15, xy_116_16 l1, xk_gfr T1 yr_7 yq_7 yq7_1 (yX7_6 T1)]
    rw [xz_116_17, xk_aal T1 hin.1 q1]
    simp only [xz_116_18]
    rw [xz_116_19, xk_pfr T1 hA yq_73 yq73_1 (by omega) rfl (by rw [yq73_2]; decide)]
    obtain ⟨T2, F2⟩ := yU_HT (md := [(73, 8)]) T1 (j := 264 + 20 * x.toInt.toNat) (i := 8) (w := .int 1) hA yq_73 (by rw [yq73_2]; decide) (show yr_ty yq73 8 = some (0, 0, 1) from rfl) ⟨rfl, by decide, by decide⟩ rfl
    have k8 : yR (yU G1 (264 + 20 * x.toInt.toNat) 8 (.int 1)) (264 + 20 * x.toInt.toNat) 8 = some (.int 1) := by
      have : yR G1 (264 + 20 * x.toInt.toNat) 8 = some (.int (ms x.toInt.toNat)) := by rw [k1 _ 8 (Or.inr hA) (Or.inr rfl) (Or.inr rfl)]; exact p3
      exact yU_hit this
    have u : ∀ j i : Nat, (j ≠ 264 + 20 * x.toInt.toNat ∨ i ≠ 8) → yR (yU G1 (264 + 20 * x.toInt.toNat) 8 (.int 1)) j i = yR G1 j i := fun j i h => yU_miss h
    generalize yU G1 (264 + 20 * x.toInt.toNat) 8 (.int 1) = G2 at T2 F2 k8 u ⊢
    obtain ⟨f, y, b1, b2, b3⟩ := yC_bell T2
    simp only [xy_116_20 l0, xz_116_21, xz_116_22, xz_116_23, xy_116_24, xk_gfr T2 yr_7 yq_7 yq7_1 (yX7_1 T2), xk_gfr T2 yr_10 yq_10 yq10_1 b1, xk_gfr T2 b2 (rfl : yr_row 19 = some _) rfl b3]
    refine hQ G2 y T2 (yi_Inv.free hJ _ (by decide +kernel) G1 G2 T2 F2 I1) ((F1.mds (by decide +kernel)).trans (F2.mds (by decide +kernel))) ⟨?_, fun k hk' => ?_⟩
    · rw [u _ _ (Or.inr (by decide)), k1 10 7 (Or.inl yr_10) (Or.inl (by omega)) (Or.inl rfl)]
      exact hC.1
    · obtain ⟨a, b, c⟩ := hC.2 k hk'
      refine ⟨?_, ?_, ?_⟩
      · rw [u _ _ (Or.inl (by omega))]
        exact yR_fr F1 rfl a
      · rw [u _ _ (Or.inr (by decide))]
        by_cases e : k = x.toInt.toNat
        · rw [e, yZi_at hin]
          exact s1 _ hC.1
        · rw [yZi_ne e, k1 _ 7 (Or.inr (yr_im hk')) (Or.inl (by omega)) (Or.inl rfl)]
          exact b
      · by_cases e : k = x.toInt.toNat
        · rw [e, yZi_at hin]
          exact k8
        · rw [yZi_ne e, u _ _ (Or.inl (by omega)), k1 _ 8 (Or.inr (yr_im hk')) (Or.inr rfl) (Or.inr rfl)]
          exact c
  · rw [decide_eq_false h4, cond_false]
    exact out (by omega) _ (by omega)
theorem yC_back (hJ : yj_ok J) (cH : yc_ok (yi_Inv J) yi_25 (xm_exec d)) (cF : yc_ok (yi_Inv J) yi_21 (xm_exec d)) (cL : yc_ok (yi_Inv J) yi_22 (xm_exec d)) (cO : yc_ok (yi_Inv J) yi_130 (xm_exec (d + 1))) (hT : ys_HT G) (hI : yi_Inv J G) (hC : yCs G s zs ms) {x : Int32} (hQ : ∀ (G' : xm_H) (r : Int32), ys_HT G' → yi_Inv J G' → ys_Fr yi_162.2.2.2.2 G G' → yCs G' (yBk x s zs ms) zs ms → Q (some (.int r)) G' E = true) : xm_exec (d + 2) 117 [.ref 7, .int x] G E Q = true := by
  refine yx_exec (m := 117) rfl rfl (Nat.le_of_ble_eq_true rfl) ?_
  obtain ⟨g, hg⟩ := xn_f
  rw [hg]
  have l0 : xm_get (lv_args 0 [Value.ref 7, .int x]) 0 = some (.ref 7) := rfl
  have l1 : xm_get (lv_args 0 [Value.ref 7, .int x]) 1 = some (.int x) := rfl
  have n4 : (4 : Int32).toInt = 4 := rfl
  show xm_run (xm_exec (d + 1)) xm_c117 2 0 0 (some .int) Q (g + 40000) (xm_drop 0 xm_c117) (lv_args 0 [.ref 7, .int x]) [] G E 0 0 = true
  generalize lv_args 0 [Value.ref 7, .int x] = lv at l0 l1 ⊢
  have out : yBk x s zs ms = s → ∀ F, 5 ≤ F → xm_run (xm_exec (d + 1)) xm_c117 2 0 0 (some .int) Q F (xm_drop 11 xm_c117) lv [] G E 0 0 = true := by
    intro ho F hF
    obtain ⟨f, rfl⟩ : ∃ f, F = f + 5 := ⟨F - 5, by omega⟩
    simp only [xz_117_11, xy_117_12]
    rw [ho] at hQ
    exact hQ G _ hT hI (ys_Fr.refl _ _) hC
  simp only [xy_117_0 l1, xy_117_1]
  by_cases h0 : x.toInt < 0
  · rw [decide_eq_true h0, cond_true]
    exact out (if_neg (fun q => by omega)) _ (by omega)
  rw [decide_eq_false h0, cond_false]
  simp only [xy_117_2 l1, xz_117_3, xy_117_4, n4]
  by_cases h4 : x.toInt < 4
  · rw [decide_eq_true h4, Bool.not_true, cond_false]
    have hk : x.toInt.toNat < 4 := by omega
    have hin : 0 ≤ x.toInt ∧ x.toInt ≤ 3 := by omega
    obtain ⟨p1, p2, p3⟩ := hC.2 _ hk
    have hA := yr_im hk
    simp only [xy_117_5 l0, xz_117_6, xy_117_7 l1, xk_gfr hT yr_7 yq_7 yq7_1 (yX7_6 hT)]
    rw [xz_117_8, xk_aal hT hin.1 p1]
    simp only [xz_117_9, xy_117_10, xk_gfr hT hA yq_73 yq73_1 p3]
    by_cases hm : (ms x.toInt.toNat).toInt = 0
    · rw [decide_eq_true hm, Bool.not_true, cond_false]
      exact out (if_neg (fun q => q.2 hm)) _ (by omega)
    · rw [decide_eq_false hm, Bool.not_false, cond_true]
      have eB : yBk x s zs ms = zs x.toInt.toNat := if_pos ⟨hin, hm⟩
      rw [eB] at hQ
      simp only [xy_117_13 l0, xz_117_14, xy_117_15 l0, xz_117_16, xy_117_17 l1, xk_gfr hT yr_7 yq_7 yq7_1 (yX7_1 hT), xk_gfr hT yr_7 yq_7 yq7_1 (yX7_6 hT)]
      rw [xz_117_18, xk_aal hT hin.1 p1]
      obtain ⟨us, u1, -⟩ := hT.at yr_10 yq_10
      rw [yq10_1] at u1
      simp only [xy_117_19]
      rw [yl_call1 (a := 76) rfl (yl_rcv u1 (by decide +kernel)) (Nat.le_of_ble_eq_true rfl) (Nat.le_refl 0) (Nat.le_refl 0)]
      refine yC_NI cH cF cL hJ yr_10 hA hT hI (fun G1 T1 I1 F1 s1 k1 => ?_)
      obtain ⟨v, h1, h2⟩ := yR_ty T1 yr_7 yq_7 (i := 5) (T := (2, 40, 0)) (by decide +kernel) rfl
      obtain ⟨j, rfl, hj⟩ := yv_ref h2 rfl
      have ej : yr_of j = 40 := Int.ofNat.inj hj
      simp only [xy_117_20 l0, xz_117_21, xy_117_22, xk_gfr T1 yr_7 yq_7 yq7_1 h1]
      obtain ⟨us, u1, -⟩ := T1.at ej (rfl : yr_row 40 = some _)
      rw [yl_call0 (a := 19) rfl (yl_rcv u1 (by decide +kernel)) (Nat.le_of_ble_eq_true rfl) (Nat.le_refl 0) (Nat.le_refl 0)]
      refine cO G1 [.ref j] E _ T1 I1 ⟨⟨Or.inl rfl, by rw [ej]; rfl⟩, trivial⟩ (fun q hq => by cases hq) (fun r G2 T2 I2 F2 hc => ?_)
      obtain rfl := yl_none hc
      obtain ⟨f, y, b1, b2, b3⟩ := yC_bell T2
      simp only [xy_117_23 l0, xz_117_24, xz_117_25, xz_117_26, xy_117_27, xk_gfr T2 yr_7 yq_7 yq7_1 (yX7_1 T2), xk_gfr T2 yr_10 yq_10 yq10_1 b1, xk_gfr T2 b2 (rfl : yr_row 19 = some _) rfl b3]
      refine hQ G2 y T2 I2 ((F1.mds (by decide +kernel)).trans (F2.mds (by decide +kernel))) ⟨?_, fun k hk' => ?_⟩
      · exact yR_fr F2 rfl (s1 _ p2)
      · obtain ⟨a, b, c⟩ := hC.2 k hk'
        refine ⟨yR_fr F2 rfl (yR_fr F1 rfl a), yR_fr F2 (by rw [yr_im hk']; rfl) ?_, yR_fr F2 (by rw [yr_im hk']; rfl) ?_⟩
        · rw [k1 _ 7 (Or.inr (yr_im hk')) (Or.inl (by omega)) (Or.inl rfl)]; exact b
        · rw [k1 _ 8 (Or.inr (yr_im hk')) (Or.inr rfl) (Or.inr rfl)]; exact c
  · rw [decide_eq_false h4, Bool.not_false, cond_true]
    exact out (if_neg (fun q => by omega)) _ (by omega)
end CS
