/-! summedBy; numberHere's contracts; readsAll of a house -/
theorem xk_lcmp {x y : Int64} {E : xm_R} {k : xm_R → Int → Bool} : xm_cmpL E (.long x) (.long y) k = k E (xm_sgn x.toInt y.toInt) := rfl
theorem yO_call3 {call : xm_C} {G : xm_H} {E : xm_R} {vs st : List Value} {mc ms a r1 r4 : Nat} {nm ds : String} {r3 : ByteArray} {r5 : Option FieldType} {r9 : List xm_E} {k : List Value → xm_H → xm_R → Nat → Nat → Bool} {v1 v2 v3 : Value} (hr : xm_nth xm_mtab a = some (r1, ⟨"StairNewsModel", nm, ds⟩, r3, r4, r5, 3, 0, 0, r9)) (h : yO G vs) (hc : xm_cats st ≤ 8) : xm_call call mc ms a 0 (v3 :: v2 :: v1 :: .ref 344 :: st) G E 0 0 k = call a [.ref 344, v1, v2, v3] G E (fun r G E => k (match r with
    | some v => v :: st
    | none => st) G E 0 0) := by
  unfold xm_call
  rw [hr]
  show (bif Nat.ble (xm_cats st) 8 && xm_rcv 0 "StairNewsModel" G [.ref 344, v1, v2, v3] then call a [.ref 344, v1, v2, v3] G E _ else false) = _
  rw [Nat.ble_eq_true_of_le hc, yO_rcv h]
  rfl
section SB
variable {G0 : xm_H} {d : Nat} {Q : xm_Q} {E : xm_R} {t : Int32}
theorem yW8_sb (hT0 : ys_HT G0) (hI0 : yMI (-1) 0 G0) (ht : 0 ≤ t.toInt ∧ t.toInt ≤ 5) (hQ : ∀ (G' : xm_H) (v : Int64), ys_HT G' → ys_Fr yMV G0 G' → Q (some (.long v)) G' E = true) : ∀ (n : Nat) (G : xm_H) (c : Int32) (lv : xm_L), ys_HT G → ys_Fr yMV G0 G → 0 ≤ c.toInt → c.toInt ≤ 12 → (12 - c.toInt).toNat ≤ n → xm_get lv 0 = some (.ref 344) → xm_get lv 1 = some (.int t) → xm_get lv 2 = some (.int c) → ∀ {F : Nat}, 200 * (n + 1) ≤ F → xm_run (xm_exec (d + 5)) xm_c193 4 0 0 (some .long) Q F (xm_drop 2 xm_c193) lv [] G E 0 0 = true := by
  have n1 : (1 : Int32).toInt = 1 := rfl
  have n2 : (2 : Int32).toInt = 2 := rfl
  have n3 : (3 : Int32).toInt = 3 := rfl
  have n4 : (4 : Int32).toInt = 4 := rfl
  have n48 : (48 : Int32).toInt = 48 := rfl
  have sm : ∀ {G : xm_H}, ys_Fr yMV G0 G → (∀ i, yR G 346 i = yR G0 346 i) ∧ (∀ i, yR G 348 i = yR G0 348 i) ∧ (∀ i, yR G 349 i = yR G0 349 i) := fun hF => ⟨yR_frx hT0 hF (r := 95) rfl yq_95 (fun i => rfl), yR_frx hT0 hF (r := 97) rfl yq_97 (fun i => rfl), yR_frx hT0 hF (r := 98) rfl yq_98 (fun i => rfl)⟩
  obtain ⟨N, hN, N0, N12⟩ := yA_int hT0 (j := 349) (r := 98) (i := t.toInt.toNat) rfl yq_98 (by omega)
  intro n
  induction n with
  | zero =>
    intro G c lv hT hF c0 c12 hn l0 l1 l2 F hFu
    obtain ⟨f, rfl⟩ : ∃ f, F = f + 200 := ⟨F - 200, by omega⟩
    obtain ⟨k346, k348, k349⟩ := sm hF
    have r6 : yR G 344 6 = some (.ref 349) := yM_ref hT (r := 98) (by decide) rfl (by decide)
    have hN1 : yR G 349 t.toInt.toNat = some (.int N) := by rw [k349]; exact hN
    simp only [xy_193_2 l2, xy_193_3 l0, xz_193_4, xy_193_5 l1, xz_193_6, xy_193_7, xk_gf hT r6, xk_ial hT (j := 349) (r := 98) rfl yq_98 rfl ht.1 hN1]
    rw [decide_eq_false (show ¬ c.toInt < N.toInt by omega), Bool.not_false, cond_true]
    simp only [xz_193_57, xy_193_58]
    exact hQ G 0 hT hF
  | succ n ih =>
    intro G c lv hT hF c0 c12 hn l0 l1 l2 F hFu
    obtain ⟨f, rfl⟩ : ∃ f, F = f + 200 := ⟨F - 200, by omega⟩
    obtain ⟨k346, k348, k349⟩ := sm hF
    have r6 : yR G 344 6 = some (.ref 349) := yM_ref hT (r := 98) (by decide) rfl (by decide)
    have r5 : yR G 344 5 = some (.ref 348) := yM_ref hT (r := 97) (by decide) rfl (by decide)
    have hN1 : yR G 349 t.toInt.toNat = some (.int N) := by rw [k349]; exact hN
    simp only [xy_193_2 l2, xy_193_3 l0, xz_193_4, xy_193_5 l1, xz_193_6, xy_193_7, xk_gf hT r6, xk_ial hT (j := 349) (r := 98) rfl yq_98 rfl ht.1 hN1]
    by_cases hlt : c.toInt < N.toInt
    · rw [decide_eq_true hlt, Bool.not_true, cond_false]
      obtain ⟨b0, e0, b1, e1, p1, p2, p3, p4, p5, p6, -⟩ := hI0 t.toInt.toNat (by omega) N hN c.toInt.toNat (by omega)
      have ha : (48 * t + 4 * c : Int32).toInt = 48 * t.toInt + 4 * c.toInt := by
        have i1 : (48 * t : Int32).toInt = 48 * t.toInt := by rw [yk_mul] <;> rw [n48] <;> omega
        have i2 : (4 * c : Int32).toInt = 4 * c.toInt := by rw [yk_mul] <;> rw [n4] <;> omega
        rw [yk_add] <;> rw [i1, i2] <;> omega
      simp only [xz_193_8, xy_193_9 l1, xy_193_10, xz_193_11, xy_193_12 l2, xy_193_13, xy_193_14, xy_193_15]
      generalize (48 * t + 4 * c : Int32) = a at ha ⊢
      have ia1 : (a + 1).toInt = a.toInt + 1 := by rw [yk_add] <;> rw [n1] <;> omega
      have ia2 : (a + 2).toInt = a.toInt + 2 := by rw [yk_add] <;> rw [n2] <;> omega
      have ia3 : (a + 3).toInt = a.toInt + 3 := by rw [yk_add] <;> rw [n3] <;> omega
      have c0' : yR G0 348 a.toInt.toNat = some (.int b0) := by rw [show a.toInt.toNat = 48 * t.toInt.toNat + 4 * c.toInt.toNat by omega]; exact p1
      have c1' : yR G0 348 (a + 1).toInt.toNat = some (.int e0) := by rw [show (a + 1).toInt.toNat = 48 * t.toInt.toNat + 4 * c.toInt.toNat + 1 by omega]; exact p2
      have c2' : yR G0 348 (a + 2).toInt.toNat = some (.int b1) := by rw [show (a + 2).toInt.toNat = 48 * t.toInt.toNat + 4 * c.toInt.toNat + 2 by omega]; exact p3
      have c3' : yR G0 348 (a + 3).toInt.toNat = some (.int e1) := by rw [show (a + 3).toInt.toNat = 48 * t.toInt.toNat + 4 * c.toInt.toNat + 3 by omega]; exact p4
      have l3 : xm_get (xm_set1 lv 3 (.int a)) 3 = some (.int a) := xl_gs1
      replace l0 : xm_get (xm_set1 lv 3 (.int a)) 0 = some (.ref 344) := xl_s1 (by decide) (Or.inl rfl) l0
      replace l1 : xm_get (xm_set1 lv 3 (.int a)) 1 = some (.int t) := xl_s1 (by decide) (Or.inl rfl) l1
      replace l2 : xm_get (xm_set1 lv 3 (.int a)) 2 = some (.int c) := xl_s1 (by decide) (Or.inl rfl) l2
      generalize xm_set1 lv 3 (.int a) = lv1 at l0 l1 l2 l3 ⊢
      have t41 : ∀ (G1 : xm_H) (F : Nat), 60 ≤ F → ys_HT G1 → ys_Fr yMV G0 G1 → xm_run (xm_exec (d + 5)) xm_c193 4 0 0 (some .long) Q F (xm_drop 41 xm_c193) lv1 [] G1 E 0 0 = true := by
        intro G1 F hFu T1 F1
        obtain ⟨f, rfl⟩ : ∃ f, F = f + 60 := ⟨F - 60, by omega⟩
        obtain ⟨j346, j348, j349⟩ := sm F1
        have s5 : yR G1 344 5 = some (.ref 348) := yM_ref T1 (r := 97) (by decide) rfl (by decide)
        have d0 : yR G1 348 a.toInt.toNat = some (.int b0) := by rw [j348]; exact c0'
        have d1 : yR G1 348 (a + 1).toInt.toNat = some (.int e0) := by rw [j348]; exact c1'
        obtain ⟨v1, hM1, -⟩ := yO_of T1
        simp only [xy_193_41 l0, xy_193_42 l1, xy_193_43 l0, xz_193_44, xy_193_45 l3, xz_193_46, xk_gf T1 s5, xk_ial T1 (j := 348) (r := 97) rfl yq_97 rfl (show 0 ≤ a.toInt by omega) d0]
        simp only [xy_193_47 l0, xz_193_48, xy_193_49 l3, xz_193_50, xy_193_51, xz_193_52, xy_193_53, xk_gf T1 s5, xk_ial T1 (j := 348) (r := 97) rfl yq_97 rfl (show 0 ≤ (a + 1).toInt by omega) d1]
        rw [yO_call3 (a := 174) rfl hM1 (Nat.le_of_ble_eq_true rfl)]
        refine yW8_reckons T1 F1 ht (by rw [show yR G1 346 = yR G0 346 from funext j346]; exact p5) (fun G2 v T2 F2 => ?_)
        simp only [xy_193_54]
        exact hQ G2 v T2 F2
      have d2 : yR G 348 (a + 2).toInt.toNat = some (.int b1) := by rw [k348]; exact c2'
      have d3 : yR G 348 (a + 3).toInt.toNat = some (.int e1) := by rw [k348]; exact c3'
      simp only [xy_193_16 l0, xz_193_17, xy_193_18 l3, xz_193_19, xy_193_20, xz_193_21, xy_193_22, xk_gf hT r5, xk_ial hT (j := 348) (r := 97) rfl yq_97 rfl (show 0 ≤ (a + 2).toInt by omega) d2]
      by_cases hb1 : b1.toInt < 0
      · rw [decide_eq_true hb1, cond_true]
        exact t41 G _ (by omega) hT hF
      · rw [decide_eq_false hb1, cond_false]
        obtain ⟨v0, hM0, -⟩ := yO_of hT
        simp only [xy_193_23 l0, xy_193_24 l1, xy_193_25 l0, xz_193_26, xy_193_27 l3, xz_193_28, xy_193_29, xz_193_30, xk_gf hT r5, xk_ial hT (j := 348) (r := 97) rfl yq_97 rfl (show 0 ≤ (a + 2).toInt by omega) d2]
        simp only [xy_193_31 l0, xz_193_32, xy_193_33 l3, xz_193_34, xy_193_35, xz_193_36, xy_193_37, xk_gf hT r5, xk_ial hT (j := 348) (r := 97) rfl yq_97 rfl (show 0 ≤ (a + 3).toInt by omega) d3]
        rw [yO_call3 (a := 174) rfl hM0 (Nat.le_of_ble_eq_true rfl)]
        refine yW8_reckons hT hF ht (by rw [show yR G 346 = yR G0 346 from funext k346]; exact p6 (by omega)) (fun G1 v T1 F1 => ?_)
        simp only [xz_193_38, xz_193_39, xk_lcmp]
        generalize Int32.ofInt (xm_sgn _ _) = z
        simp only [xy_193_40]
        by_cases hz : z.toInt = 0
        · rw [decide_eq_true hz, Bool.not_true, cond_false]
          exact t41 G1 _ (by omega) T1 F1
        · rw [decide_eq_false hz, Bool.not_false, cond_true]
          simp only [xy_193_55 l2, xy_193_56]
          have i3 : (c + Int32.ofInt 1).toInt = c.toInt + 1 := by
            show (c + 1).toInt = _
            rw [yk_add] <;> rw [n1] <;> omega
          exact ih G1 (c + Int32.ofInt 1) _ T1 F1 (by omega) (by omega) (by omega) (xl_s1 (by decide) (Or.inl rfl) l0) (xl_s1 (by decide) (Or.inl rfl) l1) xl_gs1 (by omega)
    · rw [decide_eq_false hlt, Bool.not_false, cond_true]
      simp only [xz_193_57, xy_193_58]
      exact hQ G 0 hT hF
end SB
theorem yc_summed (d : Nat) : yc_ok (yi_Inv yJ) yi_228 (xm_exec (d + 6)) := by
  intro G As Ec Q hT hI hA hF hQ
  match As, hA with
  | [a, b], hA =>
    obtain ⟨j, rfl, hj⟩ := yv_ref hA.1 rfl
    have hj := yr_oneM (Int.ofNat.inj hj)
    subst hj
    obtain ⟨t, rfl, t0, t5⟩ := yv_int hA.2.1 rfl
    have hQ' : ∀ (G' : xm_H) (v : Int64), ys_HT G' → ys_Fr yMV G G' → Q (some (.long v)) G' Ec = true := fun G' v h1 h2 => hQ _ G' h1 ⟨hI.1.fr h1 h2 rfl rfl, hI.2.1.fr h2 (fun i => rfl), h1, yMI_congr (yR_frx hT h2 (r := 95) rfl yq_95 (fun i => rfl)) (yR_frx hT h2 (r := 97) rfl yq_97 (fun i => rfl)) (yR_frx hT h2 (r := 98) rfl yq_98 (fun i => rfl)) hI.2.2.2⟩ h2 ⟨(some yr_topl, []), List.mem_cons_self, ⟨rfl, ys_b64 _⟩, fun q hq => by cases hq⟩
    refine yx_exec (m := 193) rfl rfl (Nat.le_of_ble_eq_true rfl) ?_
    obtain ⟨g, hg⟩ := xn_f
    rw [hg]
    have l0 : xm_get (lv_args 0 [Value.ref 344, .int t]) 0 = some (.ref 344) := rfl
    have l1 : xm_get (lv_args 0 [Value.ref 344, .int t]) 1 = some (.int t) := rfl
    show xm_run (xm_exec (d + 5)) xm_c193 4 0 0 (some .long) Q (g + 40000) (xm_drop 0 xm_c193) (lv_args 0 [.ref 344, .int t]) [] G Ec 0 0 = true
    generalize lv_args 0 [Value.ref 344, .int t] = lv at l0 l1 ⊢
    simp only [xz_193_0, xy_193_1]
    exact yW8_sb hT hI.2.2.2 ⟨t0, t5⟩ hQ' 12 G 0 _ hT (ys_Fr.refl _ _) (by decide) (by decide) (by decide) (xl_s1 (by decide) (Or.inl rfl) l0) (xl_s1 (by decide) (Or.inl rfl) l1) xl_gs1 (by omega)
/-! facts -/
theorem yf_of {G : xm_H} {i : Nat} {T : yT} (h : ys_fact G (.ref 344) [i] T) : ∃ w, yR G 344 i = some w ∧ ys_T T w := by
  obtain ⟨w, h1, h2⟩ := h
  cases hg : xm_hget G 344 with
  | none =>
    unfold ys_walk at h1
    rw [hg] at h1
    cases h1
  | some q =>
    obtain ⟨k, vs⟩ := q
    unfold ys_walk at h1
    rw [hg] at h1
    dsimp only at h1
    cases hv : vs[i]? with
    | none => rw [hv] at h1; cases h1
    | some u =>
      rw [hv] at h1
      dsimp only at h1
      unfold ys_walk at h1
      cases h1
      exact ⟨_, by rw [yR_eq hg]; exact hv, h2⟩
theorem yf_mk {G : xm_H} {i : Nat} {T : yT} {w : Value} (h1 : yR G 344 i = some w) (h2 : ys_T T w) : ys_fact G (.ref 344) [i] T := by
  obtain ⟨k, vs, g1, g2⟩ := yR_inv h1
  refine ⟨w, ?_, h2⟩
  unfold ys_walk
  rw [g1]
  dsimp only
  rw [g2]
  dsimp only
  unfold ys_walk
  rfl
/-- numberHere, by contract -/
theorem yc_num {J : xm_H → Prop} (hJ : yj_ok J) {l u w : Int} (d : Nat) : yc_ok (yi_Inv J) (138, [(2, 93, 0), (0, l, l), (0, w, u)], [], [(some (0, 0, 0), []), (some (0, 1, 1), [(0, [10], (0, l, u))])], [(93, 8), (93, 9), (93, 10)]) (xm_exec (d + 2)) := by
  intro G As Ec Q hT hI hA hF hQ
  match As, hA with
  | [a, b, c], hA =>
    obtain ⟨j, rfl, hj⟩ := yv_ref hA.1 rfl
    have hj := yr_oneM (Int.ofNat.inj hj)
    subst hj
    obtain ⟨lo, rfl, o1, o2⟩ := yv_int hA.2.1 rfl
    obtain ⟨hi, rfl, q1, q2⟩ := yv_int hA.2.2.1 rfl
    dsimp only at o1 o2 q1 q2
    obtain ⟨vs, hM, tb, tt, n, a0, a1, a8, ⟨bs, b1, b1'⟩, b2, b3, b4⟩ := yO_of hT
    refine yO_numx hT b1 b1' b2 a0 a1 b3.2 hM a8 b4.1 b4.2 (fun r G' p1 p2 p3 => ?_)
    have hI' : yi_Inv J G' := yi_nx hJ (fun w hw => by
      have hw : w ∈ ([(93, 8), (93, 9), (93, 10)] : List (Nat × Nat)) := hw
      simp only [List.mem_cons, List.not_mem_nil, or_false] at hw
      rcases hw with rfl | rfl | rfl <;> rfl) p1 p2 hI
    rcases p3 with rfl | ⟨rfl, us, v, n', r1, r2, r3, r4, -⟩
    · exact hQ _ _ p1 hI' p2 ⟨(some (0, 0, 0), []), List.mem_cons_self, ⟨rfl, by decide, by decide⟩, fun q hq => by cases hq⟩
    · refine hQ _ _ p1 hI' p2 ⟨(some (0, 1, 1), [(0, [10], (0, l, u))]), List.mem_cons_of_mem _ List.mem_cons_self, ⟨rfl, by decide, by decide⟩, fun q hq => ?_⟩
      have hq : q ∈ ([(0, [10], (0, l, u))] : List yP) := hq
      rw [List.mem_singleton] at hq
      subst hq
      exact ⟨.ref 344, rfl, yf_mk (w := .int v) (by rw [yR_eq r1.1]; exact r2) ⟨rfl, by show l ≤ v.toInt; omega, by show v.toInt ≤ u; omega⟩⟩
theorem yc_166 {J : xm_H → Prop} (hJ : yj_ok J) (d : Nat) : yc_ok (yi_Inv J) yi_166 (xm_exec (d + 2)) := yc_num hJ d
theorem yc_167 {J : xm_H → Prop} (hJ : yj_ok J) (d : Nat) : yc_ok (yi_Inv J) yi_167 (xm_exec (d + 2)) := yc_num hJ d
theorem yc_168 {J : xm_H → Prop} (hJ : yj_ok J) (d : Nat) : yc_ok (yi_Inv J) yi_168 (xm_exec (d + 2)) := yc_num hJ d
theorem yc_169 {J : xm_H → Prop} (hJ : yj_ok J) (d : Nat) : yc_ok (yi_Inv J) yi_169 (xm_exec (d + 2)) := yc_num hJ d
theorem yc_170 {J : xm_H → Prop} (hJ : yj_ok J) (d : Nat) : yc_ok (yi_Inv J) yi_170 (xm_exec (d + 2)) := yc_num hJ d
