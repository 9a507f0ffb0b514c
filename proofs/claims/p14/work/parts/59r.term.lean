/-! term, sum -/
section PT
variable {G0 : xm_H} {t O dp : Int32} {op : Nat → Option Value} {b h d : Nat} {Q : xm_Q} {E : xm_R}
theorem yS_termb {A m0 : Int} (hA : A ≤ 398) (hF : yFl Q E G0) (hQ : ∀ (G' : xm_H) (L' m' : Int32), yS G0 G' t L' O m' dp op b (h + 1) → L'.toInt + 2 * (60 - m'.toInt) = A → m0 ≤ m'.toInt → Q (some (.int 1)) G' E = true) {G : xm_H} {L m : Int32} {lv : xm_L} (l0 : xm_get lv 0 = some (.ref 344)) (hS : yS G0 G t L O m dp op b (h + 1)) (hL : L.toInt + 2 * (60 - m.toInt) = A) (hm0 : m0 ≤ m.toInt) {g : Nat} (hrec : ∀ (G' : xm_H) (L' m' : Int32) (lv' : xm_L) (F : Nat), g ≤ F → xm_get lv' 0 = some (.ref 344) → yS G0 G' t L' O m' dp op b (h + 1) → L'.toInt + 2 * (60 - m'.toInt) = A → m.toInt + 1 ≤ m'.toInt → xm_run (xm_exec (d + 4)) xm_c146 2 0 0 (some .boolean) Q F (xm_drop 5 xm_c146) lv' [] G' E 0 0 = true) : xm_run (xm_exec (d + 4)) xm_c146 2 0 0 (some .boolean) Q (g + 100) (xm_drop 5 xm_c146) lv [] G E 0 0 = true := by
  have n1 : (1 : Int32).toInt = 1 := rfl
  have n42 : (42 : Int32).toInt = 42 := rfl
  have n47 : (47 : Int32).toInt = 47 := rfl
  have n37 : (37 : Int32).toInt = 37 := rfl
  have t36 : ∀ (G1 : xm_H) (s : Int32) (F : Nat), g + 30 ≤ F → yS G0 G1 t L O m dp op b (h + 1) → yNx G1 → (s = 4 ∨ s = 5 ∨ s = 14) → xm_run (xm_exec (d + 4)) xm_c146 2 0 0 (some .boolean) Q F (xm_drop 36 xm_c146) lv [.int s] G1 E 0 0 = true := by
    intro G1 s F hFu S1 hN hs
    obtain ⟨f, rfl⟩ : ∃ f, F = f + 30 := ⟨F - 30, by omega⟩
    obtain ⟨n, p8, n0, n4⟩ := hN
    simp only [xy_146_36]
    have l1 : xm_get (xm_set1 lv 1 (.int s)) 1 = some (.int s) := xl_gs1
    have l0 : xm_get (xm_set1 lv 1 (.int s)) 0 = some (.ref 344) := xl_s1 (by decide) (Or.inl rfl) l0
    generalize xm_set1 lv 1 (.int s) = lv1 at l0 l1 ⊢
    simp only [xy_146_37 l0, xy_146_38, xz_146_39, xz_146_40, xy_146_41, xk_gf S1.1.1 p8]
    rw [xz_146_42, xk_pf S1.1.1 rfl (by decide)]
    have S2 := S1.inc n0 n4
    generalize yU G1 344 8 (.int (n + 1)) = G2 at S2 ⊢
    obtain ⟨v2, hM2⟩ := S2.obj
    simp only [xy_146_43 l0, xy_146_44]
    rw [yO_call0 (a := 145) rfl hM2 (Nat.le_of_ble_eq_true rfl)]
    refine S2.value (by omega) ?_ (fun G3 L3 m3 e1 e2 S3 => ?_)
    · intro G3 a1 a2 a3
      simp only [xy_146_45, xz_146_46, xy_146_47_0, xy_146_47_1, xi_0, Bool.not_true, cond_false]
      exact hF G3 a1 a2 a3
    · have h3 := S3.2.2.2.2.2.2
      have hm3 := S3.mr
      have hL3 := S3.Lr
      obtain ⟨v3, hM3⟩ := S3.obj
      simp only [xy_146_45, xi_1, Bool.not_false, cond_true]
      simp only [xy_146_48 l0, xy_146_49 l1, xz_146_50, xy_146_51]
      rw [yO_call2 (a := 140) rfl hM3 (Nat.le_of_ble_eq_true rfl)]
      have iL : (L3 + 1).toInt = L3.toInt + 1 := by rw [yk_add] <;> rw [n1] <;> omega
      refine S3.puts (h' := h + 1) (by omega) (yH_bin (n := h) (by rcases hs with rfl | rfl | rfl <;> decide)) (by omega) (fun G4 S4 _ => ?_)
      simp only [xy_146_52]
      exact hrec G4 (L3 + 1) m3 lv1 _ (by omega) l0 S4 (by omega) (by omega)
  have t17 : ∀ (G1 : xm_H) (F : Nat), g + 60 ≤ F → yS G0 G1 t L O m dp op b (h + 1) → yNx G1 → xm_run (xm_exec (d + 4)) xm_c146 2 0 0 (some .boolean) Q F (xm_drop 17 xm_c146) lv [] G1 E 0 0 = true := by
    intro G1 F hFu S1 hN
    obtain ⟨f, rfl⟩ : ∃ f, F = f + 60 := ⟨F - 60, by omega⟩
    obtain ⟨n, p8, n0, n4⟩ := id hN
    obtain ⟨r0, c, hc⟩ := S1.tape n0 n4
    simp only [xy_146_17 l0, xz_146_18, xy_146_19 l0, xz_146_20, xz_146_21, xz_146_22, xy_146_23, xk_gf S1.1.1 r0, xk_gf S1.1.1 p8, hc, n42]
    by_cases e : c.toInt = 42
    · rw [decide_eq_true e, Bool.not_true, cond_false]
      simp only [xz_146_24, xy_146_25]
      exact t36 G1 4 _ (by omega) S1 hN (Or.inl rfl)
    · rw [decide_eq_false e, Bool.not_false, cond_true]
      simp only [xy_146_26 l0, xz_146_27, xy_146_28 l0, xz_146_29, xz_146_30, xz_146_31, xy_146_32, xk_gf S1.1.1 r0, xk_gf S1.1.1 p8, hc, n47]
      by_cases e' : c.toInt = 47
      · rw [decide_eq_true e', Bool.not_true, cond_false]
        simp only [xz_146_33, xy_146_34]
        exact t36 G1 5 _ (by omega) S1 hN (Or.inr (Or.inl rfl))
      · rw [decide_eq_false e', Bool.not_false, cond_true]
        simp only [xz_146_35]
        exact t36 G1 14 _ (by omega) S1 hN (Or.inr (Or.inr rfl))
  obtain ⟨v0, hM0⟩ := hS.obj
  simp only [xy_146_5 l0, xy_146_6]
  rw [yO_call0 (a := 132) rfl hM0 (Nat.le_of_ble_eq_true rfl)]
  refine hS.see (fun G1 r1 S1 q1 => ?_)
  obtain ⟨v1, hM1⟩ := S1.obj
  simp only [xz_146_7, xy_146_8, n42]
  by_cases e1 : r1.toInt = 42
  · rw [decide_eq_true e1, cond_true]
    exact t17 G1 _ (by omega) S1 (q1.resolve_left (by omega))
  rw [decide_eq_false e1, cond_false]
  simp only [xy_146_9 l0, xy_146_10]
  rw [yO_call0 (a := 132) rfl hM1 (Nat.le_of_ble_eq_true rfl)]
  refine S1.see (fun G2 r2 S2 q2 => ?_)
  obtain ⟨v2, hM2⟩ := S2.obj
  simp only [xz_146_11, xy_146_12, n47]
  by_cases e2 : r2.toInt = 47
  · rw [decide_eq_true e2, cond_true]
    exact t17 G2 _ (by omega) S2 (q2.resolve_left (by omega))
  rw [decide_eq_false e2, cond_false]
  simp only [xy_146_13 l0, xy_146_14]
  rw [yO_call0 (a := 132) rfl hM2 (Nat.le_of_ble_eq_true rfl)]
  refine S2.see (fun G3 r3 S3 q3 => ?_)
  simp only [xz_146_15, xy_146_16, n37]
  by_cases e3 : r3.toInt = 37
  · rw [decide_eq_true e3, Bool.not_true, cond_false]
    exact t17 G3 _ (by omega) S3 (q3.resolve_left (by omega))
  rw [decide_eq_false e3, Bool.not_false, cond_true]
  simp only [xz_146_53, xy_146_54_0, xy_146_54_1]
  exact hQ G3 L m S3 hL hm0
theorem yS_termr {A m0 : Int} (hA : A ≤ 398) (hF : yFl Q E G0) (hQ : ∀ (G' : xm_H) (L' m' : Int32), yS G0 G' t L' O m' dp op b (h + 1) → L'.toInt + 2 * (60 - m'.toInt) = A → m0 ≤ m'.toInt → Q (some (.int 1)) G' E = true) : ∀ (n : Nat) (G : xm_H) (L m : Int32) (lv : xm_L), xm_get lv 0 = some (.ref 344) → yS G0 G t L O m dp op b (h + 1) → L.toInt + 2 * (60 - m.toInt) = A → m0 ≤ m.toInt → (60 - m.toInt).toNat ≤ n → ∀ {F : Nat}, 100 * (n + 1) ≤ F → xm_run (xm_exec (d + 4)) xm_c146 2 0 0 (some .boolean) Q F (xm_drop 5 xm_c146) lv [] G E 0 0 = true := by
  intro n
  induction n with
  | zero =>
    intro G L m lv l0 hS hL hm0 hn F hFu
    obtain ⟨g, rfl⟩ : ∃ g, F = g + 100 := ⟨F - 100, by omega⟩
    exact yS_termb hA hF hQ l0 hS hL hm0 (fun G' L' m' lv' F' hg l0' S' e1 e2 => by have := S'.mr; omega)
  | succ n ih =>
    intro G L m lv l0 hS hL hm0 hn F hFu
    obtain ⟨g, rfl⟩ : ∃ g, F = g + 100 := ⟨F - 100, by omega⟩
    exact yS_termb hA hF hQ l0 hS hL hm0 (fun G' L' m' lv' F' hg l0' S' e1 e2 => ih G' L' m' lv' l0' S' e1 (by omega) (by omega) (by omega))
theorem yS.term {G : xm_H} {L m : Int32} (hS : yS G0 G t L O m dp op b h) (hA : L.toInt + 2 * (60 - m.toInt) ≤ 399) (hF : yFl Q E G0) (hQ : ∀ (G' : xm_H) (L' m' : Int32), L'.toInt + 2 * (60 - m'.toInt) = L.toInt + 2 * (60 - m.toInt) - 1 → m.toInt + 1 ≤ m'.toInt → yS G0 G' t L' O m' dp op b (h + 1) → Q (some (.int 1)) G' E = true) : xm_exec (d + 5) 146 [.ref 344] G E Q = true := by
  refine yx_exec (m := 146) rfl rfl (Nat.le_of_ble_eq_true rfl) ?_
  obtain ⟨g, hg⟩ := xn_f
  rw [hg]
  have l0 : xm_get (lv_args 0 [Value.ref 344]) 0 = some (.ref 344) := rfl
  show xm_run (xm_exec (d + 4)) xm_c146 2 0 0 (some .boolean) Q (g + 40000) (xm_drop 0 xm_c146) (lv_args 0 [.ref 344]) [] G E 0 0 = true
  obtain ⟨v0, hM0⟩ := hS.obj
  simp only [xy_146_0 l0, xy_146_1]
  rw [yO_call0 (a := 145) rfl hM0 (Nat.le_of_ble_eq_true rfl)]
  refine hS.value hA ?_ (fun G1 L1 m1 e1 e2 S1 => ?_)
  · intro G3 a1 a2 a3
    simp only [xy_146_2, xz_146_3, xy_146_4_0, xy_146_4_1, xi_0, Bool.not_true, cond_false]
    exact hF G3 a1 a2 a3
  · simp only [xy_146_2, xi_1, Bool.not_false, cond_true]
    have hm1 := S1.mr
    exact yS_termr (A := L.toInt + 2 * (60 - m.toInt) - 1) (m0 := m.toInt + 1) (by omega) hF (fun G' L' m' S' e3 e4 => hQ G' L' m' e3 e4 S') 60 G1 L1 m1 _ l0 S1 (by omega) (by omega) (by omega) (by omega)
/-! sum -/
theorem yS_sumb {A m0 : Int} (hA : A ≤ 398) (hF : yFl Q E G0) (hQ : ∀ (G' : xm_H) (L' m' : Int32), yS G0 G' t L' O m' dp op b (h + 1) → L'.toInt + 2 * (60 - m'.toInt) = A → m0 ≤ m'.toInt → Q (some (.int 1)) G' E = true) {G : xm_H} {L m : Int32} {lv : xm_L} (l0 : xm_get lv 0 = some (.ref 344)) (hS : yS G0 G t L O m dp op b (h + 1)) (hL : L.toInt + 2 * (60 - m.toInt) = A) (hm0 : m0 ≤ m.toInt) {g : Nat} (hrec : ∀ (G' : xm_H) (L' m' : Int32) (lv' : xm_L) (F : Nat), g ≤ F → xm_get lv' 0 = some (.ref 344) → yS G0 G' t L' O m' dp op b (h + 1) → L'.toInt + 2 * (60 - m'.toInt) = A → m.toInt + 1 ≤ m'.toInt → xm_run (xm_exec (d + 5)) xm_c147 2 0 0 (some .boolean) Q F (xm_drop 5 xm_c147) lv' [] G' E 0 0 = true) : xm_run (xm_exec (d + 5)) xm_c147 2 0 0 (some .boolean) Q (g + 100) (xm_drop 5 xm_c147) lv [] G E 0 0 = true := by
  have n1 : (1 : Int32).toInt = 1 := rfl
  have n43 : (43 : Int32).toInt = 43 := rfl
  have n45 : (45 : Int32).toInt = 45 := rfl
  have t23 : ∀ (G1 : xm_H) (s : Int32) (F : Nat), g + 30 ≤ F → yS G0 G1 t L O m dp op b (h + 1) → yNx G1 → (s = 2 ∨ s = 3) → xm_run (xm_exec (d + 5)) xm_c147 2 0 0 (some .boolean) Q F (xm_drop 23 xm_c147) lv [.int s] G1 E 0 0 = true := by
    intro G1 s F hFu S1 hN hs
    obtain ⟨f, rfl⟩ : ∃ f, F = f + 30 := ⟨F - 30, by omega⟩
    obtain ⟨n, p8, n0, n4⟩ := hN
    simp only [xy_147_23]
    have l1 : xm_get (xm_set1 lv 1 (.int s)) 1 = some (.int s) := xl_gs1
    have l0 : xm_get (xm_set1 lv 1 (.int s)) 0 = some (.ref 344) := xl_s1 (by decide) (Or.inl rfl) l0
    generalize xm_set1 lv 1 (.int s) = lv1 at l0 l1 ⊢
    simp only [xy_147_24 l0, xy_147_25, xz_147_26, xz_147_27, xy_147_28, xk_gf S1.1.1 p8]
    rw [xz_147_29, xk_pf S1.1.1 rfl (by decide)]
    have S2 := S1.inc n0 n4
    generalize yU G1 344 8 (.int (n + 1)) = G2 at S2 ⊢
    obtain ⟨v2, hM2⟩ := S2.obj
    simp only [xy_147_30 l0, xy_147_31]
    rw [yO_call0 (a := 146) rfl hM2 (Nat.le_of_ble_eq_true rfl)]
    refine S2.term (by omega) ?_ (fun G3 L3 m3 e1 e2 S3 => ?_)
    · intro G3 a1 a2 a3
      simp only [xy_147_32, xz_147_33, xy_147_34_0, xy_147_34_1, xi_0, Bool.not_true, cond_false]
      exact hF G3 a1 a2 a3
    · have h3 := S3.2.2.2.2.2.2
      have hm3 := S3.mr
      have hL3 := S3.Lr
      obtain ⟨v3, hM3⟩ := S3.obj
      simp only [xy_147_32, xi_1, Bool.not_false, cond_true]
      simp only [xy_147_35 l0, xy_147_36 l1, xz_147_37, xy_147_38]
      rw [yO_call2 (a := 140) rfl hM3 (Nat.le_of_ble_eq_true rfl)]
      have iL : (L3 + 1).toInt = L3.toInt + 1 := by rw [yk_add] <;> rw [n1] <;> omega
      refine S3.puts (h' := h + 1) (by omega) (yH_bin (n := h) (by rcases hs with rfl | rfl <;> decide)) (by omega) (fun G4 S4 _ => ?_)
      simp only [xy_147_39]
      exact hrec G4 (L3 + 1) m3 lv1 _ (by omega) l0 S4 (by omega) (by omega)
  have t13 : ∀ (G1 : xm_H) (F : Nat), g + 60 ≤ F → yS G0 G1 t L O m dp op b (h + 1) → yNx G1 → xm_run (xm_exec (d + 5)) xm_c147 2 0 0 (some .boolean) Q F (xm_drop 13 xm_c147) lv [] G1 E 0 0 = true := by
    intro G1 F hFu S1 hN
    obtain ⟨f, rfl⟩ : ∃ f, F = f + 60 := ⟨F - 60, by omega⟩
    obtain ⟨n, p8, n0, n4⟩ := id hN
    obtain ⟨r0, c, hc⟩ := S1.tape n0 n4
    simp only [xy_147_13 l0, xz_147_14, xy_147_15 l0, xz_147_16, xz_147_17, xz_147_18, xy_147_19, xk_gf S1.1.1 r0, xk_gf S1.1.1 p8, hc, n43]
    by_cases e : c.toInt = 43
    · rw [decide_eq_true e, Bool.not_true, cond_false]
      simp only [xz_147_20, xy_147_21]
      exact t23 G1 2 _ (by omega) S1 hN (Or.inl rfl)
    · rw [decide_eq_false e, Bool.not_false, cond_true]
      simp only [xz_147_22]
      exact t23 G1 3 _ (by omega) S1 hN (Or.inr rfl)
  obtain ⟨v0, hM0⟩ := hS.obj
  simp only [xy_147_5 l0, xy_147_6]
  rw [yO_call0 (a := 132) rfl hM0 (Nat.le_of_ble_eq_true rfl)]
  refine hS.see (fun G1 r1 S1 q1 => ?_)
  obtain ⟨v1, hM1⟩ := S1.obj
  simp only [xz_147_7, xy_147_8, n43]
  by_cases e1 : r1.toInt = 43
  · rw [decide_eq_true e1, cond_true]
    exact t13 G1 _ (by omega) S1 (q1.resolve_left (by omega))
  rw [decide_eq_false e1, cond_false]
  simp only [xy_147_9 l0, xy_147_10]
  rw [yO_call0 (a := 132) rfl hM1 (Nat.le_of_ble_eq_true rfl)]
  refine S1.see (fun G3 r3 S3 q3 => ?_)
  simp only [xz_147_11, xy_147_12, n45]
  by_cases e3 : r3.toInt = 45
  · rw [decide_eq_true e3, Bool.not_true, cond_false]
    exact t13 G3 _ (by omega) S3 (q3.resolve_left (by omega))
  rw [decide_eq_false e3, Bool.not_false, cond_true]
  simp only [xz_147_40, xy_147_41_0, xy_147_41_1]
  exact hQ G3 L m S3 hL hm0
theorem yS_sumr {A m0 : Int} (hA : A ≤ 398) (hF : yFl Q E G0) (hQ : ∀ (G' : xm_H) (L' m' : Int32), yS G0 G' t L' O m' dp op b (h + 1) → L'.toInt + 2 * (60 - m'.toInt) = A → m0 ≤ m'.toInt → Q (some (.int 1)) G' E = true) : ∀ (n : Nat) (G : xm_H) (L m : Int32) (lv : xm_L), xm_get lv 0 = some (.ref 344) → yS G0 G t L O m dp op b (h + 1) → L.toInt + 2 * (60 - m.toInt) = A → m0 ≤ m.toInt → (60 - m.toInt).toNat ≤ n → ∀ {F : Nat}, 100 * (n + 1) ≤ F → xm_run (xm_exec (d + 5)) xm_c147 2 0 0 (some .boolean) Q F (xm_drop 5 xm_c147) lv [] G E 0 0 = true := by
  intro n
  induction n with
  | zero =>
    intro G L m lv l0 hS hL hm0 hn F hFu
    obtain ⟨g, rfl⟩ : ∃ g, F = g + 100 := ⟨F - 100, by omega⟩
    exact yS_sumb hA hF hQ l0 hS hL hm0 (fun G' L' m' lv' F' hg l0' S' e1 e2 => by have := S'.mr; omega)
  | succ n ih =>
    intro G L m lv l0 hS hL hm0 hn F hFu
    obtain ⟨g, rfl⟩ : ∃ g, F = g + 100 := ⟨F - 100, by omega⟩
    exact yS_sumb hA hF hQ l0 hS hL hm0 (fun G' L' m' lv' F' hg l0' S' e1 e2 => ih G' L' m' lv' l0' S' e1 (by omega) (by omega) (by omega))
theorem yS.sum {G : xm_H} {L m : Int32} (hS : yS G0 G t L O m dp op b h) (hA : L.toInt + 2 * (60 - m.toInt) ≤ 399) (hF : yFl Q E G0) (hQ : ∀ (G' : xm_H) (L' m' : Int32), L'.toInt + 2 * (60 - m'.toInt) = L.toInt + 2 * (60 - m.toInt) - 1 → m.toInt + 1 ≤ m'.toInt → yS G0 G' t L' O m' dp op b (h + 1) → Q (some (.int 1)) G' E = true) : xm_exec (d + 6) 147 [.ref 344] G E Q = true := by
  refine yx_exec (m := 147) rfl rfl (Nat.le_of_ble_eq_true rfl) ?_
  obtain ⟨g, hg⟩ := xn_f
  rw [hg]
  have l0 : xm_get (lv_args 0 [Value.ref 344]) 0 = some (.ref 344) := rfl
  show xm_run (xm_exec (d + 5)) xm_c147 2 0 0 (some .boolean) Q (g + 40000) (xm_drop 0 xm_c147) (lv_args 0 [.ref 344]) [] G E 0 0 = true
  obtain ⟨v0, hM0⟩ := hS.obj
  simp only [xy_147_0 l0, xy_147_1]
  rw [yO_call0 (a := 146) rfl hM0 (Nat.le_of_ble_eq_true rfl)]
  refine hS.term hA ?_ (fun G1 L1 m1 e1 e2 S1 => ?_)
  · intro G3 a1 a2 a3
    simp only [xy_147_2, xz_147_3, xy_147_4_0, xy_147_4_1, xi_0, Bool.not_true, cond_false]
    exact hF G3 a1 a2 a3
  · simp only [xy_147_2, xi_1, Bool.not_false, cond_true]
    have hm1 := S1.mr
    exact yS_sumr (A := L.toInt + 2 * (60 - m.toInt) - 1) (m0 := m.toInt + 1) (by omega) hF (fun G' L' m' S' e3 e4 => hQ G' L' m' e3 e4 S') 60 G1 L1 m1 _ l0 S1 (by omega) (by omega) (by omega) (by omega)
end PT
