/-! takesWord, isTellHere -/
def yMR : yM := [(93, 1), (93, 8), (93, 9), (93, 10), (93, 12), (93, 13), (93, 14), (93, 16), (95, 100000), (96, 100000), (97, 100000), (98, 100000), (100, 100000)]
theorem yMD_MR : ym_mds yMD yMR = true := by decide +kernel
theorem y97_MR : ym_mds [(97, 100000)] yMR = true := by decide +kernel
theorem y98_MR : ym_mds [(98, 100000)] yMR = true := by decide +kernel
theorem yOk.mv {f g : Nat → Option Value} {t : Nat} {b e : Int32} (h : yOk f t b e) (hg : ∀ i : Nat, (i : Int) < 400 * t + e.toInt → g i = f i) : yOk g t b e := by
  obtain ⟨q1, q2, q3, hh, q4⟩ := h
  refine ⟨q1, q2, q3, hh, ?_⟩
  rw [← q4]
  exact yHs_congr (fun i i1 i2 => hg i (by omega))
section TW
variable {G0 G : xm_H} {t L O m dp : Int32} {op : Nat → Option Value} {b h d : Nat} {Q : xm_Q} {E : xm_R}
theorem yS.takes (hS : yS G0 G t L O m dp op b h) {w : Int64} (hQ : ∀ (G' : xm_H) (r : Int32), yS G0 G' t L O m dp op b h → (r = 0 ∨ r = 1) → Q (some (.int r)) G' E = true) : xm_exec (d + 3) 137 [.ref 344, .long w] G E Q = true := by
  refine yx_exec (m := 137) rfl rfl (Nat.le_of_ble_eq_true rfl) ?_
  obtain ⟨g, hg⟩ := xn_f
  rw [hg]
  have l0 : xm_get (lv_args 0 [Value.ref 344, .long w]) 0 = some (.ref 344) := rfl
  have l1 : xm_get (lv_args 0 [Value.ref 344, .long w]) 1 = some (.long w) := rfl
  show xm_run (xm_exec (d + 2)) xm_c137 3 0 0 (some .boolean) Q (g + 40000) (xm_drop 0 xm_c137) (lv_args 0 [.ref 344, .long w]) [] G E 0 0 = true
  obtain ⟨v0, hM0⟩ := hS.obj
  simp only [xy_137_0 l0, xy_137_1 l1, xy_137_2]
  rw [yO_call1 (a := 135) rfl hM0 (Nat.le_of_ble_eq_true rfl)]
  refine hS.isw (fun G1 r S1 hr => ?_)
  obtain ⟨v1, hM1⟩ := S1.obj
  rcases hr with rfl | rfl
  · simp only [xy_137_3, xz_137_4, xy_137_5_0, xy_137_5_1, xi_0, Bool.not_true, cond_false]
    exact hQ G1 0 S1 (Or.inl rfl)
  · simp only [xy_137_3, xi_1, Bool.not_false, cond_true]
    simp only [xy_137_6 l0, xy_137_7]
    rw [yO_call0 (a := 136) rfl hM1 (Nat.le_of_ble_eq_true rfl)]
    refine S1.pass (fun G2 S2 => ?_)
    simp only [xz_137_8, xy_137_9_0, xy_137_9_1]
    exact hQ G2 1 S2 (Or.inr rfl)
theorem yS.re (hS : yS G0 G t L O m dp op b h) : yS G0 G t L O m dp op L.toInt.toNat 0 := by
  have hL := hS.Lr
  have hm := hS.mr
  obtain ⟨a, c, e, f1, f2, f3, f4⟩ := hS
  refine ⟨a, c, e, f1, by omega, ?_, by omega⟩
  rw [Nat.sub_self]
  rfl
theorem yS.keep (hT : ys_HT G0) (hS : yS G0 G t L O m dp op b h) : (∀ i, yR G 348 i = yR G0 348 i) ∧ (∀ i, yR G 349 i = yR G0 349 i) ∧ (∀ v, yR G0 344 14 = some v → yR G 344 14 = some v) := by
  have hF := hS.1.2.1.1
  exact ⟨yR_frx hT hF (r := 97) rfl yq_97 (fun i => rfl), yR_frx hT hF (r := 98) rfl yq_98 (fun i => rfl), fun v hv => yR_fr hF rfl hv⟩
/-- a cell of the clause under way is written -/
theorem yS.cl (hS : yS G0 G t L O m dp op b h) {n : Int32} (hn : yR G 349 t.toInt.toNat = some (.int n)) (h12 : n.toInt < 12) {i : Nat} (i1 : 48 * t.toInt + 4 * n.toInt ≤ i) (i2 : (i : Int) < 48 * t.toInt + 4 * n.toInt + 4) {w : Int32} (w1 : -1 ≤ w.toInt) (w2 : w.toInt ≤ 400) : yS (yU G 348 i (.int w)) (yU G 348 i (.int w)) t L O m dp op b h ∧ ys_Fr yMR G (yU G 348 i (.int w)) ∧ (∀ j i' : Nat, j ≠ 348 ∨ i' ≠ i → yR (yU G 348 i (.int w)) j i' = yR G j i') ∧ yR (yU G 348 i (.int w)) 348 i = some (.int w) := by
  obtain ⟨⟨a1, a2, a3, a4, a5⟩, ⟨c1, c2, c3, c4⟩, ⟨e1, e2⟩, f1, f2, f3, f4⟩ := hS
  obtain ⟨nn, hn', n0, -⟩ := yA_int a1 (j := 349) (r := 98) (i := t.toInt.toNat) rfl yq_98 (by omega)
  rw [hn] at hn'
  cases hn'
  have hi : i < 288 := by omega
  obtain ⟨x1, x2⟩ := yU_HT (md := [(97, 100000)]) a1 (j := 348) (i := i) (w := .int w) (r := 97) rfl yq_97 hi yv_one ⟨rfl, w1, w2⟩ (yf_mod (by simp))
  have u : ∀ j i' : Nat, j ≠ 348 ∨ i' ≠ i → yR (yU G 348 i (.int w)) j i' = yR G j i' := fun j i' hj => yU_miss hj
  have hit : yR (yU G 348 i (.int w)) 348 i = some (.int w) := by
    obtain ⟨z, z1, -⟩ := yA_int a1 (j := 348) (r := 97) (i := i) rfl yq_97 hi
    exact yU_hit z1
  generalize yU G 348 i (.int w) = G1 at x1 x2 u hit ⊢
  have e1' : yR G1 347 t.toInt.toNat = some (.int L) := by rw [u _ _ (Or.inl (by decide))]; exact e1
  have k346 : yR G1 346 = yR G 346 := funext (fun i => u _ _ (Or.inl (by decide)))
  refine ⟨⟨⟨x1, yFm.refl e1', a3.fr x1 x2 rfl rfl, a4.fr x2 (fun i => rfl), ?_⟩, ⟨?_, ?_, ?_, ?_⟩, ⟨e1', ?_⟩, f1, f2, ?_, f4⟩, x2.mds y97_MR, u, hit⟩
  · intro t' ht n' hn' c hc
    rw [u _ _ (Or.inl (by decide))] at hn'
    obtain ⟨b0, e0, b1, e1, p1, p2, p3, p4, p5, p6, p7⟩ := a5 t' ht n' hn' c hc
    obtain ⟨nn, hn'', n0', n12⟩ := yA_int a1 (j := 349) (r := 98) (i := t') rfl yq_98 ht
    rw [hn'] at hn''
    cases hn''
    have far : ∀ k : Nat, k < 4 → 48 * t' + 4 * c + k ≠ i := by
      intro k hk
      by_cases e : t' = t.toInt.toNat
      · subst e
        rw [hn] at hn'
        cases hn'
        omega
      · omega
    rw [k346]
    refine ⟨b0, e0, b1, e1, ?_, ?_, ?_, ?_, p5, p6, p7⟩
    · rw [u _ _ (Or.inr (show 48 * t' + 4 * c ≠ i from far 0 (by omega)))]; exact p1
    · rw [u _ _ (Or.inr (far 1 (by omega)))]; exact p2
    · rw [u _ _ (Or.inr (far 2 (by omega)))]; exact p3
    · rw [u _ _ (Or.inr (far 3 (by omega)))]; exact p4
  · rw [u _ _ (Or.inl (by decide))]; exact c1
  · rw [u _ _ (Or.inl (by decide))]; exact c2
  · rw [u _ _ (Or.inl (by decide))]; exact c3
  · rw [u _ _ (Or.inl (by decide))]; exact c4
  · rw [← e2]; exact funext (fun i => u _ _ (Or.inl (by decide)))
  · rw [k346]; exact f3
end TW
/-- a row more -/
theorem yMI_new {t L n : Int32} {G : xm_H} {b0 e0 b1 e1 : Int32} (ht : 0 ≤ t.toInt) (hn : yR G 349 t.toInt.toNat = some (.int n)) (hn1 : (n + 1).toInt = n.toInt + 1) (hn0 : 0 ≤ n.toInt) (h : yMI t.toInt L.toInt G) (p1 : yR G 348 (48 * t.toInt.toNat + 4 * n.toInt.toNat) = some (.int b0)) (p2 : yR G 348 (48 * t.toInt.toNat + 4 * n.toInt.toNat + 1) = some (.int e0)) (p3 : yR G 348 (48 * t.toInt.toNat + 4 * n.toInt.toNat + 2) = some (.int b1)) (p4 : yR G 348 (48 * t.toInt.toNat + 4 * n.toInt.toNat + 3) = some (.int e1)) (p5 : yOk (yR G 346) t.toInt.toNat b0 e0) (p6 : 0 ≤ b1.toInt → yOk (yR G 346) t.toInt.toNat b1 e1) (q1 : e0.toInt ≤ L.toInt) (q2 : 0 ≤ b1.toInt → e1.toInt ≤ L.toInt) : yMI t.toInt L.toInt (yU G 349 t.toInt.toNat (.int (n + 1))) := by
  intro t' ht' n' hn' c hc
  have u : ∀ j i' : Nat, j ≠ 349 ∨ i' ≠ t.toInt.toNat → yR (yU G 349 t.toInt.toNat (.int (n + 1))) j i' = yR G j i' := fun j i' hj => yU_miss hj
  have hit := yU_hit (w := .int (n + 1)) hn
  generalize yU G 349 t.toInt.toNat (.int (n + 1)) = G1 at u hit hn' ⊢
  have k346 : yR G1 346 = yR G 346 := funext (fun i => u _ _ (Or.inl (by decide)))
  have k348 : yR G1 348 = yR G 348 := funext (fun i => u _ _ (Or.inl (by decide)))
  rw [k346, k348]
  by_cases e : t' = t.toInt.toNat
  · subst e
    rw [hit] at hn'
    cases hn'
    by_cases ec : c = n.toInt.toNat
    · subst ec
      exact ⟨b0, e0, b1, e1, p1, p2, p3, p4, p5, p6, fun _ => ⟨q1, q2⟩⟩
    · exact h _ ht' n hn c (by omega)
  · rw [u _ _ (Or.inr e)] at hn'
    exact h t' ht' n' hn' c hc
/-- the state between clauses: text t, its code's length L, made m, n clauses -/
def yK (G0 G : xm_H) (t L m n : Int32) : Prop := (ys_HT G ∧ ys_Fr yMR G0 G ∧ yi_TI G ∧ yi_CI G ∧ yMI t.toInt L.toInt G) ∧ (yR G 344 11 = some (.int t) ∧ yR G 344 12 = some (.int m)) ∧ (yR G 347 t.toInt.toNat = some (.int L) ∧ yR G 349 t.toInt.toNat = some (.int n)) ∧ (0 ≤ t.toInt ∧ t.toInt ≤ 5) ∧ L.toInt + 5 * (60 - m.toInt) ≤ 300
def yFL (Q : xm_Q) (E : xm_R) (G0 : xm_H) : Prop := ∀ G' : xm_H, ys_HT G' → yi_Inv yJ G' → ys_Fr yMR G0 G' → Q (some (.int 0)) G' E = true
section TK
variable {G0 G : xm_H} {t L m n : Int32} {d : Nat} {Q : xm_Q} {E : xm_R}
theorem yK.s (h : yK G0 G t L m n) : ∃ (O dp : Int32) (op : Nat → Option Value), yS G G t L O m dp op L.toInt.toNat 0 := by
  obtain ⟨⟨a1, a2, a3, a4, a5⟩, ⟨c1, c2⟩, ⟨e1, e2⟩, f1, f2⟩ := h
  obtain ⟨O, hO, -⟩ := yM_int a1 (i := 16) (lo := 0) (hi := 400) (by decide) rfl
  obtain ⟨dp, hd, -⟩ := yM_int a1 (i := 13) (lo := -2147483648) (hi := 2147483647) (by decide) rfl
  obtain ⟨L', hL', l0, l4⟩ := yA_int a1 (j := 347) (r := 96) (i := t.toInt.toNat) rfl yq_96 (by omega)
  rw [e1] at hL'
  cases hL'
  have hm := yM_intx a1 (i := 12) (lo := 0) (hi := 60) c2 (by decide) rfl
  refine ⟨O, dp, yR G 351, ⟨a1, yFm.refl e1, a3, a4, a5⟩, ⟨c1, c2, hd, hO⟩, ⟨e1, rfl⟩, f1, by omega, ?_, by omega⟩
  rw [Nat.sub_self]
  rfl
theorem yK.nr (h : yK G0 G t L m n) : 0 ≤ n.toInt ∧ n.toInt ≤ 12 := by
  have hf := h.2.2.2.1
  obtain ⟨n', hn', n0, n4⟩ := yA_int h.1.1 (j := 349) (r := 98) (i := t.toInt.toNat) rfl yq_98 (by omega)
  rw [h.2.2.1.2] at hn'
  cases hn'
  exact ⟨n0, n4⟩
theorem yK.tell (hK : yK G0 G t L m n) (h12 : n.toInt < 12) {ln : Value} (hl : yR G 344 14 = some ln) (hF : yFL Q E G0) (hQ : ∀ (G' : xm_H) (L' m' : Int32), yK G0 G' t L' m' (n + 1) → yR G' 344 14 = some ln → Q (some (.int 1)) G' E = true) : xm_exec (d + 10) 153 [.ref 344] G E Q = true := by
  have hn0 := hK.nr
  obtain ⟨O, dp, op, S0⟩ := hK.s
  obtain ⟨⟨a1, a2, -, -, -⟩, -, ⟨-, hn⟩, f1, f2⟩ := hK
  have hLr := S0.Lr
  have hmr := S0.mr
  have m1 : (1 : Int32).toInt = 1 := rfl
  have m2 : (2 : Int32).toInt = 2 := rfl
  have m3 : (3 : Int32).toInt = 3 := rfl
  have m4 : (4 : Int32).toInt = 4 := rfl
  have m48 : (48 : Int32).toInt = 48 := rfl
  have mm : (-1 : Int32).toInt = -1 := rfl
  have in1 : (n + 1).toInt = n.toInt + 1 := by rw [yk_add] <;> rw [m1] <;> omega
  refine yx_exec (m := 153) rfl rfl (Nat.le_of_ble_eq_true rfl) ?_
  obtain ⟨g, hg⟩ := xn_f
  rw [hg]
  have l0 : xm_get (lv_args 0 [Value.ref 344]) 0 = some (.ref 344) := rfl
  show xm_run (xm_exec (d + 9)) xm_c153 2 0 0 (some .boolean) Q (g + 40000) (xm_drop 0 xm_c153) (lv_args 0 [.ref 344]) [] G E 0 0 = true
  generalize lv_args 0 [Value.ref 344] = lv0 at l0 ⊢
  obtain ⟨v0, hM0⟩ := S0.obj
  simp only [xy_153_0 l0, xy_153_1]
  rw [yO_call0 (a := 136) rfl hM0 (Nat.le_of_ble_eq_true rfl)]
  refine S0.pass (fun G1 S1 => ?_)
  obtain ⟨k1a, k1b, k1c⟩ := S1.keep a1
  have hn1 : yR G1 349 t.toInt.toNat = some (.int n) := by rw [k1b]; exact hn
  have fr1 : ys_Fr yMR G0 G1 := a2.trans (S1.1.2.1.1.mds yMD_MR)
  simp only [xz_153_2, xy_153_3 l0, xz_153_4, xy_153_5, xz_153_6, xy_153_7 l0, xz_153_8, xy_153_9 l0, xz_153_10, xz_153_11, xy_153_12, xy_153_13, xy_153_14, xk_gf S1.1.1 S1.2.1.1, xk_gf S1.1.1 S1.refs.2.2.2.1, xk_ial S1.1.1 (j := 349) (r := 98) rfl yq_98 rfl f1.1 hn1]
  have ha : (48 * t + 4 * n : Int32).toInt = 48 * t.toInt + 4 * n.toInt := by
    have i1 : (48 * t : Int32).toInt = 48 * t.toInt := by rw [yk_mul] <;> rw [m48] <;> omega
    have i2 : (4 * n : Int32).toInt = 4 * n.toInt := by rw [yk_mul] <;> rw [m4] <;> omega
    rw [yk_add] <;> rw [i1, i2] <;> omega
  generalize (48 * t + 4 * n : Int32) = a at ha ⊢
  have ia1 : (a + 1).toInt = a.toInt + 1 := by rw [yk_add] <;> rw [m1] <;> omega
  have ia2 : (a + 2).toInt = a.toInt + 2 := by rw [yk_add] <;> rw [m2] <;> omega
  have ia3 : (a + 3).toInt = a.toInt + 3 := by rw [yk_add] <;> rw [m3] <;> omega
  have na0 : a.toInt.toNat = 48 * t.toInt.toNat + 4 * n.toInt.toNat := by omega
  have na1 : (a + 1).toInt.toNat = 48 * t.toInt.toNat + 4 * n.toInt.toNat + 1 := by omega
  have na2 : (a + 2).toInt.toNat = 48 * t.toInt.toNat + 4 * n.toInt.toNat + 2 := by omega
  have na3 : (a + 3).toInt.toNat = 48 * t.toInt.toNat + 4 * n.toInt.toNat + 3 := by omega
  have l1 : xm_get (xm_set1 lv0 1 (.int a)) 1 = some (.int a) := xl_gs1
  replace l0 : xm_get (xm_set1 lv0 1 (.int a)) 0 = some (.ref 344) := xl_s1 (by decide) (Or.inl rfl) l0
  generalize xm_set1 lv0 1 (.int a) = lv at l0 l1 ⊢
  simp only [xy_153_15 l0, xz_153_16, xy_153_17 l1, xy_153_18 l0, xz_153_19, xy_153_20 l0, xz_153_21, xz_153_22, xk_gf S1.1.1 S1.2.1.1, xk_gf S1.1.1 S1.refs.2.2.1, xk_gf S1.1.1 S1.refs.2.1, xk_ial S1.1.1 (j := 347) (r := 96) rfl yq_96 rfl f1.1 S1.2.2.1.1]
  rw [xz_153_23, xk_ias S1.1.1 (j := 348) (r := 97) rfl yq_97 (by decide) (by omega) (by show _ < ((288 : Nat) : Int); omega)]
  obtain ⟨S2, fr2, u2, c2⟩ := S1.cl hn1 h12 (i := a.toInt.toNat) (by omega) (by omega) (w := L) (by omega) (by omega)
  generalize yU G1 348 a.toInt.toNat (.int L) = G2 at S2 fr2 u2 c2 ⊢
  replace fr2 := fr1.trans fr2
  have hn2 : yR G2 349 t.toInt.toNat = some (.int n) := by rw [u2 _ _ (Or.inl (by decide))]; exact hn1
  have hl2 : yR G2 344 14 = some ln := by rw [u2 _ _ (Or.inl (by decide))]; exact k1c _ hl
  -- the end
  have t67 : ∀ (B G8 : xm_H) (L3 L8 O8 m8 dp8 b1 : Int32) (op8 : Nat → Option Value) (b8 h8 F : Nat), 60 ≤ F → yS B G8 t L8 O8 m8 dp8 op8 b8 h8 → ys_Fr yMR G0 G8 → yR G8 349 t.toInt.toNat = some (.int n) → yR G8 344 14 = some ln → yR G8 348 (48 * t.toInt.toNat + 4 * n.toInt.toNat) = some (.int L) → yR G8 348 (48 * t.toInt.toNat + 4 * n.toInt.toNat + 1) = some (.int L3) → yR G8 348 (48 * t.toInt.toNat + 4 * n.toInt.toNat + 2) = some (.int b1) → yOk (yR G8 346) t.toInt.toNat L L3 → (0 ≤ b1.toInt → yOk (yR G8 346) t.toInt.toNat b1 L8) → L3.toInt ≤ L8.toInt → L8.toInt + 5 * (60 - m8.toInt) ≤ 300 → xm_run (xm_exec (d + 9)) xm_c153 2 0 0 (some .boolean) Q F (xm_drop 67 xm_c153) lv [] G8 E 0 0 = true := by
    intro B G8 L3 L8 O8 m8 dp8 b1 op8 b8 h8 F hFu S8 fr8 hn8 hl8 r0 r1 r2 o1 o2 o3 o4
    obtain ⟨f, rfl⟩ : ∃ f, F = f + 60 := ⟨F - 60, by omega⟩
    have hL8 := S8.Lr
    simp only [xy_153_67 l0, xz_153_68, xy_153_69 l1, xz_153_70, xy_153_71, xy_153_72 l0, xz_153_73, xy_153_74 l0, xz_153_75, xz_153_76, xk_gf S8.1.1 S8.2.1.1, xk_gf S8.1.1 S8.refs.2.2.1, xk_gf S8.1.1 S8.refs.2.1, xk_ial S8.1.1 (j := 347) (r := 96) rfl yq_96 rfl f1.1 S8.2.2.1.1]
    rw [xz_153_77, xk_ias S8.1.1 (j := 348) (r := 97) rfl yq_97 (by decide) (by omega) (by show _ < ((288 : Nat) : Int); omega)]
    obtain ⟨S9, fr9, u9, c9⟩ := S8.cl hn8 h12 (i := (a + 3).toInt.toNat) (by omega) (by omega) (w := L8) (by omega) (by omega)
    generalize yU G8 348 (a + 3).toInt.toNat (.int L8) = G9 at S9 fr9 u9 c9 ⊢
    have hn9 : yR G9 349 t.toInt.toNat = some (.int n) := by rw [u9 _ _ (Or.inl (by decide))]; exact hn8
    have k346 : yR G9 346 = yR G8 346 := funext (fun i => u9 _ _ (Or.inl (by decide)))
    simp only [xy_153_78 l0, xz_153_79, xy_153_80 l0, xz_153_81, xy_153_82, xz_153_83, xz_153_84, xy_153_85, xk_gf S9.1.1 S9.2.1.1, xk_gf S9.1.1 S9.refs.2.2.2.1, xk_ial S9.1.1 (j := 349) (r := 98) rfl yq_98 rfl f1.1 hn9]
    rw [xz_153_86, xk_ias S9.1.1 (j := 349) (r := 98) rfl yq_98 (by decide) f1.1 (by show _ < ((6 : Nat) : Int); omega)]
    obtain ⟨x1, x2⟩ := yU_HT (md := [(98, 100000)]) S9.1.1 (j := 349) (i := t.toInt.toNat) (w := .int (n + 1)) (r := 98) rfl yq_98 (show _ < 6 by omega) yv_one ⟨rfl, by show 0 ≤ (n + 1).toInt; omega, by show (n + 1).toInt ≤ 12; omega⟩ (yf_mod (by simp))
    have mi := yMI_new (L := L8) (b0 := L) (e0 := L3) (b1 := b1) (e1 := L8) f1.1 hn9 in1 hn0.1 S9.1.2.2.2.2 (by rw [u9 _ _ (Or.inr (by omega))]; exact r0) (by rw [u9 _ _ (Or.inr (by omega))]; exact r1) (by rw [u9 _ _ (Or.inr (by omega))]; exact r2) (by rw [← na3]; exact c9) (by rw [k346]; exact o1) (by rw [k346]; exact o2) o3 (fun _ => Int.le_refl _)
    have u : ∀ j i' : Nat, j ≠ 349 ∨ i' ≠ t.toInt.toNat → yR (yU G9 349 t.toInt.toNat (.int (n + 1))) j i' = yR G9 j i' := fun j i' hj => yU_miss hj
    have hit := yU_hit (w := .int (n + 1)) hn9
    generalize yU G9 349 t.toInt.toNat (.int (n + 1)) = G10 at x1 x2 mi u hit ⊢
    simp only [xz_153_87, xy_153_88_0, xy_153_88_1]
    refine hQ G10 L8 m8 ⟨⟨x1, (fr8.trans fr9).trans (x2.mds y98_MR), S9.1.2.2.1.fr x1 x2 rfl rfl, S9.1.2.2.2.1.fr x2 (fun i => rfl), mi⟩, ⟨?_, ?_⟩, ⟨?_, hit⟩, f1, o4⟩ ?_
    · rw [u _ _ (Or.inl (by decide))]; exact S9.2.1.1
    · rw [u _ _ (Or.inl (by decide))]; exact S9.2.1.2.1
    · rw [u _ _ (Or.inl (by decide))]; exact S9.2.2.1.1
    · rw [u _ _ (Or.inl (by decide)), u9 _ _ (Or.inl (by decide))]; exact hl8
  obtain ⟨v2, hM2⟩ := S2.obj
  simp only [xy_153_24 l0, xy_153_25]
  rw [yO_call0 (a := 147) rfl hM2 (Nat.le_of_ble_eq_true rfl)]
  refine S2.sum (by omega) ?_ (fun G3 L3 m3' e1 e2 S3 => ?_)
  · intro G3 b1 b2 b3
    simp only [xy_153_26, xz_153_27, xy_153_28_0, xy_153_28_1, xi_0, Bool.not_true, cond_false]
    exact hF G3 b1 b2 (fr2.trans (b3.mds yMD_MR))
  simp only [xy_153_26, xi_1, Bool.not_false, cond_true]
  have hL3 := S3.Lr
  have hm3 := S3.mr
  obtain ⟨k3a, k3b, k3c⟩ := S3.keep S2.1.1
  have hn3 : yR G3 349 t.toInt.toNat = some (.int n) := by rw [k3b]; exact hn2
  have hl3 := k3c _ hl2
  have fr3 : ys_Fr yMR G0 G3 := fr2.trans (S3.1.2.1.1.mds yMD_MR)
  have LL3 : L.toInt ≤ L3.toInt := (S3.1.2.1.2 L S2.2.2.1.1).1
  have ok3 : yOk (yR G3 346) t.toInt.toNat L L3 := ⟨hLr.1, LL3, hL3.2, 0, S3.2.2.2.2.2.1⟩
  simp only [xy_153_29 l0, xz_153_30, xy_153_31 l1, xz_153_32, xy_153_33, xy_153_34 l0, xz_153_35, xy_153_36 l0, xz_153_37, xz_153_38, xk_gf S3.1.1 S3.2.1.1, xk_gf S3.1.1 S3.refs.2.2.1, xk_gf S3.1.1 S3.refs.2.1, xk_ial S3.1.1 (j := 347) (r := 96) rfl yq_96 rfl f1.1 S3.2.2.1.1]
  rw [xz_153_39, xk_ias S3.1.1 (j := 348) (r := 97) rfl yq_97 (by decide) (by omega) (by show _ < ((288 : Nat) : Int); omega)]
  obtain ⟨S4, fr4, u4, c4⟩ := S3.cl hn3 h12 (i := (a + 1).toInt.toNat) (by omega) (by omega) (w := L3) (by omega) (by omega)
  generalize yU G3 348 (a + 1).toInt.toNat (.int L3) = G4 at S4 fr4 u4 c4 ⊢
  have hn4 : yR G4 349 t.toInt.toNat = some (.int n) := by rw [u4 _ _ (Or.inl (by decide))]; exact hn3
  simp only [xy_153_40 l0, xz_153_41, xy_153_42 l1, xz_153_43, xy_153_44, xz_153_45, xk_gf S4.1.1 S4.refs.2.2.1]
  rw [xz_153_46, xk_ias S4.1.1 (j := 348) (r := 97) rfl yq_97 (by decide) (by omega) (by show _ < ((288 : Nat) : Int); omega)]
  obtain ⟨S5, fr5, u5, c5⟩ := S4.cl hn4 h12 (i := (a + 2).toInt.toNat) (by omega) (by omega) (w := -1) (by omega) (by omega)
  generalize yU G4 348 (a + 2).toInt.toNat (.int (-1)) = G5 at S5 fr5 u5 c5 ⊢
  have hn5 : yR G5 349 t.toInt.toNat = some (.int n) := by rw [u5 _ _ (Or.inl (by decide))]; exact hn4
  have hl5 : yR G5 344 14 = some ln := by rw [u5 _ _ (Or.inl (by decide)), u4 _ _ (Or.inl (by decide))]; exact hl3
  have fr5' : ys_Fr yMR G0 G5 := (fr3.trans fr4).trans fr5
  have k5 : yR G5 346 = yR G3 346 := funext (fun i => by rw [u5 _ _ (Or.inl (by decide)), u4 _ _ (Or.inl (by decide))])
  have q50 : yR G5 348 (48 * t.toInt.toNat + 4 * n.toInt.toNat) = some (.int L) := by rw [u5 _ _ (Or.inr (by omega)), u4 _ _ (Or.inr (by omega)), k3a, ← na0]; exact c2
  have q51 : yR G5 348 (48 * t.toInt.toNat + 4 * n.toInt.toNat + 1) = some (.int L3) := by rw [u5 _ _ (Or.inr (by omega)), ← na1]; exact c4
  have q52 : yR G5 348 (48 * t.toInt.toNat + 4 * n.toInt.toNat + 2) = some (.int (-1)) := by rw [← na2]; exact c5
  have ok5 : yOk (yR G5 346) t.toInt.toNat L L3 := by rw [k5]; exact ok3
  obtain ⟨v5, hM5⟩ := S5.obj
  simp only [xy_153_47 l0, xz_153_48, xy_153_49]
  rw [yO_call1 (a := 137) rfl hM5 (Nat.le_of_ble_eq_true rfl)]
  refine S5.takes (fun G6 r S6 hr => ?_)
  obtain ⟨k6a, k6b, k6c⟩ := S6.keep S5.1.1
  have hn6 : yR G6 349 t.toInt.toNat = some (.int n) := by rw [k6b]; exact hn5
  have fr6 : ys_Fr yMR G0 G6 := fr5'.trans (S6.1.2.1.1.mds yMD_MR)
  have ok6 : yOk (yR G6 346) t.toInt.toNat L L3 := ok5.mv (fun i hi => (S6.1.2.1.2 L3 S5.2.2.1.1).2 i (by omega))
  rcases hr with rfl | rfl
  · simp only [xy_153_50, xi_0, cond_true]
    exact t67 _ G6 L3 L3 _ m3' _ (-1) _ _ _ _ (by omega) S6 fr6 hn6 (k6c _ hl5) (by rw [k6a]; exact q50) (by rw [k6a]; exact q51) (by rw [k6a]; exact q52) ok6 (fun q => absurd q (by decide)) (Int.le_refl _) (by omega)
  · simp only [xy_153_50, xi_1, cond_false]
    simp only [xy_153_51 l0, xz_153_52, xy_153_53 l1, xz_153_54, xy_153_55, xy_153_56 l0, xz_153_57, xy_153_58 l0, xz_153_59, xz_153_60, xk_gf S6.1.1 S6.2.1.1, xk_gf S6.1.1 S6.refs.2.2.1, xk_gf S6.1.1 S6.refs.2.1, xk_ial S6.1.1 (j := 347) (r := 96) rfl yq_96 rfl f1.1 S6.2.2.1.1]
    rw [xz_153_61, xk_ias S6.1.1 (j := 348) (r := 97) rfl yq_97 (by decide) (by omega) (by show _ < ((288 : Nat) : Int); omega)]
    obtain ⟨S7, fr7, u7, c7⟩ := S6.cl hn6 h12 (i := (a + 2).toInt.toNat) (by omega) (by omega) (w := L3) (by omega) (by omega)
    generalize yU G6 348 (a + 2).toInt.toNat (.int L3) = G7 at S7 fr7 u7 c7 ⊢
    have hn7 : yR G7 349 t.toInt.toNat = some (.int n) := by rw [u7 _ _ (Or.inl (by decide))]; exact hn6
    have hl7 : yR G7 344 14 = some ln := by rw [u7 _ _ (Or.inl (by decide))]; exact k6c _ hl5
    have fr7' : ys_Fr yMR G0 G7 := fr6.trans fr7
    have k7 : yR G7 346 = yR G6 346 := funext (fun i => by rw [u7 _ _ (Or.inl (by decide))])
    have q70 : yR G7 348 (48 * t.toInt.toNat + 4 * n.toInt.toNat) = some (.int L) := by rw [u7 _ _ (Or.inr (by omega)), k6a]; exact q50
    have q71 : yR G7 348 (48 * t.toInt.toNat + 4 * n.toInt.toNat + 1) = some (.int L3) := by rw [u7 _ _ (Or.inr (by omega)), k6a]; exact q51
    have q72 : yR G7 348 (48 * t.toInt.toNat + 4 * n.toInt.toNat + 2) = some (.int L3) := by rw [← na2]; exact c7
    have ok7 : yOk (yR G7 346) t.toInt.toNat L L3 := by rw [k7]; exact ok6
    obtain ⟨v7, hM7⟩ := S7.obj
    simp only [xy_153_62 l0, xy_153_63]
    rw [yO_call0 (a := 152) rfl hM7 (Nat.le_of_ble_eq_true rfl)]
    refine S7.re.tested (by omega) ?_ ?_
    · intro G8 b1 b2 b3
      simp only [xy_153_64, xz_153_65, xy_153_66_0, xy_153_66_1, xi_0, Bool.not_true, cond_false]
      exact hF G8 b1 b2 (fr7'.trans (b3.mds yMD_MR))
    · intro G8 L8 O8 m8 dp8 op8 h8 S8 p1 p2
      simp only [xy_153_64, xi_1, Bool.not_false, cond_true]
      obtain ⟨k8a, k8b, k8c⟩ := S8.keep S7.1.1
      have hL8 := S8.Lr
      have LL8 : L3.toInt ≤ L8.toInt := (S8.1.2.1.2 L3 S7.2.2.1.1).1
      exact t67 _ G8 L3 L8 _ m8 _ L3 _ _ _ _ (by omega) S8 (fr7'.trans (S8.1.2.1.1.mds yMD_MR)) (by rw [k8b]; exact hn7) (k8c _ hl7) (by rw [k8a]; exact q70) (by rw [k8a]; exact q71) (by rw [k8a]; exact q72) (ok7.mv (fun i hi => (S8.1.2.1.2 L3 S7.2.2.1.1).2 i (by omega))) (fun _ => ⟨hL3.1, LL8, hL8.2, h8, S8.2.2.2.2.2.1⟩) LL8 (by omega)
end TK
