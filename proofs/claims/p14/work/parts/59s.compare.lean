/-! see once more: what was read; isWord where no blank stands; compare, fact -/
theorem yl_91 {c : Int32} (h : (c &&& 255).toInt ≠ 32) : c.toInt ≠ 32 := by
  intro q
  have e : c = 32 := Int32.toInt_inj.mp q
  rw [e] at h
  exact h (by decide)
section SW
variable {call : xm_C} {Q : xm_Q} {G : xm_H} {E : xm_R} {vs : List Value} {tb : Nat} {t : Int32}
theorem yO_see2 (hb : yt_bytes G tb) (htb : tb ≠ 344) (h0 : vs[0]? = some (.ref tb)) (h1 : vs[1]? = some (.int t)) (ht : t.toInt ≤ 400) (hM : yO G vs) {n0 : Int32} (hQ : ∀ n r : Int32, n0.toInt ≤ n.toInt → n.toInt ≤ 400 → (r.toInt = -1 ∨ (n.toInt < t.toInt ∧ ∃ c : Int32, yR (yO_nx G vs n) tb n.toInt.toNat = some (.int c) ∧ r = c &&& 255)) → Q (some (.int r)) (yO_nx G vs n) E = true) : ∀ (m : Nat) (n : Int32), 0 ≤ n0.toInt → n0.toInt ≤ n.toInt → n.toInt ≤ 400 → (400 - n.toInt).toNat ≤ m → ∀ {F : Nat}, 40 * (m + 1) + 40 ≤ F → xm_run call xm_c132 1 0 0 (some .int) Q F (xm_drop 0 xm_c132) [(0, .ref 344)] [] (yO_nx G vs n) E 0 0 = true := by
  have l0 : xm_get [(0, Value.ref 344)] 0 = some (.ref 344) := rfl
  have t19 : ∀ (n : Int32), 0 ≤ n0.toInt → n0.toInt ≤ n.toInt → n.toInt ≤ 400 → ∀ {F : Nat}, 30 ≤ F → xm_run call xm_c132 1 0 0 (some .int) Q F (xm_drop 19 xm_c132) [(0, .ref 344)] [] (yO_nx G vs n) E 0 0 = true := by
    intro n z0 z1 z2 F hF
    obtain ⟨g, rfl⟩ : ∃ g, F = g + 30 := ⟨F - 30, by omega⟩
    have hN := yO_nxat hM n
    have g8 := yO_hit (w := .int n) hM.2
    have g1 := yO_set (w := .int n) h1 (by decide)
    have g0 := yO_set (w := .int n) h0 (by decide)
    simp only [xz_132_19, xz_132_20, xz_132_21, xz_132_22, xz_132_23, l0, xm_isA, cond_true, xk_getf hN.1 g8, xk_getf hN.1 g1, xc_int, xk_ge]
    by_cases hc : n.toInt < t.toInt
    · rw [decide_eq_true hc, Bool.not_true, cond_false]
      obtain ⟨bs, hb1, hb2⟩ := hb.mv (yO_nxs (vs := vs) n) htb
      obtain ⟨c, hcc⟩ := hb2 n (by omega) (by omega)
      simp only [xz_132_24, xz_132_25, xz_132_26, xz_132_27, xz_132_28, xz_132_29, xz_132_30, xz_132_31, l0, xm_isA, cond_true, xk_getf hN.1 g8, xk_getf hN.1 g0, yk_bald hb1 (show 0 ≤ n.toInt by omega) hcc, xk_and]
      simp only [xz_132_33, xm_isI, cond_true]
      exact hQ n (c &&& 255) z1 z2 (Or.inr ⟨hc, c, by rw [yR_eq hb1]; exact hcc, rfl⟩)
    · rw [decide_eq_false hc, Bool.not_false, cond_true]
      simp only [xz_132_32, xz_132_33, xm_isI, cond_true]
      exact hQ n (-1) z1 z2 (Or.inl rfl)
  intro m
  induction m with
  | zero =>
    intro n z0 z1 z2 hm F hF
    obtain ⟨g, rfl⟩ : ∃ g, F = g + 40 := ⟨F - 40, by omega⟩
    have hN := yO_nxat hM n
    have g8 := yO_hit (w := .int n) hM.2
    have g1 := yO_set (w := .int n) h1 (by decide)
    simp only [xz_132_0, xz_132_1, xz_132_2, xz_132_3, xz_132_4, l0, xm_isA, cond_true, xk_getf hN.1 g8, xk_getf hN.1 g1, xc_int, xk_ge]
    rw [decide_eq_false (show ¬ n.toInt < t.toInt by omega), Bool.not_false, cond_true]
    exact t19 n z0 z1 z2 (by omega)
  | succ m ih =>
    intro n z0 z1 z2 hm F hF
    obtain ⟨g, rfl⟩ : ∃ g, F = g + 40 := ⟨F - 40, by omega⟩
    have hN := yO_nxat hM n
    have g8 := yO_hit (w := .int n) hM.2
    have g1 := yO_set (w := .int n) h1 (by decide)
    have g0 := yO_set (w := .int n) h0 (by decide)
    simp only [xz_132_0, xz_132_1, xz_132_2, xz_132_3, xz_132_4, l0, xm_isA, cond_true, xk_getf hN.1 g8, xk_getf hN.1 g1, xc_int, xk_ge]
    by_cases hc : n.toInt < t.toInt
    · rw [decide_eq_true hc, Bool.not_true, cond_false]
      obtain ⟨bs, hb1, hb2⟩ := hb.mv (yO_nxs (vs := vs) n) htb
      obtain ⟨c, hcc⟩ := hb2 n (by omega) (by omega)
      simp only [xz_132_5, xz_132_6, xz_132_7, xz_132_8, xz_132_9, xz_132_10, xz_132_11, l0, xm_isA, cond_true, xk_getf hN.1 g8, xk_getf hN.1 g0, yk_bald hb1 (show 0 ≤ n.toInt by omega) hcc, xc_int]
      cases hq : xm_holds .ne (xm_sgn c.toInt (32 : Int32).toInt) with
      | true => rw [cond_true]; exact t19 n z0 z1 z2 (by omega)
      | false =>
        rw [cond_false]
        simp only [xz_132_12, xz_132_13, xz_132_14, xz_132_15, xz_132_16, xz_132_17, l0, xm_isA, xm_cat1, xm_isL, Bool.not_false, cond_true, xk_getf hN.1 g8, xk_add]
        rw [xk_putf hN.1 (by decide) rfl (by rw [hN.2]; decide)]
        simp only [xz_132_18]
        have e1 : (1 : Int32).toInt = 1 := rfl
        have e2 := yk_add (x := n) (z := 1) (by omega) (by omega)
        have e3 : xm_hput (yO_nx G vs n) 344 (11, (vs.set 8 (.int n)).set 8 (.int (n + 1))) = yO_nx G vs (n + 1) := yO_nx2 n (n + 1)
        rw [e3]
        exact ih (n + 1) z0 (by omega) (by omega) (by omega) (by omega)
    · rw [decide_eq_false hc, Bool.not_false, cond_true]
      exact t19 n z0 z1 z2 (by omega)
/-- see where no blank stands: nothing changes -/
theorem yO_see0 (hb : yt_bytes G tb) (h0 : vs[0]? = some (.ref tb)) (h1 : vs[1]? = some (.int t)) (hM : yO G vs) {n c : Int32} (hn : vs[8]? = some (.int n)) (n0 : 0 ≤ n.toInt) (nt : n.toInt < t.toInt) (hc : yR G tb n.toInt.toNat = some (.int c)) (h32 : c.toInt ≠ 32) {d : Nat} (hQ : Q (some (.int (c &&& 255))) G E = true) : xm_exec (d + 1) 132 [.ref 344] G E Q = true := by
  refine yx_exec (m := 132) rfl rfl (Nat.le_of_ble_eq_true rfl) ?_
  obtain ⟨g, hg⟩ := xn_f
  rw [hg]
  obtain ⟨bs, hb1, hb2⟩ := hb
  rw [yR_eq hb1] at hc
  have l0 : xm_get [(0, Value.ref 344)] 0 = some (.ref 344) := rfl
  show xm_run (xm_exec d) xm_c132 1 0 0 (some .int) Q (g + 40000) (xm_drop 0 xm_c132) [(0, .ref 344)] [] G E 0 0 = true
  have n32 : (32 : Int32).toInt = 32 := rfl
  simp only [xz_132_0, xz_132_1, xz_132_2, xz_132_3, xz_132_4, l0, xm_isA, cond_true, xk_getf hM.1 hn, xk_getf hM.1 h1, xc_int, xk_ge]
  rw [decide_eq_true nt, Bool.not_true, cond_false]
  simp only [xz_132_5, xz_132_6, xz_132_7, xz_132_8, xz_132_9, xz_132_10, xz_132_11, l0, xm_isA, cond_true, xk_getf hM.1 hn, xk_getf hM.1 h0, yk_bald hb1 n0 hc, xc_int, xk_ne, n32]
  rw [decide_eq_false h32, Bool.not_false, cond_true]
  simp only [xz_132_19, xz_132_20, xz_132_21, xz_132_22, xz_132_23, l0, xm_isA, cond_true, xk_getf hM.1 hn, xk_getf hM.1 h1, xc_int, xk_ge]
  rw [decide_eq_true nt, Bool.not_true, cond_false]
  simp only [xz_132_24, xz_132_25, xz_132_26, xz_132_27, xz_132_28, xz_132_29, xz_132_30, xz_132_31, l0, xm_isA, cond_true, xk_getf hM.1 hn, xk_getf hM.1 h0, yk_bald hb1 n0 hc, xk_and]
  simp only [xz_132_33, xm_isI, cond_true]
  exact hQ
theorem yO_isw0 (hb : yt_bytes G tb) (h0 : vs[0]? = some (.ref tb)) (h1 : vs[1]? = some (.int t)) (ht : t.toInt ≤ 400) (hM : yO G vs) {n c : Int32} (hn : vs[8]? = some (.int n)) (n0 : 0 ≤ n.toInt) (nt : n.toInt < t.toInt) (hc : yR G tb n.toInt.toNat = some (.int c)) (h32 : c.toInt ≠ 32) {d : Nat} {w : Int64} (hQ : ∀ r : Int32, (r = 0 ∨ r = 1) → Q (some (.int r)) G E = true) : xm_exec (d + 2) 135 [.ref 344, .long w] G E Q = true := by
  refine yx_exec (m := 135) rfl rfl (Nat.le_of_ble_eq_true rfl) ?_
  obtain ⟨g, hg⟩ := xn_f
  rw [hg]
  have l0 : xm_get (lv_args 0 [Value.ref 344, .long w]) 0 = some (.ref 344) := rfl
  show xm_run (xm_exec (d + 1)) xm_c135 6 0 0 (some .boolean) Q (g + 40000) (xm_drop 0 xm_c135) (lv_args 0 [.ref 344, .long w]) [] G E 0 0 = true
  simp only [xz_135_0, xz_135_1, l0, xm_isA, cond_true, show (Nat.beq 132 1006 || Nat.beq 132 1007) = false from rfl, cond_false]
  rw [yO_call0 (a := 132) rfl hM (Nat.le_of_ble_eq_true rfl)]
  refine yO_see0 hb h0 h1 hM hn n0 nt hc h32 ?_
  simp only [xz_135_2, xz_135_3, xz_135_4, xz_135_5, xz_135_6, xm_cat1, xm_isL, xm_isI, Bool.not_false, show Nat.blt (3 + 1) 6 = true from rfl, show Nat.blt 5 6 = true from rfl, Bool.and_self, cond_true]
  refine yO_isw (n := n) hb h0 h1 ht hM hn n0 (by omega) (fun r' hr' => hQ r' (hr'.imp id And.left)) 401 _ 0 w 0 rfl rfl rfl rfl (by decide) (by decide) (fun h => absurd h (by decide)) (by decide) (by omega)
end SW
/-- no blank stands there -/
def yNb (G : xm_H) : Prop := ∃ n t c : Int32, yR G 344 8 = some (.int n) ∧ yR G 344 1 = some (.int t) ∧ 0 ≤ n.toInt ∧ n.toInt < t.toInt ∧ t.toInt ≤ 400 ∧ yR G 345 n.toInt.toNat = some (.int c) ∧ c.toInt ≠ 32
theorem yNb.nx {G : xm_H} (h : yNb G) : yNx G := by
  obtain ⟨n, t, c, h1, h2, h3, h4, h5, -⟩ := h
  exact ⟨n, h1, h3, by omega⟩
section SX
variable {G0 G : xm_H} {t L O m dp : Int32} {op : Nat → Option Value} {b h d : Nat} {Q : xm_Q} {E : xm_R}
theorem yS.see2 (hS : yS G0 G t L O m dp op b h) (hQ : ∀ (G' : xm_H) (r : Int32), yS G0 G' t L O m dp op b h → (r.toInt = -1 ∨ yNx G') → (r.toInt = -1 ∨ r.toInt = 32 ∨ yNb G') → Q (some (.int r)) G' E = true) : xm_exec (d + 1) 132 [.ref 344] G E Q = true := by
  obtain ⟨vs, hM, tb, tt, n, a0, a1, a8, b1, b2, b3, b4⟩ := yO_of hS.1.1
  have etb : tb = 345 := by
    have := yM_ref hS.1.1 (i := 0) (r := 94) (by decide) rfl (by decide)
    rw [yR_eq hM.1, a0] at this
    cases this
    rfl
  subst etb
  refine yx_exec (m := 132) rfl rfl (Nat.le_of_ble_eq_true rfl) ?_
  have hh := yO_see2 (call := xm_exec d) (Q := Q) (E := E) b1 b2 a0 a1 b3.2 hM (n0 := n) (fun n' r r1 r2 r3 => by
    obtain ⟨e1, e2⟩ := yO_nxHT (n := n') hS.1.1 hM (by omega) r2
    have hN := yO_nxat hM n'
    have k8 : yR (yO_nx G vs n') 344 8 = some (.int n') := by rw [yR_eq hN.1]; exact yO_hit hM.2
    have k1 : yR (yO_nx G vs n') 344 1 = some (.int tt) := by rw [yR_eq hN.1]; exact yO_set a1 (by decide)
    refine hQ _ r (hS.fr e1 (e2.mds rfl)) ?_ ?_
    · rcases r3 with r3 | ⟨r3, -⟩
      · exact Or.inl r3
      · exact Or.inr ⟨n', k8, by omega, by omega⟩
    · rcases r3 with r3 | ⟨r3, c, c1, rfl⟩
      · exact Or.inl r3
      · by_cases q : (c &&& 255).toInt = 32
        · exact Or.inr (Or.inl q)
        · exact Or.inr (Or.inr ⟨n', tt, c, k8, k1, by omega, r3, b3.2, c1, yl_91 q⟩)) 400 n b4.1 (Int.le_refl _) b4.2 (by omega) (F := xm_fuel) (yl_fuel _ (by omega))
  rw [yO_nxid hM a8] at hh
  exact hh
theorem yS.isw0 (hS : yS G0 G t L O m dp op b h) (hN : yNb G) {w : Int64} (hQ : ∀ r : Int32, (r = 0 ∨ r = 1) → Q (some (.int r)) G E = true) : xm_exec (d + 2) 135 [.ref 344, .long w] G E Q = true := by
  obtain ⟨vs, hM, tb, tt, n, a0, a1, a8, b1, b2, b3, b4⟩ := yO_of hS.1.1
  obtain ⟨n', t', c, p1, p2, p3, p4, p5, p6, p7⟩ := hN
  have etb : tb = 345 := by
    have := yM_ref hS.1.1 (i := 0) (r := 94) (by decide) rfl (by decide)
    rw [yR_eq hM.1, a0] at this
    cases this
    rfl
  subst etb
  rw [yR_eq hM.1] at p1 p2
  exact yO_isw0 b1 a0 p2 p5 hM p1 p3 p4 p6 p7 hQ
end SX
