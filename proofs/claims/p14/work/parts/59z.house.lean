/-! readsAll of a house, by what a clause keeps -/
def yMH : yM := [(93, 1), (93, 8), (93, 9), (93, 10), (93, 12), (93, 14), (96, 100000), (99, 100000)]
theorem yMH_eq : yi_224 = (167, [(2, 93, 0)], [(0, [11], (0, 6, 6))], [(some (0, 0, 1), [])], yMH) := rfl
def yhm : yM := [(93, 8), (93, 9), (93, 10), (93, 14), (99, 100000)]
def yhc (c : Int) : yI := (166, [(2, 93, 0)], [(0, [11], (0, 6, 6)), (0, [14], (0, c, c))], [(some (0, 0, 0), []), (some (0, 0, 1), [(0, [14], (0, c + 1, c + 1))])], yhm)
def yX (J : xm_H → Prop) (G0 G : xm_H) : Prop := ys_HT G ∧ yi_Inv J G ∧ ys_Fr yMH G0 G ∧ yR G 344 11 = some (.int 6)
section HX
variable {J : xm_H → Prop} {G0 G G' : xm_H} {d : Nat} {Q : xm_Q} {E : xm_R}
theorem yX.fr (hJ : yj_ok J) (hX : yX J G0 G) {md : yM} (hT : ys_HT G') (hF : ys_Fr md G G') (hm : ym_mds md yMH = true) (hf : yk_free md = true) (h11 : ym_mod md 93 11 = false) : yX J G0 G' := ⟨hT, yi_Inv.free hJ md hf G G' hT hF hX.2.1, hX.2.2.1.trans (hF.mds hm), yR_fr hF (by rw [ym_344]; exact h11) hX.2.2.2⟩
theorem yX.put (hJ : yj_ok J) (hX : yX J G0 G) {i : Nat} {w : Value} {T : yT} (hi : i < 36) (ht : yr_ty yq93 i = some T) (hw : ys_T T w) (hm : ym_mds [(93, i)] yMH = true) (hf : yk_free [(93, i)] = true) (h11 : ym_mod [(93, i)] 93 11 = false) : yX J G0 (yU G 344 i w) := by
  obtain ⟨x1, x2⟩ := yU_HT (md := [(93, i)]) hX.1 (j := 344) (i := i) (w := w) ym_344 yq_93 (by rw [yq93_2]; exact hi) ht hw (by
    show ((Nat.beq 93 93 && (Nat.beq i i || Nat.beq i 100000)) || false) = true
    rw [Nat.beq_refl i]
    rfl)
  exact hX.fr hJ x1 x2 hm hf h11
theorem yX.obj (hX : yX J G0 G) : ∃ vs, yO G vs := by
  obtain ⟨vs, hM, -⟩ := yO_of hX.1
  exact ⟨vs, hM⟩
theorem yX.nx (hX : yX J G0 G) : ∃ n : Int32, yR G 344 8 = some (.int n) ∧ 0 ≤ n.toInt ∧ n.toInt ≤ 400 := yM_int hX.1 (by decide) rfl
theorem yX.see (hJ : yj_ok J) (hX : yX J G0 G) (hQ : ∀ (G' : xm_H) (r : Int32), yX J G0 G' → (r.toInt = -1 ∨ yNx G') → (∀ v, yR G 344 14 = some v → yR G' 344 14 = some v) → Q (some (.int r)) G' E = true) : xm_exec (d + 1) 132 [.ref 344] G E Q = true := by
  obtain ⟨vs, hM, tb, tt, n, a0, a1, a8, b1, b2, b3, b4⟩ := yO_of hX.1
  refine yO_seex b1 b2 a0 a1 b3.2 hM a8 b4.1 b4.2 (fun n' r r1 r2 r3 => ?_)
  obtain ⟨e1, e2⟩ := yO_nxHT (n := n') hX.1 hM (by omega) r2
  refine hQ _ r (hX.fr hJ e1 e2 (by decide +kernel) (by decide +kernel) (by decide +kernel)) ?_ (fun v hv => yR_fr e2 rfl hv)
  rcases r3 with r3 | r3
  · exact Or.inl r3
  · have hN := yO_nxat hM n'
    exact Or.inr ⟨n', by rw [yR_eq hN.1]; exact yO_hit hM.2, by omega, by omega⟩
theorem yX.fails (hJ : yj_ok J) (hX : yX J G0 G) {k a : Int32} (hQ : ∀ G' : xm_H, yX J G0 G' → Q (some (.int 0)) G' E = true) : xm_exec (d + 1) 131 [.ref 344, .int k, .int a] G E Q = true := by
  obtain ⟨vs, hM⟩ := hX.obj
  exact yO_fails hX.1 hM (fun G' q1 q2 => hQ G' (hX.fr hJ q1 q2 (by decide +kernel) (by decide +kernel) (by decide +kernel)))
theorem yX_T : ys_args [Value.ref 344] [(2, 93, 0)] := ⟨⟨Or.inl rfl, by rw [ym_344]; rfl⟩, trivial⟩
theorem yX.clause (hJ : yj_ok J) (hX : yX J G0 G) {D : Nat} (hC : ∀ c : Int, 0 ≤ c → c < 40 → yc_ok (yi_Inv J) (yhc c) (xm_exec D)) (hC4 : yc_ok (yi_Inv J) yi_223 (xm_exec D)) {ln : Int32} (hl : yR G 344 14 = some (.int ln)) (hl0 : 0 ≤ ln.toInt) (hl4 : ln.toInt ≤ 40) (hQ0 : ∀ G' : xm_H, yX J G0 G' → Q (some (.int 0)) G' E = true) (hQ1 : ∀ (G' : xm_H) (ln' : Int32), yX J G0 G' → yR G' 344 14 = some (.int ln') → ln'.toInt = ln.toInt + 1 → ln'.toInt ≤ 40 → Q (some (.int 1)) G' E = true) : xm_exec D 166 [.ref 344] G E Q = true := by
  by_cases h4 : ln.toInt < 40
  · refine hC ln.toInt hl0 h4 G [.ref 344] E Q hX.1 hX.2.1 yX_T (fun q hq => ?_) (fun r G' hT' hI' hF' hc => ?_)
    · have hq : q ∈ ([(0, [11], (0, 6, 6)), (0, [14], (0, ln.toInt, ln.toInt))] : List yP) := hq
      simp only [List.mem_cons, List.not_mem_nil, or_false] at hq
      rcases hq with rfl | rfl
      · exact ⟨.ref 344, rfl, yf_mk hX.2.2.2 ⟨rfl, by decide, by decide⟩⟩
      · exact ⟨.ref 344, rfl, yf_mk hl ⟨rfl, Int.le_refl _, Int.le_refl _⟩⟩
    · have X' : yX J G0 G' := ⟨hT', hI', hX.2.2.1.trans (ys_Fr.mds (md := yhm) (by decide +kernel) hF'), yR_fr (md := yhm) hF' rfl hX.2.2.2⟩
      obtain ⟨c, c1, c2, c3⟩ := hc
      have c1 : c ∈ ([(some (0, 0, 0), []), (some (0, 0, 1), [(0, [14], (0, ln.toInt + 1, ln.toInt + 1))])] : List (Option yT × List yP)) := c1
      simp only [List.mem_cons, List.not_mem_nil, or_false] at c1
      rcases c1 with rfl | rfl
      · match r, c2 with
        | some v, h1 =>
          obtain ⟨x, rfl, x0, x1⟩ := yv_int (T := (0, 0, 0)) h1 rfl
          dsimp only at x0 x1
          have ex : x = 0 := Int32.toInt_inj.mp (show x.toInt = (0 : Int32).toInt by have : (0 : Int32).toInt = 0 := rfl; omega)
          subst ex
          exact hQ0 G' X'
      · match r, c2 with
        | some v, h1 =>
          obtain ⟨x, rfl, x0, x1⟩ := yv_int (T := (0, 0, 1)) h1 rfl
          dsimp only at x0 x1
          by_cases e0 : x.toInt = 0
          · have ex : x = 0 := Int32.toInt_inj.mp (show x.toInt = (0 : Int32).toInt by have : (0 : Int32).toInt = 0 := rfl; omega)
            subst ex
            exact hQ0 G' X'
          · have ex : x = 1 := Int32.toInt_inj.mp (show x.toInt = (1 : Int32).toInt by have : (1 : Int32).toInt = 1 := rfl; omega)
            subst ex
            obtain ⟨v, v1, v2⟩ := c3 (0, [14], (0, ln.toInt + 1, ln.toInt + 1)) List.mem_cons_self
            have v1 : some (Value.ref 344) = some v := v1
            cases v1
            obtain ⟨w, w1, w2⟩ := yf_of v2
            obtain ⟨y, rfl, y0, y1⟩ := yv_int w2 rfl
            dsimp only at y0 y1
            exact hQ1 G' y X' w1 (by omega) (by omega)
  · refine hC4 G [.ref 344] E Q hX.1 hX.2.1 yX_T (fun q hq => ?_) (fun r G' hT' hI' hF' hc => ?_)
    · have hq : q ∈ ([(0, [11], (0, 6, 6)), (0, [14], (0, 40, 40))] : List yP) := hq
      simp only [List.mem_cons, List.not_mem_nil, or_false] at hq
      rcases hq with rfl | rfl
      · exact ⟨.ref 344, rfl, yf_mk hX.2.2.2 ⟨rfl, by decide, by decide⟩⟩
      · exact ⟨.ref 344, rfl, yf_mk hl ⟨rfl, by show 40 ≤ ln.toInt; omega, by show ln.toInt ≤ 40; omega⟩⟩
    · have X' : yX J G0 G' := ⟨hT', hI', hX.2.2.1.trans (ys_Fr.mds (md := [(93, 8), (93, 9)]) (by decide +kernel) hF'), yR_fr (md := [(93, 8), (93, 9)]) hF' rfl hX.2.2.2⟩
      obtain ⟨c, c1, c2, c3⟩ := hc
      have c1 : c ∈ ([(some (0, 0, 0), [])] : List (Option yT × List yP)) := c1
      rw [List.mem_singleton] at c1
      subst c1
      match r, c2 with
      | some v, h1 =>
        obtain ⟨x, rfl, x0, x1⟩ := yv_int (T := (0, 0, 0)) h1 rfl
        dsimp only at x0 x1
        have ex : x = 0 := Int32.toInt_inj.mp (show x.toInt = (0 : Int32).toInt by have : (0 : Int32).toInt = 0 := rfl; omega)
        subst ex
        exact hQ0 G' X'
def yXq (J : xm_H → Prop) (Q : xm_Q) (E : xm_R) (G0 : xm_H) : Prop := ∀ (G' : xm_H) (r : Int32), yX J G0 G' → (r = 0 ∨ r = 1) → Q (some (.int r)) G' E = true
theorem yX_end (hJ : yj_ok J) (hQ : yXq J Q E G0) {lv : xm_L} {call : xm_C} (l0 : xm_get lv 0 = some (.ref 344)) {G : xm_H} (hX : yX J G0 G) {F : Nat} (hFu : 30 ≤ F) : xm_run call xm_c167 2 0 0 (some .boolean) Q F (xm_drop 49 xm_c167) lv [] G E 0 0 = true := by
  obtain ⟨f, rfl⟩ : ∃ f, F = f + 30 := ⟨F - 30, by omega⟩
  simp only [xy_167_49 l0, xz_167_50]
  rw [xz_167_51, xk_pf hX.1 rfl (by decide)]
  have X1 := hX.put hJ (i := 1) (w := .int 0) (T := (0, 0, 400)) (by decide) rfl ⟨rfl, by decide, by decide⟩ (by decide +kernel) (by decide +kernel) (by decide +kernel)
  generalize yU G 344 1 (.int 0) = G1 at X1 ⊢
  obtain ⟨x, p9, -⟩ := yM_int X1.1 (i := 9) (lo := -2147483648) (hi := 2147483647) (by decide) rfl
  simp only [xy_167_52 l0, xz_167_53, xy_167_54, xk_gf X1.1 p9]
  by_cases hx : x.toInt = 0
  · rw [decide_eq_true hx, Bool.not_true, cond_false]
    simp only [xz_167_55, xy_167_56]
    simp only [xy_167_58_0, xy_167_58_1]
    exact hQ G1 1 X1 (Or.inr rfl)
  · rw [decide_eq_false hx, Bool.not_false, cond_true]
    simp only [xz_167_57, xy_167_58_0, xy_167_58_1]
    exact hQ G1 0 X1 (Or.inl rfl)
theorem yX_b (hJ : yj_ok J) (hC : ∀ c : Int, 0 ≤ c → c < 40 → yc_ok (yi_Inv J) (yhc c) (xm_exec (d + 1))) (hC4 : yc_ok (yi_Inv J) yi_223 (xm_exec (d + 1))) (hQ : yXq J Q E G0) {G : xm_H} {lv : xm_L} {ln : Int32} (hX : yX J G0 G) (hl : yR G 344 14 = some (.int ln)) (hl0 : 0 ≤ ln.toInt) (hl4 : ln.toInt ≤ 40) (l0 : xm_get lv 0 = some (.ref 344)) (l1 : xm_get lv 1 = some (.int 1)) {g : Nat} (hrec : ∀ (G' : xm_H) (ln' : Int32) (lv' : xm_L) (F : Nat), g ≤ F → yX J G0 G' → yR G' 344 14 = some (.int ln') → ln'.toInt = ln.toInt + 1 → ln'.toInt ≤ 40 → xm_get lv' 0 = some (.ref 344) → xm_get lv' 1 = some (.int 1) → xm_run (xm_exec (d + 1)) xm_c167 2 0 0 (some .boolean) Q F (xm_drop 21 xm_c167) lv' [] G' E 0 0 = true) : xm_run (xm_exec (d + 1)) xm_c167 2 0 0 (some .boolean) Q (g + 200) (xm_drop 21 xm_c167) lv [] G E 0 0 = true := by
  have n59 : (59 : Int32).toInt = 59 := rfl
  have n1 : (1 : Int32).toInt = 1 := rfl
  have mm : (-1 : Int32).toInt = -1 := rfl
  obtain ⟨v0, hM0⟩ := hX.obj
  simp only [xy_167_21 l1, xy_167_22, xy_167_23 l0, xy_167_24, xi_1, cond_false]
  rw [yO_call0 (a := 132) rfl hM0 (Nat.le_of_ble_eq_true rfl)]
  refine hX.see hJ (fun G1 c X1 q1 k1 => ?_)
  simp only [xz_167_25, xy_167_26, n59]
  by_cases c1 : c.toInt = 59
  · rw [decide_eq_true c1, Bool.not_true, cond_false]
    obtain ⟨nx, p8, z0, z4⟩ := q1.resolve_left (by omega)
    simp only [xy_167_27 l0, xy_167_28, xz_167_29, xz_167_30, xy_167_31, xk_gf X1.1 p8]
    rw [xz_167_32, xk_pf X1.1 rfl (by decide)]
    have inx : (nx + 1).toInt = nx.toInt + 1 := by rw [yk_add] <;> rw [n1] <;> omega
    have X2 := X1.put hJ (i := 8) (w := .int (nx + 1)) (T := (0, 0, 400)) (by decide) rfl ⟨rfl, by show 0 ≤ (nx + 1).toInt; omega, by show (nx + 1).toInt ≤ 400; omega⟩ (by decide +kernel) (by decide +kernel) (by decide +kernel)
    have hl2 : yR (yU G1 344 8 (.int (nx + 1))) 344 14 = some (.int ln) := by rw [yU_miss (Or.inr (by decide))]; exact k1 _ hl
    generalize yU G1 344 8 (.int (nx + 1)) = G2 at X2 hl2 ⊢
    obtain ⟨v2, hM2⟩ := X2.obj
    simp only [xy_167_33 l0, xy_167_34]
    rw [yO_call0 (a := 166) rfl hM2 (Nat.le_of_ble_eq_true rfl)]
    refine X2.clause hJ hC hC4 hl2 hl0 hl4 (fun G3 X3 => ?_) (fun G3 ln3 X3 hl3 e3 e4 => ?_)
    · simp only [xy_167_35, xy_167_36]
      have l1' : xm_get (xm_set1 lv 1 (.int 0)) 1 = some (.int 0) := xl_gs1
      replace l0 : xm_get (xm_set1 lv 1 (.int 0)) 0 = some (.ref 344) := xl_s1 (by decide) (Or.inl rfl) l0
      generalize xm_set1 lv 1 (.int 0) = lv3 at l0 l1' ⊢
      replace l1 := l1'
      simp only [xy_167_21 l1, xy_167_22, xi_0, cond_true]
      simp only [xy_167_37 l1, xy_167_38, xi_0, cond_true]
      exact yX_end hJ hQ l0 X3 (by omega)
    · simp only [xy_167_35, xy_167_36]
      exact hrec G3 ln3 _ _ (by omega) X3 hl3 e3 e4 (xl_s1 (by decide) (Or.inl rfl) l0) xl_gs1
  · rw [decide_eq_false c1, Bool.not_false, cond_true]
    obtain ⟨v1, hM1⟩ := X1.obj
    simp only [xy_167_37 l1, xy_167_38, xy_167_39 l0, xy_167_40, xi_1, cond_false]
    rw [yO_call0 (a := 132) rfl hM1 (Nat.le_of_ble_eq_true rfl)]
    refine X1.see hJ (fun G2 c2 X2 q2 k2 => ?_)
    simp only [xz_167_41, xy_167_42, mm]
    by_cases c3 : c2.toInt = -1
    · rw [decide_eq_true c3, cond_true]
      exact yX_end hJ hQ l0 X2 (by omega)
    · rw [decide_eq_false c3, cond_false]
      obtain ⟨v2, hM2⟩ := X2.obj
      obtain ⟨nx, p8, -⟩ := X2.nx
      simp only [xy_167_43 l0, xz_167_44, xy_167_45 l0, xz_167_46, xy_167_47, xk_gf X2.1 p8]
      rw [yO_call2 (a := 131) rfl hM2 (Nat.le_of_ble_eq_true rfl)]
      refine X2.fails hJ (fun G3 X3 => ?_)
      simp only [xy_167_48]
      exact yX_end hJ hQ l0 X3 (by omega)
theorem yX_r (hJ : yj_ok J) (hC : ∀ c : Int, 0 ≤ c → c < 40 → yc_ok (yi_Inv J) (yhc c) (xm_exec (d + 1))) (hC4 : yc_ok (yi_Inv J) yi_223 (xm_exec (d + 1))) (hQ : yXq J Q E G0) : ∀ (n : Nat) (G : xm_H) (lv : xm_L) (ln : Int32), yX J G0 G → yR G 344 14 = some (.int ln) → 0 ≤ ln.toInt → ln.toInt ≤ 40 → xm_get lv 0 = some (.ref 344) → xm_get lv 1 = some (.int 1) → (40 - ln.toInt).toNat ≤ n → ∀ {F : Nat}, 200 * (n + 1) ≤ F → xm_run (xm_exec (d + 1)) xm_c167 2 0 0 (some .boolean) Q F (xm_drop 21 xm_c167) lv [] G E 0 0 = true := by
  intro n
  induction n with
  | zero =>
    intro G lv ln hX hl hl0 hl4 l0 l1 hn F hFu
    obtain ⟨g, rfl⟩ : ∃ g, F = g + 200 := ⟨F - 200, by omega⟩
    exact yX_b hJ hC hC4 hQ hX hl hl0 hl4 l0 l1 (fun G' ln' lv' F' hg X' hl' e1 e2 l0' l1' => by omega)
  | succ n ih =>
    intro G lv ln hX hl hl0 hl4 l0 l1 hn F hFu
    obtain ⟨g, rfl⟩ : ∃ g, F = g + 200 := ⟨F - 200, by omega⟩
    exact yX_b hJ hC hC4 hQ hX hl hl0 hl4 l0 l1 (fun G' ln' lv' F' hg X' hl' e1 e2 l0' l1' => ih G' lv' ln' X' hl' (by omega) e2 l0' l1' (by omega) (by omega))
/-- readsAll of a house -/
theorem yc_all (hJ : yj_ok J) (hC : ∀ c : Int, 0 ≤ c → c < 40 → yc_ok (yi_Inv J) (yhc c) (xm_exec (d + 1))) (hC4 : yc_ok (yi_Inv J) yi_223 (xm_exec (d + 1))) : yc_ok (yi_Inv J) yi_224 (xm_exec (d + 2)) := by
  intro G As Ec Q hT hI hA hF hQ
  match As, hA with
  | [a], hA =>
    obtain ⟨j, rfl, hj⟩ := yv_ref hA.1 rfl
    have hj := yr_oneM (Int.ofNat.inj hj)
    subst hj
    obtain ⟨v, v1, v2⟩ := hF (0, [11], (0, 6, 6)) List.mem_cons_self
    have v1 : some (Value.ref 344) = some v := v1
    cases v1
    obtain ⟨w, w1, w2⟩ := yf_of v2
    obtain ⟨t, rfl, t0, t1⟩ := yv_int w2 rfl
    dsimp only at t0 t1
    have et : t = 6 := Int32.toInt_inj.mp (show t.toInt = (6 : Int32).toInt by have : (6 : Int32).toInt = 6 := rfl; omega)
    subst et
    have X0 : yX J G G := ⟨hT, hI, ys_Fr.refl _ _, w1⟩
    have hQ' : yXq J Q Ec G := fun G' r X' hr => hQ _ G' X'.1 X'.2.1 X'.2.2.1 ⟨(some (0, 0, 1), []), List.mem_cons_self, by rcases hr with rfl | rfl <;> exact ⟨rfl, by decide, by decide⟩, fun q hq => by cases hq⟩
    refine yx_exec (m := 167) rfl rfl (Nat.le_of_ble_eq_true rfl) ?_
    obtain ⟨g, hg⟩ := xn_f
    rw [hg]
    have l0 : xm_get (lv_args 0 [Value.ref 344]) 0 = some (.ref 344) := rfl
    show xm_run (xm_exec (d + 1)) xm_c167 2 0 0 (some .boolean) Q (g + 40000) (xm_drop 0 xm_c167) (lv_args 0 [.ref 344]) [] G Ec 0 0 = true
    generalize lv_args 0 [Value.ref 344] = lv at l0 ⊢
    have r4 : yR G 344 4 = some (.ref 347) := yM_ref hT (r := 96) (by decide) rfl (by decide)
    simp only [xy_167_0 l0, xz_167_1, xy_167_2 l0, xz_167_3, xz_167_4, xk_gf hT r4, xk_gf hT w1]
    rw [xz_167_5, xk_ias hT (j := 347) (r := 96) rfl yq_96 (by decide) (by decide) (by show _ < ((7 : Nat) : Int); decide)]
    obtain ⟨x1, x2⟩ := yU_HT (md := [(96, 100000)]) hT (j := 347) (i := (6 : Int32).toInt.toNat) (w := .int 0) (r := 96) rfl yq_96 (show _ < 7 by decide) yv_one ⟨rfl, by decide, by decide⟩ (yf_mod (by simp))
    have X1 := X0.fr hJ x1 x2 (by decide +kernel) (by decide +kernel) (by decide +kernel)
    generalize yU G 347 (6 : Int32).toInt.toNat (.int 0) = G1 at X1 ⊢
    simp only [xy_167_6 l0, xz_167_7]
    rw [xz_167_8, xk_pf X1.1 rfl (by decide)]
    have X2 := X1.put hJ (i := 14) (w := .int 0) (T := yr_top) (by decide) rfl ⟨rfl, ys_b32 _⟩ (by decide +kernel) (by decide +kernel) (by decide +kernel)
    have k14 : yR (yU G1 344 14 (.int 0)) 344 14 = some (.int 0) := by
      obtain ⟨z, z1, -⟩ := yM_int X1.1 (i := 14) (lo := -2147483648) (hi := 2147483647) (by decide) rfl
      exact yU_hit z1
    generalize yU G1 344 14 (.int 0) = G2 at X2 k14 ⊢
    simp only [xy_167_9 l0, xz_167_10]
    rw [xz_167_11, xk_pf X2.1 rfl (by decide)]
    have X3 := X2.put hJ (i := 8) (w := .int 0) (T := (0, 0, 400)) (by decide) rfl ⟨rfl, by decide, by decide⟩ (by decide +kernel) (by decide +kernel) (by decide +kernel)
    replace k14 : yR (yU G2 344 8 (.int 0)) 344 14 = some (.int 0) := by rw [yU_miss (Or.inr (by decide))]; exact k14
    generalize yU G2 344 8 (.int 0) = G3 at X3 k14 ⊢
    simp only [xy_167_12 l0, xz_167_13]
    rw [xz_167_14, xk_pf X3.1 rfl (by decide)]
    have X4 := X3.put hJ (i := 9) (w := .int 0) (T := yr_top) (by decide) rfl ⟨rfl, ys_b32 _⟩ (by decide +kernel) (by decide +kernel) (by decide +kernel)
    replace k14 : yR (yU G3 344 9 (.int 0)) 344 14 = some (.int 0) := by rw [yU_miss (Or.inr (by decide))]; exact k14
    generalize yU G3 344 9 (.int 0) = G4 at X4 k14 ⊢
    simp only [xy_167_15 l0, xz_167_16]
    rw [xz_167_17, xk_pf X4.1 rfl (by decide)]
    have X5 := X4.put hJ (i := 12) (w := .int 0) (T := (0, 0, 60)) (by decide) rfl ⟨rfl, by decide, by decide⟩ (by decide +kernel) (by decide +kernel) (by decide +kernel)
    replace k14 : yR (yU G4 344 12 (.int 0)) 344 14 = some (.int 0) := by rw [yU_miss (Or.inr (by decide))]; exact k14
    generalize yU G4 344 12 (.int 0) = G5 at X5 k14 ⊢
    obtain ⟨v5, hM5⟩ := X5.obj
    simp only [xy_167_18 l0, xy_167_19]
    rw [yO_call0 (a := 166) rfl hM5 (Nat.le_of_ble_eq_true rfl)]
    refine X5.clause hJ hC hC4 k14 (by decide) (by decide) (fun G6 X6 => ?_) (fun G6 ln6 X6 hl6 e6 e7 => ?_)
    · simp only [xy_167_20]
      have l1 : xm_get (xm_set1 lv 1 (.int 0)) 1 = some (.int 0) := xl_gs1
      replace l0 : xm_get (xm_set1 lv 1 (.int 0)) 0 = some (.ref 344) := xl_s1 (by decide) (Or.inl rfl) l0
      generalize xm_set1 lv 1 (.int 0) = lv3 at l0 l1 ⊢
      simp only [xy_167_21 l1, xy_167_22, xi_0, cond_true]
      simp only [xy_167_37 l1, xy_167_38, xi_0, cond_true]
      exact yX_end hJ hQ' l0 X6 (by omega)
    · simp only [xy_167_20]
      have z0 : (0 : Int32).toInt = 0 := rfl
      exact yX_r hJ hC hC4 hQ' 40 G6 _ ln6 X6 hl6 (by omega) e7 (xl_s1 (by decide) (Or.inl rfl) l0) xl_gs1 (by omega) (by omega)
end HX
