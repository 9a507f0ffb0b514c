/-! settles, isInside -/
theorem yH_not {h : Nat} (hh : 1 ≤ h) : yH1 (some (.int (11 + 16 * 0))) h = some h := by
  have k : ∀ z : Int32, z &&& 15 ≠ 0 → z &&& 15 ≠ 1 → z &&& 15 = 11 → yH1 (some (.int z)) h = some h := by
    intro z h0 h1 h2
    unfold yH1
    dsimp only
    rw [if_neg h0, if_neg h1, if_pos h2, if_pos hh]
  exact k _ (by decide) (by decide) (by decide)
theorem yH_bin {s : Int32} (h : s = 2 ∨ s = 3 ∨ s = 4 ∨ s = 5 ∨ s = 6 ∨ s = 7 ∨ s = 8 ∨ s = 9 ∨ s = 10 ∨ s = 12 ∨ s = 13 ∨ s = 14) {n : Nat} : yH1 (some (.int (s + 16 * 0))) (n + 2) = some (n + 1) := by
  have k : ∀ z : Int32, z &&& 15 ≠ 0 → z &&& 15 ≠ 1 → z &&& 15 ≠ 11 → yH1 (some (.int z)) (n + 2) = some (n + 1) := by
    intro z h0 h1 h2
    unfold yH1
    dsimp only
    rw [if_neg h0, if_neg h1, if_neg h2, if_pos (by omega)]
    rfl
  rcases h with rfl | rfl | rfl | rfl | rfl | rfl | rfl | rfl | rfl | rfl | rfl | rfl <;> exact k _ (by decide) (by decide) (by decide)
theorem yStr_1 {x : Int32} (h : 1 ≤ (yStr x).toInt) : x = 11 ∨ x = 12 ∨ x = 13 := by
  unfold yStr at h
  by_cases e3 : x.toInt = 13
  · exact Or.inr (Or.inr (Int32.toInt_inj.mp e3))
  · by_cases e2 : x.toInt = 12
    · exact Or.inr (Or.inl (Int32.toInt_inj.mp e2))
    · by_cases e1 : x.toInt = 11
      · exact Or.inl (Int32.toInt_inj.mp e1)
      · rw [if_neg e3, if_neg e2, if_neg e1] at h
        exact absurd h (by decide)
section PQ
variable {G0 : xm_H} {t m : Int32} {op : Nat → Option Value} {b d : Nat} {Q : xm_Q} {E : xm_R}
theorem yS.opx {G : xm_H} {t L O m dp : Int32} {h : Nat} (hS : yS G0 G t L O m dp op b h) {i : Nat} (hi : i < 400) : ∃ x : Int32, op i = some (.int x) := by
  obtain ⟨x, h1, -⟩ := yA_int hS.1.1 (j := 351) (r := 100) (i := i) rfl yq_100 hi
  rw [hS.2.2.1.2] at h1
  exact ⟨x, h1⟩
theorem yS_setr {least : Int32} {LO O0 : Int} {N : Option Value} {lv : xm_L} (l0 : xm_get lv 0 = some (.ref 344)) (l1 : xm_get lv 1 = some (.int least)) (hl : 1 ≤ least.toInt) (hLO : LO ≤ 400) (hQ : ∀ (G' : xm_H) (L' O' dp' : Int32), yS G0 G' t L' O' m dp' op b (yBin op O'.toInt.toNat + 1) → L'.toInt + O'.toInt = LO → dp'.toInt = O'.toInt - yBin op O'.toInt.toNat → O'.toInt ≤ O0 → (∀ k : Nat, O'.toInt ≤ k → (k : Int) < O0 → op k ≠ some (.int 91)) → (O'.toInt = 0 ∨ ∃ x : Int32, op (O'.toInt.toNat - 1) = some (.int x) ∧ (yStr x).toInt < least.toInt) → yR G' 344 8 = N → Q none G' E = true) : ∀ (n : Nat) (G : xm_H) (L O dp : Int32), O.toInt.toNat ≤ n → yS G0 G t L O m dp op b (yBin op O.toInt.toNat + 1) → L.toInt + O.toInt = LO → dp.toInt = O.toInt - yBin op O.toInt.toNat → O.toInt ≤ O0 → (∀ k : Nat, O.toInt ≤ k → (k : Int) < O0 → op k ≠ some (.int 91)) → yR G 344 8 = N → ∀ {F : Nat}, 60 * (n + 1) ≤ F → xm_run (xm_exec (d + 1)) xm_c144 2 0 0 none Q F (xm_drop 0 xm_c144) lv [] G E 0 0 = true := by
  intro n
  induction n with
  | zero =>
    intro G L O dp hn hS h1 h2 h3 h4 h5 F hF
    obtain ⟨g, rfl⟩ : ∃ g, F = g + 60 := ⟨F - 60, by omega⟩
    have hO := hS.Or
    have c4 := hS.2.1.2.2.2
    simp only [xy_144_0 l0, xz_144_1, xy_144_2, xk_gf hS.1.1 c4]
    rw [decide_eq_false (show ¬ 0 < O.toInt by omega), Bool.not_false, cond_true]
    simp only [xy_144_41]
    exact hQ G L O dp hS h1 h2 h3 h4 (Or.inl (by omega)) h5
  | succ n ih =>
    intro G L O dp hn hS h1 h2 h3 h4 h5 F hF
    obtain ⟨g, rfl⟩ : ∃ g, F = g + 60 := ⟨F - 60, by omega⟩
    have hO := hS.Or
    have hm := hS.mr
    have hLr := hS.Lr
    have c4 := hS.2.1.2.2.2
    have r15 := hS.refs.2.2.2.2
    simp only [xy_144_0 l0, xz_144_1, xy_144_2, xk_gf hS.1.1 c4]
    by_cases hc : 0 < O.toInt
    · rw [decide_eq_true hc, Bool.not_true, cond_false]
      obtain ⟨x, hx⟩ := hS.opx (i := O.toInt.toNat - 1) (by omega)
      have n1 : (1 : Int32).toInt = 1 := rfl
      have i1 : (O - 1).toInt = O.toInt - 1 := by rw [yk_sub] <;> rw [n1] <;> omega
      have i2 : (O - 1).toInt.toNat = O.toInt.toNat - 1 := by omega
      simp only [xy_144_3 l0, xz_144_4, xy_144_5 l0, xz_144_6, xz_144_7, xy_144_8, xk_gf hS.1.1 r15, xk_gf hS.1.1 c4]
      rw [xz_144_9, xk_ial hS.1.1 (j := 351) (r := 100) rfl yq_100 rfl (by omega) (show yR G 351 (O - 1).toInt.toNat = some (.int x) by rw [hS.2.2.1.2, i2]; exact hx), xy_144_10, yO_scall1 (Nat.le_of_ble_eq_true rfl)]
      refine yO_str ?_
      simp only [xy_144_11 l1, xy_144_12]
      by_cases hs : (yStr x).toInt < least.toInt
      · rw [decide_eq_true hs, cond_true]
        simp only [xy_144_41]
        exact hQ G L O dp hS h1 h2 h3 h4 (Or.inr ⟨x, hx, hs⟩) h5
      · rw [decide_eq_false hs, cond_false]
        have hx3 := yStr_1 (x := x) (by omega)
        have hb : yBin op O.toInt.toNat = yBin op (O.toInt.toNat - 1) + (if op (O.toInt.toNat - 1) = some (.int 12) ∨ op (O.toInt.toNat - 1) = some (.int 13) then 1 else 0) := by
          rw [show O.toInt.toNat = (O.toInt.toNat - 1) + 1 by omega]
          rfl
        have hb2 : yBin op (O - 1).toInt.toNat = yBin op (O.toInt.toNat - 1) := by rw [i2]
        have hbl := yBin_le (f := op) (n := O.toInt.toNat - 1)
        simp only [xy_144_13 l0, xy_144_14, xz_144_15, xz_144_16, xy_144_17, xk_gf hS.1.1 c4]
        rw [xz_144_18, xk_pf hS.1.1 rfl (by decide)]
        have S1 := hS.put16 (O' := O - 1) (by omega) (by omega)
        have x1 : yR (yU G 344 16 (.int (O - 1))) 344 8 = yR G 344 8 := yU_miss (Or.inr (by decide))
        generalize yU G 344 16 (.int (O - 1)) = G1 at S1 x1 ⊢
        have c4' := S1.2.1.2.2.2
        have r15' := S1.refs.2.2.2.2
        have hx1 : yR G1 351 (O - 1).toInt.toNat = some (.int x) := by rw [S1.2.2.1.2, i2]; exact hx
        simp only [xy_144_19 l0, xy_144_20 l0, xz_144_21, xy_144_22 l0, xz_144_23, xk_gf S1.1.1 r15', xk_gf S1.1.1 c4']
        rw [xz_144_24, xk_ial S1.1.1 (j := 351) (r := 100) rfl yq_100 rfl (by omega) hx1]
        obtain ⟨vs1, hM1⟩ := S1.obj
        simp only [xz_144_25, xy_144_26]
        rw [yO_call2 (a := 140) rfl hM1 (Nat.le_of_ble_eq_true rfl)]
        have i3 : (L + 1).toInt = L.toInt + 1 := by rw [yk_add] <;> rw [n1] <;> omega
        have h91 : op (O.toInt.toNat - 1) ≠ some (.int 91) := by
          rw [hx]
          intro q
          cases q
          exact absurd hx3 (by decide)
        have h4' : ∀ k : Nat, (O - 1).toInt ≤ k → (k : Int) < O0 → op k ≠ some (.int 91) := by
          intro k k1 k2
          by_cases e : k = O.toInt.toNat - 1
          · rw [e]; exact h91
          · exact h4 k (by omega) k2
        have fin : ∀ (G3 : xm_H) (dp3 : Int32), yS G0 G3 t (L + 1) (O - 1) m dp3 op b (yBin op (O - 1).toInt.toNat + 1) → dp3.toInt = (O - 1).toInt - yBin op (O - 1).toInt.toNat → yR G3 344 8 = N → ∀ {F : Nat}, 60 * (n + 1) ≤ F → xm_run (xm_exec (d + 1)) xm_c144 2 0 0 none Q F (xm_drop 0 xm_c144) lv [] G3 E 0 0 = true := fun G3 dp3 q1 q2 q3 => ih G3 (L + 1) (O - 1) dp3 (by omega) q1 (by omega) q2 (by omega) h4' q3
        have hx11 : (11 : Int32).toInt = 11 := rfl
        rcases hx3 with rfl | hx3
        · rw [if_neg (by rw [hx]; decide)] at hb
          refine S1.puts (h' := yBin op (O - 1).toInt.toNat + 1) (by omega) (by rw [hb, i2]; exact yH_not (by omega)) (by have := hS.2.2.2.2.2.2; rw [hb] at this; rw [i2]; omega) (fun G2 S2 x2 => ?_)
          have c4'' := S2.2.1.2.2.2
          have c3'' := S2.2.1.2.2.1
          have r15'' := S2.refs.2.2.2.2
          have hx2 : yR G2 351 (O - 1).toInt.toNat = some (.int 11) := by rw [S2.2.2.1.2, i2]; exact hx
          simp only [xy_144_27 l0, xz_144_28, xy_144_29 l0, xz_144_30, xk_gf S2.1.1 r15'', xk_gf S2.1.1 c4'']
          rw [xz_144_31, xk_ial S2.1.1 (j := 351) (r := 100) rfl yq_100 rfl (by omega) hx2]
          simp only [xz_144_32, xy_144_33, decide_true, Bool.not_true, cond_false]
          simp only [xy_144_34 l0, xy_144_35, xz_144_36, xz_144_37, xy_144_38, xk_gf S2.1.1 c3'']
          rw [xz_144_39, xk_pf S2.1.1 rfl (by decide)]
          have S3 := S2.put13 (dp' := dp - 1)
          have x3 : yR (yU G2 344 13 (.int (dp - 1))) 344 8 = yR G2 344 8 := yU_miss (Or.inr (by decide))
          generalize yU G2 344 13 (.int (dp - 1)) = G3 at S3 x3 ⊢
          simp only [xy_144_40]
          exact fin G3 (dp - 1) S3 (by rw [yk_sub] <;> rw [n1] <;> omega) (by rw [x3, x2, x1, h5]) (by omega)
        · have hx3' : x = 12 ∨ x = 13 := hx3
          rw [if_pos (by rw [hx]; rcases hx3 with rfl | rfl <;> decide)] at hb
          refine S1.puts (h' := yBin op (O - 1).toInt.toNat + 1) (by omega) (by rw [hb, i2]; exact yH_bin (by rcases hx3 with rfl | rfl <;> decide)) (by have := hS.2.2.2.2.2.2; rw [hb] at this; rw [i2]; omega) (fun G2 S2 x2 => ?_)
          have c4'' := S2.2.1.2.2.2
          have r15'' := S2.refs.2.2.2.2
          have hx2 : yR G2 351 (O - 1).toInt.toNat = some (.int x) := by rw [S2.2.2.1.2, i2]; exact hx
          simp only [xy_144_27 l0, xz_144_28, xy_144_29 l0, xz_144_30, xk_gf S2.1.1 r15'', xk_gf S2.1.1 c4'']
          rw [xz_144_31, xk_ial S2.1.1 (j := 351) (r := 100) rfl yq_100 rfl (by omega) hx2]
          simp only [xz_144_32, xy_144_33]
          rw [show decide (x.toInt = (11 : Int32).toInt) = false by rcases hx3 with rfl | rfl <;> rfl, Bool.not_false, cond_true]
          exact fin G2 dp S2 (by omega) (by rw [x2, x1, h5]) (by omega)
    · rw [decide_eq_false hc, Bool.not_false, cond_true]
      simp only [xy_144_41]
      exact hQ G L O dp hS h1 h2 h3 h4 (Or.inl (by omega)) h5
theorem yS.settles {G : xm_H} {L O dp least : Int32} (hS : yS G0 G t L O m dp op b (yBin op O.toInt.toNat + 1)) (hl : 1 ≤ least.toInt) (hLO : L.toInt + O.toInt ≤ 400) (hd : dp.toInt = O.toInt - yBin op O.toInt.toNat) (hQ : ∀ (G' : xm_H) (L' O' dp' : Int32), yS G0 G' t L' O' m dp' op b (yBin op O'.toInt.toNat + 1) → L'.toInt + O'.toInt = L.toInt + O.toInt → dp'.toInt = O'.toInt - yBin op O'.toInt.toNat → O'.toInt ≤ O.toInt → (∀ k : Nat, O'.toInt ≤ k → (k : Int) < O.toInt → op k ≠ some (.int 91)) → (O'.toInt = 0 ∨ ∃ x : Int32, op (O'.toInt.toNat - 1) = some (.int x) ∧ (yStr x).toInt < least.toInt) → yR G' 344 8 = yR G 344 8 → Q none G' E = true) : xm_exec (d + 2) 144 [.ref 344, .int least] G E Q = true := by
  refine yx_exec (m := 144) rfl rfl (Nat.le_of_ble_eq_true rfl) ?_
  obtain ⟨g, hg⟩ := xn_f
  rw [hg]
  have hO := hS.Or
  exact yS_setr (lv := lv_args 0 [.ref 344, .int least]) rfl rfl hl hLO hQ 400 G L O dp (by omega) hS rfl hd (Int.le_refl _) (fun k k1 k2 => by omega) rfl (by omega)
/-- isInside -/
theorem yS_insr {G : xm_H} {L O dp : Int32} {h : Nat} (hS : yS G0 G t L O m dp op b h) (hQ : ∀ r : Int32, (r = 0 ∨ (r = 1 ∧ ∃ k : Nat, (k : Int) < O.toInt ∧ op k = some (.int 91))) → Q (some (.int r)) G E = true) : ∀ (n : Nat) (lv : xm_L) (k : Int32), xm_get lv 0 = some (.ref 344) → xm_get lv 1 = some (.int k) → 0 ≤ k.toInt → k.toInt ≤ 400 → (400 - k.toInt).toNat ≤ n → ∀ {F : Nat}, 30 * (n + 1) ≤ F → xm_run (xm_exec d) xm_c150 2 0 0 (some .boolean) Q F (xm_drop 2 xm_c150) lv [] G E 0 0 = true := by
  intro n
  have hO := hS.Or
  have c4 := hS.2.1.2.2.2
  have r15 := hS.refs.2.2.2.2
  induction n with
  | zero =>
    intro lv k l0 l1 k0 k4 hn F hF
    obtain ⟨g, rfl⟩ : ∃ g, F = g + 30 := ⟨F - 30, by omega⟩
    simp only [xy_150_2 l1, xy_150_3 l0, xz_150_4, xy_150_5, xk_gf hS.1.1 c4]
    rw [decide_eq_false (show ¬ k.toInt < O.toInt by omega), Bool.not_false, cond_true]
    simp only [xz_150_16, xy_150_17_0, xy_150_17_1]
    exact hQ 0 (Or.inl rfl)
  | succ n ih =>
    intro lv k l0 l1 k0 k4 hn F hF
    obtain ⟨g, rfl⟩ : ∃ g, F = g + 30 := ⟨F - 30, by omega⟩
    simp only [xy_150_2 l1, xy_150_3 l0, xz_150_4, xy_150_5, xk_gf hS.1.1 c4]
    by_cases hc : k.toInt < O.toInt
    · rw [decide_eq_true hc, Bool.not_true, cond_false]
      obtain ⟨x, hx⟩ := hS.opx (i := k.toInt.toNat) (by omega)
      simp only [xy_150_6 l0, xz_150_7, xy_150_8 l1, xk_gf hS.1.1 r15]
      rw [xz_150_9, xk_ial hS.1.1 (j := 351) (r := 100) rfl yq_100 rfl k0 (show yR G 351 k.toInt.toNat = some (.int x) by rw [hS.2.2.1.2]; exact hx)]
      simp only [xz_150_10, xy_150_11]
      by_cases h9 : x.toInt = (91 : Int32).toInt
      · rw [decide_eq_true h9, Bool.not_true, cond_false]
        simp only [xz_150_12, xy_150_13_0, xy_150_13_1]
        exact hQ 1 (Or.inr ⟨rfl, k.toInt.toNat, by omega, by rw [hx, Int32.toInt_inj.mp h9]⟩)
      · rw [decide_eq_false h9, Bool.not_false, cond_true]
        have n1 : (Int32.ofInt 1).toInt = 1 := rfl
        have e : (k + Int32.ofInt 1).toInt = k.toInt + 1 := by rw [yk_add] <;> rw [n1] <;> omega
        simp only [xy_150_14 l1, xy_150_15]
        exact ih _ _ (xl_s1 (by decide) (Or.inl rfl) l0) xl_gs1 (by omega) (by omega) (by omega) (by omega)
    · rw [decide_eq_false hc, Bool.not_false, cond_true]
      simp only [xz_150_16, xy_150_17_0, xy_150_17_1]
      exact hQ 0 (Or.inl rfl)
theorem yS.inside {G : xm_H} {L O dp : Int32} {h : Nat} (hS : yS G0 G t L O m dp op b h) (hQ : ∀ r : Int32, (r = 0 ∨ (r = 1 ∧ ∃ k : Nat, (k : Int) < O.toInt ∧ op k = some (.int 91))) → Q (some (.int r)) G E = true) : xm_exec (d + 1) 150 [.ref 344] G E Q = true := by
  refine yx_exec (m := 150) rfl rfl (Nat.le_of_ble_eq_true rfl) ?_
  obtain ⟨g, hg⟩ := xn_f
  rw [hg]
  show xm_run (xm_exec d) xm_c150 2 0 0 (some .boolean) Q (g + 40000) (xm_drop 0 xm_c150) (lv_args 0 [.ref 344]) [] G E 0 0 = true
  simp only [xz_150_0, xy_150_1]
  exact yS_insr hS hQ 400 _ 0 (xl_s1 (by decide) (Or.inl rfl) rfl) xl_gs1 (by decide) (by decide) (by decide) (by omega)
end PQ
