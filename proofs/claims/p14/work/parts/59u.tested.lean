/-! closes, tested -/
theorem yBin_mono {op : Nat → Option Value} {k : Nat} : ∀ {n : Nat}, k ≤ n → yBin op n ≤ yBin op k + (n - k)
  | 0, h => by
    have : k = 0 := by omega
    subst this
    exact Nat.le_refl _
  | n + 1, h => by
    by_cases e : k = n + 1
    · subst e
      omega
    · have ih := yBin_mono (op := op) (k := k) (n := n) (by omega)
      show yBin op n + (if op n = some (.int 12) ∨ op n = some (.int 13) then 1 else 0) ≤ _
      split <;> omega
theorem yStr_0 {x : Int32} (h : (yStr x).toInt < 1) : ¬ (some (Value.int x) = some (.int 12) ∨ some (Value.int x) = some (.int 13)) := by
  rintro (q | q)
  · cases q
    exact absurd h (by decide)
  · cases q
    exact absurd h (by decide)
section PK
variable {G0 : xm_H} {t m : Int32} {op : Nat → Option Value} {b d : Nat} {Q : xm_Q} {E : xm_R}
theorem yS_closeb {LO O0 : Int} (hLO : LO ≤ 400) (hQ : ∀ (G' : xm_H) (L' O' dp' : Int32), yS G0 G' t L' O' m dp' op b (yBin op O'.toInt.toNat + 1) → L'.toInt + O'.toInt ≤ LO → dp'.toInt = O'.toInt - yBin op O'.toInt.toNat → O'.toInt ≤ O0 → Q none G' E = true) {G : xm_H} {L O dp : Int32} {lv : xm_L} (l0 : xm_get lv 0 = some (.ref 344)) (hS : yS G0 G t L O m dp op b (yBin op O.toInt.toNat + 1)) (h1 : L.toInt + O.toInt ≤ LO) (hd : dp.toInt = O.toInt - yBin op O.toInt.toNat) (h2 : O.toInt ≤ O0) {g : Nat} (hrec : ∀ (G' : xm_H) (L' O' dp' : Int32) (F : Nat), g ≤ F → yS G0 G' t L' O' m dp' op b (yBin op O'.toInt.toNat + 1) → L'.toInt + O'.toInt ≤ LO → dp'.toInt = O'.toInt - yBin op O'.toInt.toNat → O'.toInt + 1 ≤ O.toInt → xm_run (xm_exec (d + 2)) xm_c151 1 0 0 none Q F (xm_drop 3 xm_c151) lv [] G' E 0 0 = true) : xm_run (xm_exec (d + 2)) xm_c151 1 0 0 none Q (g + 100) (xm_drop 3 xm_c151) lv [] G E 0 0 = true := by
  have n1 : (1 : Int32).toInt = 1 := rfl
  have n93 : (93 : Int32).toInt = 93 := rfl
  obtain ⟨v0, hM0⟩ := hS.obj
  simp only [xy_151_3 l0, xy_151_4]
  rw [yO_call0 (a := 132) rfl hM0 (Nat.le_of_ble_eq_true rfl)]
  refine hS.see (fun G1 c S1 q1 => ?_)
  simp only [xz_151_5, xy_151_6, n93]
  by_cases c1 : c.toInt = 93
  · rw [decide_eq_true c1, Bool.not_true, cond_false]
    obtain ⟨nx, p8, z0, z4⟩ := q1.resolve_left (by omega)
    obtain ⟨v1, hM1⟩ := S1.obj
    simp only [xy_151_7 l0, xy_151_8]
    rw [yO_call0 (a := 150) rfl hM1 (Nat.le_of_ble_eq_true rfl)]
    refine S1.inside (fun r hr => ?_)
    rcases hr with rfl | ⟨rfl, k, hk1, hk2⟩
    · simp only [xy_151_9, xi_0, cond_true]
      simp only [xy_151_35]
      exact hQ G1 L O dp S1 h1 hd h2
    · simp only [xy_151_9, xi_1, cond_false]
      simp only [xy_151_10 l0, xz_151_11, xy_151_12]
      rw [yO_call1 (a := 144) rfl hM1 (Nat.le_of_ble_eq_true rfl)]
      refine S1.settles (by decide) (by omega) hd (fun G2 L2 O2 dp2 S2 a1 a2 a3 a4 a5 a6 => ?_)
      have hO2 := S2.Or
      have hk3 : (k : Int) < O2.toInt := by
        rcases Int.lt_or_le (k : Int) O2.toInt with q | q
        · exact q
        · exact absurd hk2 (a4 k q hk1)
      obtain ⟨x, hx, hx1⟩ := a5.resolve_left (by omega)
      have hbx : yBin op O2.toInt.toNat = yBin op (O2.toInt.toNat - 1) := by
        have e : yBin op O2.toInt.toNat = yBin op (O2.toInt.toNat - 1) + (if op (O2.toInt.toNat - 1) = some (.int 12) ∨ op (O2.toInt.toNat - 1) = some (.int 13) then 1 else 0) := by
          rw [show O2.toInt.toNat = (O2.toInt.toNat - 1) + 1 by omega]
          rfl
        rw [e, hx, if_neg (yStr_0 (by rw [n1] at hx1; exact hx1))]
        rfl
      have i1 : (O2 - 1).toInt = O2.toInt - 1 := by rw [yk_sub] <;> rw [n1] <;> omega
      have hbl := yBin_le (f := op) (n := O2.toInt.toNat)
      have i2 : (dp2 - 1).toInt = dp2.toInt - 1 := by rw [yk_sub] <;> rw [n1] <;> omega
      have i3 : (O2 - 1).toInt.toNat = O2.toInt.toNat - 1 := by omega
      have c4 := S2.2.1.2.2.2
      simp only [xy_151_13 l0, xy_151_14, xz_151_15, xz_151_16, xy_151_17, xk_gf S2.1.1 c4]
      rw [xz_151_18, xk_pf S2.1.1 rfl (by decide)]
      have S3 := S2.put16 (O' := O2 - 1) (by omega) (by omega)
      have x3 : yR (yU G2 344 16 (.int (O2 - 1))) 344 8 = yR G2 344 8 := yU_miss (Or.inr (by decide))
      generalize yU G2 344 16 (.int (O2 - 1)) = G3 at S3 x3 ⊢
      have c3 := S3.2.1.2.2.1
      simp only [xy_151_19 l0, xy_151_20, xz_151_21, xz_151_22, xy_151_23, xk_gf S3.1.1 c3]
      rw [xz_151_24, xk_pf S3.1.1 rfl (by decide)]
      have S4 := S3.put13 (dp' := dp2 - 1)
      have x4 : yR (yU G3 344 13 (.int (dp2 - 1))) 344 8 = yR G3 344 8 := yU_miss (Or.inr (by decide))
      generalize yU G3 344 13 (.int (dp2 - 1)) = G4 at S4 x4 ⊢
      have p8' : yR G4 344 8 = some (.int nx) := by rw [x4, x3, a6]; exact p8
      simp only [xy_151_25 l0, xy_151_26, xz_151_27, xz_151_28, xy_151_29, xk_gf S4.1.1 p8']
      rw [xz_151_30, xk_pf S4.1.1 rfl (by decide)]
      have S5 := S4.inc z0 z4
      generalize yU G4 344 8 (.int (nx + 1)) = G5 at S5 ⊢
      rw [hbx, ← i3] at S5
      obtain ⟨v5, hM5⟩ := S5.obj
      simp only [xy_151_31 l0, xz_151_32, xy_151_33]
      rw [yO_call1 (a := 144) rfl hM5 (Nat.le_of_ble_eq_true rfl)]
      refine S5.settles (by decide) (by omega) (by rw [i3, ← hbx]; omega) (fun G6 L6 O6 dp6 S6 b1 b2 b3 b4 b5 b6 => ?_)
      simp only [xy_151_34]
      exact hrec G6 L6 O6 dp6 _ (by omega) S6 (by omega) b2 (by omega)
  · rw [decide_eq_false c1, Bool.not_false, cond_true]
    simp only [xy_151_35]
    exact hQ G1 L O dp S1 h1 hd h2
theorem yS_closer {LO O0 : Int} (hLO : LO ≤ 400) (hQ : ∀ (G' : xm_H) (L' O' dp' : Int32), yS G0 G' t L' O' m dp' op b (yBin op O'.toInt.toNat + 1) → L'.toInt + O'.toInt ≤ LO → dp'.toInt = O'.toInt - yBin op O'.toInt.toNat → O'.toInt ≤ O0 → Q none G' E = true) {lv : xm_L} (l0 : xm_get lv 0 = some (.ref 344)) : ∀ (n : Nat) (G : xm_H) (L O dp : Int32), O.toInt.toNat ≤ n → yS G0 G t L O m dp op b (yBin op O.toInt.toNat + 1) → L.toInt + O.toInt ≤ LO → dp.toInt = O.toInt - yBin op O.toInt.toNat → O.toInt ≤ O0 → ∀ {F : Nat}, 100 * (n + 1) ≤ F → xm_run (xm_exec (d + 2)) xm_c151 1 0 0 none Q F (xm_drop 3 xm_c151) lv [] G E 0 0 = true := by
  intro n
  induction n with
  | zero =>
    intro G L O dp hn hS h1 hd h2 F hFu
    obtain ⟨g, rfl⟩ : ∃ g, F = g + 100 := ⟨F - 100, by omega⟩
    exact yS_closeb hLO hQ l0 hS h1 hd h2 (fun G' L' O' dp' F' hg S' e1 e2 e3 => by have := S'.Or; omega)
  | succ n ih =>
    intro G L O dp hn hS h1 hd h2 F hFu
    obtain ⟨g, rfl⟩ : ∃ g, F = g + 100 := ⟨F - 100, by omega⟩
    exact yS_closeb hLO hQ l0 hS h1 hd h2 (fun G' L' O' dp' F' hg S' e1 e2 e3 => ih G' L' O' dp' (by have := S'.Or; omega) S' e1 e2 (by omega) (by omega))
theorem yS.closes {G : xm_H} {L O dp : Int32} (hS : yS G0 G t L O m dp op b (yBin op O.toInt.toNat + 1)) (hLO : L.toInt + O.toInt ≤ 400) (hd : dp.toInt = O.toInt - yBin op O.toInt.toNat) (hQ : ∀ (G' : xm_H) (L' O' dp' : Int32), yS G0 G' t L' O' m dp' op b (yBin op O'.toInt.toNat + 1) → L'.toInt + O'.toInt ≤ L.toInt + O.toInt → dp'.toInt = O'.toInt - yBin op O'.toInt.toNat → O'.toInt ≤ O.toInt → dp'.toInt ≤ dp.toInt → Q none G' E = true) : xm_exec (d + 3) 151 [.ref 344] G E Q = true := by
  refine yx_exec (m := 151) rfl rfl (Nat.le_of_ble_eq_true rfl) ?_
  obtain ⟨g, hg⟩ : ∃ g, xm_fuel = g + 50000 := ⟨xm_fuel - 50000, by have := yl_fuel 50000 (by omega); omega⟩
  rw [hg]
  have l0 : xm_get (lv_args 0 [Value.ref 344]) 0 = some (.ref 344) := rfl
  show xm_run (xm_exec (d + 2)) xm_c151 1 0 0 none Q (g + 50000) (xm_drop 0 xm_c151) (lv_args 0 [.ref 344]) [] G E 0 0 = true
  obtain ⟨v0, hM0⟩ := hS.obj
  simp only [xy_151_0 l0, xz_151_1, xy_151_2]
  rw [yO_call1 (a := 144) rfl hM0 (Nat.le_of_ble_eq_true rfl)]
  refine hS.settles (by decide) hLO hd (fun G2 L2 O2 dp2 S2 a1 a2 a3 a4 a5 a6 => ?_)
  have hO := hS.Or
  have hO2 := S2.Or
  refine yS_closer (LO := L.toInt + O.toInt) (O0 := O.toInt) hLO (fun G' L' O' dp' S' e1 e2 e3 => hQ G' L' O' dp' S' e1 e2 e3 ?_) l0 400 G2 L2 O2 dp2 (by omega) S2 (by omega) a2 a3 (by omega)
  have hO' := S'.Or
  have := yBin_mono (op := op) (k := O'.toInt.toNat) (n := O.toInt.toNat) (by omega)
  omega
end PK
section PG
variable {G0 : xm_H} {t : Int32} {b d : Nat} {Q : xm_Q} {E : xm_R}
/-- how a test ends -/
def yTq (Q : xm_Q) (E : xm_R) (G0 : xm_H) (t : Int32) (b : Nat) (P m0 : Int) : Prop := ∀ (G' : xm_H) (L' O' m' dp' : Int32) (op' : Nat → Option Value) (h' : Nat), yS G0 G' t L' O' m' dp' op' b (h' + 1) → L'.toInt + 5 * (60 - m'.toInt) ≤ P → m0 ≤ m'.toInt → Q (some (.int 1)) G' E = true
theorem yS_testb {P m0 : Int} (hP : P ≤ 390) (hF : yFl Q E G0) (hQ : yTq Q E G0 t b P m0) {G : xm_H} {L O m dp : Int32} {op : Nat → Option Value} {lv : xm_L} (l0 : xm_get lv 0 = some (.ref 344)) (l1 : xm_get lv 1 = some (.int 1)) (hS : yS G0 G t L O m dp op b (yBin op O.toInt.toNat)) (h1 : L.toInt + O.toInt + 5 * (60 - m.toInt) ≤ P) (hd : dp.toInt = O.toInt - yBin op O.toInt.toNat) (hd1 : dp.toInt ≤ 10) (hm0 : m0 ≤ m.toInt) {g : Nat} (hrec : ∀ (G' : xm_H) (L' O' m' dp' : Int32) (op' : Nat → Option Value) (lv' : xm_L) (F : Nat), g ≤ F → xm_get lv' 0 = some (.ref 344) → xm_get lv' 1 = some (.int 1) → yS G0 G' t L' O' m' dp' op' b (yBin op' O'.toInt.toNat) → L'.toInt + O'.toInt + 5 * (60 - m'.toInt) ≤ P → dp'.toInt = O'.toInt - yBin op' O'.toInt.toNat → dp'.toInt ≤ 10 → m.toInt + 1 ≤ m'.toInt → xm_run (xm_exec (d + 8)) xm_c152 3 0 0 (some .boolean) Q F (xm_drop 8 xm_c152) lv' [] G' E 0 0 = true) : xm_run (xm_exec (d + 8)) xm_c152 3 0 0 (some .boolean) Q (g + 200) (xm_drop 8 xm_c152) lv [] G E 0 0 = true := by
  have n1 : (1 : Int32).toInt = 1 := rfl
  have hb0 := yBin_le (f := op) (n := O.toInt.toNat)
  have hO := hS.Or
  have hm := hS.mr
  have hLr := hS.Lr
  have hhm := hS.2.2.2.2.2.2
  obtain ⟨v0, hM0⟩ := hS.obj
  simp only [xy_152_8 l1, xy_152_9, xy_152_10 l0, xy_152_11, xi_1, cond_false]
  rw [yO_call0 (a := 149) rfl hM0 (Nat.le_of_ble_eq_true rfl)]
  refine hS.fact (by omega) (by omega) hd hd1 ?_ ?_
  · intro G3 a1 a2 a3
    simp only [xy_152_12, xz_152_13, xy_152_14_0, xy_152_14_1, xi_0, Bool.not_true, cond_false]
    exact hF G3 a1 a2 a3
  intro G1 L1 O1 m1 dp1 op1 a1 a2 a3 a4 a5 S1
  have hO1 := S1.Or
  have hm1 := S1.mr
  have hL1 := S1.Lr
  simp only [xy_152_12, xi_1, Bool.not_false, cond_true]
  obtain ⟨v1, hM1⟩ := S1.obj
  simp only [xy_152_15 l0, xy_152_16]
  rw [yO_call0 (a := 151) rfl hM1 (Nat.le_of_ble_eq_true rfl)]
  refine S1.closes (by omega) a5 (fun G2 L2 O2 dp2 S2 b1 b2 b3 b4 => ?_)
  have hO2 := S2.Or
  have hL2 := S2.Lr
  have hb2 := yBin_le (f := op1) (n := O2.toInt.toNat)
  -- no word more: the end
  have t58 : ∀ (G3 : xm_H) (lv3 : xm_L) (F : Nat), 60 ≤ F → yS G0 G3 t L2 O2 m1 dp2 op1 b (yBin op1 O2.toInt.toNat + 1) → xm_get lv3 0 = some (.ref 344) → xm_get lv3 1 = some (.int 0) → xm_run (xm_exec (d + 8)) xm_c152 3 0 0 (some .boolean) Q F (xm_drop 8 xm_c152) lv3 [] G3 E 0 0 = true := by
    intro G3 lv3 F hFu S3 l0 l1
    obtain ⟨f, rfl⟩ : ∃ f, F = f + 60 := ⟨F - 60, by omega⟩
    simp only [xy_152_8 l1, xy_152_9, xi_0, cond_true]
    obtain ⟨v3, hM3⟩ := S3.obj
    simp only [xy_152_58 l0, xy_152_59]
    rw [yO_call0 (a := 150) rfl hM3 (Nat.le_of_ble_eq_true rfl)]
    refine S3.inside (fun r hr => ?_)
    rcases hr with rfl | ⟨rfl, -⟩
    · simp only [xy_152_60, xi_0, cond_true]
      simp only [xy_152_70 l0, xz_152_71, xy_152_72]
      rw [yO_call1 (a := 144) rfl hM3 (Nat.le_of_ble_eq_true rfl)]
      refine S3.settles (by decide) (by omega) b2 (fun G4 L4 O4 dp4 S4 c1 c2 c3 c4 c5 c6 => ?_)
      have hO4 := S4.Or
      simp only [xz_152_73, xy_152_74_0, xy_152_74_1]
      exact hQ G4 L4 O4 m1 dp4 op1 _ S4 (by omega) (by omega)
    · simp only [xy_152_60, xi_1, cond_false]
      simp only [xy_152_61 l0, xy_152_62]
      rw [yO_call0 (a := 132) rfl hM3 (Nat.le_of_ble_eq_true rfl)]
      refine S3.see (fun G4 c S4 q4 => ?_)
      obtain ⟨v4, hM4⟩ := S4.obj
      obtain ⟨nx, p8, -⟩ := S4.nx
      simp only [xy_152_63, xy_152_64 l0, xz_152_65, xy_152_66 l0, xz_152_67, xy_152_68, xk_gf S4.1.1 p8]
      rw [yO_call2 (a := 131) rfl hM4 (Nat.le_of_ble_eq_true rfl)]
      refine S4.fails (fun G5 S5 => ?_)
      simp only [xy_152_69_0, xy_152_69_1]
      exact hF.of S5
  -- a word more: s is laid on
  have t38 : ∀ (G3 : xm_H) (lv3 : xm_L) (s : Int32) (F : Nat), g + 60 ≤ F → (s = 12 ∨ s = 13) → yS G0 G3 t L2 O2 m1 dp2 op1 b (yBin op1 O2.toInt.toNat + 1) → xm_get lv3 0 = some (.ref 344) → xm_get lv3 1 = some (.int 1) → xm_run (xm_exec (d + 8)) xm_c152 3 0 0 (some .boolean) Q F (xm_drop 38 xm_c152) lv3 [.int s] G3 E 0 0 = true := by
    intro G3 lv3 s F hFu hs S3 l0 l1
    obtain ⟨f, rfl⟩ : ∃ f, F = f + 60 := ⟨F - 60, by omega⟩
    simp only [xy_152_38]
    have l2 : xm_get (xm_set1 lv3 2 (.int s)) 2 = some (.int s) := xl_gs1
    replace l0 : xm_get (xm_set1 lv3 2 (.int s)) 0 = some (.ref 344) := xl_s1 (by decide) (Or.inl rfl) l0
    replace l1 : xm_get (xm_set1 lv3 2 (.int s)) 1 = some (.int 1) := xl_s1 (by decide) (Or.inl rfl) l1
    generalize xm_set1 lv3 2 (.int s) = lv4 at l0 l1 l2 ⊢
    obtain ⟨v3, hM3⟩ := S3.obj
    simp only [xy_152_39 l0, xy_152_40]
    rw [yO_call0 (a := 136) rfl hM3 (Nat.le_of_ble_eq_true rfl)]
    refine S3.pass (fun G4 S4 => ?_)
    obtain ⟨v4, hM4⟩ := S4.obj
    simp only [xy_152_41 l0, xy_152_42 l2]
    rw [xy_152_43, yO_scall1 (Nat.le_of_ble_eq_true rfl)]
    refine yO_str ?_
    simp only [xy_152_44]
    rw [yO_call1 (a := 144) rfl hM4 (Nat.le_of_ble_eq_true rfl)]
    refine S4.settles (by rcases hs with rfl | rfl <;> decide) (by omega) b2 (fun G5 L5 O5 dp5 S5 c1 c2 c3 c4 c5 c6 => ?_)
    have hO5 := S5.Or
    have hL5 := S5.Lr
    have r15 := S5.refs.2.2.2.2
    have c16 := S5.2.1.2.2.2
    simp only [xy_152_45 l0, xz_152_46, xy_152_47 l0, xz_152_48, xy_152_49 l2, xk_gf S5.1.1 r15, xk_gf S5.1.1 c16]
    rw [xz_152_50, xk_ias S5.1.1 (j := 351) (r := 100) rfl yq_100 (by decide) hO5.1 (by show _ < ((400 : Nat) : Int); omega)]
    have S6 := S5.putop (k := O5.toInt.toNat) (w := s) (by omega)
    generalize yU G5 351 O5.toInt.toNat (.int s) = G6 at S6 ⊢
    have c16' := S6.2.1.2.2.2
    simp only [xy_152_51 l0, xy_152_52, xz_152_53, xz_152_54, xy_152_55, xk_gf S6.1.1 c16']
    rw [xz_152_56, xk_pf S6.1.1 rfl (by decide)]
    have iO : (O5 + 1).toInt = O5.toInt + 1 := by rw [yk_add] <;> rw [n1] <;> omega
    have S7 := S6.put16 (O' := O5 + 1) (by omega) (by omega)
    generalize yU G6 344 16 (.int (O5 + 1)) = G7 at S7 ⊢
    simp only [xy_152_57]
    have eb : yBin (yOp op1 O5.toInt.toNat (.int s)) (O5 + 1).toInt.toNat = yBin op1 O5.toInt.toNat + 1 := by
      rw [show (O5 + 1).toInt.toNat = O5.toInt.toNat + 1 by omega]
      exact yBin_op1 hs
    have hbm := yBin_mono (op := op1) (k := O5.toInt.toNat) (n := O2.toInt.toNat) (by omega)
    rw [← eb] at S7
    clear c5
    exact hrec G7 L5 (O5 + 1) m1 dp5 _ lv4 _ (by omega) l0 l1 S7 (by omega) (by rw [eb]; omega) (by omega) (by omega)
  have t28 : ∀ (G3 : xm_H) (F : Nat), g + 100 ≤ F → yS G0 G3 t L2 O2 m1 dp2 op1 b (yBin op1 O2.toInt.toNat + 1) → xm_run (xm_exec (d + 8)) xm_c152 3 0 0 (some .boolean) Q F (xm_drop 25 xm_c152) lv [] G3 E 0 0 = true := by
    intro G3 F hFu S3
    obtain ⟨f, rfl⟩ : ∃ f, F = f + 100 := ⟨F - 100, by omega⟩
    simp only [xz_152_25, xy_152_26]
    simp only [xy_152_28]
    have l1' : xm_get (xm_set1 lv 1 (.int 1)) 1 = some (.int 1) := xl_gs1
    have l0 : xm_get (xm_set1 lv 1 (.int 1)) 0 = some (.ref 344) := xl_s1 (by decide) (Or.inl rfl) l0
    generalize xm_set1 lv 1 (.int 1) = lv3 at l0 l1' ⊢
    replace l1 := l1'
    obtain ⟨v3, hM3⟩ := S3.obj
    simp only [xy_152_29 l1, xy_152_30, xi_1, cond_false]
    simp only [xy_152_31 l0, xz_152_32, xy_152_33]
    rw [yO_call1 (a := 135) rfl hM3 (Nat.le_of_ble_eq_true rfl)]
    refine S3.isw (fun G4 r S4 hr => ?_)
    rcases hr with rfl | rfl
    · simp only [xy_152_34, xi_0, cond_true]
      simp only [xz_152_37]
      exact t38 G4 lv3 13 _ (by omega) (Or.inr rfl) S4 l0 l1
    · simp only [xy_152_34, xi_1, cond_false]
      simp only [xz_152_35, xy_152_36]
      exact t38 G4 lv3 12 _ (by omega) (Or.inl rfl) S4 l0 l1
  obtain ⟨v2, hM2⟩ := S2.obj
  simp only [xy_152_17 l0, xz_152_18, xy_152_19]
  rw [yO_call1 (a := 135) rfl hM2 (Nat.le_of_ble_eq_true rfl)]
  refine S2.isw (fun G3 r S3 hr => ?_)
  rcases hr with rfl | rfl
  · simp only [xy_152_20, xi_0, Bool.not_true, cond_false]
    obtain ⟨v3, hM3⟩ := S3.obj
    simp only [xy_152_21 l0, xz_152_22, xy_152_23]
    rw [yO_call1 (a := 135) rfl hM3 (Nat.le_of_ble_eq_true rfl)]
    refine S3.isw (fun G4 r S4 hr => ?_)
    rcases hr with rfl | rfl
    · simp only [xy_152_24, xi_0, cond_true]
      simp only [xz_152_27, xy_152_28]
      have l1' : xm_get (xm_set1 lv 1 (.int 0)) 1 = some (.int 0) := xl_gs1
      have l0 : xm_get (xm_set1 lv 1 (.int 0)) 0 = some (.ref 344) := xl_s1 (by decide) (Or.inl rfl) l0
      generalize xm_set1 lv 1 (.int 0) = lv3 at l0 l1' ⊢
      replace l1 := l1'
      simp only [xy_152_29 l1, xy_152_30, xi_0, cond_true]
      exact t58 G4 lv3 _ (by omega) S4 l0 l1
    · simp only [xy_152_24, xi_1, cond_false]
      exact t28 G4 _ (by omega) S4
  · simp only [xy_152_20, xi_1, Bool.not_false, cond_true]
    exact t28 G3 _ (by omega) S3
theorem yS_testr {P m0 : Int} (hP : P ≤ 390) (hF : yFl Q E G0) (hQ : yTq Q E G0 t b P m0) : ∀ (n : Nat) (G : xm_H) (L O m dp : Int32) (op : Nat → Option Value) (lv : xm_L), xm_get lv 0 = some (.ref 344) → xm_get lv 1 = some (.int 1) → yS G0 G t L O m dp op b (yBin op O.toInt.toNat) → L.toInt + O.toInt + 5 * (60 - m.toInt) ≤ P → dp.toInt = O.toInt - yBin op O.toInt.toNat → dp.toInt ≤ 10 → m0 ≤ m.toInt → (60 - m.toInt).toNat ≤ n → ∀ {F : Nat}, 200 * (n + 1) ≤ F → xm_run (xm_exec (d + 8)) xm_c152 3 0 0 (some .boolean) Q F (xm_drop 8 xm_c152) lv [] G E 0 0 = true := by
  intro n
  induction n with
  | zero =>
    intro G L O m dp op lv l0 l1 hS h1 hd hd1 hm0 hn F hFu
    obtain ⟨g, rfl⟩ : ∃ g, F = g + 200 := ⟨F - 200, by omega⟩
    exact yS_testb hP hF hQ l0 l1 hS h1 hd hd1 hm0 (fun G' L' O' m' dp' op' lv' F' hg l0' l1' S' e1 e2 e3 e4 => by have := S'.mr; omega)
  | succ n ih =>
    intro G L O m dp op lv l0 l1 hS h1 hd hd1 hm0 hn F hFu
    obtain ⟨g, rfl⟩ : ∃ g, F = g + 200 := ⟨F - 200, by omega⟩
    exact yS_testb hP hF hQ l0 l1 hS h1 hd hd1 hm0 (fun G' L' O' m' dp' op' lv' F' hg l0' l1' S' e1 e2 e3 e4 => ih G' L' O' m' dp' op' lv' l0' l1' S' e1 e2 e3 (by omega) (by omega) (by omega))
theorem yS.tested {G : xm_H} {L O m dp : Int32} {op : Nat → Option Value} (hS : yS G0 G t L O m dp op b 0) (hP : L.toInt + 5 * (60 - m.toInt) ≤ 390) (hF : yFl Q E G0) (hQ : yTq Q E G0 t b (L.toInt + 5 * (60 - m.toInt)) m.toInt) : xm_exec (d + 9) 152 [.ref 344] G E Q = true := by
  refine yx_exec (m := 152) rfl rfl (Nat.le_of_ble_eq_true rfl) ?_
  obtain ⟨g, hg⟩ := xn_f
  rw [hg]
  have l0 : xm_get (lv_args 0 [Value.ref 344]) 0 = some (.ref 344) := rfl
  show xm_run (xm_exec (d + 8)) xm_c152 3 0 0 (some .boolean) Q (g + 40000) (xm_drop 0 xm_c152) (lv_args 0 [.ref 344]) [] G E 0 0 = true
  have z0 : (0 : Int32).toInt = 0 := rfl
  simp only [xy_152_0 l0, xz_152_1]
  rw [xz_152_2, xk_pf hS.1.1 rfl (by decide)]
  have S1 := hS.put16 (O' := 0) (by decide) (by decide)
  generalize yU G 344 16 (.int 0) = G1 at S1 ⊢
  simp only [xy_152_3 l0, xz_152_4]
  rw [xz_152_5, xk_pf S1.1.1 rfl (by decide)]
  have S2 := S1.put13 (dp' := 0)
  generalize yU G1 344 13 (.int 0) = G2 at S2 ⊢
  simp only [xz_152_6, xy_152_7]
  have hm := hS.mr
  exact yS_testr hP hF hQ 60 G2 L 0 m 0 op _ (xl_s1 (by decide) (Or.inl rfl) l0) xl_gs1 S2 (by omega) (by rw [z0]; rfl) (by decide) (Int.le_refl _) (by omega) (by omega)
end PG
