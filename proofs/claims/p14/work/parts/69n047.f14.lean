/-! searches: what is told is laid back, printed by wip/z/gen_inv.py -/
theorem zJ_rg {σ : Int → Int} {F0 : Int} {z t : zS} {n m : Nat} {U : (Int → Int) → Int} {r x : Int} (g : zJg σ F0 z n m U) (B : zJb σ F0 z t) (h : r = 0 ∨ (0 ≤ x ∧ x < t 354 1)) : r = 0 ∨ (0 ≤ x ∧ x ≤ 6) := h.imp_right (fun q => ⟨q.1, by
  have q2 := q.2
  rw [B.1, g.1] at q2
  have := g.2.1
  omega⟩)
theorem zJ_209 {F : Nat} {x1 x2 : Int} {σ : Int → Int} {F0 : Int} {z t : zS} {R : Int × zS} {n m : Nat} {U : (Int → Int) → Int} (g : zJg σ F0 z n m U) (K : zJk σ F0 z t) (e0 : zG F xm_c209 0 [344, x1, x2] [] t R) : zJk σ F0 z R.2 := by
  have loop : ∀ F : Nat, (∀ (x1 x2 : Int) (t : zS) (R : Int × zS), zG F xm_c209 2 [344, x1, x2] [] t R → zJk σ F0 z t → zJk σ F0 z R.2) := by
    intro F
    induction F using Nat.strongRecOn with
    | _ F ih =>
      intro x1 x2 t R e0 K0
      obtain ⟨F1, l1, ⟨c1, e1⟩ | ⟨c1, e1⟩⟩ := zi_209_2 e0
      · obtain ⟨F2, l2, r2, s2, q2, e2⟩ := zi_209_5 e1
        have K2 : zJk σ F0 z s2 := zJ_196 g K0 q2
        obtain ⟨F3, l3, e3⟩ := zi_209_7 e2
        exact (ih _ (Nat.lt_trans l3 (Nat.lt_trans l2 l1))) _ _ _ _ e3 K2
      · have k4 := zi_209_10 e1
        subst k4
        exact K0
  obtain ⟨F5, l5, e5⟩ := zi_209_0 e0
  exact (loop _) _ _ _ _ e5 K
theorem zJ_210 {F : Nat} {x1 x2 : Int} {σ : Int → Int} {F0 : Int} {z t : zS} {R : Int × zS} {n m : Nat} {U : (Int → Int) → Int} (g : zJg σ F0 z n m U) (B : zJb σ F0 z t) (e0 : zG F xm_c210 0 [344, x1, x2] [] t R) : R.2 354 = σ := by
  obtain ⟨F1, l1, r1, s1, q1, e1⟩ := zi_210_0 e0
  have k1 : s1 = _ := zJ_175 q1
  subst k1
  obtain ⟨F2, l2, ⟨c2, e2⟩ | ⟨c2, e2⟩⟩ := zi_210_2 e1
  · have k3 := zi_210_9 e2
    subst k3
    exact B.1
  · obtain ⟨F4, l4, r4, s4, q4, e4⟩ := zi_210_3 e2
    have k4 : s4 = _ := zJ_125 q4
    subst k4
    obtain ⟨F5, l5, ⟨c5, e5⟩ | ⟨c5, e5⟩⟩ := zi_210_8 e4
    · have k6 := zi_210_9 e5
      subst k6
      exact B.1
    · obtain ⟨F7, l7, r7, s7, q7, e7⟩ := zi_210_11 e5
      obtain ⟨K7, A7⟩ : zJk σ F0 z s7 ∧ s7 354 = σ := zJ_207 B q7
      obtain ⟨F8, l8, r8, s8, q8, e8⟩ := zi_210_13 e7
      have K8 : zJk σ F0 z s8 := zJ_209 g K7 q8
      obtain ⟨F9, l9, r9, s9, q9, e9⟩ := zi_210_16 e8
      have k9 : s9 = _ := zJ_181 q9
      subst k9
      obtain ⟨F10, l10, r10, s10, q10, e10⟩ := zi_210_18 e9
      obtain ⟨K10, A10⟩ : zJk σ F0 z s10 ∧ s10 354 = σ := zJ_208 K8 q10
      have k11 := zi_210_21 e10
      subst k11
      exact A10
theorem zJ_211 {F : Nat} {x1 x2 x3 : Int} {σ : Int → Int} {F0 : Int} {z t : zS} {R : Int × zS} {n m : Nat} {U : (Int → Int) → Int} (g : zJg σ F0 z n m U) (B : zJb σ F0 z t) (e0 : zG F xm_c211 0 [344, x1, x2, x3] [] t R) : R.2 354 = σ := by
  obtain ⟨F1, l1, r1, s1, q1, e1⟩ := zi_211_0 e0
  obtain ⟨k1, rg⟩ := zJ_176 q1
  replace rg := zJ_rg g B rg
  replace k1 : s1 = _ := k1
  subst k1
  obtain ⟨F2, l2, ⟨c2, e2⟩ | ⟨c2, e2⟩⟩ := zi_211_3 e1
  · have k3 := zi_211_10 e2
    subst k3
    exact B.1
  · obtain ⟨F4, l4, r4, s4, q4, e4⟩ := zi_211_4 e2
    have k4 : s4 = _ := zJ_125 q4
    subst k4
    obtain ⟨F5, l5, ⟨c5, e5⟩ | ⟨c5, e5⟩⟩ := zi_211_9 e4
    · have k6 := zi_211_10 e5
      subst k6
      exact B.1
    · obtain ⟨F7, l7, r7, s7, q7, e7⟩ := zi_211_12 e5
      obtain ⟨K7, A7⟩ : zJk σ F0 z s7 ∧ s7 354 = σ := zJ_207 B q7
      obtain ⟨F8, l8, r8, s8, q8, e8⟩ := zi_211_14 e7
      have K8 : zJk σ F0 z s8 := zJ_209 g K7 q8
      obtain ⟨F9, l9, r9, s9, q9, e9⟩ := zi_211_17 e8
      have k9 : s9 = _ := zJ_178 q9
      subst k9
      obtain ⟨F10, l10, r10, s10, q10, e10⟩ := zi_211_21 e9
      obtain ⟨K10, A10⟩ : zJk σ F0 z s10 ∧ s10 354 = σ := zJ_208 K8 q10
      have k11 := zi_211_24 e10
      subst k11
      exact A10
theorem zJ_212 {F : Nat} {x1 x2 : Int} {σ : Int → Int} {F0 : Int} {z t : zS} {R : Int × zS} {n m : Nat} {U : (Int → Int) → Int} (g : zJg σ F0 z n m U) (B : zJb σ F0 z t) (e0 : zG F xm_c212 0 [344, x1, x2] [] t R) : R.2 354 = σ := by
  have loop : ∀ F : Nat, (∀ (x1 x2 : Int) (t : zS) (R : Int × zS), zG F xm_c212 10 [344, x1, x2] [] t R → zJk σ F0 z t → R.2 354 = σ) := by
    intro F
    induction F using Nat.strongRecOn with
    | _ F ih =>
      intro x1 x2 t R e0 K0
      obtain ⟨F1, l1, ⟨c1, e1⟩ | ⟨c1, e1⟩⟩ := zi_212_10 e0
      · obtain ⟨F2, l2, r2, s2, q2, e2⟩ := zi_212_13 e1
        have k2 : s2 = _ := zJ_179 q2
        subst k2
        obtain ⟨F3, l3, ⟨c3, e3⟩ | ⟨c3, e3⟩⟩ := zi_212_16 e2
        · obtain ⟨F4, l4, r4, s4, q4, e4⟩ := zi_212_17 e3
          have K4 : zJk σ F0 z s4 := zJ_196 g K0 q4
          obtain ⟨F5, l5, e5⟩ := zi_212_19 e4
          exact (ih _ (Nat.lt_trans l5 (Nat.lt_trans l4 (Nat.lt_trans l3 (Nat.lt_trans l2 l1))))) _ _ _ _ e5 K4
        · obtain ⟨F6, l6, r6, s6, q6, e6⟩ := zi_212_22 e3
          have k6 : s6 = _ := zJ_178 q6
          subst k6
          obtain ⟨F7, l7, r7, s7, q7, e7⟩ := zi_212_26 e6
          obtain ⟨K7, A7⟩ : zJk σ F0 z s7 ∧ s7 354 = σ := zJ_208 K0 q7
          obtain ⟨F8, l8, ⟨c8, e8⟩ | ⟨c8, e8⟩⟩ := zi_212_29 e7
          · have k9 := zi_212_31 e8
            subst k9
            exact A7
          · have k10 := zi_212_33 e8
            subst k10
            exact A7
      · obtain ⟨F11, l11, r11, s11, q11, e11⟩ := zi_212_22 e1
        have k11 : s11 = _ := zJ_178 q11
        subst k11
        obtain ⟨F12, l12, r12, s12, q12, e12⟩ := zi_212_26 e11
        obtain ⟨K12, A12⟩ : zJk σ F0 z s12 ∧ s12 354 = σ := zJ_208 K0 q12
        obtain ⟨F13, l13, ⟨c13, e13⟩ | ⟨c13, e13⟩⟩ := zi_212_29 e12
        · have k14 := zi_212_31 e13
          subst k14
          exact A12
        · have k15 := zi_212_33 e13
          subst k15
          exact A12
  obtain ⟨F16, l16, r16, s16, q16, e16⟩ := zi_212_0 e0
  obtain ⟨k16, rg⟩ := zJ_176 q16
  replace rg := zJ_rg g B rg
  replace k16 : s16 = _ := k16
  subst k16
  obtain ⟨F17, l17, ⟨c17, e17⟩ | ⟨c17, e17⟩⟩ := zi_212_3 e16
  · have k18 := zi_212_4 e17
    subst k18
    exact B.1
  · obtain ⟨F19, l19, r19, s19, q19, e19⟩ := zi_212_6 e17
    obtain ⟨K19, A19⟩ : zJk σ F0 z s19 ∧ s19 354 = σ := zJ_207 B q19
    obtain ⟨F20, l20, e20⟩ := zi_212_8 e19
    exact (loop _) _ _ _ _ e20 K19
theorem zJ_215 {F : Nat} {x1 x2 x3 x4 x5 x6 x7 x8 : Int} {σ : Int → Int} {F0 : Int} {z t : zS} {R : Int × zS} {n m : Nat} {U : (Int → Int) → Int} (g : zJg σ F0 z n m U) (B : zJb σ F0 z t) (e0 : zG F xm_c215 0 [344, x1, x2, x3, x4, x5, x6, x7, x8] [] t R) : R.2 354 = σ := by
  have loop : ∀ F : Nat, (∀ (x1 x2 x3 x4 x5 x6 x7 x8 : Int) (t : zS) (R : Int × zS), zG F xm_c215 34 [344, x1, x2, x3, x4, x5, x6, x7, x8] [] t R → zJk σ F0 z t → t 354 = σ → R.2 354 = σ) ∧ (∀ (x1 x2 x3 x4 x5 x6 x7 x8 : Int) (t : zS) (R : Int × zS), zG F xm_c215 53 [344, x1, x2, x3, x4, x5, x6, x7, x8] [] t R → zJk σ F0 z t → 0 ≤ x8 → R.2 354 = σ) := by
    intro F
    induction F using Nat.strongRecOn with
    | _ F ih =>
      refine ⟨?_, ?_⟩
      · intro x1 x2 x3 x4 x5 x6 x7 x8 t R e0 K0 A0
        obtain ⟨F1, l1, ⟨c1, e1⟩ | ⟨c1, e1⟩⟩ := zi_215_34 e0
        · obtain ⟨F2, l2, ⟨c2, e2⟩ | ⟨c2, e2⟩⟩ := zi_215_86 e1
          · have k3 := zi_215_88 e2
            subst k3
            exact A0
          · obtain ⟨F4, l4, ⟨c4, e4⟩ | ⟨c4, e4⟩⟩ := zi_215_90 e2
            · obtain ⟨F5, l5, r5, s5, q5, e5⟩ := zi_215_92 e4
              have k5 : s5 = _ := zJ_127 q5
              subst k5
              have k6 := zi_215_94 e5
              subst k6
              exact A0
            · have k7 := zi_215_95 e4
              subst k7
              exact A0
        · obtain ⟨F8, l8, ⟨c8, e8⟩ | ⟨c8, e8⟩⟩ := zi_215_37 e1
          · obtain ⟨F9, l9, ⟨c9, e9⟩ | ⟨c9, e9⟩⟩ := zi_215_43 e8
            · obtain ⟨F10, l10, e10⟩ := zi_215_51 e9
              exact (ih _ (Nat.lt_trans l10 (Nat.lt_trans l9 (Nat.lt_trans l8 l1)))).2 _ _ _ _ _ _ _ _ _ _ e10 K0 (Int.le_refl 0)
            · obtain ⟨F11, l11, r11, s11, q11, e11⟩ := zi_215_45 e9
              have k11 : s11 = _ := zJ_127 q11
              subst k11
              obtain ⟨F12, l12, r12, s12, q12, e12⟩ := zi_215_47 e11
              have k12 : s12 = _ := zJ_127 q12
              subst k12
              obtain ⟨F13, l13, ⟨c13, e13⟩ | ⟨c13, e13⟩⟩ := zi_215_49 e12
              · obtain ⟨F14, l14, e14⟩ := zi_215_51 e13
                exact (ih _ (Nat.lt_trans l14 (Nat.lt_trans l13 (Nat.lt_trans l12 (Nat.lt_trans l11 (Nat.lt_trans l9 (Nat.lt_trans l8 l1))))))).2 _ _ _ _ _ _ _ _ _ _ e14 K0 (Int.le_refl 0)
              · obtain ⟨F15, l15, e15⟩ := zi_215_50 e13
                exact (ih _ (Nat.lt_trans l15 (Nat.lt_trans l13 (Nat.lt_trans l12 (Nat.lt_trans l11 (Nat.lt_trans l9 (Nat.lt_trans l8 l1))))))).1 _ _ _ _ _ _ _ _ _ _ e15 K0 A0
          · obtain ⟨F16, l16, e16⟩ := zi_215_84 e8
            exact (ih _ (Nat.lt_trans l16 (Nat.lt_trans l8 l1))).1 _ _ _ _ _ _ _ _ _ _ e16 K0 A0
      · intro x1 x2 x3 x4 x5 x6 x7 x8 t R e0 K0 f8
        obtain ⟨F17, l17, ⟨c17, e17⟩ | ⟨c17, e17⟩⟩ := zi_215_53 e0
        · obtain ⟨F18, l18, r18, s18, q18, e18⟩ := zi_215_59 e17
          have k18 : s18 = _ := zJ_126 q18
          subst k18
          obtain ⟨F19, l19, ⟨c19, e19⟩ | ⟨c19, e19⟩⟩ := zi_215_62 e18
          · obtain ⟨F20, l20, e20⟩ := zi_215_67 e19
            exact (ih _ (Nat.lt_trans l20 (Nat.lt_trans l19 (Nat.lt_trans l18 l17)))).2 _ _ _ _ _ _ _ _ _ _ e20 K0 ((zJ_inc f8 (zJ_lt g K0 c17)))
          · obtain ⟨F21, l21, r21, s21, q21, e21⟩ := zi_215_63 e19
            have K21 : zJk σ F0 z s21 := zJ_201 K0 f8 (zJ_lt g K0 c17) q21
            obtain ⟨F22, l22, e22⟩ := zi_215_67 e21
            exact (ih _ (Nat.lt_trans l22 (Nat.lt_trans l21 (Nat.lt_trans l19 (Nat.lt_trans l18 l17))))).2 _ _ _ _ _ _ _ _ _ _ e22 K21 ((zJ_inc f8 (zJ_lt g K0 c17)))
        · obtain ⟨F23, l23, r23, s23, q23, e23⟩ := zi_215_69 e17
          have K23 : zJk σ F0 z s23 := zJ_209 g K0 q23
          obtain ⟨F24, l24, r24, s24, q24, e24⟩ := zi_215_72 e23
          have k24 : s24 = _ := zJ_214 q24
          subst k24
          obtain ⟨F25, l25, ⟨c25, e25⟩ | ⟨c25, e25⟩⟩ := zi_215_75 e24
          · obtain ⟨F26, l26, r26, s26, q26, e26⟩ := zi_215_82 e25
            obtain ⟨K26, A26⟩ : zJk σ F0 z s26 ∧ s26 354 = σ := zJ_208 K23 q26
            obtain ⟨F27, l27, e27⟩ := zi_215_84 e26
            exact (ih _ (Nat.lt_trans l27 (Nat.lt_trans l26 (Nat.lt_trans l25 (Nat.lt_trans l24 (Nat.lt_trans l23 l17)))))).1 _ _ _ _ _ _ _ _ _ _ e27 K26 A26
          · obtain ⟨F28, l28, r28, s28, q28, e28⟩ := zi_215_76 e25
            have k28 : s28 = _ := zJ_214 q28
            subst k28
            obtain ⟨F29, l29, ⟨c29, e29⟩ | ⟨c29, e29⟩⟩ := zi_215_79 e28
            · obtain ⟨F30, l30, r30, s30, q30, e30⟩ := zi_215_80 e29
              obtain ⟨K30, A30⟩ : zJk σ F0 z s30 ∧ s30 354 = σ := zJ_208 K23 q30
              obtain ⟨F31, l31, e31⟩ := zi_215_84 e30
              exact (ih _ (Nat.lt_trans l31 (Nat.lt_trans l30 (Nat.lt_trans l29 (Nat.lt_trans l28 (Nat.lt_trans l25 (Nat.lt_trans l24 (Nat.lt_trans l23 l17)))))))).1 _ _ _ _ _ _ _ _ _ _ e31 K30 A30
            · obtain ⟨F32, l32, r32, s32, q32, e32⟩ := zi_215_82 e29
              obtain ⟨K32, A32⟩ : zJk σ F0 z s32 ∧ s32 354 = σ := zJ_208 K23 q32
              obtain ⟨F33, l33, e33⟩ := zi_215_84 e32
              exact (ih _ (Nat.lt_trans l33 (Nat.lt_trans l32 (Nat.lt_trans l29 (Nat.lt_trans l28 (Nat.lt_trans l25 (Nat.lt_trans l24 (Nat.lt_trans l23 l17)))))))).1 _ _ _ _ _ _ _ _ _ _ e33 K32 A32
  obtain ⟨F34, l34, r34, s34, q34, e34⟩ := zi_215_0 e0
  have k34 : s34 = _ := zJ_177 q34
  subst k34
  obtain ⟨F35, l35, ⟨c35, e35⟩ | ⟨c35, e35⟩⟩ := zi_215_3 e34
  · have k36 := zi_215_23 e35
    subst k36
    exact B.1
  · obtain ⟨F37, l37, r37, s37, q37, e37⟩ := zi_215_4 e35
    have k37 : s37 = _ := zJ_177 q37
    subst k37
    obtain ⟨F38, l38, ⟨c38, e38⟩ | ⟨c38, e38⟩⟩ := zi_215_7 e37
    · have k39 := zi_215_23 e38
      subst k39
      exact B.1
    · obtain ⟨F40, l40, ⟨c40, e40⟩ | ⟨c40, e40⟩⟩ := zi_215_8 e38
      · have k41 := zi_215_23 e40
        subst k41
        exact B.1
      · obtain ⟨F42, l42, r42, s42, q42, e42⟩ := zi_215_11 e40
        have k42 : s42 = _ := zJ_125 q42
        subst k42
        obtain ⟨F43, l43, ⟨c43, e43⟩ | ⟨c43, e43⟩⟩ := zi_215_16 e42
        · have k44 := zi_215_23 e43
          subst k44
          exact B.1
        · obtain ⟨F45, l45, r45, s45, q45, e45⟩ := zi_215_17 e43
          have k45 : s45 = _ := zJ_125 q45
          subst k45
          obtain ⟨F46, l46, ⟨c46, e46⟩ | ⟨c46, e46⟩⟩ := zi_215_22 e45
          · have k47 := zi_215_23 e46
            subst k47
            exact B.1
          · obtain ⟨F48, l48, r48, s48, q48, e48⟩ := zi_215_25 e46
            have k48 : s48 = _ := zJ_213 q48
            subst k48
            obtain ⟨F49, l49, r49, s49, q49, e49⟩ := zi_215_27 e48
            obtain ⟨K49, A49⟩ : zJk σ F0 z s49 ∧ s49 354 = σ := zJ_207 B q49
            obtain ⟨F50, l50, e50⟩ := zi_215_32 e49
            exact (loop _).1 _ _ _ _ _ _ _ _ _ _ e50 K49 A49
theorem zJ_219 {F : Nat} {x1 x2 x3 x4 x5 : Int} {σ : Int → Int} {F0 : Int} {z t : zS} {R : Int × zS} {n m : Nat} {U : (Int → Int) → Int} (g : zJg σ F0 z n m U) (K : zJk σ F0 z t) (w0 : 0 ≤ x1) (w6 : x1 ≤ 6) (e0 : zG F xm_c219 0 [344, x1, x2, x3, x4, x5] [] t R) : zJk σ F0 z R.2 := by
  have loop : ∀ F : Nat, (∀ (x1 x2 x3 x4 x5 : Int) (t : zS) (R : Int × zS), zG F xm_c219 15 [344, x1, x2, x3, x4, x5] [] t R → zJk σ F0 z t → 0 ≤ x4 → 0 ≤ x1 → x1 ≤ 6 → zJk σ F0 z R.2) := by
    intro F
    induction F using Nat.strongRecOn with
    | _ F ih =>
      intro x1 x2 x3 x4 x5 t R e0 K0 f4 w0 w6
      obtain ⟨F1, l1, ⟨c1, e1⟩ | ⟨c1, e1⟩⟩ := zi_219_15 e0
      · obtain ⟨F2, l2, e2⟩ := zi_219_21 e1
        exact (ih _ (Nat.lt_trans l2 l1)) _ _ _ _ _ _ _ e2 ((zJk_u7 K0 f4 (zJ_lt g K0 c1))) ((zJ_inc f4 (zJ_lt g K0 c1))) w0 w6
      · obtain ⟨F3, l3, r3, s3, q3, e3⟩ := zi_219_91 e1
        have K3 : zJk σ F0 z s3 := zJ_209 g K0 q3
        obtain ⟨F4, l4, r4, s4, q4, e4⟩ := zi_219_94 e3
        have K4 : zJk σ F0 z s4 := zJ_201 K3 w0 w6 q4
        obtain ⟨F5, l5, r5, s5, q5, e5⟩ := zi_219_98 e4
        have K5 : zJk σ F0 z s5 := zJ_209 g K4 q5
        have k6 := zi_219_103 e5
        subst k6
        exact K5
  obtain ⟨F7, l7, e7⟩ := zi_219_0 e0
  exact (loop _) _ _ _ _ _ _ _ e7 ((zJk_u (zJk_u K (by decide) (by decide)) (by decide) (by decide))) (Int.le_refl 0) w0 w6
theorem zJ_221 {F : Nat} {x1 x2 x3 x4 : Int} {σ : Int → Int} {F0 : Int} {z t : zS} {R : Int × zS} {n m : Nat} {U : (Int → Int) → Int} (g : zJg σ F0 z n m U) (K : zJk σ F0 z t) (e0 : zG F xm_c221 0 [344, x1, x2, x3, x4] [] t R) : zJk σ F0 z R.2 := by
  have loop : ∀ F : Nat, (∀ (x1 x2 x3 x4 : Int) (t : zS) (R : Int × zS), zG F xm_c221 12 [344, x1, x2, x3, x4] [] t R → zJk σ F0 z t → zJk σ F0 z R.2) := by
    intro F
    induction F using Nat.strongRecOn with
    | _ F ih =>
      intro x1 x2 x3 x4 t R e0 K0
      obtain ⟨F1, l1, ⟨c1, e1⟩ | ⟨c1, e1⟩⟩ := zi_221_12 e0
      · obtain ⟨F2, l2, r2, s2, q2, e2⟩ := zi_221_18 e1
        have k2 : s2 = _ := zJ_217 q2
        subst k2
        obtain ⟨F3, l3, e3⟩ := zi_221_31 e2
        exact (ih _ (Nat.lt_trans l3 (Nat.lt_trans l2 l1))) _ _ _ _ _ _ e3 ((zJk_c K0 (by decide)))
      · have k4 := zi_221_34 e1
        subst k4
        exact (zJk_o K0 (by decide))
  obtain ⟨F5, l5, e5⟩ := zi_221_0 e0
  exact (loop _) _ _ _ _ _ _ e5 ((zJk_c K (by decide)))
theorem zJ_220 {F : Nat} {x1 x2 x3 : Int} {σ : Int → Int} {F0 : Int} {z t : zS} {R : Int × zS} {n m : Nat} {U : (Int → Int) → Int} (g : zJg σ F0 z n m U) (B : zJb σ F0 z t) (e0 : zG F xm_c220 0 [344, x1, x2, x3] [] t R) : R.2 354 = σ := by
  have loop : ∀ F : Nat, (∀ (x1 x2 x3 : Int) (t : zS) (R : Int × zS), zG F xm_c220 12 [344, x1, x2, x3] [] t R → zJk σ F0 z t → t 354 = σ → 0 ≤ x2 → R.2 354 = σ) ∧ (∀ (x1 x2 x3 : Int) (t : zS) (R : Int × zS), zG F xm_c220 20 [344, x1, x2, x3] [] t R → zJk σ F0 z t → t 354 = σ → 0 ≤ x2 → x2 ≤ 6 → R.2 354 = σ) := by
    intro F
    induction F using Nat.strongRecOn with
    | _ F ih =>
      refine ⟨?_, ?_⟩
      · intro x1 x2 x3 t R e0 K0 A0 f2
        obtain ⟨F1, l1, ⟨c1, e1⟩ | ⟨c1, e1⟩⟩ := zi_220_12 e0
        · obtain ⟨F2, l2, e2⟩ := zi_220_18 e1
          exact (ih _ (Nat.lt_trans l2 l1)).2 _ _ _ _ _ e2 K0 A0 f2 (zJ_lt g K0 c1)
        · have k3 := zi_220_49 e1
          subst k3
          exact A0
      · intro x1 x2 x3 t R e0 K0 A0 f2 g2
        obtain ⟨F4, l4, ⟨c4, e4⟩ | ⟨c4, e4⟩⟩ := zi_220_20 e0
        · obtain ⟨F5, l5, e5⟩ := zi_220_47 e4
          exact (ih _ (Nat.lt_trans l5 l4)).1 _ _ _ _ _ e5 K0 A0 ((zJ_inc f2 (g2)))
        · obtain ⟨F6, l6, ⟨c6, e6⟩ | ⟨c6, e6⟩⟩ := zi_220_23 e4
          · obtain ⟨F7, l7, e7⟩ := zi_220_47 e6
            exact (ih _ (Nat.lt_trans l7 (Nat.lt_trans l6 l4))).1 _ _ _ _ _ e7 K0 A0 ((zJ_inc f2 (g2)))
          · obtain ⟨F8, l8, r8, s8, q8, e8⟩ := zi_220_26 e6
            have k8 : s8 = _ := zJ_178 q8
            subst k8
            obtain ⟨F9, l9, ⟨c9, e9⟩ | ⟨c9, e9⟩⟩ := zi_220_30 e8
            · obtain ⟨F10, l10, r10, s10, q10, e10⟩ := zi_220_31 e9
              have K10 : zJk σ F0 z s10 := zJ_219 g K0 f2 g2 q10
              obtain ⟨F11, l11, r11, s11, q11, e11⟩ := zi_220_36 e10
              have k11 : s11 = _ := zJ_218 q11
              subst k11
              obtain ⟨F12, l12, ⟨c12, e12⟩ | ⟨c12, e12⟩⟩ := zi_220_38 e11
              · obtain ⟨F13, l13, r13, s13, q13, e13⟩ := zi_220_43 e12
                obtain ⟨K13, A13⟩ : zJk σ F0 z s13 ∧ s13 354 = σ := zJ_208 K10 q13
                obtain ⟨F14, l14, e14⟩ := zi_220_45 e13
                exact (ih _ (Nat.lt_trans l14 (Nat.lt_trans l13 (Nat.lt_trans l12 (Nat.lt_trans l11 (Nat.lt_trans l10 (Nat.lt_trans l9 (Nat.lt_trans l8 (Nat.lt_trans l6 l4))))))))).2 _ _ _ _ _ e14 K13 A13 f2 g2
              · obtain ⟨F15, l15, r15, s15, q15, e15⟩ := zi_220_39 e12
                have K15 : zJk σ F0 z s15 := zJ_221 g K10 q15
                obtain ⟨F16, l16, r16, s16, q16, e16⟩ := zi_220_43 e15
                obtain ⟨K16, A16⟩ : zJk σ F0 z s16 ∧ s16 354 = σ := zJ_208 K15 q16
                obtain ⟨F17, l17, e17⟩ := zi_220_45 e16
                exact (ih _ (Nat.lt_trans l17 (Nat.lt_trans l16 (Nat.lt_trans l15 (Nat.lt_trans l12 (Nat.lt_trans l11 (Nat.lt_trans l10 (Nat.lt_trans l9 (Nat.lt_trans l8 (Nat.lt_trans l6 l4)))))))))).2 _ _ _ _ _ e17 K16 A16 f2 g2
            · obtain ⟨F18, l18, e18⟩ := zi_220_47 e9
              exact (ih _ (Nat.lt_trans l18 (Nat.lt_trans l9 (Nat.lt_trans l8 (Nat.lt_trans l6 l4))))).1 _ _ _ _ _ e18 K0 A0 ((zJ_inc f2 (g2)))
  obtain ⟨F19, l19, r19, s19, q19, e19⟩ := zi_220_0 e0
  obtain ⟨K19, A19⟩ : zJk σ F0 z s19 ∧ s19 354 = σ := zJ_207 (zJb_o B (by decide)) q19
  obtain ⟨F20, l20, e20⟩ := zi_220_10 e19
  exact (loop _).1 _ _ _ _ _ e20 K19 A19 (Int.le_refl 0)
theorem zJ_222 {F : Nat} {x1 : Int} {σ : Int → Int} {F0 : Int} {z t : zS} {R : Int × zS} {n m : Nat} {U : (Int → Int) → Int} (g : zJg σ F0 z n m U) (B : zJb σ F0 z t) (e0 : zG F xm_c222 0 [344, x1] [] t R) : R.2 354 = σ := by
  obtain ⟨F1, l1, r1, s1, q1, e1⟩ := zi_222_0 e0
  have k1 : s1 = _ := zJ_175 q1
  subst k1
  obtain ⟨F2, l2, ⟨c2, e2⟩ | ⟨c2, e2⟩⟩ := zi_222_2 e1
  · have k3 := zi_222_9 e2
    subst k3
    exact B.1
  · obtain ⟨F4, l4, r4, s4, q4, e4⟩ := zi_222_3 e2
    have k4 : s4 = _ := zJ_125 q4
    subst k4
    obtain ⟨F5, l5, ⟨c5, e5⟩ | ⟨c5, e5⟩⟩ := zi_222_8 e4
    · have k6 := zi_222_9 e5
      subst k6
      exact B.1
    · obtain ⟨F7, l7, r7, s7, q7, e7⟩ := zi_222_11 e5
      have A7 : s7 354 = σ := zJ_220 g B q7
      obtain ⟨F8, l8, ⟨c8, e8⟩ | ⟨c8, e8⟩⟩ := zi_222_13 e7
      · have k9 := zi_222_15 e8
        subst k9
        exact A7
      · obtain ⟨F10, l10, ⟨c10, e10⟩ | ⟨c10, e10⟩⟩ := zi_222_18 e8
        · have k11 := zi_222_21 e10
          subst k11
          exact A7
        · obtain ⟨F12, l12, ⟨c12, e12⟩ | ⟨c12, e12⟩⟩ := zi_222_23 e10
          · have k13 := zi_222_26 e12
            subst k13
            exact A7
          · have k14 := zi_222_33 e12
            subst k14
            exact A7
theorem zJ_225 {F : Nat} {x1 x2 x3 x4 x5 x6 : Int} {σ : Int → Int} {F0 : Int} {z t : zS} {R : Int × zS} {n m : Nat} {U : (Int → Int) → Int} (g : zJg σ F0 z n m U) (B : zJb σ F0 z t) (e0 : zG F xm_c225 0 [344, x1, x2, x3, x4, x5, x6] [] t R) : R.2 354 = σ := by
  have loop : ∀ F : Nat, (∀ (x1 x2 x3 x4 x5 x6 : Int) (t : zS) (R : Int × zS), zG F xm_c225 25 [344, x1, x2, x3, x4, x5, x6] [] t R → zJk σ F0 z t → t 354 = σ → R.2 354 = σ) := by
    intro F
    induction F using Nat.strongRecOn with
    | _ F ih =>
      intro x1 x2 x3 x4 x5 x6 t R e0 K0 A0
      obtain ⟨F1, l1, ⟨c1, e1⟩ | ⟨c1, e1⟩⟩ := zi_225_25 e0
      · obtain ⟨F2, l2, r2, s2, q2, e2⟩ := zi_225_31 e1
        have k2 : s2 = _ := zJ_126 q2
        subst k2
        obtain ⟨F3, l3, ⟨c3, e3⟩ | ⟨c3, e3⟩⟩ := zi_225_37 e2
        · obtain ⟨F4, l4, r4, s4, q4, e4⟩ := zi_225_39 e3
          have K4 : zJk σ F0 z s4 := zJ_209 g (zJk_u K0 (by decide) (by decide)) q4
          obtain ⟨F5, l5, r5, s5, q5, e5⟩ := zi_225_52 e4
          have k5 : s5 = _ := zJ_181 q5
          subst k5
          obtain ⟨F6, l6, r6, s6, q6, e6⟩ := zi_225_54 e5
          have k6 : s6 = _ := zJ_127 q6
          subst k6
          obtain ⟨F7, l7, r7, s7, q7, e7⟩ := zi_225_55 e6
          obtain ⟨K7, A7⟩ : zJk σ F0 z s7 ∧ s7 354 = σ := zJ_208 K4 q7
          obtain ⟨F8, l8, ⟨c8, e8⟩ | ⟨c8, e8⟩⟩ := zi_225_58 e7
          · obtain ⟨F9, l9, e9⟩ := zi_225_64 e8
            exact (ih _ (Nat.lt_trans l9 (Nat.lt_trans l8 (Nat.lt_trans l7 (Nat.lt_trans l6 (Nat.lt_trans l5 (Nat.lt_trans l4 (Nat.lt_trans l3 (Nat.lt_trans l2 l1))))))))) _ _ _ _ _ _ _ _ e9 K7 A7
          · obtain ⟨F10, l10, ⟨c10, e10⟩ | ⟨c10, e10⟩⟩ := zi_225_60 e8
            · obtain ⟨F11, l11, e11⟩ := zi_225_64 e10
              exact (ih _ (Nat.lt_trans l11 (Nat.lt_trans l10 (Nat.lt_trans l8 (Nat.lt_trans l7 (Nat.lt_trans l6 (Nat.lt_trans l5 (Nat.lt_trans l4 (Nat.lt_trans l3 (Nat.lt_trans l2 l1)))))))))) _ _ _ _ _ _ _ _ e11 K7 A7
            · obtain ⟨F12, l12, e12⟩ := zi_225_63 e10
              exact (ih _ (Nat.lt_trans l12 (Nat.lt_trans l10 (Nat.lt_trans l8 (Nat.lt_trans l7 (Nat.lt_trans l6 (Nat.lt_trans l5 (Nat.lt_trans l4 (Nat.lt_trans l3 (Nat.lt_trans l2 l1)))))))))) _ _ _ _ _ _ _ _ e12 K7 A7
        · obtain ⟨F13, l13, e13⟩ := zi_225_38 e3
          exact (ih _ (Nat.lt_trans l13 (Nat.lt_trans l3 (Nat.lt_trans l2 l1)))) _ _ _ _ _ _ _ _ e13 K0 A0
      · obtain ⟨F14, l14, ⟨c14, e14⟩ | ⟨c14, e14⟩⟩ := zi_225_70 e1
        · have k15 := zi_225_72 e14
          subst k15
          exact A0
        · have k16 := zi_225_74 e14
          subst k16
          exact A0
  obtain ⟨F17, l17, r17, s17, q17, e17⟩ := zi_225_0 e0
  have k17 : s17 = _ := zJ_175 q17
  subst k17
  obtain ⟨F18, l18, ⟨c18, e18⟩ | ⟨c18, e18⟩⟩ := zi_225_2 e17
  · have k19 := zi_225_15 e18
    subst k19
    exact B.1
  · obtain ⟨F20, l20, r20, s20, q20, e20⟩ := zi_225_3 e18
    have k20 : s20 = _ := zJ_125 q20
    subst k20
    obtain ⟨F21, l21, ⟨c21, e21⟩ | ⟨c21, e21⟩⟩ := zi_225_8 e20
    · have k22 := zi_225_15 e21
      subst k22
      exact B.1
    · obtain ⟨F23, l23, r23, s23, q23, e23⟩ := zi_225_9 e21
      have k23 : s23 = _ := zJ_125 q23
      subst k23
      obtain ⟨F24, l24, ⟨c24, e24⟩ | ⟨c24, e24⟩⟩ := zi_225_14 e23
      · have k25 := zi_225_15 e24
        subst k25
        exact B.1
      · obtain ⟨F26, l26, r26, s26, q26, e26⟩ := zi_225_17 e24
        obtain ⟨K26, A26⟩ : zJk σ F0 z s26 ∧ s26 354 = σ := zJ_207 B q26
        obtain ⟨F27, l27, e27⟩ := zi_225_23 e26
        exact (loop _) _ _ _ _ _ _ _ _ e27 K26 A26
theorem zJ_226 {F : Nat} {x1 x2 x3 x4 x5 x6 x7 : Int} {σ : Int → Int} {F0 : Int} {z t : zS} {R : Int × zS} {n m : Nat} {U : (Int → Int) → Int} (g : zJg σ F0 z n m U) (B : zJb σ F0 z t) (e0 : zG F xm_c226 0 [344, x1, x2, x3, x4, x5, x6, x7] [] t R) : R.2 354 = σ := by
  have loop : ∀ F : Nat, (∀ (x1 x2 x3 x4 x5 x6 x7 : Int) (t : zS) (R : Int × zS), zG F xm_c226 33 [344, x1, x2, x3, x4, x5, x6, x7] [] t R → zJk σ F0 z t → t 354 = σ → R.2 354 = σ) ∧ (∀ (x1 x2 x3 x4 x5 x6 x7 : Int) (t : zS) (R : Int × zS), zG F xm_c226 52 [344, x1, x2, x3, x4, x5, x6, x7] [] t R → zJk σ F0 z t → 0 ≤ x7 → R.2 354 = σ) := by
    intro F
    induction F using Nat.strongRecOn with
    | _ F ih =>
      refine ⟨?_, ?_⟩
      · intro x1 x2 x3 x4 x5 x6 x7 t R e0 K0 A0
        obtain ⟨F1, l1, ⟨c1, e1⟩ | ⟨c1, e1⟩⟩ := zi_226_33 e0
        · obtain ⟨F2, l2, ⟨c2, e2⟩ | ⟨c2, e2⟩⟩ := zi_226_88 e1
          · have k3 := zi_226_90 e2
            subst k3
            exact A0
          · obtain ⟨F4, l4, ⟨c4, e4⟩ | ⟨c4, e4⟩⟩ := zi_226_92 e2
            · obtain ⟨F5, l5, r5, s5, q5, e5⟩ := zi_226_94 e4
              have k5 : s5 = _ := zJ_127 q5
              subst k5
              have k6 := zi_226_96 e5
              subst k6
              exact A0
            · have k7 := zi_226_97 e4
              subst k7
              exact A0
        · obtain ⟨F8, l8, ⟨c8, e8⟩ | ⟨c8, e8⟩⟩ := zi_226_36 e1
          · obtain ⟨F9, l9, ⟨c9, e9⟩ | ⟨c9, e9⟩⟩ := zi_226_42 e8
            · obtain ⟨F10, l10, e10⟩ := zi_226_50 e9
              exact (ih _ (Nat.lt_trans l10 (Nat.lt_trans l9 (Nat.lt_trans l8 l1)))).2 _ _ _ _ _ _ _ _ _ e10 K0 (Int.le_refl 0)
            · obtain ⟨F11, l11, r11, s11, q11, e11⟩ := zi_226_44 e9
              have k11 : s11 = _ := zJ_127 q11
              subst k11
              obtain ⟨F12, l12, r12, s12, q12, e12⟩ := zi_226_46 e11
              have k12 : s12 = _ := zJ_127 q12
              subst k12
              obtain ⟨F13, l13, ⟨c13, e13⟩ | ⟨c13, e13⟩⟩ := zi_226_48 e12
              · obtain ⟨F14, l14, e14⟩ := zi_226_50 e13
                exact (ih _ (Nat.lt_trans l14 (Nat.lt_trans l13 (Nat.lt_trans l12 (Nat.lt_trans l11 (Nat.lt_trans l9 (Nat.lt_trans l8 l1))))))).2 _ _ _ _ _ _ _ _ _ e14 K0 (Int.le_refl 0)
              · obtain ⟨F15, l15, e15⟩ := zi_226_49 e13
                exact (ih _ (Nat.lt_trans l15 (Nat.lt_trans l13 (Nat.lt_trans l12 (Nat.lt_trans l11 (Nat.lt_trans l9 (Nat.lt_trans l8 l1))))))).1 _ _ _ _ _ _ _ _ _ e15 K0 A0
          · obtain ⟨F16, l16, e16⟩ := zi_226_86 e8
            exact (ih _ (Nat.lt_trans l16 (Nat.lt_trans l8 l1))).1 _ _ _ _ _ _ _ _ _ e16 K0 A0
      · intro x1 x2 x3 x4 x5 x6 x7 t R e0 K0 f7
        obtain ⟨F17, l17, ⟨c17, e17⟩ | ⟨c17, e17⟩⟩ := zi_226_52 e0
        · obtain ⟨F18, l18, r18, s18, q18, e18⟩ := zi_226_58 e17
          have k18 : s18 = _ := zJ_126 q18
          subst k18
          obtain ⟨F19, l19, ⟨c19, e19⟩ | ⟨c19, e19⟩⟩ := zi_226_61 e18
          · obtain ⟨F20, l20, e20⟩ := zi_226_73 e19
            exact (ih _ (Nat.lt_trans l20 (Nat.lt_trans l19 (Nat.lt_trans l18 l17)))).2 _ _ _ _ _ _ _ _ _ e20 K0 ((zJ_inc f7 (zJ_lt g K0 c17)))
          · obtain ⟨F21, l21, e21⟩ := zi_226_62 e19
            exact (ih _ (Nat.lt_trans l21 (Nat.lt_trans l19 (Nat.lt_trans l18 l17)))).2 _ _ _ _ _ _ _ _ _ e21 ((zJk_up K0 f7 (zJ_lt g K0 c17) (by decide) (by decide))) ((zJ_inc f7 (zJ_lt g K0 c17)))
        · obtain ⟨F22, l22, r22, s22, q22, e22⟩ := zi_226_75 e17
          have K22 : zJk σ F0 z s22 := zJ_209 g K0 q22
          obtain ⟨F23, l23, r23, s23, q23, e23⟩ := zi_226_78 e22
          have k23 : s23 = _ := zJ_179 q23
          subst k23
          obtain ⟨F24, l24, ⟨c24, e24⟩ | ⟨c24, e24⟩⟩ := zi_226_81 e23
          · obtain ⟨F25, l25, r25, s25, q25, e25⟩ := zi_226_82 e24
            obtain ⟨K25, A25⟩ : zJk σ F0 z s25 ∧ s25 354 = σ := zJ_208 K22 q25
            obtain ⟨F26, l26, e26⟩ := zi_226_86 e25
            exact (ih _ (Nat.lt_trans l26 (Nat.lt_trans l25 (Nat.lt_trans l24 (Nat.lt_trans l23 (Nat.lt_trans l22 l17)))))).1 _ _ _ _ _ _ _ _ _ e26 K25 A25
          · obtain ⟨F27, l27, r27, s27, q27, e27⟩ := zi_226_84 e24
            obtain ⟨K27, A27⟩ : zJk σ F0 z s27 ∧ s27 354 = σ := zJ_208 K22 q27
            obtain ⟨F28, l28, e28⟩ := zi_226_86 e27
            exact (ih _ (Nat.lt_trans l28 (Nat.lt_trans l27 (Nat.lt_trans l24 (Nat.lt_trans l23 (Nat.lt_trans l22 l17)))))).1 _ _ _ _ _ _ _ _ _ e28 K27 A27
  obtain ⟨F29, l29, r29, s29, q29, e29⟩ := zi_226_0 e0
  obtain ⟨k29, rg⟩ := zJ_176 q29
  replace rg := zJ_rg g B rg
  replace k29 : s29 = _ := k29
  subst k29
  obtain ⟨F30, l30, ⟨c30, e30⟩ | ⟨c30, e30⟩⟩ := zi_226_3 e29
  · have k31 := zi_226_16 e30
    subst k31
    exact B.1
  · obtain ⟨F32, l32, r32, s32, q32, e32⟩ := zi_226_4 e30
    have k32 : s32 = _ := zJ_125 q32
    subst k32
    obtain ⟨F33, l33, ⟨c33, e33⟩ | ⟨c33, e33⟩⟩ := zi_226_9 e32
    · have k34 := zi_226_16 e33
      subst k34
      exact B.1
    · obtain ⟨F35, l35, r35, s35, q35, e35⟩ := zi_226_10 e33
      have k35 : s35 = _ := zJ_125 q35
      subst k35
      obtain ⟨F36, l36, ⟨c36, e36⟩ | ⟨c36, e36⟩⟩ := zi_226_15 e35
      · have k37 := zi_226_16 e36
        subst k37
        exact B.1
      · obtain ⟨F38, l38, r38, s38, q38, e38⟩ := zi_226_18 e36
        have k38 : s38 = _ := zJ_213 q38
        subst k38
        obtain ⟨F39, l39, r39, s39, q39, e39⟩ := zi_226_20 e38
        obtain ⟨K39, A39⟩ : zJk σ F0 z s39 ∧ s39 354 = σ := zJ_207 B q39
        obtain ⟨F40, l40, e40⟩ := zi_226_31 e39
        exact (loop _).1 _ _ _ _ _ _ _ _ _ e40 K39 A39
theorem zJ_229 {F : Nat} {x1 x2 : Int} {σ : Int → Int} {F0 : Int} {z t : zS} {R : Int × zS} {n m : Nat} {U : (Int → Int) → Int} (g : zJg σ F0 z n m U) (K : zJk σ F0 z t) (e0 : zG F xm_c229 0 [344, x1, x2] [] t R) : zJk σ F0 z R.2 ∧ R.2 354 = σ := by
  have loop : ∀ F : Nat, (∀ (x1 x2 : Int) (t : zS) (R : Int × zS), zG F xm_c229 4 [344, x1, x2] [] t R → zJk σ F0 z t → zJk σ F0 z R.2 ∧ R.2 354 = σ) := by
    intro F
    induction F using Nat.strongRecOn with
    | _ F ih =>
      intro x1 x2 t R e0 K0
      obtain ⟨F1, l1, ⟨c1, e1⟩ | ⟨c1, e1⟩⟩ := zi_229_4 e0
      · obtain ⟨F2, l2, r2, s2, q2, e2⟩ := zi_229_7 e1
        have K2 : zJk σ F0 z s2 := zJ_196 g K0 q2
        obtain ⟨F3, l3, ⟨c3, e3⟩ | ⟨c3, e3⟩⟩ := zi_229_9 e2
        · obtain ⟨F4, l4, e4⟩ := zi_229_10 e3
          exact (ih _ (Nat.lt_trans l4 (Nat.lt_trans l3 (Nat.lt_trans l2 l1)))) _ _ _ _ e4 K2
        · obtain ⟨F5, l5, e5⟩ := zi_229_17 e3
          exact (ih _ (Nat.lt_trans l5 (Nat.lt_trans l3 (Nat.lt_trans l2 l1)))) _ _ _ _ e5 K2
      · obtain ⟨F6, l6, r6, s6, q6, e6⟩ := zi_229_19 e1
        obtain ⟨K6, A6⟩ : zJk σ F0 z s6 ∧ s6 354 = σ := zJ_208 K0 q6
        have k7 := zi_229_21 e6
        subst k7
        exact ⟨K6, A6⟩
  obtain ⟨F8, l8, e8⟩ := zi_229_0 e0
  exact (loop _) _ _ _ _ e8 K
theorem zJ_230 {F : Nat} {x1 x2 x3 : Int} {σ : Int → Int} {F0 : Int} {z t : zS} {R : Int × zS} {n m : Nat} {U : (Int → Int) → Int} (g : zJg σ F0 z n m U) (B : zJb σ F0 z t) (e0 : zG F xm_c230 0 [344, x1, x2, x3] [] t R) : R.2 354 = σ := by
  obtain ⟨F1, l1, r1, s1, q1, e1⟩ := zi_230_0 e0
  obtain ⟨k1, rg⟩ := zJ_176 q1
  replace rg := zJ_rg g B rg
  replace k1 : s1 = _ := k1
  subst k1
  obtain ⟨F2, l2, ⟨c2, e2⟩ | ⟨c2, e2⟩⟩ := zi_230_3 e1
  · have k3 := zi_230_10 e2
    subst k3
    exact B.1
  · obtain ⟨F4, l4, r4, s4, q4, e4⟩ := zi_230_4 e2
    have k4 : s4 = _ := zJ_178 q4
    subst k4
    obtain ⟨F5, l5, ⟨c5, e5⟩ | ⟨c5, e5⟩⟩ := zi_230_8 e4
    · have k6 := zi_230_10 e5
      subst k6
      exact B.1
    · obtain ⟨F7, l7, r7, s7, q7, e7⟩ := zi_230_12 e5
      obtain ⟨K7, A7⟩ : zJk σ F0 z s7 ∧ s7 354 = σ := zJ_207 B q7
      obtain ⟨F8, l8, r8, s8, q8, e8⟩ := zi_230_14 e7
      obtain ⟨K8, A8⟩ : zJk σ F0 z s8 ∧ s8 354 = σ := zJ_229 g K7 q8
      obtain ⟨F9, l9, r9, s9, q9, e9⟩ := zi_230_16 e8
      obtain ⟨K9, A9⟩ : zJk σ F0 z s9 ∧ s9 354 = σ := zJ_229 g (zJk_up K8 (rg.resolve_left c2).1 (rg.resolve_left c2).2 (by decide) (by decide)) q9
      obtain ⟨F10, l10, ⟨c10, e10⟩ | ⟨c10, e10⟩⟩ := zi_230_33 e9
      · have k11 := zi_230_38 e10
        subst k11
        exact A9
      · obtain ⟨F12, l12, ⟨c12, e12⟩ | ⟨c12, e12⟩⟩ := zi_230_36 e10
        · have k13 := zi_230_38 e12
          subst k13
          exact A9
        · have k14 := zi_230_40 e12
          subst k14
          exact A9
theorem zJ_224 {F : Nat} {x1 x2 x3 x4 x5 : Int} {σ : Int → Int} {F0 : Int} {z t : zS} {R : Int × zS} {n m : Nat} {U : (Int → Int) → Int} (g : zJg σ F0 z n m U) (B : zJb σ F0 z t) (e0 : zG F xm_c224 0 [344, x1, x2, x3, x4, x5] [] t R) : R.2 354 = σ := by
  have loop : ∀ F : Nat, (∀ (x1 x2 x3 x4 x5 : Int) (t : zS) (R : Int × zS), zG F xm_c224 19 [344, x1, x2, x3, x4, x5] [] t R → t 354 = σ → R.2 354 = σ) := by
    intro F
    induction F using Nat.strongRecOn with
    | _ F ih =>
      intro x1 x2 x3 x4 x5 t R e0 A0
      obtain ⟨F1, l1, ⟨c1, e1⟩ | ⟨c1, e1⟩⟩ := zi_224_19 e0
      · obtain ⟨F2, l2, ⟨c2, e2⟩ | ⟨c2, e2⟩⟩ := zi_224_25 e1
        · obtain ⟨F3, l3, r3, s3, q3, e3⟩ := zi_224_28 e2
          have k3 : s3 = _ := zJ_223 q3
          subst k3
          obtain ⟨F4, l4, ⟨c4, e4⟩ | ⟨c4, e4⟩⟩ := zi_224_31 e3
          · obtain ⟨F5, l5, e5⟩ := zi_224_38 e4
            exact (ih _ (Nat.lt_trans l5 (Nat.lt_trans l4 (Nat.lt_trans l3 (Nat.lt_trans l2 l1))))) _ _ _ _ _ _ _ e5 A0
          · obtain ⟨F6, l6, ⟨c6, e6⟩ | ⟨c6, e6⟩⟩ := zi_224_34 e4
            · obtain ⟨F7, l7, e7⟩ := zi_224_38 e6
              exact (ih _ (Nat.lt_trans l7 (Nat.lt_trans l6 (Nat.lt_trans l4 (Nat.lt_trans l3 (Nat.lt_trans l2 l1)))))) _ _ _ _ _ _ _ e7 A0
            · obtain ⟨F8, l8, e8⟩ := zi_224_37 e6
              exact (ih _ (Nat.lt_trans l8 (Nat.lt_trans l6 (Nat.lt_trans l4 (Nat.lt_trans l3 (Nat.lt_trans l2 l1)))))) _ _ _ _ _ _ _ e8 A0
        · obtain ⟨F9, l9, ⟨c9, e9⟩ | ⟨c9, e9⟩⟩ := zi_224_44 e2
          · have k10 := zi_224_46 e9
            subst k10
            exact A0
          · have k11 := zi_224_48 e9
            subst k11
            exact A0
      · obtain ⟨F12, l12, ⟨c12, e12⟩ | ⟨c12, e12⟩⟩ := zi_224_44 e1
        · have k13 := zi_224_46 e12
          subst k13
          exact A0
        · have k14 := zi_224_48 e12
          subst k14
          exact A0
  obtain ⟨F15, l15, r15, s15, q15, e15⟩ := zi_224_0 e0
  have k15 : s15 = _ := zJ_175 q15
  subst k15
  obtain ⟨F16, l16, ⟨c16, e16⟩ | ⟨c16, e16⟩⟩ := zi_224_2 e15
  · have k17 := zi_224_9 e16
    subst k17
    exact B.1
  · obtain ⟨F18, l18, r18, s18, q18, e18⟩ := zi_224_3 e16
    have k18 : s18 = _ := zJ_125 q18
    subst k18
    obtain ⟨F19, l19, ⟨c19, e19⟩ | ⟨c19, e19⟩⟩ := zi_224_8 e18
    · have k20 := zi_224_9 e19
      subst k20
      exact B.1
    · obtain ⟨F21, l21, r21, s21, q21, e21⟩ := zi_224_11 e19
      have A21 : s21 354 = σ := zJ_220 g B q21
      obtain ⟨F22, l22, e22⟩ := zi_224_13 e21
      exact (loop _) _ _ _ _ _ _ _ e22 A21
