/-! evenings in the reference: what is told is laid back, printed by wip/z/gen_inv.py -/
theorem zJ_234 {F : Nat} {x1 x2 x3 x4 x5 x6 x7 : Int} {σ : Int → Int} {F0 : Int} {z t : zS} {R : Int × zS} {n m : Nat} {U : (Int → Int) → Int} (g : zJg σ F0 z n m U) (hf : σ 1 ≠ 0 → 0 < σ 0 ∧ σ 0 < 2147483648) (B : zJf σ F0 z t) (e0 : zG F xm_c234 0 [344, x1, x2, x3, x4, x5, x6, x7] [] t R) : R.2 354 = σ := by
  have loop : ∀ F : Nat, (∀ (x1 x2 x3 x4 x5 x6 x7 : Int) (t : zS) (R : Int × zS), zG F xm_c234 36 [344, x1, x2, x3, x4, x5, x6, x7] [] t R → zJee σ F0 z t → t 354 = σ → R.2 354 = σ) ∧ (∀ (x1 x2 x3 x4 x5 x6 x7 : Int) (t : zS) (R : Int × zS), zG F xm_c234 41 [344, x1, x2, x3, x4, x5, x6, x7] [] t R → zJee σ F0 z t → R.2 354 = σ) ∧ (∀ (x1 x2 x3 x4 x5 x6 x7 : Int) (t : zS) (R : Int × zS), zG F xm_c234 59 [344, x1, x2, x3, x4, x5, x6, x7] [] t R → zJee σ F0 z t → R.2 354 = σ) := by
    intro F
    induction F using Nat.strongRecOn with
    | _ F ih =>
      refine ⟨?_, ?_, ?_⟩
      · intro x1 x2 x3 x4 x5 x6 x7 t R e0 K0 A0
        obtain ⟨F1, l1, ⟨c1, e1⟩ | ⟨c1, e1⟩⟩ := zi_234_36 e0
        · obtain ⟨F2, l2, e2⟩ := zi_234_39 e1
          exact (ih _ (Nat.lt_trans l2 l1)).2.1 _ _ _ _ _ _ _ _ _ e2 K0
        · obtain ⟨F3, l3, ⟨c3, e3⟩ | ⟨c3, e3⟩⟩ := zi_234_84 e1
          · have k4 := zi_234_86 e3
            subst k4
            exact A0
          · have k5 := zi_234_88 e3
            subst k5
            exact A0
      · intro x1 x2 x3 x4 x5 x6 x7 t R e0 K0
        obtain ⟨F6, l6, ⟨c6, e6⟩ | ⟨c6, e6⟩⟩ := zi_234_41 e0
        · obtain ⟨F7, l7, r7, s7, q7, e7⟩ := zi_234_44 e6
          have K7 : zJee σ F0 z s7 := zJe_233 g hf K0 q7
          obtain ⟨F8, l8, r8, s8, q8, e8⟩ := zi_234_46 e7
          have K8 : zJee σ F0 z s8 := zJe_196 g K7 q8
          obtain ⟨F9, l9, e9⟩ := zi_234_48 e8
          exact (ih _ (Nat.lt_trans l9 (Nat.lt_trans l8 (Nat.lt_trans l7 l6)))).2.1 _ _ _ _ _ _ _ _ _ e9 K8
        · obtain ⟨F10, l10, r10, s10, q10, e10⟩ := zi_234_51 e6
          have k10 : s10 = _ := zJ_181 q10
          subst k10
          obtain ⟨F11, l11, r11, s11, q11, e11⟩ := zi_234_54 e10
          have k11 : s11 = _ := zJ_127 q11
          subst k11
          obtain ⟨F12, l12, e12⟩ := zi_234_55 e11
          exact (ih _ (Nat.lt_trans l12 (Nat.lt_trans l11 (Nat.lt_trans l10 l6)))).2.2 _ _ _ _ _ _ _ _ _ e12 K0
      · intro x1 x2 x3 x4 x5 x6 x7 t R e0 K0
        obtain ⟨F13, l13, ⟨c13, e13⟩ | ⟨c13, e13⟩⟩ := zi_234_59 e0
        · obtain ⟨F14, l14, r14, s14, q14, e14⟩ := zi_234_65 e13
          have k14 : s14 = _ := zJ_179 q14
          subst k14
          obtain ⟨F15, l15, ⟨c15, e15⟩ | ⟨c15, e15⟩⟩ := zi_234_69 e14
          · obtain ⟨F16, l16, e16⟩ := zi_234_75 e15
            exact (ih _ (Nat.lt_trans l16 (Nat.lt_trans l15 (Nat.lt_trans l14 l13)))).2.2 _ _ _ _ _ _ _ _ _ e16 K0
          · obtain ⟨F17, l17, r17, s17, q17, e17⟩ := zi_234_70 e15
            have k17 : s17 = _ := zJ_178 q17
            subst k17
            obtain ⟨F18, l18, e18⟩ := zi_234_74 e17
            exact (ih _ (Nat.lt_trans l18 (Nat.lt_trans l17 (Nat.lt_trans l15 (Nat.lt_trans l14 l13))))).2.2 _ _ _ _ _ _ _ _ _ e18 K0
        · obtain ⟨F19, l19, r19, s19, q19, e19⟩ := zi_234_80 e13
          obtain ⟨K19, A19⟩ : zJee σ F0 z s19 ∧ s19 354 = σ := zJe_208 K0 q19
          obtain ⟨F20, l20, e20⟩ := zi_234_82 e19
          exact (ih _ (Nat.lt_trans l20 (Nat.lt_trans l19 l13))).1 _ _ _ _ _ _ _ _ _ e20 K19 A19
  obtain ⟨F21, l21, r21, s21, q21, e21⟩ := zi_234_0 e0
  have k21 : s21 = _ := zJ_175 q21
  subst k21
  obtain ⟨F22, l22, ⟨c22, e22⟩ | ⟨c22, e22⟩⟩ := zi_234_2 e21
  · have k23 := zi_234_21 e22
    subst k23
    exact B.1.1
  · obtain ⟨F24, l24, r24, s24, q24, e24⟩ := zi_234_3 e22
    have k24 : s24 = _ := zJ_125 q24
    subst k24
    obtain ⟨F25, l25, ⟨c25, e25⟩ | ⟨c25, e25⟩⟩ := zi_234_8 e24
    · have k26 := zi_234_21 e25
      subst k26
      exact B.1.1
    · obtain ⟨F27, l27, r27, s27, q27, e27⟩ := zi_234_9 e25
      have k27 : s27 = _ := zJ_125 q27
      subst k27
      obtain ⟨F28, l28, ⟨c28, e28⟩ | ⟨c28, e28⟩⟩ := zi_234_14 e27
      · have k29 := zi_234_21 e28
        subst k29
        exact B.1.1
      · obtain ⟨F30, l30, r30, s30, q30, e30⟩ := zi_234_15 e28
        have k30 : s30 = _ := zJ_125 q30
        subst k30
        obtain ⟨F31, l31, ⟨c31, e31⟩ | ⟨c31, e31⟩⟩ := zi_234_20 e30
        · have k32 := zi_234_21 e31
          subst k32
          exact B.1.1
        · obtain ⟨F33, l33, r33, s33, q33, e33⟩ := zi_234_23 e31
          obtain ⟨K33, A33⟩ : zJee σ F0 z s33 ∧ s33 354 = σ := zJe_207 (zJf_u B) q33
          obtain ⟨F34, l34, e34⟩ := zi_234_34 e33
          exact (loop _).1 _ _ _ _ _ _ _ _ _ e34 K33 A33
