/-! the class's searches write the cells 224 to 239 alone, printed by wip/z/gen_cls.py -/
def zQf (s t : zS) : Prop := ∀ x, ¬ (224 ≤ x ∧ x < 240) → t x = s x
section QF
variable {s t t1 : zS} {j i v : Int}
theorem zQf_r : zQf s s := fun _ _ => rfl
theorem zQf_t (h : zQf s t) (h' : zQf t t1) : zQf s t1 := fun x hx => (h' x hx).trans (h x hx)
theorem zQf_u (h : zQf s t) (h0 : 224 ≤ j) (h1 : j < 240) : zQf s (zu t j i v) := fun x hx => by
  rw [← h x hx]
  exact funext (fun y => zu_cell (by omega))
theorem zQf_c {a b c n : Int} (h : zQf s t) (h0 : 224 ≤ j) (h1 : j < 240) : zQf s (zcpy t a b j c n) := fun x hx => by
  rw [← h x hx]
  funext y
  unfold zcpy
  rw [if_neg (fun q => hx (by omega))]
end QF
theorem zJ_120 {F : Nat} {x0 x1 : Int} {s : zS} {R : Int × zS} (e0 : zG F xm_c120 0 [x0, x1] [] s R) : R.2 = s := by
  have k1 := zi_120_0 e0
  subst k1
  rfl
theorem zJ_239 {F : Nat} {x0 : Int} {s : zS} {R : Int × zS} (e0 : zG F xm_c239 0 [x0] [] s R) : R.2 = s := by
  have k1 := zi_239_0 e0
  subst k1
  rfl
theorem zJ_238 {F : Nat} {x0 x1 : Int} {s : zS} {R : Int × zS} (e0 : zG F xm_c238 0 [x0, x1] [] s R) : R.2 = s := by
  obtain ⟨F1, l1, ⟨c1, e1⟩ | ⟨c1, e1⟩⟩ := zi_238_0 e0
  · obtain ⟨F2, l2, ⟨c2, e2⟩ | ⟨c2, e2⟩⟩ := zi_238_14 e1
    · obtain ⟨F3, l3, ⟨c3, e3⟩ | ⟨c3, e3⟩⟩ := zi_238_19 e2
      · obtain ⟨F4, l4, ⟨c4, e4⟩ | ⟨c4, e4⟩⟩ := zi_238_27 e3
        · obtain ⟨F5, l5, ⟨c5, e5⟩ | ⟨c5, e5⟩⟩ := zi_238_35 e4
          · have k6 := zi_238_43 e5
            subst k6
            rfl
          · have k7 := zi_238_48 e5
            subst k7
            rfl
        · obtain ⟨F8, l8, ⟨c8, e8⟩ | ⟨c8, e8⟩⟩ := zi_238_40 e4
          · have k9 := zi_238_43 e8
            subst k9
            rfl
          · have k10 := zi_238_48 e8
            subst k10
            rfl
      · obtain ⟨F11, l11, ⟨c11, e11⟩ | ⟨c11, e11⟩⟩ := zi_238_32 e3
        · obtain ⟨F12, l12, ⟨c12, e12⟩ | ⟨c12, e12⟩⟩ := zi_238_35 e11
          · have k13 := zi_238_43 e12
            subst k13
            rfl
          · have k14 := zi_238_48 e12
            subst k14
            rfl
        · obtain ⟨F15, l15, ⟨c15, e15⟩ | ⟨c15, e15⟩⟩ := zi_238_40 e11
          · have k16 := zi_238_43 e15
            subst k16
            rfl
          · have k17 := zi_238_48 e15
            subst k17
            rfl
    · obtain ⟨F18, l18, ⟨c18, e18⟩ | ⟨c18, e18⟩⟩ := zi_238_24 e2
      · obtain ⟨F19, l19, ⟨c19, e19⟩ | ⟨c19, e19⟩⟩ := zi_238_27 e18
        · obtain ⟨F20, l20, ⟨c20, e20⟩ | ⟨c20, e20⟩⟩ := zi_238_35 e19
          · have k21 := zi_238_43 e20
            subst k21
            rfl
          · have k22 := zi_238_48 e20
            subst k22
            rfl
        · obtain ⟨F23, l23, ⟨c23, e23⟩ | ⟨c23, e23⟩⟩ := zi_238_40 e19
          · have k24 := zi_238_43 e23
            subst k24
            rfl
          · have k25 := zi_238_48 e23
            subst k25
            rfl
      · obtain ⟨F26, l26, ⟨c26, e26⟩ | ⟨c26, e26⟩⟩ := zi_238_32 e18
        · obtain ⟨F27, l27, ⟨c27, e27⟩ | ⟨c27, e27⟩⟩ := zi_238_35 e26
          · have k28 := zi_238_43 e27
            subst k28
            rfl
          · have k29 := zi_238_48 e27
            subst k29
            rfl
        · obtain ⟨F30, l30, ⟨c30, e30⟩ | ⟨c30, e30⟩⟩ := zi_238_40 e26
          · have k31 := zi_238_43 e30
            subst k31
            rfl
          · have k32 := zi_238_48 e30
            subst k32
            rfl
  · have k33 := zi_238_10 e1
    subst k33
    rfl
theorem zJ_4 {F : Nat} {x0 x1 : Int} {s : zS} {R : Int × zS} (e0 : zG F xm_c4 0 [x0, x1] [] s R) : R.2 = s := by
  obtain ⟨F1, l1, ⟨c1, e1⟩ | ⟨c1, e1⟩⟩ := zi_4_0 e0
  · have k2 := zi_4_9 e1
    subst k2
    rfl
  · have k3 := zi_4_11 e1
    subst k3
    rfl
theorem zJ_14 {F : Nat} {x0 x1 x2 : Int} {s : zS} {R : Int × zS} (e0 : zG F xm_c14 0 [x0, x1, x2] [] s R) : R.2 = s := by
  have k1 := zi_14_0 e0
  subst k1
  rfl
theorem zJ_21 {F : Nat} {x0 : Int} {s : zS} {R : Int × zS} (e0 : zG F xm_c21 0 [x0] [] s R) : R.2 = s := by
  obtain ⟨F1, l1, ⟨c1, e1⟩ | ⟨c1, e1⟩⟩ := zi_21_0 e0
  · have k2 := zi_21_3 e1
    subst k2
    rfl
  · have k3 := zi_21_5 e1
    subst k3
    rfl
theorem zJ_22 {F : Nat} {x0 x1 : Int} {s : zS} {R : Int × zS} (e0 : zG F xm_c22 0 [x0, x1] [] s R) : R.2 = s := by
  obtain ⟨F1, l1, ⟨c1, e1⟩ | ⟨c1, e1⟩⟩ := zi_22_0 e0
  · have k2 := zi_22_8 e1
    subst k2
    rfl
  · obtain ⟨F3, l3, ⟨c3, e3⟩ | ⟨c3, e3⟩⟩ := zi_22_2 e1
    · have k4 := zi_22_6 e3
      subst k4
      rfl
    · have k5 := zi_22_8 e3
      subst k5
      rfl
theorem zJ_23 {F : Nat} {x0 x1 : Int} {s : zS} {R : Int × zS} (e0 : zG F xm_c23 0 [x0, x1] [] s R) : R.2 = s := by
  obtain ⟨F1, l1, ⟨c1, e1⟩ | ⟨c1, e1⟩⟩ := zi_23_0 e0
  · have k2 := zi_23_8 e1
    subst k2
    rfl
  · obtain ⟨F3, l3, ⟨c3, e3⟩ | ⟨c3, e3⟩⟩ := zi_23_2 e1
    · have k4 := zi_23_6 e3
      subst k4
      rfl
    · have k5 := zi_23_8 e3
      subst k5
      rfl
theorem zJ_40 {F : Nat} {x0 x1 : Int} {s : zS} {R : Int × zS} (e0 : zG F xm_c40 0 [x0, x1] [] s R) : R.2 = s := by
  obtain ⟨F1, l1, r1, s1, q1, e1⟩ := zi_40_0 e0
  have k1 : s1 = _ := zJ_120 q1
  subst k1
  obtain ⟨F2, l2, ⟨c2, e2⟩ | ⟨c2, e2⟩⟩ := zi_40_4 e1
  · have k3 := zi_40_6 e2
    subst k3
    rfl
  · have k4 := zi_40_11 e2
    subst k4
    rfl
theorem zJc_39 {F : Nat} {x0 x1 x2 : Int} {s : zS} {R : Int × zS} (e0 : zG F xm_c39 0 [x0, x1, x2] [] s R) : R.2 = s := by
  have loop : ∀ F : Nat, (∀ (x0 x1 x2 : Int) , ∀ (s : zS) (R : Int × zS), zG F xm_c39 4 [x0, x1, x2] [] s R → R.2 = s) := by
    intro F
    induction F using Nat.strongRecOn with
    | _ F ih =>
      intro x0 x1 x2 s R e0
      obtain ⟨F1, l1, ⟨c1, e1⟩ | ⟨c1, e1⟩⟩ := zi_39_4 e0
      · obtain ⟨F2, l2, r2, s2, q2, e2⟩ := zi_39_7 e1
        have k2 : s2 = _ := zJ_120 q2
        subst k2
        obtain ⟨F3, l3, ⟨c3, e3⟩ | ⟨c3, e3⟩⟩ := zi_39_12 e2
        · obtain ⟨F4, l4, e4⟩ := zi_39_14 e3
          exact (ih _ (Nat.lt_trans l4 (Nat.lt_trans l3 (Nat.lt_trans l2 l1)))) _ _ _ _ _ e4
        · obtain ⟨F5, l5, e5⟩ := zi_39_19 e3
          exact (ih _ (Nat.lt_trans l5 (Nat.lt_trans l3 (Nat.lt_trans l2 l1)))) _ _ _ _ _ e5
      · have k6 := zi_39_24 e1
        subst k6
        rfl
  obtain ⟨F7, l7, e7⟩ := zi_39_0 e0
  exact (loop _) _ _ _ _ _ e7
theorem zJ_48 {F : Nat} {x0 x1 x2 x3 : Int} {s : zS} {R : Int × zS} (e0 : zG F xm_c48 0 [x0, x1, x2, x3] [] s R) : R.2 = s := by
  have loop : ∀ F : Nat, (∀ (x0 x1 x2 x3 : Int) , ∀ (s : zS) (R : Int × zS), zG F xm_c48 4 [x0, x1, x2, x3] [] s R → R.2 = s) := by
    intro F
    induction F using Nat.strongRecOn with
    | _ F ih =>
      intro x0 x1 x2 x3 s R e0
      obtain ⟨F1, l1, ⟨c1, e1⟩ | ⟨c1, e1⟩⟩ := zi_48_4 e0
      · obtain ⟨F2, l2, ⟨c2, e2⟩ | ⟨c2, e2⟩⟩ := zi_48_10 e1
        · obtain ⟨F3, l3, e3⟩ := zi_48_19 e2
          exact (ih _ (Nat.lt_trans l3 (Nat.lt_trans l2 l1))) _ _ _ _ _ _ e3
        · obtain ⟨F4, l4, e4⟩ := zi_48_23 e2
          exact (ih _ (Nat.lt_trans l4 (Nat.lt_trans l2 l1))) _ _ _ _ _ _ e4
      · have k5 := zi_48_28 e1
        subst k5
        rfl
  obtain ⟨F6, l6, e6⟩ := zi_48_0 e0
  exact (loop _) _ _ _ _ _ _ e6
theorem zJ_121 {F : Nat} {x0 : Int} {s : zS} {R : Int × zS} (e0 : zG F xm_c121 0 [x0] [] s R) : R.2 = s := by
  obtain ⟨F1, l1, ⟨c1, e1⟩ | ⟨c1, e1⟩⟩ := zi_121_0 e0
  · have k2 := zi_121_8 e1
    subst k2
    rfl
  · obtain ⟨F3, l3, ⟨c3, e3⟩ | ⟨c3, e3⟩⟩ := zi_121_3 e1
    · have k4 := zi_121_8 e3
      subst k4
      rfl
    · have k5 := zi_121_6 e3
      subst k5
      rfl
theorem zJ_122 {F : Nat} {x0 : Int} {s : zS} {R : Int × zS} (e0 : zG F xm_c122 0 [x0] [] s R) : R.2 = s := by
  obtain ⟨F1, l1, ⟨c1, e1⟩ | ⟨c1, e1⟩⟩ := zi_122_0 e0
  · have k2 := zi_122_5 e1
    subst k2
    rfl
  · obtain ⟨F3, l3, ⟨c3, e3⟩ | ⟨c3, e3⟩⟩ := zi_122_2 e1
    · have k4 := zi_122_5 e3
      subst k4
      rfl
    · have k5 := zi_122_7 e3
      subst k5
      rfl
theorem zJ_123 {F : Nat} {x0 x1 : Int} {s : zS} {R : Int × zS} (e0 : zG F xm_c123 0 [x0, x1] [] s R) : R.2 = s := by
  obtain ⟨F1, l1, ⟨c1, e1⟩ | ⟨c1, e1⟩⟩ := zi_123_0 e0
  · have k2 := zi_123_3 e1
    subst k2
    rfl
  · obtain ⟨F3, l3, ⟨c3, e3⟩ | ⟨c3, e3⟩⟩ := zi_123_5 e1
    · obtain ⟨F4, l4, r4, s4, q4, e4⟩ := zi_123_7 e3
      have k4 : s4 = _ := zJ_239 q4
      subst k4
      have k5 := zi_123_9 e4
      subst k5
      rfl
    · have k6 := zi_123_10 e3
      subst k6
      rfl
theorem zJ_49 {F : Nat} {x0 x1 x2 x3 x4 x5 : Int} {s : zS} {R : Int × zS} (e0 : zG F xm_c49 0 [x0, x1, x2, x3, x4, x5] [] s R) : R.2 = s := by
  have loop : ∀ F : Nat, (∀ (x0 x1 x2 x3 x4 x5 : Int) , ∀ (s : zS) (R : Int × zS), zG F xm_c49 9 [x0, x1, x2, x3, x4, x5] [] s R → R.2 = s) ∧ (∀ (x0 x1 x2 x3 x4 x5 : Int) , ∀ (s : zS) (R : Int × zS), zG F xm_c49 14 [x0, x1, x2, x3, x4, x5] [] s R → R.2 = s) := by
    intro F
    induction F using Nat.strongRecOn with
    | _ F ih =>
      refine ⟨?_, ?_⟩
      · intro x0 x1 x2 x3 x4 x5 s R e0
        obtain ⟨F1, l1, ⟨c1, e1⟩ | ⟨c1, e1⟩⟩ := zi_49_9 e0
        · have k2 := zi_49_35 e1
          subst k2
          rfl
        · obtain ⟨F3, l3, e3⟩ := zi_49_12 e1
          exact (ih _ (Nat.lt_trans l3 l1)).2 _ _ _ _ _ _ _ _ e3
      · intro x0 x1 x2 x3 x4 x5 s R e0
        obtain ⟨F4, l4, ⟨c4, e4⟩ | ⟨c4, e4⟩⟩ := zi_49_14 e0
        · obtain ⟨F5, l5, e5⟩ := zi_49_31 e4
          exact (ih _ (Nat.lt_trans l5 l4)).1 _ _ _ _ _ _ _ _ e5
        · obtain ⟨F6, l6, ⟨c6, e6⟩ | ⟨c6, e6⟩⟩ := zi_49_17 e4
          · obtain ⟨F7, l7, r7, s7, q7, e7⟩ := zi_49_23 e6
            have k7 : s7 = _ := zJ_239 q7
            subst k7
            obtain ⟨F8, l8, ⟨c8, e8⟩ | ⟨c8, e8⟩⟩ := zi_49_25 e7
            · have k9 := zi_49_27 e8
              subst k9
              rfl
            · obtain ⟨F10, l10, e10⟩ := zi_49_29 e8
              exact (ih _ (Nat.lt_trans l10 (Nat.lt_trans l8 (Nat.lt_trans l7 (Nat.lt_trans l6 l4))))).2 _ _ _ _ _ _ _ _ e10
          · obtain ⟨F11, l11, e11⟩ := zi_49_29 e6
            exact (ih _ (Nat.lt_trans l11 (Nat.lt_trans l6 l4))).2 _ _ _ _ _ _ _ _ e11
  obtain ⟨F12, l12, r12, s12, q12, e12⟩ := zi_49_0 e0
  have k12 : s12 = _ := zJ_239 q12
  subst k12
  obtain ⟨F13, l13, e13⟩ := zi_49_2 e12
  exact (loop _).1 _ _ _ _ _ _ _ _ e13
theorem zJ_12 {F : Nat} {x0 x1 x2 : Int} {s : zS} {R : Int × zS} (e0 : zG F xm_c12 0 [x0, x1, x2] [] s R) : R.2 = s := by
  obtain ⟨F1, l1, ⟨c1, e1⟩ | ⟨c1, e1⟩⟩ := zi_12_0 e0
  · have k2 := zi_12_22 e1
    subst k2
    rfl
  · obtain ⟨F3, l3, ⟨c3, e3⟩ | ⟨c3, e3⟩⟩ := zi_12_11 e1
    · have k4 := zi_12_22 e3
      subst k4
      rfl
    · have k5 := zi_12_20 e3
      subst k5
      rfl
theorem zJ_57 {F : Nat} {x0 x1 : Int} {s : zS} {R : Int × zS} (e0 : zG F xm_c57 0 [x0, x1] [] s R) : R.2 = s := by
  have k1 := zi_57_0 e0
  subst k1
  rfl
theorem zJ_77 {F : Nat} {x0 x1 x2 : Int} {s : zS} {R : Int × zS} (e0 : zG F xm_c77 0 [x0, x1, x2] [] s R) : R.2 = s := by
  have loop : ∀ F : Nat, (∀ (x0 x1 x2 : Int) , ∀ (s : zS) (R : Int × zS), zG F xm_c77 2 [x0, x1, x2] [] s R → R.2 = s) := by
    intro F
    induction F using Nat.strongRecOn with
    | _ F ih =>
      intro x0 x1 x2 s R e0
      obtain ⟨F1, l1, ⟨c1, e1⟩ | ⟨c1, e1⟩⟩ := zi_77_2 e0
      · obtain ⟨F2, l2, r2, s2, q2, e2⟩ := zi_77_6 e1
        have k2 : s2 = _ := zJ_40 q2
        subst k2
        obtain ⟨F3, l3, ⟨c3, e3⟩ | ⟨c3, e3⟩⟩ := zi_77_12 e2
        · obtain ⟨F4, l4, e4⟩ := zi_77_19 e3
          exact (ih _ (Nat.lt_trans l4 (Nat.lt_trans l3 (Nat.lt_trans l2 l1)))) _ _ _ _ _ e4
        · have k5 := zi_77_17 e3
          subst k5
          rfl
      · have k6 := zi_77_21 e1
        subst k6
        rfl
  obtain ⟨F7, l7, e7⟩ := zi_77_0 e0
  exact (loop _) _ _ _ _ _ e7
theorem zJ_118 {F : Nat} {x0 x1 : Int} {s : zS} {R : Int × zS} (e0 : zG F xm_c118 0 [x0, x1] [] s R) : R.2 = s := by
  obtain ⟨F1, l1, ⟨c1, e1⟩ | ⟨c1, e1⟩⟩ := zi_118_0 e0
  · have k2 := zi_118_15 e1
    subst k2
    rfl
  · obtain ⟨F3, l3, ⟨c3, e3⟩ | ⟨c3, e3⟩⟩ := zi_118_6 e1
    · have k4 := zi_118_10 e3
      subst k4
      rfl
    · have k5 := zi_118_15 e3
      subst k5
      rfl
theorem zQ_240 {F : Nat} {x0 x1 x2 x3 : Int} {s : zS} {R : Int × zS} (e0 : zG F xm_c240 0 [x0, x1, x2, x3] [] s R) (h0 : 224 ≤ x0) (h1 : x0 < 240) : zQf s R.2 := by
  have loop : ∀ F : Nat, (∀ (x0 x1 x2 x3 : Int) , ∀ (t : zS) (R : Int × zS), zG F xm_c240 5 [x0, x1, x2, x3] [] t R → 224 ≤ x0 → x0 < 240 → zQf s t → zQf s R.2) := by
    intro F
    induction F using Nat.strongRecOn with
    | _ F ih =>
      intro x0 x1 x2 x3 t R e0 h0 h1 K0
      obtain ⟨F1, l1, ⟨c1, e1⟩ | ⟨c1, e1⟩⟩ := zi_240_5 e0
      · obtain ⟨F2, l2, e2⟩ := zi_240_8 e1
        exact (ih _ (Nat.lt_trans l2 l1)) _ _ _ _ _ _ e2 h0 h1 (by repeat (first | exact K0 | refine zQf_u ?_ h0 h1))
      · have k3 := zi_240_14 e1
        subst k3
        exact (by repeat (first | exact K0 | refine zQf_u ?_ h0 h1))
  have K0 : zQf s s := zQf_r
  obtain ⟨F4, l4, e4⟩ := zi_240_0 e0
  obtain ⟨F5, l5, e5⟩ := zi_240_3 e4
  obtain ⟨F6, l6, e6⟩ := zi_240_4 e5
  exact (loop _) _ _ _ _ _ _ e6 h0 h1 (by repeat (first | exact K0 | refine zQf_u ?_ h0 h1))
theorem zQ_2 {F : Nat} {s : zS} {R : Int × zS} (e0 : zG F xm_c2 0 [225, 19] [] s R) : zQf s R.2 := by
  have K0 : zQf s s := zQf_r
  have k1 := zi_2_0 e0
  subst k1
  exact (by repeat (first | exact K0 | refine zQf_u ?_ (by decide) (by decide) | refine zQf_c ?_ (by decide) (by decide)))
theorem zQ_37 {F : Nat} {s : zS} {R : Int × zS} (e0 : zG F xm_c37 0 [230, 24] [] s R) : zQf s R.2 := by
  have K0 : zQf s s := zQf_r
  have k1 := zi_37_0 e0
  subst k1
  exact (by repeat (first | exact K0 | refine zQf_u ?_ (by decide) (by decide) | refine zQf_c ?_ (by decide) (by decide)))
theorem zQ_3 {F : Nat} {s : zS} {R : Int × zS} (e0 : zG F xm_c3 0 [225, 11] [] s R) : zQf s R.2 := by
  have K0 : zQf s s := zQf_r
  obtain ⟨F1, l1, r1, s1, q1, e1⟩ := zi_3_0 e0
  have K1 : zQf s s1 := zQf_t (by repeat (first | exact K0 | refine zQf_u ?_ (by decide) (by decide) | refine zQf_c ?_ (by decide) (by decide))) (zQ_240 q1 (by decide) (by decide))
  have k2 := zi_3_35 e1
  subst k2
  exact (by repeat (first | exact K1 | refine zQf_u ?_ (by decide) (by decide) | refine zQf_c ?_ (by decide) (by decide)))
theorem zQ_36 {F : Nat} {s : zS} {R : Int × zS} (e0 : zG F xm_c36 0 [230] [] s R) : zQf s R.2 := by
  have K0 : zQf s s := zQf_r
  obtain ⟨F1, l1, r1, s1, q1, e1⟩ := zi_36_0 e0
  have K1 : zQf s s1 := zQf_t (by repeat (first | exact K0 | refine zQf_u ?_ (by decide) (by decide) | refine zQf_c ?_ (by decide) (by decide))) (zQ_240 q1 (by decide) (by decide))
  obtain ⟨F2, l2, r2, s2, q2, e2⟩ := zi_36_7 e1
  have K2 : zQf s s2 := zQf_t (by repeat (first | exact K1 | refine zQf_u ?_ (by decide) (by decide) | refine zQf_c ?_ (by decide) (by decide))) (zQ_240 q2 (by decide) (by decide))
  obtain ⟨F3, l3, r3, s3, q3, e3⟩ := zi_36_11 e2
  have K3 : zQf s s3 := zQf_t (by repeat (first | exact K2 | refine zQf_u ?_ (by decide) (by decide) | refine zQf_c ?_ (by decide) (by decide))) (zQ_240 q3 (by decide) (by decide))
  have k4 := zi_36_15 e3
  subst k4
  exact (by repeat (first | exact K3 | refine zQf_u ?_ (by decide) (by decide) | refine zQf_c ?_ (by decide) (by decide)))
theorem zQ_5 {F : Nat} {x1 x2 : Int} {s : zS} {R : Int × zS} (e0 : zG F xm_c5 0 [225, x1, x2] [] s R) : zQf s R.2 := by
  have K0 : zQf s s := zQf_r
  have k1 := zi_5_0 e0
  subst k1
  exact (by repeat (first | exact K0 | refine zQf_u ?_ (by decide) (by decide) | refine zQf_c ?_ (by decide) (by decide)))
theorem zQ_9 {F : Nat} {x2 x3 x4 : Int} {s : zS} {R : Int × zS} (e0 : zG F xm_c9 0 [225, 11, x2, x3, x4] [] s R) : zQf s R.2 := by
  have loop : ∀ F : Nat, (∀ (x2 x3 x4 : Int) , ∀ (t : zS) (R : Int × zS), zG F xm_c9 7 [225, 11, x2, x3, x4] [] t R → zQf s t → zQf s R.2) := by
    intro F
    induction F using Nat.strongRecOn with
    | _ F ih =>
      intro x2 x3 x4 t R e0 K0
      obtain ⟨F1, l1, ⟨c1, e1⟩ | ⟨c1, e1⟩⟩ := zi_9_7 e0
      · have k2 := zi_9_55 e1
        subst k2
        exact (by repeat (first | exact K0 | refine zQf_u ?_ (by decide) (by decide) | refine zQf_c ?_ (by decide) (by decide)))
      · obtain ⟨F3, l3, ⟨c3, e3⟩ | ⟨c3, e3⟩⟩ := zi_9_9 e1
        · obtain ⟨F4, l4, r4, s4, q4, e4⟩ := zi_9_21 e3
          have k4 : s4 = _ := zJ_120 q4
          have K4 : zQf s s4 := by
            rw [k4]
            exact (by repeat (first | exact K0 | refine zQf_u ?_ (by decide) (by decide) | refine zQf_c ?_ (by decide) (by decide)))
          obtain ⟨F5, l5, ⟨c5, e5⟩ | ⟨c5, e5⟩⟩ := zi_9_24 e4
          · obtain ⟨F6, l6, e6⟩ := zi_9_26 e5
            exact (ih _ (Nat.lt_trans l6 (Nat.lt_trans l5 (Nat.lt_trans l4 (Nat.lt_trans l3 l1))))) _ _ _ _ _ e6 (by repeat (first | exact K4 | refine zQf_u ?_ (by decide) (by decide) | refine zQf_c ?_ (by decide) (by decide)))
          · obtain ⟨F7, l7, r7, s7, q7, e7⟩ := zi_9_27 e5
            have k7 : s7 = _ := zJ_4 q7
            have K7 : zQf s s7 := by
              rw [k7]
              exact (by repeat (first | exact K4 | refine zQf_u ?_ (by decide) (by decide) | refine zQf_c ?_ (by decide) (by decide)))
            obtain ⟨F8, l8, ⟨c8, e8⟩ | ⟨c8, e8⟩⟩ := zi_9_36 e7
            · obtain ⟨F9, l9, e9⟩ := zi_9_53 e8
              exact (ih _ (Nat.lt_trans l9 (Nat.lt_trans l8 (Nat.lt_trans l7 (Nat.lt_trans l5 (Nat.lt_trans l4 (Nat.lt_trans l3 l1))))))) _ _ _ _ _ e9 (by repeat (first | exact K7 | refine zQf_u ?_ (by decide) (by decide) | refine zQf_c ?_ (by decide) (by decide)))
            · obtain ⟨F10, l10, ⟨c10, e10⟩ | ⟨c10, e10⟩⟩ := zi_9_37 e8
              · obtain ⟨F11, l11, e11⟩ := zi_9_53 e10
                exact (ih _ (Nat.lt_trans l11 (Nat.lt_trans l10 (Nat.lt_trans l8 (Nat.lt_trans l7 (Nat.lt_trans l5 (Nat.lt_trans l4 (Nat.lt_trans l3 l1)))))))) _ _ _ _ _ e11 (by repeat (first | exact K7 | refine zQf_u ?_ (by decide) (by decide) | refine zQf_c ?_ (by decide) (by decide)))
              · obtain ⟨F12, l12, r12, s12, q12, e12⟩ := zi_9_46 e10
                have K12 : zQf s s12 := zQf_t (by repeat (first | exact K7 | refine zQf_u ?_ (by decide) (by decide) | refine zQf_c ?_ (by decide) (by decide))) (zQ_5 q12)
                obtain ⟨F13, l13, e13⟩ := zi_9_53 e12
                exact (ih _ (Nat.lt_trans l13 (Nat.lt_trans l12 (Nat.lt_trans l10 (Nat.lt_trans l8 (Nat.lt_trans l7 (Nat.lt_trans l5 (Nat.lt_trans l4 (Nat.lt_trans l3 l1))))))))) _ _ _ _ _ e13 (by repeat (first | exact K12 | refine zQf_u ?_ (by decide) (by decide) | refine zQf_c ?_ (by decide) (by decide)))
        · obtain ⟨F14, l14, e14⟩ := zi_9_53 e3
          exact (ih _ (Nat.lt_trans l14 (Nat.lt_trans l3 l1))) _ _ _ _ _ e14 (by repeat (first | exact K0 | refine zQf_u ?_ (by decide) (by decide) | refine zQf_c ?_ (by decide) (by decide)))
  have K0 : zQf s s := zQf_r
  obtain ⟨F15, l15, e15⟩ := zi_9_0 e0
  exact (loop _) _ _ _ _ _ e15 (by repeat (first | exact K0 | refine zQf_u ?_ (by decide) (by decide) | refine zQf_c ?_ (by decide) (by decide)))
theorem zQ_10 {F : Nat} {x1 : Int} {s : zS} {R : Int × zS} (e0 : zG F xm_c10 0 [225, x1] [] s R) : zQf s R.2 := by
  have K0 : zQf s s := zQf_r
  obtain ⟨F1, l1, ⟨c1, e1⟩ | ⟨c1, e1⟩⟩ := zi_10_0 e0
  · have k2 := zi_10_13 e1
    subst k2
    exact (by repeat (first | exact K0 | refine zQf_u ?_ (by decide) (by decide) | refine zQf_c ?_ (by decide) (by decide)))
  · obtain ⟨F3, l3, ⟨c3, e3⟩ | ⟨c3, e3⟩⟩ := zi_10_15 e1
    · obtain ⟨F4, l4, r4, s4, q4, e4⟩ := zi_10_29 e3
      have k4 : s4 = _ := zJ_4 q4
      have K4 : zQf s s4 := by
        rw [k4]
        exact (by repeat (first | exact K0 | refine zQf_u ?_ (by decide) (by decide) | refine zQf_c ?_ (by decide) (by decide)))
      obtain ⟨F5, l5, ⟨c5, e5⟩ | ⟨c5, e5⟩⟩ := zi_10_40 e4
      · have k6 := zi_10_43 e5
        subst k6
        exact (by repeat (first | exact K4 | refine zQf_u ?_ (by decide) (by decide) | refine zQf_c ?_ (by decide) (by decide)))
      · have k7 := zi_10_41 e5
        subst k7
        exact (by repeat (first | exact K4 | refine zQf_u ?_ (by decide) (by decide) | refine zQf_c ?_ (by decide) (by decide)))
    · obtain ⟨F8, l8, r8, s8, q8, e8⟩ := zi_10_31 e3
      have k8 : s8 = _ := zJ_4 q8
      have K8 : zQf s s8 := by
        rw [k8]
        exact (by repeat (first | exact K0 | refine zQf_u ?_ (by decide) (by decide) | refine zQf_c ?_ (by decide) (by decide)))
      obtain ⟨F9, l9, ⟨c9, e9⟩ | ⟨c9, e9⟩⟩ := zi_10_40 e8
      · have k10 := zi_10_43 e9
        subst k10
        exact (by repeat (first | exact K8 | refine zQf_u ?_ (by decide) (by decide) | refine zQf_c ?_ (by decide) (by decide)))
      · have k11 := zi_10_41 e9
        subst k11
        exact (by repeat (first | exact K8 | refine zQf_u ?_ (by decide) (by decide) | refine zQf_c ?_ (by decide) (by decide)))
theorem zQ_8 {F : Nat} {x2 x3 x4 : Int} {s : zS} {R : Int × zS} (e0 : zG F xm_c8 0 [225, 11, x2, x3, x4] [] s R) : zQf s R.2 := by
  have loop : ∀ F : Nat, (∀ (x2 x3 x4 : Int) , ∀ (t : zS) (R : Int × zS), zG F xm_c8 7 [225, 11, x2, x3, x4] [] t R → zQf s t → zQf s R.2) := by
    intro F
    induction F using Nat.strongRecOn with
    | _ F ih =>
      intro x2 x3 x4 t R e0 K0
      obtain ⟨F1, l1, ⟨c1, e1⟩ | ⟨c1, e1⟩⟩ := zi_8_7 e0
      · obtain ⟨F2, l2, r2, s2, q2, e2⟩ := zi_8_11 e1
        have k2 : s2 = _ := zJ_4 q2
        have K2 : zQf s s2 := by
          rw [k2]
          exact (by repeat (first | exact K0 | refine zQf_u ?_ (by decide) (by decide) | refine zQf_c ?_ (by decide) (by decide)))
        obtain ⟨F3, l3, ⟨c3, e3⟩ | ⟨c3, e3⟩⟩ := zi_8_14 e2
        · obtain ⟨F4, l4, r4, s4, q4, e4⟩ := zi_8_15 e3
          have K4 : zQf s s4 := zQf_t (by repeat (first | exact K2 | refine zQf_u ?_ (by decide) (by decide) | refine zQf_c ?_ (by decide) (by decide))) (zQ_10 q4)
          obtain ⟨F5, l5, ⟨c5, e5⟩ | ⟨c5, e5⟩⟩ := zi_8_18 e4
          · obtain ⟨F6, l6, e6⟩ := zi_8_32 e5
            exact (ih _ (Nat.lt_trans l6 (Nat.lt_trans l5 (Nat.lt_trans l4 (Nat.lt_trans l3 (Nat.lt_trans l2 l1)))))) _ _ _ _ _ e6 (by repeat (first | exact K4 | refine zQf_u ?_ (by decide) (by decide) | refine zQf_c ?_ (by decide) (by decide)))
          · obtain ⟨F7, l7, e7⟩ := zi_8_19 e5
            exact (ih _ (Nat.lt_trans l7 (Nat.lt_trans l5 (Nat.lt_trans l4 (Nat.lt_trans l3 (Nat.lt_trans l2 l1)))))) _ _ _ _ _ e7 (by repeat (first | exact K4 | refine zQf_u ?_ (by decide) (by decide) | refine zQf_c ?_ (by decide) (by decide)))
        · obtain ⟨F8, l8, e8⟩ := zi_8_19 e3
          exact (ih _ (Nat.lt_trans l8 (Nat.lt_trans l3 (Nat.lt_trans l2 l1)))) _ _ _ _ _ e8 (by repeat (first | exact K2 | refine zQf_u ?_ (by decide) (by decide) | refine zQf_c ?_ (by decide) (by decide)))
      · have k9 := zi_8_34 e1
        subst k9
        exact (by repeat (first | exact K0 | refine zQf_u ?_ (by decide) (by decide) | refine zQf_c ?_ (by decide) (by decide)))
  have K0 : zQf s s := zQf_r
  obtain ⟨F10, l10, r10, s10, q10, e10⟩ := zi_8_0 e0
  have K10 : zQf s s10 := zQf_t (by repeat (first | exact K0 | refine zQf_u ?_ (by decide) (by decide) | refine zQf_c ?_ (by decide) (by decide))) (zQ_9 q10)
  obtain ⟨F11, l11, e11⟩ := zi_8_3 e10
  exact (loop _) _ _ _ _ _ e11 (by repeat (first | exact K10 | refine zQf_u ?_ (by decide) (by decide) | refine zQf_c ?_ (by decide) (by decide)))
theorem zQ_38 {F : Nat} {x1 x2 x3 x4 : Int} {s : zS} {R : Int × zS} (e0 : zG F xm_c38 0 [230, x1, x2, x3, x4] [] s R) : zQf s R.2 := by
  have K0 : zQf s s := zQf_r
  have k1 := zi_38_0 e0
  subst k1
  exact (by repeat (first | exact K0 | refine zQf_u ?_ (by decide) (by decide) | refine zQf_c ?_ (by decide) (by decide)))
theorem zQ_64 {F : Nat} {x0 x1 x2 x5 x6 x7 x8 x9 x10 x11 x12 : Int} {s : zS} {R : Int × zS} (e0 : zG F xm_c64 0 [x0, x1, x2, 238, 239, x5, x6, x7, x8, x9, x10, x11, x12] [] s R) : zQf s R.2 := by
  have loop : ∀ F : Nat, (∀ (x0 x1 x2 x5 x6 x7 x8 x9 x10 x11 x12 : Int) , ∀ (t : zS) (R : Int × zS), zG F xm_c64 4 [x0, x1, x2, 238, 239, x5, x6, x7, x8, x9, x10, x11, x12] [] t R → zQf s t → zQf s R.2) := by
    intro F
    induction F using Nat.strongRecOn with
    | _ F ih =>
      intro x0 x1 x2 x5 x6 x7 x8 x9 x10 x11 x12 t R e0 K0
      obtain ⟨F1, l1, ⟨c1, e1⟩ | ⟨c1, e1⟩⟩ := zi_64_4 e0
      · obtain ⟨F2, l2, e2⟩ := zi_64_7 e1
        obtain ⟨F3, l3, e3⟩ := zi_64_10 e2
        obtain ⟨F4, l4, ⟨c4, e4⟩ | ⟨c4, e4⟩⟩ := zi_64_11 e3
        · obtain ⟨F5, l5, ⟨c5, e5⟩ | ⟨c5, e5⟩⟩ := zi_64_12 e4
          · obtain ⟨F6, l6, e6⟩ := zi_64_31 e5
            obtain ⟨F7, l7, e7⟩ := zi_64_33 e6
            obtain ⟨F8, l8, ⟨c8, e8⟩ | ⟨c8, e8⟩⟩ := zi_64_34 e7
            · obtain ⟨F9, l9, ⟨c9, e9⟩ | ⟨c9, e9⟩⟩ := zi_64_35 e8
              · obtain ⟨F10, l10, ⟨c10, e10⟩ | ⟨c10, e10⟩⟩ := zi_64_41 e9
                · obtain ⟨F11, l11, e11⟩ := zi_64_45 e10
                  exact (ih _ (Nat.lt_trans l11 (Nat.lt_trans l10 (Nat.lt_trans l9 (Nat.lt_trans l8 (Nat.lt_trans l7 (Nat.lt_trans l6 (Nat.lt_trans l5 (Nat.lt_trans l4 (Nat.lt_trans l3 (Nat.lt_trans l2 l1))))))))))) _ _ _ _ _ _ _ _ _ _ _ _ _ e11 (by repeat (first | exact K0 | refine zQf_u ?_ (by decide) (by decide) | refine zQf_c ?_ (by decide) (by decide)))
                · obtain ⟨F12, l12, e12⟩ := zi_64_48 e10
                  exact (ih _ (Nat.lt_trans l12 (Nat.lt_trans l10 (Nat.lt_trans l9 (Nat.lt_trans l8 (Nat.lt_trans l7 (Nat.lt_trans l6 (Nat.lt_trans l5 (Nat.lt_trans l4 (Nat.lt_trans l3 (Nat.lt_trans l2 l1))))))))))) _ _ _ _ _ _ _ _ _ _ _ _ _ e12 (by repeat (first | exact K0 | refine zQf_u ?_ (by decide) (by decide) | refine zQf_c ?_ (by decide) (by decide)))
              · obtain ⟨F13, l13, e13⟩ := zi_64_37 e9
                obtain ⟨F14, l14, e14⟩ := zi_64_39 e13
                obtain ⟨F15, l15, ⟨c15, e15⟩ | ⟨c15, e15⟩⟩ := zi_64_40 e14
                · obtain ⟨F16, l16, ⟨c16, e16⟩ | ⟨c16, e16⟩⟩ := zi_64_41 e15
                  · obtain ⟨F17, l17, e17⟩ := zi_64_45 e16
                    exact (ih _ (Nat.lt_trans l17 (Nat.lt_trans l16 (Nat.lt_trans l15 (Nat.lt_trans l14 (Nat.lt_trans l13 (Nat.lt_trans l9 (Nat.lt_trans l8 (Nat.lt_trans l7 (Nat.lt_trans l6 (Nat.lt_trans l5 (Nat.lt_trans l4 (Nat.lt_trans l3 (Nat.lt_trans l2 l1)))))))))))))) _ _ _ _ _ _ _ _ _ _ _ _ _ e17 (by repeat (first | exact K0 | refine zQf_u ?_ (by decide) (by decide) | refine zQf_c ?_ (by decide) (by decide)))
                  · obtain ⟨F18, l18, e18⟩ := zi_64_48 e16
                    exact (ih _ (Nat.lt_trans l18 (Nat.lt_trans l16 (Nat.lt_trans l15 (Nat.lt_trans l14 (Nat.lt_trans l13 (Nat.lt_trans l9 (Nat.lt_trans l8 (Nat.lt_trans l7 (Nat.lt_trans l6 (Nat.lt_trans l5 (Nat.lt_trans l4 (Nat.lt_trans l3 (Nat.lt_trans l2 l1)))))))))))))) _ _ _ _ _ _ _ _ _ _ _ _ _ e18 (by repeat (first | exact K0 | refine zQf_u ?_ (by decide) (by decide) | refine zQf_c ?_ (by decide) (by decide)))
                · obtain ⟨F19, l19, e19⟩ := zi_64_228 e15
                  exact (ih _ (Nat.lt_trans l19 (Nat.lt_trans l15 (Nat.lt_trans l14 (Nat.lt_trans l13 (Nat.lt_trans l9 (Nat.lt_trans l8 (Nat.lt_trans l7 (Nat.lt_trans l6 (Nat.lt_trans l5 (Nat.lt_trans l4 (Nat.lt_trans l3 (Nat.lt_trans l2 l1))))))))))))) _ _ _ _ _ _ _ _ _ _ _ _ _ e19 (by repeat (first | exact K0 | refine zQf_u ?_ (by decide) (by decide) | refine zQf_c ?_ (by decide) (by decide)))
            · obtain ⟨F20, l20, e20⟩ := zi_64_228 e8
              exact (ih _ (Nat.lt_trans l20 (Nat.lt_trans l8 (Nat.lt_trans l7 (Nat.lt_trans l6 (Nat.lt_trans l5 (Nat.lt_trans l4 (Nat.lt_trans l3 (Nat.lt_trans l2 l1))))))))) _ _ _ _ _ _ _ _ _ _ _ _ _ e20 (by repeat (first | exact K0 | refine zQf_u ?_ (by decide) (by decide) | refine zQf_c ?_ (by decide) (by decide)))
          · obtain ⟨F21, l21, ⟨c21, e21⟩ | ⟨c21, e21⟩⟩ := zi_64_28 e5
            · obtain ⟨F22, l22, e22⟩ := zi_64_31 e21
              obtain ⟨F23, l23, e23⟩ := zi_64_33 e22
              obtain ⟨F24, l24, ⟨c24, e24⟩ | ⟨c24, e24⟩⟩ := zi_64_34 e23
              · obtain ⟨F25, l25, ⟨c25, e25⟩ | ⟨c25, e25⟩⟩ := zi_64_35 e24
                · obtain ⟨F26, l26, ⟨c26, e26⟩ | ⟨c26, e26⟩⟩ := zi_64_41 e25
                  · obtain ⟨F27, l27, e27⟩ := zi_64_45 e26
                    exact (ih _ (Nat.lt_trans l27 (Nat.lt_trans l26 (Nat.lt_trans l25 (Nat.lt_trans l24 (Nat.lt_trans l23 (Nat.lt_trans l22 (Nat.lt_trans l21 (Nat.lt_trans l5 (Nat.lt_trans l4 (Nat.lt_trans l3 (Nat.lt_trans l2 l1)))))))))))) _ _ _ _ _ _ _ _ _ _ _ _ _ e27 (by repeat (first | exact K0 | refine zQf_u ?_ (by decide) (by decide) | refine zQf_c ?_ (by decide) (by decide)))
                  · obtain ⟨F28, l28, e28⟩ := zi_64_48 e26
                    exact (ih _ (Nat.lt_trans l28 (Nat.lt_trans l26 (Nat.lt_trans l25 (Nat.lt_trans l24 (Nat.lt_trans l23 (Nat.lt_trans l22 (Nat.lt_trans l21 (Nat.lt_trans l5 (Nat.lt_trans l4 (Nat.lt_trans l3 (Nat.lt_trans l2 l1)))))))))))) _ _ _ _ _ _ _ _ _ _ _ _ _ e28 (by repeat (first | exact K0 | refine zQf_u ?_ (by decide) (by decide) | refine zQf_c ?_ (by decide) (by decide)))
                · obtain ⟨F29, l29, e29⟩ := zi_64_37 e25
                  obtain ⟨F30, l30, e30⟩ := zi_64_39 e29
                  obtain ⟨F31, l31, ⟨c31, e31⟩ | ⟨c31, e31⟩⟩ := zi_64_40 e30
                  · obtain ⟨F32, l32, ⟨c32, e32⟩ | ⟨c32, e32⟩⟩ := zi_64_41 e31
                    · obtain ⟨F33, l33, e33⟩ := zi_64_45 e32
                      exact (ih _ (Nat.lt_trans l33 (Nat.lt_trans l32 (Nat.lt_trans l31 (Nat.lt_trans l30 (Nat.lt_trans l29 (Nat.lt_trans l25 (Nat.lt_trans l24 (Nat.lt_trans l23 (Nat.lt_trans l22 (Nat.lt_trans l21 (Nat.lt_trans l5 (Nat.lt_trans l4 (Nat.lt_trans l3 (Nat.lt_trans l2 l1))))))))))))))) _ _ _ _ _ _ _ _ _ _ _ _ _ e33 (by repeat (first | exact K0 | refine zQf_u ?_ (by decide) (by decide) | refine zQf_c ?_ (by decide) (by decide)))
                    · obtain ⟨F34, l34, e34⟩ := zi_64_48 e32
                      exact (ih _ (Nat.lt_trans l34 (Nat.lt_trans l32 (Nat.lt_trans l31 (Nat.lt_trans l30 (Nat.lt_trans l29 (Nat.lt_trans l25 (Nat.lt_trans l24 (Nat.lt_trans l23 (Nat.lt_trans l22 (Nat.lt_trans l21 (Nat.lt_trans l5 (Nat.lt_trans l4 (Nat.lt_trans l3 (Nat.lt_trans l2 l1))))))))))))))) _ _ _ _ _ _ _ _ _ _ _ _ _ e34 (by repeat (first | exact K0 | refine zQf_u ?_ (by decide) (by decide) | refine zQf_c ?_ (by decide) (by decide)))
                  · obtain ⟨F35, l35, e35⟩ := zi_64_228 e31
                    exact (ih _ (Nat.lt_trans l35 (Nat.lt_trans l31 (Nat.lt_trans l30 (Nat.lt_trans l29 (Nat.lt_trans l25 (Nat.lt_trans l24 (Nat.lt_trans l23 (Nat.lt_trans l22 (Nat.lt_trans l21 (Nat.lt_trans l5 (Nat.lt_trans l4 (Nat.lt_trans l3 (Nat.lt_trans l2 l1)))))))))))))) _ _ _ _ _ _ _ _ _ _ _ _ _ e35 (by repeat (first | exact K0 | refine zQf_u ?_ (by decide) (by decide) | refine zQf_c ?_ (by decide) (by decide)))
              · obtain ⟨F36, l36, e36⟩ := zi_64_228 e24
                exact (ih _ (Nat.lt_trans l36 (Nat.lt_trans l24 (Nat.lt_trans l23 (Nat.lt_trans l22 (Nat.lt_trans l21 (Nat.lt_trans l5 (Nat.lt_trans l4 (Nat.lt_trans l3 (Nat.lt_trans l2 l1)))))))))) _ _ _ _ _ _ _ _ _ _ _ _ _ e36 (by repeat (first | exact K0 | refine zQf_u ?_ (by decide) (by decide) | refine zQf_c ?_ (by decide) (by decide)))
            · obtain ⟨F37, l37, ⟨c37, e37⟩ | ⟨c37, e37⟩⟩ := zi_64_54 e21
              · obtain ⟨F38, l38, ⟨c38, e38⟩ | ⟨c38, e38⟩⟩ := zi_64_57 e37
                · obtain ⟨F39, l39, e39⟩ := zi_64_228 e38
                  exact (ih _ (Nat.lt_trans l39 (Nat.lt_trans l38 (Nat.lt_trans l37 (Nat.lt_trans l21 (Nat.lt_trans l5 (Nat.lt_trans l4 (Nat.lt_trans l3 (Nat.lt_trans l2 l1))))))))) _ _ _ _ _ _ _ _ _ _ _ _ _ e39 (by repeat (first | exact K0 | refine zQf_u ?_ (by decide) (by decide) | refine zQf_c ?_ (by decide) (by decide)))
                · obtain ⟨F40, l40, e40⟩ := zi_64_60 e38
                  exact (ih _ (Nat.lt_trans l40 (Nat.lt_trans l38 (Nat.lt_trans l37 (Nat.lt_trans l21 (Nat.lt_trans l5 (Nat.lt_trans l4 (Nat.lt_trans l3 (Nat.lt_trans l2 l1))))))))) _ _ _ _ _ _ _ _ _ _ _ _ _ e40 (by repeat (first | exact K0 | refine zQf_u ?_ (by decide) (by decide) | refine zQf_c ?_ (by decide) (by decide)))
              · obtain ⟨F41, l41, ⟨c41, e41⟩ | ⟨c41, e41⟩⟩ := zi_64_73 e37
                · obtain ⟨F42, l42, e42⟩ := zi_64_228 e41
                  exact (ih _ (Nat.lt_trans l42 (Nat.lt_trans l41 (Nat.lt_trans l37 (Nat.lt_trans l21 (Nat.lt_trans l5 (Nat.lt_trans l4 (Nat.lt_trans l3 (Nat.lt_trans l2 l1))))))))) _ _ _ _ _ _ _ _ _ _ _ _ _ e42 (by repeat (first | exact K0 | refine zQf_u ?_ (by decide) (by decide) | refine zQf_c ?_ (by decide) (by decide)))
                · obtain ⟨F43, l43, e43⟩ := zi_64_76 e41
                  obtain ⟨F44, l44, ⟨c44, e44⟩ | ⟨c44, e44⟩ | ⟨c44, e44⟩ | ⟨c44, e44⟩ | ⟨c44, e44⟩ | ⟨c44, e44⟩ | ⟨c44, e44⟩ | ⟨c44, e44⟩ | ⟨c44, e44⟩ | ⟨c44, e44⟩ | ⟨c44, e44⟩ | ⟨c44, e44⟩⟩ := zi_64_88 e43
                  · obtain ⟨F45, l45, e45⟩ := zi_64_89 e44
                    exact (ih _ (Nat.lt_trans l45 (Nat.lt_trans l44 (Nat.lt_trans l43 (Nat.lt_trans l41 (Nat.lt_trans l37 (Nat.lt_trans l21 (Nat.lt_trans l5 (Nat.lt_trans l4 (Nat.lt_trans l3 (Nat.lt_trans l2 l1))))))))))) _ _ _ _ _ _ _ _ _ _ _ _ _ e45 (by repeat (first | exact K0 | refine zQf_u ?_ (by decide) (by decide) | refine zQf_c ?_ (by decide) (by decide)))
                  · obtain ⟨F46, l46, e46⟩ := zi_64_98 e44
                    exact (ih _ (Nat.lt_trans l46 (Nat.lt_trans l44 (Nat.lt_trans l43 (Nat.lt_trans l41 (Nat.lt_trans l37 (Nat.lt_trans l21 (Nat.lt_trans l5 (Nat.lt_trans l4 (Nat.lt_trans l3 (Nat.lt_trans l2 l1))))))))))) _ _ _ _ _ _ _ _ _ _ _ _ _ e46 (by repeat (first | exact K0 | refine zQf_u ?_ (by decide) (by decide) | refine zQf_c ?_ (by decide) (by decide)))
                  · obtain ⟨F47, l47, e47⟩ := zi_64_107 e44
                    exact (ih _ (Nat.lt_trans l47 (Nat.lt_trans l44 (Nat.lt_trans l43 (Nat.lt_trans l41 (Nat.lt_trans l37 (Nat.lt_trans l21 (Nat.lt_trans l5 (Nat.lt_trans l4 (Nat.lt_trans l3 (Nat.lt_trans l2 l1))))))))))) _ _ _ _ _ _ _ _ _ _ _ _ _ e47 (by repeat (first | exact K0 | refine zQf_u ?_ (by decide) (by decide) | refine zQf_c ?_ (by decide) (by decide)))
                  · obtain ⟨F48, l48, ⟨c48, e48⟩ | ⟨c48, e48⟩⟩ := zi_64_116 e44
                    · obtain ⟨F49, l49, e49⟩ := zi_64_124 e48
                      exact (ih _ (Nat.lt_trans l49 (Nat.lt_trans l48 (Nat.lt_trans l44 (Nat.lt_trans l43 (Nat.lt_trans l41 (Nat.lt_trans l37 (Nat.lt_trans l21 (Nat.lt_trans l5 (Nat.lt_trans l4 (Nat.lt_trans l3 (Nat.lt_trans l2 l1)))))))))))) _ _ _ _ _ _ _ _ _ _ _ _ _ e49 (by repeat (first | exact K0 | refine zQf_u ?_ (by decide) (by decide) | refine zQf_c ?_ (by decide) (by decide)))
                    · obtain ⟨F50, l50, e50⟩ := zi_64_126 e48
                      exact (ih _ (Nat.lt_trans l50 (Nat.lt_trans l48 (Nat.lt_trans l44 (Nat.lt_trans l43 (Nat.lt_trans l41 (Nat.lt_trans l37 (Nat.lt_trans l21 (Nat.lt_trans l5 (Nat.lt_trans l4 (Nat.lt_trans l3 (Nat.lt_trans l2 l1)))))))))))) _ _ _ _ _ _ _ _ _ _ _ _ _ e50 (by repeat (first | exact K0 | refine zQf_u ?_ (by decide) (by decide) | refine zQf_c ?_ (by decide) (by decide)))
                  · obtain ⟨F51, l51, ⟨c51, e51⟩ | ⟨c51, e51⟩⟩ := zi_64_131 e44
                    · obtain ⟨F52, l52, e52⟩ := zi_64_139 e51
                      exact (ih _ (Nat.lt_trans l52 (Nat.lt_trans l51 (Nat.lt_trans l44 (Nat.lt_trans l43 (Nat.lt_trans l41 (Nat.lt_trans l37 (Nat.lt_trans l21 (Nat.lt_trans l5 (Nat.lt_trans l4 (Nat.lt_trans l3 (Nat.lt_trans l2 l1)))))))))))) _ _ _ _ _ _ _ _ _ _ _ _ _ e52 (by repeat (first | exact K0 | refine zQf_u ?_ (by decide) (by decide) | refine zQf_c ?_ (by decide) (by decide)))
                    · obtain ⟨F53, l53, e53⟩ := zi_64_141 e51
                      exact (ih _ (Nat.lt_trans l53 (Nat.lt_trans l51 (Nat.lt_trans l44 (Nat.lt_trans l43 (Nat.lt_trans l41 (Nat.lt_trans l37 (Nat.lt_trans l21 (Nat.lt_trans l5 (Nat.lt_trans l4 (Nat.lt_trans l3 (Nat.lt_trans l2 l1)))))))))))) _ _ _ _ _ _ _ _ _ _ _ _ _ e53 (by repeat (first | exact K0 | refine zQf_u ?_ (by decide) (by decide) | refine zQf_c ?_ (by decide) (by decide)))
                  · obtain ⟨F54, l54, ⟨c54, e54⟩ | ⟨c54, e54⟩⟩ := zi_64_146 e44
                    · obtain ⟨F55, l55, e55⟩ := zi_64_154 e54
                      exact (ih _ (Nat.lt_trans l55 (Nat.lt_trans l54 (Nat.lt_trans l44 (Nat.lt_trans l43 (Nat.lt_trans l41 (Nat.lt_trans l37 (Nat.lt_trans l21 (Nat.lt_trans l5 (Nat.lt_trans l4 (Nat.lt_trans l3 (Nat.lt_trans l2 l1)))))))))))) _ _ _ _ _ _ _ _ _ _ _ _ _ e55 (by repeat (first | exact K0 | refine zQf_u ?_ (by decide) (by decide) | refine zQf_c ?_ (by decide) (by decide)))
                    · obtain ⟨F56, l56, e56⟩ := zi_64_156 e54
                      exact (ih _ (Nat.lt_trans l56 (Nat.lt_trans l54 (Nat.lt_trans l44 (Nat.lt_trans l43 (Nat.lt_trans l41 (Nat.lt_trans l37 (Nat.lt_trans l21 (Nat.lt_trans l5 (Nat.lt_trans l4 (Nat.lt_trans l3 (Nat.lt_trans l2 l1)))))))))))) _ _ _ _ _ _ _ _ _ _ _ _ _ e56 (by repeat (first | exact K0 | refine zQf_u ?_ (by decide) (by decide) | refine zQf_c ?_ (by decide) (by decide)))
                  · obtain ⟨F57, l57, ⟨c57, e57⟩ | ⟨c57, e57⟩⟩ := zi_64_159 e44
                    · obtain ⟨F58, l58, e58⟩ := zi_64_169 e57
                      exact (ih _ (Nat.lt_trans l58 (Nat.lt_trans l57 (Nat.lt_trans l44 (Nat.lt_trans l43 (Nat.lt_trans l41 (Nat.lt_trans l37 (Nat.lt_trans l21 (Nat.lt_trans l5 (Nat.lt_trans l4 (Nat.lt_trans l3 (Nat.lt_trans l2 l1)))))))))))) _ _ _ _ _ _ _ _ _ _ _ _ _ e58 (by repeat (first | exact K0 | refine zQf_u ?_ (by decide) (by decide) | refine zQf_c ?_ (by decide) (by decide)))
                    · obtain ⟨F59, l59, e59⟩ := zi_64_167 e57
                      exact (ih _ (Nat.lt_trans l59 (Nat.lt_trans l57 (Nat.lt_trans l44 (Nat.lt_trans l43 (Nat.lt_trans l41 (Nat.lt_trans l37 (Nat.lt_trans l21 (Nat.lt_trans l5 (Nat.lt_trans l4 (Nat.lt_trans l3 (Nat.lt_trans l2 l1)))))))))))) _ _ _ _ _ _ _ _ _ _ _ _ _ e59 (by repeat (first | exact K0 | refine zQf_u ?_ (by decide) (by decide) | refine zQf_c ?_ (by decide) (by decide)))
                  · obtain ⟨F60, l60, ⟨c60, e60⟩ | ⟨c60, e60⟩⟩ := zi_64_172 e44
                    · obtain ⟨F61, l61, e61⟩ := zi_64_180 e60
                      exact (ih _ (Nat.lt_trans l61 (Nat.lt_trans l60 (Nat.lt_trans l44 (Nat.lt_trans l43 (Nat.lt_trans l41 (Nat.lt_trans l37 (Nat.lt_trans l21 (Nat.lt_trans l5 (Nat.lt_trans l4 (Nat.lt_trans l3 (Nat.lt_trans l2 l1)))))))))))) _ _ _ _ _ _ _ _ _ _ _ _ _ e61 (by repeat (first | exact K0 | refine zQf_u ?_ (by decide) (by decide) | refine zQf_c ?_ (by decide) (by decide)))
                    · obtain ⟨F62, l62, e62⟩ := zi_64_182 e60
                      exact (ih _ (Nat.lt_trans l62 (Nat.lt_trans l60 (Nat.lt_trans l44 (Nat.lt_trans l43 (Nat.lt_trans l41 (Nat.lt_trans l37 (Nat.lt_trans l21 (Nat.lt_trans l5 (Nat.lt_trans l4 (Nat.lt_trans l3 (Nat.lt_trans l2 l1)))))))))))) _ _ _ _ _ _ _ _ _ _ _ _ _ e62 (by repeat (first | exact K0 | refine zQf_u ?_ (by decide) (by decide) | refine zQf_c ?_ (by decide) (by decide)))
                  · obtain ⟨F63, l63, ⟨c63, e63⟩ | ⟨c63, e63⟩⟩ := zi_64_185 e44
                    · obtain ⟨F64, l64, e64⟩ := zi_64_195 e63
                      exact (ih _ (Nat.lt_trans l64 (Nat.lt_trans l63 (Nat.lt_trans l44 (Nat.lt_trans l43 (Nat.lt_trans l41 (Nat.lt_trans l37 (Nat.lt_trans l21 (Nat.lt_trans l5 (Nat.lt_trans l4 (Nat.lt_trans l3 (Nat.lt_trans l2 l1)))))))))))) _ _ _ _ _ _ _ _ _ _ _ _ _ e64 (by repeat (first | exact K0 | refine zQf_u ?_ (by decide) (by decide) | refine zQf_c ?_ (by decide) (by decide)))
                    · obtain ⟨F65, l65, e65⟩ := zi_64_193 e63
                      exact (ih _ (Nat.lt_trans l65 (Nat.lt_trans l63 (Nat.lt_trans l44 (Nat.lt_trans l43 (Nat.lt_trans l41 (Nat.lt_trans l37 (Nat.lt_trans l21 (Nat.lt_trans l5 (Nat.lt_trans l4 (Nat.lt_trans l3 (Nat.lt_trans l2 l1)))))))))))) _ _ _ _ _ _ _ _ _ _ _ _ _ e65 (by repeat (first | exact K0 | refine zQf_u ?_ (by decide) (by decide) | refine zQf_c ?_ (by decide) (by decide)))
                  · obtain ⟨F66, l66, ⟨c66, e66⟩ | ⟨c66, e66⟩⟩ := zi_64_198 e44
                    · obtain ⟨F67, l67, e67⟩ := zi_64_206 e66
                      exact (ih _ (Nat.lt_trans l67 (Nat.lt_trans l66 (Nat.lt_trans l44 (Nat.lt_trans l43 (Nat.lt_trans l41 (Nat.lt_trans l37 (Nat.lt_trans l21 (Nat.lt_trans l5 (Nat.lt_trans l4 (Nat.lt_trans l3 (Nat.lt_trans l2 l1)))))))))))) _ _ _ _ _ _ _ _ _ _ _ _ _ e67 (by repeat (first | exact K0 | refine zQf_u ?_ (by decide) (by decide) | refine zQf_c ?_ (by decide) (by decide)))
                    · obtain ⟨F68, l68, e68⟩ := zi_64_208 e66
                      exact (ih _ (Nat.lt_trans l68 (Nat.lt_trans l66 (Nat.lt_trans l44 (Nat.lt_trans l43 (Nat.lt_trans l41 (Nat.lt_trans l37 (Nat.lt_trans l21 (Nat.lt_trans l5 (Nat.lt_trans l4 (Nat.lt_trans l3 (Nat.lt_trans l2 l1)))))))))))) _ _ _ _ _ _ _ _ _ _ _ _ _ e68 (by repeat (first | exact K0 | refine zQf_u ?_ (by decide) (by decide) | refine zQf_c ?_ (by decide) (by decide)))
                  · obtain ⟨F69, l69, e69⟩ := zi_64_211 e44
                    exact (ih _ (Nat.lt_trans l69 (Nat.lt_trans l44 (Nat.lt_trans l43 (Nat.lt_trans l41 (Nat.lt_trans l37 (Nat.lt_trans l21 (Nat.lt_trans l5 (Nat.lt_trans l4 (Nat.lt_trans l3 (Nat.lt_trans l2 l1))))))))))) _ _ _ _ _ _ _ _ _ _ _ _ _ e69 (by repeat (first | exact K0 | refine zQf_u ?_ (by decide) (by decide) | refine zQf_c ?_ (by decide) (by decide)))
                  · obtain ⟨F70, l70, e70⟩ := zi_64_220 e44
                    exact (ih _ (Nat.lt_trans l70 (Nat.lt_trans l44 (Nat.lt_trans l43 (Nat.lt_trans l41 (Nat.lt_trans l37 (Nat.lt_trans l21 (Nat.lt_trans l5 (Nat.lt_trans l4 (Nat.lt_trans l3 (Nat.lt_trans l2 l1))))))))))) _ _ _ _ _ _ _ _ _ _ _ _ _ e70 (by repeat (first | exact K0 | refine zQf_u ?_ (by decide) (by decide) | refine zQf_c ?_ (by decide) (by decide)))
        · obtain ⟨F71, l71, ⟨c71, e71⟩ | ⟨c71, e71⟩⟩ := zi_64_230 e4
          · have k72 := zi_64_232 e71
            subst k72
            exact (by repeat (first | exact K0 | refine zQf_u ?_ (by decide) (by decide) | refine zQf_c ?_ (by decide) (by decide)))
          · have k73 := zi_64_236 e71
            subst k73
            exact (by repeat (first | exact K0 | refine zQf_u ?_ (by decide) (by decide) | refine zQf_c ?_ (by decide) (by decide)))
      · obtain ⟨F74, l74, ⟨c74, e74⟩ | ⟨c74, e74⟩⟩ := zi_64_230 e1
        · have k75 := zi_64_232 e74
          subst k75
          exact (by repeat (first | exact K0 | refine zQf_u ?_ (by decide) (by decide) | refine zQf_c ?_ (by decide) (by decide)))
        · have k76 := zi_64_236 e74
          subst k76
          exact (by repeat (first | exact K0 | refine zQf_u ?_ (by decide) (by decide) | refine zQf_c ?_ (by decide) (by decide)))
  have K0 : zQf s s := zQf_r
  obtain ⟨F77, l77, e77⟩ := zi_64_0 e0
  exact (loop _) _ _ _ _ _ _ _ _ _ _ _ _ _ e77 (by repeat (first | exact K0 | refine zQf_u ?_ (by decide) (by decide) | refine zQf_c ?_ (by decide) (by decide)))
theorem zQ_63 {F : Nat} {x0 x3 : Int} {s : zS} {R : Int × zS} (e0 : zG F xm_c63 0 [x0, 238, 239, x3] [] s R) : zQf s R.2 := by
  have loop : ∀ F : Nat, (∀ (x0 x3 : Int) , ∀ (t : zS) (R : Int × zS), zG F xm_c63 2 [x0, 238, 239, x3] [] t R → zQf s t → zQf s R.2) := by
    intro F
    induction F using Nat.strongRecOn with
    | _ F ih =>
      intro x0 x3 t R e0 K0
      obtain ⟨F1, l1, ⟨c1, e1⟩ | ⟨c1, e1⟩⟩ := zi_63_2 e0
      · obtain ⟨F2, l2, ⟨c2, e2⟩ | ⟨c2, e2⟩⟩ := zi_63_6 e1
        · obtain ⟨F3, l3, ⟨c3, e3⟩ | ⟨c3, e3⟩⟩ := zi_63_9 e2
          · obtain ⟨F4, l4, r4, s4, q4, e4⟩ := zi_63_37 e3
            have K4 : zQf s s4 := zQf_t (by repeat (first | exact K0 | refine zQf_u ?_ (by decide) (by decide) | refine zQf_c ?_ (by decide) (by decide))) (zQ_64 q4)
            have k5 := zi_63_49 e4
            subst k5
            exact (by repeat (first | exact K4 | refine zQf_u ?_ (by decide) (by decide) | refine zQf_c ?_ (by decide) (by decide)))
          · obtain ⟨F6, l6, r6, s6, q6, e6⟩ := zi_63_20 e3
            have K6 : zQf s s6 := zQf_t (by repeat (first | exact K0 | refine zQf_u ?_ (by decide) (by decide) | refine zQf_c ?_ (by decide) (by decide))) (zQ_64 q6)
            obtain ⟨F7, l7, ⟨c7, e7⟩ | ⟨c7, e7⟩⟩ := zi_63_34 e6
            · obtain ⟨F8, l8, e8⟩ := zi_63_50 e7
              exact (ih _ (Nat.lt_trans l8 (Nat.lt_trans l7 (Nat.lt_trans l6 (Nat.lt_trans l3 (Nat.lt_trans l2 l1)))))) _ _ _ _ e8 (by repeat (first | exact K6 | refine zQf_u ?_ (by decide) (by decide) | refine zQf_c ?_ (by decide) (by decide)))
            · obtain ⟨F9, l9, r9, s9, q9, e9⟩ := zi_63_37 e7
              have K9 : zQf s s9 := zQf_t (by repeat (first | exact K6 | refine zQf_u ?_ (by decide) (by decide) | refine zQf_c ?_ (by decide) (by decide))) (zQ_64 q9)
              have k10 := zi_63_49 e9
              subst k10
              exact (by repeat (first | exact K9 | refine zQf_u ?_ (by decide) (by decide) | refine zQf_c ?_ (by decide) (by decide)))
        · have k11 := zi_63_52 e2
          subst k11
          exact (by repeat (first | exact K0 | refine zQf_u ?_ (by decide) (by decide) | refine zQf_c ?_ (by decide) (by decide)))
      · have k12 := zi_63_52 e1
        subst k12
        exact (by repeat (first | exact K0 | refine zQf_u ?_ (by decide) (by decide) | refine zQf_c ?_ (by decide) (by decide)))
  have K0 : zQf s s := zQf_r
  obtain ⟨F13, l13, e13⟩ := zi_63_0 e0
  exact (loop _) _ _ _ _ e13 (by repeat (first | exact K0 | refine zQf_u ?_ (by decide) (by decide) | refine zQf_c ?_ (by decide) (by decide)))
theorem zQ_15 {F : Nat} {x2 x3 x4 : Int} {s : zS} {R : Int × zS} (e0 : zG F xm_c15 0 [237, 230, x2, x3, x4] [] s R) : zQf s R.2 := by
  have loop : ∀ F : Nat, (∀ (x2 x3 x4 : Int) , ∀ (t : zS) (R : Int × zS), zG F xm_c15 27 [237, 230, x2, x3, x4] [] t R → zQf s t → zQf s R.2) := by
    intro F
    induction F using Nat.strongRecOn with
    | _ F ih =>
      intro x2 x3 x4 t R e0 K0
      obtain ⟨F1, l1, ⟨c1, e1⟩ | ⟨c1, e1⟩⟩ := zi_15_27 e0
      · obtain ⟨F2, l2, r2, s2, q2, e2⟩ := zi_15_32 e1
        have k2 : s2 = _ := zJ_120 q2
        have K2 : zQf s s2 := by
          rw [k2]
          exact (by repeat (first | exact K0 | refine zQf_u ?_ (by decide) (by decide) | refine zQf_c ?_ (by decide) (by decide)))
        obtain ⟨F3, l3, ⟨c3, e3⟩ | ⟨c3, e3⟩⟩ := zi_15_35 e2
        · obtain ⟨F4, l4, e4⟩ := zi_15_109 e3
          exact (ih _ (Nat.lt_trans l4 (Nat.lt_trans l3 (Nat.lt_trans l2 l1)))) _ _ _ _ _ e4 (by repeat (first | exact K2 | refine zQf_u ?_ (by decide) (by decide) | refine zQf_c ?_ (by decide) (by decide)))
        · obtain ⟨F5, l5, r5, s5, q5, e5⟩ := zi_15_36 e3
          have k5 : s5 = _ := zJ_120 q5
          have K5 : zQf s s5 := by
            rw [k5]
            exact (by repeat (first | exact K2 | refine zQf_u ?_ (by decide) (by decide) | refine zQf_c ?_ (by decide) (by decide)))
          obtain ⟨F6, l6, ⟨c6, e6⟩ | ⟨c6, e6⟩⟩ := zi_15_43 e5
          · obtain ⟨F7, l7, ⟨c7, e7⟩ | ⟨c7, e7⟩⟩ := zi_15_45 e6
            · obtain ⟨F8, l8, ⟨c8, e8⟩ | ⟨c8, e8⟩⟩ := zi_15_53 e7
              · have k9 := zi_15_56 e8
                subst k9
                exact (by repeat (first | exact K5 | refine zQf_u ?_ (by decide) (by decide) | refine zQf_c ?_ (by decide) (by decide)))
              · obtain ⟨F10, l10, r10, s10, q10, e10⟩ := zi_15_58 e8
                have K10 : zQf s s10 := zQf_t (by repeat (first | exact K5 | refine zQf_u ?_ (by decide) (by decide) | refine zQf_c ?_ (by decide) (by decide))) (zQ_63 q10)
                obtain ⟨F11, l11, ⟨c11, e11⟩ | ⟨c11, e11⟩⟩ := zi_15_104 e10
                · have k12 := zi_15_107 e11
                  subst k12
                  exact (by repeat (first | exact K10 | refine zQf_u ?_ (by decide) (by decide) | refine zQf_c ?_ (by decide) (by decide)))
                · obtain ⟨F13, l13, e13⟩ := zi_15_109 e11
                  exact (ih _ (Nat.lt_trans l13 (Nat.lt_trans l11 (Nat.lt_trans l10 (Nat.lt_trans l8 (Nat.lt_trans l7 (Nat.lt_trans l6 (Nat.lt_trans l5 (Nat.lt_trans l3 (Nat.lt_trans l2 l1)))))))))) _ _ _ _ _ e13 (by repeat (first | exact K10 | refine zQf_u ?_ (by decide) (by decide) | refine zQf_c ?_ (by decide) (by decide)))
            · obtain ⟨F14, l14, e14⟩ := zi_15_52 e7
              exact (ih _ (Nat.lt_trans l14 (Nat.lt_trans l7 (Nat.lt_trans l6 (Nat.lt_trans l5 (Nat.lt_trans l3 (Nat.lt_trans l2 l1))))))) _ _ _ _ _ e14 (by repeat (first | exact K5 | refine zQf_u ?_ (by decide) (by decide) | refine zQf_c ?_ (by decide) (by decide)))
          · obtain ⟨F15, l15, ⟨c15, e15⟩ | ⟨c15, e15⟩⟩ := zi_15_53 e6
            · have k16 := zi_15_56 e15
              subst k16
              exact (by repeat (first | exact K5 | refine zQf_u ?_ (by decide) (by decide) | refine zQf_c ?_ (by decide) (by decide)))
            · obtain ⟨F17, l17, r17, s17, q17, e17⟩ := zi_15_58 e15
              have K17 : zQf s s17 := zQf_t (by repeat (first | exact K5 | refine zQf_u ?_ (by decide) (by decide) | refine zQf_c ?_ (by decide) (by decide))) (zQ_63 q17)
              obtain ⟨F18, l18, ⟨c18, e18⟩ | ⟨c18, e18⟩⟩ := zi_15_104 e17
              · have k19 := zi_15_107 e18
                subst k19
                exact (by repeat (first | exact K17 | refine zQf_u ?_ (by decide) (by decide) | refine zQf_c ?_ (by decide) (by decide)))
              · obtain ⟨F20, l20, e20⟩ := zi_15_109 e18
                exact (ih _ (Nat.lt_trans l20 (Nat.lt_trans l18 (Nat.lt_trans l17 (Nat.lt_trans l15 (Nat.lt_trans l6 (Nat.lt_trans l5 (Nat.lt_trans l3 (Nat.lt_trans l2 l1))))))))) _ _ _ _ _ e20 (by repeat (first | exact K17 | refine zQf_u ?_ (by decide) (by decide) | refine zQf_c ?_ (by decide) (by decide)))
      · have k21 := zi_15_111 e1
        subst k21
        exact (by repeat (first | exact K0 | refine zQf_u ?_ (by decide) (by decide) | refine zQf_c ?_ (by decide) (by decide)))
  have K0 : zQf s s := zQf_r
  obtain ⟨F22, l22, ⟨c22, e22⟩ | ⟨c22, e22⟩⟩ := zi_15_0 e0
  · obtain ⟨F23, l23, e23⟩ := zi_15_21 e22
    exact (loop _) _ _ _ _ _ e23 (by repeat (first | exact K0 | refine zQf_u ?_ (by decide) (by decide) | refine zQf_c ?_ (by decide) (by decide)))
  · obtain ⟨F24, l24, e24⟩ := zi_15_23 e22
    exact (loop _) _ _ _ _ _ e24 (by repeat (first | exact K0 | refine zQf_u ?_ (by decide) (by decide) | refine zQf_c ?_ (by decide) (by decide)))
theorem zQ_13 {F : Nat} {x2 x3 x4 x5 x6 x7 x8 x9 x10 x11 x12 x13 x14 : Int} {s : zS} {R : Int × zS} (e0 : zG F xm_c13 0 [237, 230, x2, x3, x4, x5, x6, x7, x8, x9, x10, x11, x12, x13, x14] [] s R) : zQf s R.2 := by
  have loop : ∀ F : Nat, (∀ (x2 x3 x4 x5 x6 x7 x8 x9 x10 x11 x12 x13 x14 : Int) , ∀ (t : zS) (R : Int × zS), zG F xm_c13 55 [237, 230, x2, x3, x4, x5, x6, x7, x8, x9, x10, x11, x12, x13, x14] [] t R → zQf s t → zQf s R.2) ∧ (∀ (x2 x3 x4 x5 x6 x7 x8 x9 x10 x11 x12 x13 x14 : Int) , ∀ (t : zS) (R : Int × zS), zG F xm_c13 126 [237, 230, x2, x3, x4, x5, x6, x7, x8, x9, x10, x11, x12, x13, x14] [] t R → zQf s t → zQf s R.2) := by
    intro F
    induction F using Nat.strongRecOn with
    | _ F ih =>
      refine ⟨?_, ?_⟩
      · intro x2 x3 x4 x5 x6 x7 x8 x9 x10 x11 x12 x13 x14 t R e0 K0
        obtain ⟨F1, l1, ⟨c1, e1⟩ | ⟨c1, e1⟩⟩ := zi_13_55 e0
        · obtain ⟨F2, l2, r2, s2, q2, e2⟩ := zi_13_60 e1
          have k2 : s2 = _ := zJ_14 q2
          have K2 : zQf s s2 := by
            rw [k2]
            exact (by repeat (first | exact K0 | refine zQf_u ?_ (by decide) (by decide) | refine zQf_c ?_ (by decide) (by decide)))
          obtain ⟨F3, l3, ⟨c3, e3⟩ | ⟨c3, e3⟩⟩ := zi_13_63 e2
          · obtain ⟨F4, l4, e4⟩ := zi_13_77 e3
            exact (ih _ (Nat.lt_trans l4 (Nat.lt_trans l3 (Nat.lt_trans l2 l1)))).1 _ _ _ _ _ _ _ _ _ _ _ _ _ _ _ e4 (by repeat (first | exact K2 | refine zQf_u ?_ (by decide) (by decide) | refine zQf_c ?_ (by decide) (by decide)))
          · obtain ⟨F5, l5, r5, s5, q5, e5⟩ := zi_13_78 e3
            have k5 : s5 = _ := zJ_120 q5
            have K5 : zQf s s5 := by
              rw [k5]
              exact (by repeat (first | exact K2 | refine zQf_u ?_ (by decide) (by decide) | refine zQf_c ?_ (by decide) (by decide)))
            obtain ⟨F6, l6, ⟨c6, e6⟩ | ⟨c6, e6⟩⟩ := zi_13_81 e5
            · obtain ⟨F7, l7, ⟨c7, e7⟩ | ⟨c7, e7⟩⟩ := zi_13_83 e6
              · obtain ⟨F8, l8, r8, s8, q8, e8⟩ := zi_13_94 e7
                have k8 : s8 = _ := zJ_14 q8
                have K8 : zQf s s8 := by
                  rw [k8]
                  exact (by repeat (first | exact K5 | refine zQf_u ?_ (by decide) (by decide) | refine zQf_c ?_ (by decide) (by decide)))
                obtain ⟨F9, l9, ⟨c9, e9⟩ | ⟨c9, e9⟩⟩ := zi_13_99 e8
                · obtain ⟨F10, l10, e10⟩ := zi_13_108 e9
                  exact (ih _ (Nat.lt_trans l10 (Nat.lt_trans l9 (Nat.lt_trans l8 (Nat.lt_trans l7 (Nat.lt_trans l6 (Nat.lt_trans l5 (Nat.lt_trans l3 (Nat.lt_trans l2 l1))))))))).1 _ _ _ _ _ _ _ _ _ _ _ _ _ _ _ e10 (by repeat (first | exact K8 | refine zQf_u ?_ (by decide) (by decide) | refine zQf_c ?_ (by decide) (by decide)))
                · obtain ⟨F11, l11, r11, s11, q11, e11⟩ := zi_13_109 e9
                  have k11 : s11 = _ := zJ_239 q11
                  have K11 : zQf s s11 := by
                    rw [k11]
                    exact (by repeat (first | exact K8 | refine zQf_u ?_ (by decide) (by decide) | refine zQf_c ?_ (by decide) (by decide)))
                  obtain ⟨F12, l12, e12⟩ := zi_13_120 e11
                  exact (ih _ (Nat.lt_trans l12 (Nat.lt_trans l11 (Nat.lt_trans l9 (Nat.lt_trans l8 (Nat.lt_trans l7 (Nat.lt_trans l6 (Nat.lt_trans l5 (Nat.lt_trans l3 (Nat.lt_trans l2 l1)))))))))).2 _ _ _ _ _ _ _ _ _ _ _ _ _ _ _ e12 (by repeat (first | exact K11 | refine zQf_u ?_ (by decide) (by decide) | refine zQf_c ?_ (by decide) (by decide)))
              · obtain ⟨F13, l13, ⟨c13, e13⟩ | ⟨c13, e13⟩⟩ := zi_13_102 e7
                · obtain ⟨F14, l14, e14⟩ := zi_13_108 e13
                  exact (ih _ (Nat.lt_trans l14 (Nat.lt_trans l13 (Nat.lt_trans l7 (Nat.lt_trans l6 (Nat.lt_trans l5 (Nat.lt_trans l3 (Nat.lt_trans l2 l1)))))))).1 _ _ _ _ _ _ _ _ _ _ _ _ _ _ _ e14 (by repeat (first | exact K5 | refine zQf_u ?_ (by decide) (by decide) | refine zQf_c ?_ (by decide) (by decide)))
                · obtain ⟨F15, l15, r15, s15, q15, e15⟩ := zi_13_109 e13
                  have k15 : s15 = _ := zJ_239 q15
                  have K15 : zQf s s15 := by
                    rw [k15]
                    exact (by repeat (first | exact K5 | refine zQf_u ?_ (by decide) (by decide) | refine zQf_c ?_ (by decide) (by decide)))
                  obtain ⟨F16, l16, e16⟩ := zi_13_120 e15
                  exact (ih _ (Nat.lt_trans l16 (Nat.lt_trans l15 (Nat.lt_trans l13 (Nat.lt_trans l7 (Nat.lt_trans l6 (Nat.lt_trans l5 (Nat.lt_trans l3 (Nat.lt_trans l2 l1))))))))).2 _ _ _ _ _ _ _ _ _ _ _ _ _ _ _ e16 (by repeat (first | exact K15 | refine zQf_u ?_ (by decide) (by decide) | refine zQf_c ?_ (by decide) (by decide)))
            · obtain ⟨F17, l17, ⟨c17, e17⟩ | ⟨c17, e17⟩⟩ := zi_13_85 e6
              · obtain ⟨F18, l18, r18, s18, q18, e18⟩ := zi_13_94 e17
                have k18 : s18 = _ := zJ_14 q18
                have K18 : zQf s s18 := by
                  rw [k18]
                  exact (by repeat (first | exact K5 | refine zQf_u ?_ (by decide) (by decide) | refine zQf_c ?_ (by decide) (by decide)))
                obtain ⟨F19, l19, ⟨c19, e19⟩ | ⟨c19, e19⟩⟩ := zi_13_99 e18
                · obtain ⟨F20, l20, e20⟩ := zi_13_108 e19
                  exact (ih _ (Nat.lt_trans l20 (Nat.lt_trans l19 (Nat.lt_trans l18 (Nat.lt_trans l17 (Nat.lt_trans l6 (Nat.lt_trans l5 (Nat.lt_trans l3 (Nat.lt_trans l2 l1))))))))).1 _ _ _ _ _ _ _ _ _ _ _ _ _ _ _ e20 (by repeat (first | exact K18 | refine zQf_u ?_ (by decide) (by decide) | refine zQf_c ?_ (by decide) (by decide)))
                · obtain ⟨F21, l21, r21, s21, q21, e21⟩ := zi_13_109 e19
                  have k21 : s21 = _ := zJ_239 q21
                  have K21 : zQf s s21 := by
                    rw [k21]
                    exact (by repeat (first | exact K18 | refine zQf_u ?_ (by decide) (by decide) | refine zQf_c ?_ (by decide) (by decide)))
                  obtain ⟨F22, l22, e22⟩ := zi_13_120 e21
                  exact (ih _ (Nat.lt_trans l22 (Nat.lt_trans l21 (Nat.lt_trans l19 (Nat.lt_trans l18 (Nat.lt_trans l17 (Nat.lt_trans l6 (Nat.lt_trans l5 (Nat.lt_trans l3 (Nat.lt_trans l2 l1)))))))))).2 _ _ _ _ _ _ _ _ _ _ _ _ _ _ _ e22 (by repeat (first | exact K21 | refine zQf_u ?_ (by decide) (by decide) | refine zQf_c ?_ (by decide) (by decide)))
              · obtain ⟨F23, l23, ⟨c23, e23⟩ | ⟨c23, e23⟩⟩ := zi_13_102 e17
                · obtain ⟨F24, l24, e24⟩ := zi_13_108 e23
                  exact (ih _ (Nat.lt_trans l24 (Nat.lt_trans l23 (Nat.lt_trans l17 (Nat.lt_trans l6 (Nat.lt_trans l5 (Nat.lt_trans l3 (Nat.lt_trans l2 l1)))))))).1 _ _ _ _ _ _ _ _ _ _ _ _ _ _ _ e24 (by repeat (first | exact K5 | refine zQf_u ?_ (by decide) (by decide) | refine zQf_c ?_ (by decide) (by decide)))
                · obtain ⟨F25, l25, r25, s25, q25, e25⟩ := zi_13_109 e23
                  have k25 : s25 = _ := zJ_239 q25
                  have K25 : zQf s s25 := by
                    rw [k25]
                    exact (by repeat (first | exact K5 | refine zQf_u ?_ (by decide) (by decide) | refine zQf_c ?_ (by decide) (by decide)))
                  obtain ⟨F26, l26, e26⟩ := zi_13_120 e25
                  exact (ih _ (Nat.lt_trans l26 (Nat.lt_trans l25 (Nat.lt_trans l23 (Nat.lt_trans l17 (Nat.lt_trans l6 (Nat.lt_trans l5 (Nat.lt_trans l3 (Nat.lt_trans l2 l1))))))))).2 _ _ _ _ _ _ _ _ _ _ _ _ _ _ _ e26 (by repeat (first | exact K25 | refine zQf_u ?_ (by decide) (by decide) | refine zQf_c ?_ (by decide) (by decide)))
        · have k27 := zi_13_176 e1
          subst k27
          exact (by repeat (first | exact K0 | refine zQf_u ?_ (by decide) (by decide) | refine zQf_c ?_ (by decide) (by decide)))
      · intro x2 x3 x4 x5 x6 x7 x8 x9 x10 x11 x12 x13 x14 t R e0 K0
        obtain ⟨F28, l28, ⟨c28, e28⟩ | ⟨c28, e28⟩⟩ := zi_13_126 e0
        · obtain ⟨F29, l29, r29, s29, q29, e29⟩ := zi_13_131 e28
          have k29 : s29 = _ := zJ_120 q29
          have K29 : zQf s s29 := by
            rw [k29]
            exact (by repeat (first | exact K0 | refine zQf_u ?_ (by decide) (by decide) | refine zQf_c ?_ (by decide) (by decide)))
          obtain ⟨F30, l30, ⟨c30, e30⟩ | ⟨c30, e30⟩⟩ := zi_13_134 e29
          · obtain ⟨F31, l31, e31⟩ := zi_13_135 e30
            exact (ih _ (Nat.lt_trans l31 (Nat.lt_trans l30 (Nat.lt_trans l29 l28)))).2 _ _ _ _ _ _ _ _ _ _ _ _ _ _ _ e31 (by repeat (first | exact K29 | refine zQf_u ?_ (by decide) (by decide) | refine zQf_c ?_ (by decide) (by decide)))
          · obtain ⟨F32, l32, ⟨c32, e32⟩ | ⟨c32, e32⟩⟩ := zi_13_136 e30
            · obtain ⟨F33, l33, ⟨c33, e33⟩ | ⟨c33, e33⟩⟩ := zi_13_138 e32
              · obtain ⟨F34, l34, ⟨c34, e34⟩ | ⟨c34, e34⟩⟩ := zi_13_149 e33
                · obtain ⟨F35, l35, ⟨c35, e35⟩ | ⟨c35, e35⟩⟩ := zi_13_154 e34
                  · obtain ⟨F36, l36, e36⟩ := zi_13_172 e35
                    exact (ih _ (Nat.lt_trans l36 (Nat.lt_trans l35 (Nat.lt_trans l34 (Nat.lt_trans l33 (Nat.lt_trans l32 (Nat.lt_trans l30 (Nat.lt_trans l29 l28)))))))).2 _ _ _ _ _ _ _ _ _ _ _ _ _ _ _ e36 (by repeat (first | exact K29 | refine zQf_u ?_ (by decide) (by decide) | refine zQf_c ?_ (by decide) (by decide)))
                  · obtain ⟨F37, l37, r37, s37, q37, e37⟩ := zi_13_157 e35
                    have K37 : zQf s s37 := zQf_t (by repeat (first | exact K29 | refine zQf_u ?_ (by decide) (by decide) | refine zQf_c ?_ (by decide) (by decide))) (zQ_38 q37)
                    obtain ⟨F38, l38, e38⟩ := zi_13_172 e37
                    exact (ih _ (Nat.lt_trans l38 (Nat.lt_trans l37 (Nat.lt_trans l35 (Nat.lt_trans l34 (Nat.lt_trans l33 (Nat.lt_trans l32 (Nat.lt_trans l30 (Nat.lt_trans l29 l28))))))))).2 _ _ _ _ _ _ _ _ _ _ _ _ _ _ _ e38 (by repeat (first | exact K37 | refine zQf_u ?_ (by decide) (by decide) | refine zQf_c ?_ (by decide) (by decide)))
                · obtain ⟨F39, l39, r39, s39, q39, e39⟩ := zi_13_151 e34
                  have k39 : s39 = _ := zJ_238 q39
                  have K39 : zQf s s39 := by
                    rw [k39]
                    exact (by repeat (first | exact K29 | refine zQf_u ?_ (by decide) (by decide) | refine zQf_c ?_ (by decide) (by decide)))
                  obtain ⟨F40, l40, ⟨c40, e40⟩ | ⟨c40, e40⟩⟩ := zi_13_153 e39
                  · obtain ⟨F41, l41, e41⟩ := zi_13_172 e40
                    exact (ih _ (Nat.lt_trans l41 (Nat.lt_trans l40 (Nat.lt_trans l39 (Nat.lt_trans l34 (Nat.lt_trans l33 (Nat.lt_trans l32 (Nat.lt_trans l30 (Nat.lt_trans l29 l28))))))))).2 _ _ _ _ _ _ _ _ _ _ _ _ _ _ _ e41 (by repeat (first | exact K39 | refine zQf_u ?_ (by decide) (by decide) | refine zQf_c ?_ (by decide) (by decide)))
                  · obtain ⟨F42, l42, r42, s42, q42, e42⟩ := zi_13_157 e40
                    have K42 : zQf s s42 := zQf_t (by repeat (first | exact K39 | refine zQf_u ?_ (by decide) (by decide) | refine zQf_c ?_ (by decide) (by decide))) (zQ_38 q42)
                    obtain ⟨F43, l43, e43⟩ := zi_13_172 e42
                    exact (ih _ (Nat.lt_trans l43 (Nat.lt_trans l42 (Nat.lt_trans l40 (Nat.lt_trans l39 (Nat.lt_trans l34 (Nat.lt_trans l33 (Nat.lt_trans l32 (Nat.lt_trans l30 (Nat.lt_trans l29 l28)))))))))).2 _ _ _ _ _ _ _ _ _ _ _ _ _ _ _ e43 (by repeat (first | exact K42 | refine zQf_u ?_ (by decide) (by decide) | refine zQf_c ?_ (by decide) (by decide)))
              · obtain ⟨F44, l44, ⟨c44, e44⟩ | ⟨c44, e44⟩⟩ := zi_13_154 e33
                · obtain ⟨F45, l45, e45⟩ := zi_13_172 e44
                  exact (ih _ (Nat.lt_trans l45 (Nat.lt_trans l44 (Nat.lt_trans l33 (Nat.lt_trans l32 (Nat.lt_trans l30 (Nat.lt_trans l29 l28))))))).2 _ _ _ _ _ _ _ _ _ _ _ _ _ _ _ e45 (by repeat (first | exact K29 | refine zQf_u ?_ (by decide) (by decide) | refine zQf_c ?_ (by decide) (by decide)))
                · obtain ⟨F46, l46, r46, s46, q46, e46⟩ := zi_13_157 e44
                  have K46 : zQf s s46 := zQf_t (by repeat (first | exact K29 | refine zQf_u ?_ (by decide) (by decide) | refine zQf_c ?_ (by decide) (by decide))) (zQ_38 q46)
                  obtain ⟨F47, l47, e47⟩ := zi_13_172 e46
                  exact (ih _ (Nat.lt_trans l47 (Nat.lt_trans l46 (Nat.lt_trans l44 (Nat.lt_trans l33 (Nat.lt_trans l32 (Nat.lt_trans l30 (Nat.lt_trans l29 l28)))))))).2 _ _ _ _ _ _ _ _ _ _ _ _ _ _ _ e47 (by repeat (first | exact K46 | refine zQf_u ?_ (by decide) (by decide) | refine zQf_c ?_ (by decide) (by decide)))
            · obtain ⟨F48, l48, r48, s48, q48, e48⟩ := zi_13_140 e32
              have K48 : zQf s s48 := zQf_t (by repeat (first | exact K29 | refine zQf_u ?_ (by decide) (by decide) | refine zQf_c ?_ (by decide) (by decide))) (zQ_15 q48)
              obtain ⟨F49, l49, ⟨c49, e49⟩ | ⟨c49, e49⟩⟩ := zi_13_145 e48
              · obtain ⟨F50, l50, ⟨c50, e50⟩ | ⟨c50, e50⟩⟩ := zi_13_149 e49
                · obtain ⟨F51, l51, ⟨c51, e51⟩ | ⟨c51, e51⟩⟩ := zi_13_154 e50
                  · obtain ⟨F52, l52, e52⟩ := zi_13_172 e51
                    exact (ih _ (Nat.lt_trans l52 (Nat.lt_trans l51 (Nat.lt_trans l50 (Nat.lt_trans l49 (Nat.lt_trans l48 (Nat.lt_trans l32 (Nat.lt_trans l30 (Nat.lt_trans l29 l28))))))))).2 _ _ _ _ _ _ _ _ _ _ _ _ _ _ _ e52 (by repeat (first | exact K48 | refine zQf_u ?_ (by decide) (by decide) | refine zQf_c ?_ (by decide) (by decide)))
                  · obtain ⟨F53, l53, r53, s53, q53, e53⟩ := zi_13_157 e51
                    have K53 : zQf s s53 := zQf_t (by repeat (first | exact K48 | refine zQf_u ?_ (by decide) (by decide) | refine zQf_c ?_ (by decide) (by decide))) (zQ_38 q53)
                    obtain ⟨F54, l54, e54⟩ := zi_13_172 e53
                    exact (ih _ (Nat.lt_trans l54 (Nat.lt_trans l53 (Nat.lt_trans l51 (Nat.lt_trans l50 (Nat.lt_trans l49 (Nat.lt_trans l48 (Nat.lt_trans l32 (Nat.lt_trans l30 (Nat.lt_trans l29 l28)))))))))).2 _ _ _ _ _ _ _ _ _ _ _ _ _ _ _ e54 (by repeat (first | exact K53 | refine zQf_u ?_ (by decide) (by decide) | refine zQf_c ?_ (by decide) (by decide)))
                · obtain ⟨F55, l55, r55, s55, q55, e55⟩ := zi_13_151 e50
                  have k55 : s55 = _ := zJ_238 q55
                  have K55 : zQf s s55 := by
                    rw [k55]
                    exact (by repeat (first | exact K48 | refine zQf_u ?_ (by decide) (by decide) | refine zQf_c ?_ (by decide) (by decide)))
                  obtain ⟨F56, l56, ⟨c56, e56⟩ | ⟨c56, e56⟩⟩ := zi_13_153 e55
                  · obtain ⟨F57, l57, e57⟩ := zi_13_172 e56
                    exact (ih _ (Nat.lt_trans l57 (Nat.lt_trans l56 (Nat.lt_trans l55 (Nat.lt_trans l50 (Nat.lt_trans l49 (Nat.lt_trans l48 (Nat.lt_trans l32 (Nat.lt_trans l30 (Nat.lt_trans l29 l28)))))))))).2 _ _ _ _ _ _ _ _ _ _ _ _ _ _ _ e57 (by repeat (first | exact K55 | refine zQf_u ?_ (by decide) (by decide) | refine zQf_c ?_ (by decide) (by decide)))
                  · obtain ⟨F58, l58, r58, s58, q58, e58⟩ := zi_13_157 e56
                    have K58 : zQf s s58 := zQf_t (by repeat (first | exact K55 | refine zQf_u ?_ (by decide) (by decide) | refine zQf_c ?_ (by decide) (by decide))) (zQ_38 q58)
                    obtain ⟨F59, l59, e59⟩ := zi_13_172 e58
                    exact (ih _ (Nat.lt_trans l59 (Nat.lt_trans l58 (Nat.lt_trans l56 (Nat.lt_trans l55 (Nat.lt_trans l50 (Nat.lt_trans l49 (Nat.lt_trans l48 (Nat.lt_trans l32 (Nat.lt_trans l30 (Nat.lt_trans l29 l28))))))))))).2 _ _ _ _ _ _ _ _ _ _ _ _ _ _ _ e59 (by repeat (first | exact K58 | refine zQf_u ?_ (by decide) (by decide) | refine zQf_c ?_ (by decide) (by decide)))
              · obtain ⟨F60, l60, ⟨c60, e60⟩ | ⟨c60, e60⟩⟩ := zi_13_154 e49
                · obtain ⟨F61, l61, e61⟩ := zi_13_172 e60
                  exact (ih _ (Nat.lt_trans l61 (Nat.lt_trans l60 (Nat.lt_trans l49 (Nat.lt_trans l48 (Nat.lt_trans l32 (Nat.lt_trans l30 (Nat.lt_trans l29 l28)))))))).2 _ _ _ _ _ _ _ _ _ _ _ _ _ _ _ e61 (by repeat (first | exact K48 | refine zQf_u ?_ (by decide) (by decide) | refine zQf_c ?_ (by decide) (by decide)))
                · obtain ⟨F62, l62, r62, s62, q62, e62⟩ := zi_13_157 e60
                  have K62 : zQf s s62 := zQf_t (by repeat (first | exact K48 | refine zQf_u ?_ (by decide) (by decide) | refine zQf_c ?_ (by decide) (by decide))) (zQ_38 q62)
                  obtain ⟨F63, l63, e63⟩ := zi_13_172 e62
                  exact (ih _ (Nat.lt_trans l63 (Nat.lt_trans l62 (Nat.lt_trans l60 (Nat.lt_trans l49 (Nat.lt_trans l48 (Nat.lt_trans l32 (Nat.lt_trans l30 (Nat.lt_trans l29 l28))))))))).2 _ _ _ _ _ _ _ _ _ _ _ _ _ _ _ e63 (by repeat (first | exact K62 | refine zQf_u ?_ (by decide) (by decide) | refine zQf_c ?_ (by decide) (by decide)))
        · obtain ⟨F64, l64, e64⟩ := zi_13_174 e28
          exact (ih _ (Nat.lt_trans l64 l28)).1 _ _ _ _ _ _ _ _ _ _ _ _ _ _ _ e64 (by repeat (first | exact K0 | refine zQf_u ?_ (by decide) (by decide) | refine zQf_c ?_ (by decide) (by decide)))
  have K0 : zQf s s := zQf_r
  obtain ⟨F65, l65, ⟨c65, e65⟩ | ⟨c65, e65⟩⟩ := zi_13_0 e0
  · obtain ⟨F66, l66, ⟨c66, e66⟩ | ⟨c66, e66⟩⟩ := zi_13_15 e65
    · obtain ⟨F67, l67, r67, s67, q67, e67⟩ := zi_13_28 e66
      have k67 : s67 = _ := zJ_239 q67
      have K67 : zQf s s67 := by
        rw [k67]
        exact (by repeat (first | exact K0 | refine zQf_u ?_ (by decide) (by decide) | refine zQf_c ?_ (by decide) (by decide)))
      obtain ⟨F68, l68, ⟨c68, e68⟩ | ⟨c68, e68⟩⟩ := zi_13_42 e67
      · obtain ⟨F69, l69, e69⟩ := zi_13_51 e68
        exact (loop _).1 _ _ _ _ _ _ _ _ _ _ _ _ _ _ _ e69 (by repeat (first | exact K67 | refine zQf_u ?_ (by decide) (by decide) | refine zQf_c ?_ (by decide) (by decide)))
      · obtain ⟨F70, l70, e70⟩ := zi_13_49 e68
        exact (loop _).1 _ _ _ _ _ _ _ _ _ _ _ _ _ _ _ e70 (by repeat (first | exact K67 | refine zQf_u ?_ (by decide) (by decide) | refine zQf_c ?_ (by decide) (by decide)))
    · obtain ⟨F71, l71, r71, s71, q71, e71⟩ := zi_13_19 e66
      have k71 : s71 = _ := zJ_239 q71
      have K71 : zQf s s71 := by
        rw [k71]
        exact (by repeat (first | exact K0 | refine zQf_u ?_ (by decide) (by decide) | refine zQf_c ?_ (by decide) (by decide)))
      obtain ⟨F72, l72, ⟨c72, e72⟩ | ⟨c72, e72⟩⟩ := zi_13_42 e71
      · obtain ⟨F73, l73, e73⟩ := zi_13_51 e72
        exact (loop _).1 _ _ _ _ _ _ _ _ _ _ _ _ _ _ _ e73 (by repeat (first | exact K71 | refine zQf_u ?_ (by decide) (by decide) | refine zQf_c ?_ (by decide) (by decide)))
      · obtain ⟨F74, l74, e74⟩ := zi_13_49 e72
        exact (loop _).1 _ _ _ _ _ _ _ _ _ _ _ _ _ _ _ e74 (by repeat (first | exact K71 | refine zQf_u ?_ (by decide) (by decide) | refine zQf_c ?_ (by decide) (by decide)))
  · obtain ⟨F75, l75, ⟨c75, e75⟩ | ⟨c75, e75⟩⟩ := zi_13_8 e65
    · obtain ⟨F76, l76, ⟨c76, e76⟩ | ⟨c76, e76⟩⟩ := zi_13_15 e75
      · obtain ⟨F77, l77, r77, s77, q77, e77⟩ := zi_13_28 e76
        have k77 : s77 = _ := zJ_239 q77
        have K77 : zQf s s77 := by
          rw [k77]
          exact (by repeat (first | exact K0 | refine zQf_u ?_ (by decide) (by decide) | refine zQf_c ?_ (by decide) (by decide)))
        obtain ⟨F78, l78, ⟨c78, e78⟩ | ⟨c78, e78⟩⟩ := zi_13_42 e77
        · obtain ⟨F79, l79, e79⟩ := zi_13_51 e78
          exact (loop _).1 _ _ _ _ _ _ _ _ _ _ _ _ _ _ _ e79 (by repeat (first | exact K77 | refine zQf_u ?_ (by decide) (by decide) | refine zQf_c ?_ (by decide) (by decide)))
        · obtain ⟨F80, l80, e80⟩ := zi_13_49 e78
          exact (loop _).1 _ _ _ _ _ _ _ _ _ _ _ _ _ _ _ e80 (by repeat (first | exact K77 | refine zQf_u ?_ (by decide) (by decide) | refine zQf_c ?_ (by decide) (by decide)))
      · obtain ⟨F81, l81, r81, s81, q81, e81⟩ := zi_13_19 e76
        have k81 : s81 = _ := zJ_239 q81
        have K81 : zQf s s81 := by
          rw [k81]
          exact (by repeat (first | exact K0 | refine zQf_u ?_ (by decide) (by decide) | refine zQf_c ?_ (by decide) (by decide)))
        obtain ⟨F82, l82, ⟨c82, e82⟩ | ⟨c82, e82⟩⟩ := zi_13_42 e81
        · obtain ⟨F83, l83, e83⟩ := zi_13_51 e82
          exact (loop _).1 _ _ _ _ _ _ _ _ _ _ _ _ _ _ _ e83 (by repeat (first | exact K81 | refine zQf_u ?_ (by decide) (by decide) | refine zQf_c ?_ (by decide) (by decide)))
        · obtain ⟨F84, l84, e84⟩ := zi_13_49 e82
          exact (loop _).1 _ _ _ _ _ _ _ _ _ _ _ _ _ _ _ e84 (by repeat (first | exact K81 | refine zQf_u ?_ (by decide) (by decide) | refine zQf_c ?_ (by decide) (by decide)))
    · obtain ⟨F85, l85, ⟨c85, e85⟩ | ⟨c85, e85⟩⟩ := zi_13_13 e75
      · obtain ⟨F86, l86, r86, s86, q86, e86⟩ := zi_13_28 e85
        have k86 : s86 = _ := zJ_239 q86
        have K86 : zQf s s86 := by
          rw [k86]
          exact (by repeat (first | exact K0 | refine zQf_u ?_ (by decide) (by decide) | refine zQf_c ?_ (by decide) (by decide)))
        obtain ⟨F87, l87, ⟨c87, e87⟩ | ⟨c87, e87⟩⟩ := zi_13_42 e86
        · obtain ⟨F88, l88, e88⟩ := zi_13_51 e87
          exact (loop _).1 _ _ _ _ _ _ _ _ _ _ _ _ _ _ _ e88 (by repeat (first | exact K86 | refine zQf_u ?_ (by decide) (by decide) | refine zQf_c ?_ (by decide) (by decide)))
        · obtain ⟨F89, l89, e89⟩ := zi_13_49 e87
          exact (loop _).1 _ _ _ _ _ _ _ _ _ _ _ _ _ _ _ e89 (by repeat (first | exact K86 | refine zQf_u ?_ (by decide) (by decide) | refine zQf_c ?_ (by decide) (by decide)))
      · obtain ⟨F90, l90, r90, s90, q90, e90⟩ := zi_13_19 e85
        have k90 : s90 = _ := zJ_239 q90
        have K90 : zQf s s90 := by
          rw [k90]
          exact (by repeat (first | exact K0 | refine zQf_u ?_ (by decide) (by decide) | refine zQf_c ?_ (by decide) (by decide)))
        obtain ⟨F91, l91, ⟨c91, e91⟩ | ⟨c91, e91⟩⟩ := zi_13_42 e90
        · obtain ⟨F92, l92, e92⟩ := zi_13_51 e91
          exact (loop _).1 _ _ _ _ _ _ _ _ _ _ _ _ _ _ _ e92 (by repeat (first | exact K90 | refine zQf_u ?_ (by decide) (by decide) | refine zQf_c ?_ (by decide) (by decide)))
        · obtain ⟨F93, l93, e93⟩ := zi_13_49 e91
          exact (loop _).1 _ _ _ _ _ _ _ _ _ _ _ _ _ _ _ e93 (by repeat (first | exact K90 | refine zQf_u ?_ (by decide) (by decide) | refine zQf_c ?_ (by decide) (by decide)))
theorem zQ_42 {F : Nat} {x1 : Int} {s : zS} {R : Int × zS} (e0 : zG F xm_c42 0 [224, x1] [] s R) : zQf s R.2 := by
  have K0 : zQf s s := zQf_r
  obtain ⟨F1, l1, r1, s1, q1, e1⟩ := zi_42_0 e0
  have K1 : zQf s s1 := zQf_t (by repeat (first | exact K0 | refine zQf_u ?_ (by decide) (by decide) | refine zQf_c ?_ (by decide) (by decide))) (zQ_2 q1)
  obtain ⟨F2, l2, r2, s2, q2, e2⟩ := zi_42_24 e1
  have K2 : zQf s s2 := zQf_t (by repeat (first | exact K1 | refine zQf_u ?_ (by decide) (by decide) | refine zQf_c ?_ (by decide) (by decide))) (zQ_37 q2)
  have k3 := zi_42_30 e2
  subst k3
  exact (by repeat (first | exact K2 | refine zQf_u ?_ (by decide) (by decide) | refine zQf_c ?_ (by decide) (by decide)))
theorem zQ_44 {F : Nat} {x1 x2 : Int} {s : zS} {R : Int × zS} (e0 : zG F xm_c44 0 [224, x1, x2] [] s R) : zQf s R.2 := by
  have loop : ∀ F : Nat, (∀ (x1 x2 : Int) , ∀ (t : zS) (R : Int × zS), zG F xm_c44 7 [224, x1, x2] [] t R → zQf s t → zQf s R.2) := by
    intro F
    induction F using Nat.strongRecOn with
    | _ F ih =>
      intro x1 x2 t R e0 K0
      obtain ⟨F1, l1, ⟨c1, e1⟩ | ⟨c1, e1⟩⟩ := zi_44_7 e0
      · obtain ⟨F2, l2, e2⟩ := zi_44_10 e1
        obtain ⟨F3, l3, e3⟩ := zi_44_13 e2
        obtain ⟨F4, l4, ⟨c4, e4⟩ | ⟨c4, e4⟩⟩ := zi_44_14 e3
        · obtain ⟨F5, l5, r5, s5, q5, e5⟩ := zi_44_15 e4
          have K5 : zQf s s5 := zQf_t (by repeat (first | exact K0 | refine zQf_u ?_ (by decide) (by decide) | refine zQf_c ?_ (by decide) (by decide))) (zQ_8 q5)
          obtain ⟨F6, l6, e6⟩ := zi_44_24 e5
          exact (ih _ (Nat.lt_trans l6 (Nat.lt_trans l5 (Nat.lt_trans l4 (Nat.lt_trans l3 (Nat.lt_trans l2 l1)))))) _ _ _ _ e6 (by repeat (first | exact K5 | refine zQf_u ?_ (by decide) (by decide) | refine zQf_c ?_ (by decide) (by decide)))
        · have k7 := zi_44_27 e4
          subst k7
          exact (by repeat (first | exact K0 | refine zQf_u ?_ (by decide) (by decide) | refine zQf_c ?_ (by decide) (by decide)))
      · have k8 := zi_44_27 e1
        subst k8
        exact (by repeat (first | exact K0 | refine zQf_u ?_ (by decide) (by decide) | refine zQf_c ?_ (by decide) (by decide)))
  have K0 : zQf s s := zQf_r
  obtain ⟨F9, l9, e9⟩ := zi_44_0 e0
  exact (loop _) _ _ _ _ e9 (by repeat (first | exact K0 | refine zQf_u ?_ (by decide) (by decide) | refine zQf_c ?_ (by decide) (by decide)))
theorem zQ_45 {F : Nat} {x1 x2 x3 : Int} {s : zS} {R : Int × zS} (e0 : zG F xm_c45 0 [224, x1, x2, x3] [] s R) : zQf s R.2 := by
  have loop : ∀ F : Nat, (∀ (x1 x2 x3 : Int) , ∀ (t : zS) (R : Int × zS), zG F xm_c45 2 [224, x1, x2, x3] [] t R → zQf s t → zQf s R.2) := by
    intro F
    induction F using Nat.strongRecOn with
    | _ F ih =>
      intro x1 x2 x3 t R e0 K0
      obtain ⟨F1, l1, ⟨c1, e1⟩ | ⟨c1, e1⟩⟩ := zi_45_2 e0
      · obtain ⟨F2, l2, e2⟩ := zi_45_5 e1
        obtain ⟨F3, l3, e3⟩ := zi_45_8 e2
        obtain ⟨F4, l4, ⟨c4, e4⟩ | ⟨c4, e4⟩⟩ := zi_45_9 e3
        · obtain ⟨F5, l5, r5, s5, q5, e5⟩ := zi_45_10 e4
          have k5 : s5 = _ := zJ_12 q5
          have K5 : zQf s s5 := by
            rw [k5]
            exact (by repeat (first | exact K0 | refine zQf_u ?_ (by decide) (by decide) | refine zQf_c ?_ (by decide) (by decide)))
          obtain ⟨F6, l6, ⟨c6, e6⟩ | ⟨c6, e6⟩⟩ := zi_45_15 e5
          · have k7 := zi_45_34 e6
            subst k7
            exact (by repeat (first | exact K5 | refine zQf_u ?_ (by decide) (by decide) | refine zQf_c ?_ (by decide) (by decide)))
          · obtain ⟨F8, l8, r8, s8, q8, e8⟩ := zi_45_16 e6
            have K8 : zQf s s8 := zQf_t (by repeat (first | exact K5 | refine zQf_u ?_ (by decide) (by decide) | refine zQf_c ?_ (by decide) (by decide))) (zQ_13 q8)
            obtain ⟨F9, l9, e9⟩ := zi_45_31 e8
            exact (ih _ (Nat.lt_trans l9 (Nat.lt_trans l8 (Nat.lt_trans l6 (Nat.lt_trans l5 (Nat.lt_trans l4 (Nat.lt_trans l3 (Nat.lt_trans l2 l1)))))))) _ _ _ _ _ e9 (by repeat (first | exact K8 | refine zQf_u ?_ (by decide) (by decide) | refine zQf_c ?_ (by decide) (by decide)))
        · have k10 := zi_45_34 e4
          subst k10
          exact (by repeat (first | exact K0 | refine zQf_u ?_ (by decide) (by decide) | refine zQf_c ?_ (by decide) (by decide)))
      · have k11 := zi_45_34 e1
        subst k11
        exact (by repeat (first | exact K0 | refine zQf_u ?_ (by decide) (by decide) | refine zQf_c ?_ (by decide) (by decide)))
  have K0 : zQf s s := zQf_r
  obtain ⟨F12, l12, e12⟩ := zi_45_0 e0
  exact (loop _) _ _ _ _ _ e12 (by repeat (first | exact K0 | refine zQf_u ?_ (by decide) (by decide) | refine zQf_c ?_ (by decide) (by decide)))
theorem zQ_46 {F : Nat} {x1 x2 x3 x4 x5 x6 x7 x8 x9 : Int} {s : zS} {R : Int × zS} (e0 : zG F xm_c46 0 [224, x1, x2, x3, x4, x5, x6, x7, x8, x9] [] s R) : zQf s R.2 := by
  have loop : ∀ F : Nat, (∀ (x1 x2 x3 x4 x5 x6 x7 x8 x9 : Int) , ∀ (t : zS) (R : Int × zS), zG F xm_c46 38 [224, x1, x2, x3, x4, x5, x6, x7, x8, x9] [] t R → zQf s t → zQf s R.2) ∧ (∀ (x1 x2 x3 x4 x5 x6 x7 x8 x9 : Int) , ∀ (t : zS) (R : Int × zS), zG F xm_c46 52 [224, x1, x2, x3, x4, x5, x6, x7, x8, x9] [] t R → zQf s t → zQf s R.2) := by
    intro F
    induction F using Nat.strongRecOn with
    | _ F ih =>
      refine ⟨?_, ?_⟩
      · intro x1 x2 x3 x4 x5 x6 x7 x8 x9 t R e0 K0
        obtain ⟨F1, l1, ⟨c1, e1⟩ | ⟨c1, e1⟩⟩ := zi_46_38 e0
        · have k2 := zi_46_99 e1
          subst k2
          exact (by repeat (first | exact K0 | refine zQf_u ?_ (by decide) (by decide) | refine zQf_c ?_ (by decide) (by decide)))
        · obtain ⟨F3, l3, ⟨c3, e3⟩ | ⟨c3, e3⟩⟩ := zi_46_41 e1
          · have k4 := zi_46_99 e3
            subst k4
            exact (by repeat (first | exact K0 | refine zQf_u ?_ (by decide) (by decide) | refine zQf_c ?_ (by decide) (by decide)))
          · obtain ⟨F5, l5, r5, s5, q5, e5⟩ := zi_46_44 e3
            have K5 : zQf s s5 := zQf_t (by repeat (first | exact K0 | refine zQf_u ?_ (by decide) (by decide) | refine zQf_c ?_ (by decide) (by decide))) (zQ_37 q5)
            obtain ⟨F6, l6, e6⟩ := zi_46_50 e5
            exact (ih _ (Nat.lt_trans l6 (Nat.lt_trans l5 (Nat.lt_trans l3 l1)))).2 _ _ _ _ _ _ _ _ _ _ _ e6 (by repeat (first | exact K5 | refine zQf_u ?_ (by decide) (by decide) | refine zQf_c ?_ (by decide) (by decide)))
      · intro x1 x2 x3 x4 x5 x6 x7 x8 x9 t R e0 K0
        obtain ⟨F7, l7, ⟨c7, e7⟩ | ⟨c7, e7⟩⟩ := zi_46_52 e0
        · obtain ⟨F8, l8, r8, s8, q8, e8⟩ := zi_46_58 e7
          have k8 : s8 = _ := zJ_120 q8
          have K8 : zQf s s8 := by
            rw [k8]
            exact (by repeat (first | exact K0 | refine zQf_u ?_ (by decide) (by decide) | refine zQf_c ?_ (by decide) (by decide)))
          obtain ⟨F9, l9, ⟨c9, e9⟩ | ⟨c9, e9⟩⟩ := zi_46_61 e8
          · obtain ⟨F10, l10, r10, s10, q10, e10⟩ := zi_46_63 e9
            have K10 : zQf s s10 := zQf_t (by repeat (first | exact K8 | refine zQf_u ?_ (by decide) (by decide) | refine zQf_c ?_ (by decide) (by decide))) (zQ_38 q10)
            obtain ⟨F11, l11, e11⟩ := zi_46_73 e10
            exact (ih _ (Nat.lt_trans l11 (Nat.lt_trans l10 (Nat.lt_trans l9 (Nat.lt_trans l8 l7))))).2 _ _ _ _ _ _ _ _ _ _ _ e11 (by repeat (first | exact K10 | refine zQf_u ?_ (by decide) (by decide) | refine zQf_c ?_ (by decide) (by decide)))
          · obtain ⟨F12, l12, e12⟩ := zi_46_73 e9
            exact (ih _ (Nat.lt_trans l12 (Nat.lt_trans l9 (Nat.lt_trans l8 l7)))).2 _ _ _ _ _ _ _ _ _ _ _ e12 (by repeat (first | exact K8 | refine zQf_u ?_ (by decide) (by decide) | refine zQf_c ?_ (by decide) (by decide)))
        · obtain ⟨F13, l13, r13, s13, q13, e13⟩ := zi_46_75 e7
          have K13 : zQf s s13 := zQf_t (by repeat (first | exact K0 | refine zQf_u ?_ (by decide) (by decide) | refine zQf_c ?_ (by decide) (by decide))) (zQ_45 q13)
          obtain ⟨F14, l14, ⟨c14, e14⟩ | ⟨c14, e14⟩⟩ := zi_46_79 e13
          · obtain ⟨F15, l15, r15, s15, q15, e15⟩ := zi_46_93 e14
            have k15 : s15 = _ := zJ_49 q15
            have K15 : zQf s s15 := by
              rw [k15]
              exact (by repeat (first | exact K13 | refine zQf_u ?_ (by decide) (by decide) | refine zQf_c ?_ (by decide) (by decide)))
            obtain ⟨F16, l16, e16⟩ := zi_46_96 e15
            exact (ih _ (Nat.lt_trans l16 (Nat.lt_trans l15 (Nat.lt_trans l14 (Nat.lt_trans l13 l7))))).1 _ _ _ _ _ _ _ _ _ _ _ e16 (by repeat (first | exact K15 | refine zQf_u ?_ (by decide) (by decide) | refine zQf_c ?_ (by decide) (by decide)))
          · obtain ⟨F17, l17, ⟨c17, e17⟩ | ⟨c17, e17⟩⟩ := zi_46_85 e14
            · have k18 := zi_46_91 e17
              subst k18
              exact (by repeat (first | exact K13 | refine zQf_u ?_ (by decide) (by decide) | refine zQf_c ?_ (by decide) (by decide)))
            · obtain ⟨F19, l19, r19, s19, q19, e19⟩ := zi_46_93 e17
              have k19 : s19 = _ := zJ_49 q19
              have K19 : zQf s s19 := by
                rw [k19]
                exact (by repeat (first | exact K13 | refine zQf_u ?_ (by decide) (by decide) | refine zQf_c ?_ (by decide) (by decide)))
              obtain ⟨F20, l20, e20⟩ := zi_46_96 e19
              exact (ih _ (Nat.lt_trans l20 (Nat.lt_trans l19 (Nat.lt_trans l17 (Nat.lt_trans l14 (Nat.lt_trans l13 l7)))))).1 _ _ _ _ _ _ _ _ _ _ _ e20 (by repeat (first | exact K19 | refine zQf_u ?_ (by decide) (by decide) | refine zQf_c ?_ (by decide) (by decide)))
  have K0 : zQf s s := zQf_r
  obtain ⟨F21, l21, r21, s21, q21, e21⟩ := zi_46_0 e0
  have k21 : s21 = _ := zJ_48 q21
  have K21 : zQf s s21 := by
    rw [k21]
    exact (by repeat (first | exact K0 | refine zQf_u ?_ (by decide) (by decide) | refine zQf_c ?_ (by decide) (by decide)))
  obtain ⟨F22, l22, r22, s22, q22, e22⟩ := zi_46_26 e21
  have k22 : s22 = _ := zJ_48 q22
  have K22 : zQf s s22 := by
    rw [k22]
    exact (by repeat (first | exact K21 | refine zQf_u ?_ (by decide) (by decide) | refine zQf_c ?_ (by decide) (by decide)))
  obtain ⟨F23, l23, r23, s23, q23, e23⟩ := zi_46_30 e22
  have K23 : zQf s s23 := zQf_t (by repeat (first | exact K22 | refine zQf_u ?_ (by decide) (by decide) | refine zQf_c ?_ (by decide) (by decide))) (zQ_44 q23)
  obtain ⟨F24, l24, e24⟩ := zi_46_34 e23
  exact (loop _).1 _ _ _ _ _ _ _ _ _ _ _ e24 (by repeat (first | exact K23 | refine zQf_u ?_ (by decide) (by decide) | refine zQf_c ?_ (by decide) (by decide)))
theorem zQ_47 {F : Nat} {x1 x2 x3 x4 x5 : Int} {s : zS} {R : Int × zS} (e0 : zG F xm_c47 0 [224, x1, x2, x3, x4, x5] [] s R) : zQf s R.2 := by
  have loop : ∀ F : Nat, (∀ (x1 x2 x3 x4 x5 : Int) , ∀ (t : zS) (R : Int × zS), zG F xm_c47 29 [224, x1, x2, x3, x4, x5] [] t R → zQf s t → zQf s R.2) := by
    intro F
    induction F using Nat.strongRecOn with
    | _ F ih =>
      intro x1 x2 x3 x4 x5 t R e0 K0
      obtain ⟨F1, l1, ⟨c1, e1⟩ | ⟨c1, e1⟩⟩ := zi_47_29 e0
      · have k2 := zi_47_68 e1
        subst k2
        exact (by repeat (first | exact K0 | refine zQf_u ?_ (by decide) (by decide) | refine zQf_c ?_ (by decide) (by decide)))
      · obtain ⟨F3, l3, ⟨c3, e3⟩ | ⟨c3, e3⟩⟩ := zi_47_32 e1
        · have k4 := zi_47_68 e3
          subst k4
          exact (by repeat (first | exact K0 | refine zQf_u ?_ (by decide) (by decide) | refine zQf_c ?_ (by decide) (by decide)))
        · obtain ⟨F5, l5, r5, s5, q5, e5⟩ := zi_47_35 e3
          have K5 : zQf s s5 := zQf_t (by repeat (first | exact K0 | refine zQf_u ?_ (by decide) (by decide) | refine zQf_c ?_ (by decide) (by decide))) (zQ_37 q5)
          obtain ⟨F6, l6, r6, s6, q6, e6⟩ := zi_47_41 e5
          have K6 : zQf s s6 := zQf_t (by repeat (first | exact K5 | refine zQf_u ?_ (by decide) (by decide) | refine zQf_c ?_ (by decide) (by decide))) (zQ_45 q6)
          obtain ⟨F7, l7, r7, s7, q7, e7⟩ := zi_47_54 e6
          have k7 : s7 = _ := zJ_120 q7
          have K7 : zQf s s7 := by
            rw [k7]
            exact (by repeat (first | exact K6 | refine zQf_u ?_ (by decide) (by decide) | refine zQf_c ?_ (by decide) (by decide)))
          obtain ⟨F8, l8, ⟨c8, e8⟩ | ⟨c8, e8⟩⟩ := zi_47_59 e7
          · have k9 := zi_47_60 e8
            subst k9
            exact (by repeat (first | exact K7 | refine zQf_u ?_ (by decide) (by decide) | refine zQf_c ?_ (by decide) (by decide)))
          · obtain ⟨F10, l10, r10, s10, q10, e10⟩ := zi_47_62 e8
            have k10 : s10 = _ := zJ_49 q10
            have K10 : zQf s s10 := by
              rw [k10]
              exact (by repeat (first | exact K7 | refine zQf_u ?_ (by decide) (by decide) | refine zQf_c ?_ (by decide) (by decide)))
            obtain ⟨F11, l11, e11⟩ := zi_47_65 e10
            exact (ih _ (Nat.lt_trans l11 (Nat.lt_trans l10 (Nat.lt_trans l8 (Nat.lt_trans l7 (Nat.lt_trans l6 (Nat.lt_trans l5 (Nat.lt_trans l3 l1)))))))) _ _ _ _ _ _ _ e11 (by repeat (first | exact K10 | refine zQf_u ?_ (by decide) (by decide) | refine zQf_c ?_ (by decide) (by decide)))
  have K0 : zQf s s := zQf_r
  obtain ⟨F12, l12, r12, s12, q12, e12⟩ := zi_47_0 e0
  have K12 : zQf s s12 := zQf_t (by repeat (first | exact K0 | refine zQf_u ?_ (by decide) (by decide) | refine zQf_c ?_ (by decide) (by decide))) (zQ_44 q12)
  obtain ⟨F13, l13, e13⟩ := zi_47_25 e12
  exact (loop _) _ _ _ _ _ _ _ e13 (by repeat (first | exact K12 | refine zQf_u ?_ (by decide) (by decide) | refine zQf_c ?_ (by decide) (by decide)))
theorem zQ_51 {F : Nat} {x1 x2 x3 : Int} {s : zS} {R : Int × zS} (e0 : zG F xm_c51 0 [224, x1, x2, x3] [] s R) : zQf s R.2 := by
  have loop : ∀ F : Nat, (∀ (x1 x2 x3 : Int) , ∀ (t : zS) (R : Int × zS), zG F xm_c51 11 [224, x1, x2, x3] [] t R → zQf s t → zQf s R.2) := by
    intro F
    induction F using Nat.strongRecOn with
    | _ F ih =>
      intro x1 x2 x3 t R e0 K0
      obtain ⟨F1, l1, ⟨c1, e1⟩ | ⟨c1, e1⟩⟩ := zi_51_11 e0
      · obtain ⟨F2, l2, ⟨c2, e2⟩ | ⟨c2, e2⟩⟩ := zi_51_14 e1
        · obtain ⟨F3, l3, r3, s3, q3, e3⟩ := zi_51_18 e2
          have k3 : s3 = _ := zJ_40 q3
          have K3 : zQf s s3 := by
            rw [k3]
            exact (by repeat (first | exact K0 | refine zQf_u ?_ (by decide) (by decide) | refine zQf_c ?_ (by decide) (by decide)))
          obtain ⟨F4, l4, e4⟩ := zi_51_30 e3
          exact (ih _ (Nat.lt_trans l4 (Nat.lt_trans l3 (Nat.lt_trans l2 l1)))) _ _ _ _ _ e4 (by repeat (first | exact K3 | refine zQf_u ?_ (by decide) (by decide) | refine zQf_c ?_ (by decide) (by decide)))
        · have k5 := zi_51_33 e2
          subst k5
          exact (by repeat (first | exact K0 | refine zQf_u ?_ (by decide) (by decide) | refine zQf_c ?_ (by decide) (by decide)))
      · have k6 := zi_51_33 e1
        subst k6
        exact (by repeat (first | exact K0 | refine zQf_u ?_ (by decide) (by decide) | refine zQf_c ?_ (by decide) (by decide)))
  have K0 : zQf s s := zQf_r
  obtain ⟨F7, l7, ⟨c7, e7⟩ | ⟨c7, e7⟩⟩ := zi_51_0 e0
  · obtain ⟨F8, l8, e8⟩ := zi_51_3 e7
    exact (loop _) _ _ _ _ _ e8 (by repeat (first | exact K0 | refine zQf_u ?_ (by decide) (by decide) | refine zQf_c ?_ (by decide) (by decide)))
  · obtain ⟨F9, l9, e9⟩ := zi_51_9 e7
    exact (loop _) _ _ _ _ _ e9 (by repeat (first | exact K0 | refine zQf_u ?_ (by decide) (by decide) | refine zQf_c ?_ (by decide) (by decide)))
theorem zQ_50 {F : Nat} {x1 x2 x3 : Int} {s : zS} {R : Int × zS} (e0 : zG F xm_c50 0 [224, x1, x2, x3] [] s R) : zQf s R.2 := by
  have loop : ∀ F : Nat, (∀ (x1 x2 x3 : Int) , ∀ (t : zS) (R : Int × zS), zG F xm_c50 26 [224, x1, x2, x3] [] t R → zQf s t → zQf s R.2) ∧ (∀ (x1 x2 x3 : Int) , ∀ (t : zS) (R : Int × zS), zG F xm_c50 34 [224, x1, x2, x3] [] t R → zQf s t → zQf s R.2) := by
    intro F
    induction F using Nat.strongRecOn with
    | _ F ih =>
      refine ⟨?_, ?_⟩
      · intro x1 x2 x3 t R e0 K0
        obtain ⟨F1, l1, ⟨c1, e1⟩ | ⟨c1, e1⟩⟩ := zi_50_26 e0
        · obtain ⟨F2, l2, e2⟩ := zi_50_32 e1
          exact (ih _ (Nat.lt_trans l2 l1)).2 _ _ _ _ _ e2 (by repeat (first | exact K0 | refine zQf_u ?_ (by decide) (by decide) | refine zQf_c ?_ (by decide) (by decide)))
        · have k3 := zi_50_75 e1
          subst k3
          exact (by repeat (first | exact K0 | refine zQf_u ?_ (by decide) (by decide) | refine zQf_c ?_ (by decide) (by decide)))
      · intro x1 x2 x3 t R e0 K0
        obtain ⟨F4, l4, ⟨c4, e4⟩ | ⟨c4, e4⟩⟩ := zi_50_34 e0
        · obtain ⟨F5, l5, e5⟩ := zi_50_73 e4
          exact (ih _ (Nat.lt_trans l5 l4)).1 _ _ _ _ _ e5 (by repeat (first | exact K0 | refine zQf_u ?_ (by decide) (by decide) | refine zQf_c ?_ (by decide) (by decide)))
        · obtain ⟨F6, l6, ⟨c6, e6⟩ | ⟨c6, e6⟩⟩ := zi_50_37 e4
          · obtain ⟨F7, l7, e7⟩ := zi_50_73 e6
            exact (ih _ (Nat.lt_trans l7 (Nat.lt_trans l6 l4))).1 _ _ _ _ _ e7 (by repeat (first | exact K0 | refine zQf_u ?_ (by decide) (by decide) | refine zQf_c ?_ (by decide) (by decide)))
          · obtain ⟨F8, l8, r8, s8, q8, e8⟩ := zi_50_40 e6
            have k8 : s8 = _ := zJ_120 q8
            have K8 : zQf s s8 := by
              rw [k8]
              exact (by repeat (first | exact K0 | refine zQf_u ?_ (by decide) (by decide) | refine zQf_c ?_ (by decide) (by decide)))
            obtain ⟨F9, l9, ⟨c9, e9⟩ | ⟨c9, e9⟩⟩ := zi_50_46 e8
            · obtain ⟨F10, l10, r10, s10, q10, e10⟩ := zi_50_47 e9
              have K10 : zQf s s10 := zQf_t (by repeat (first | exact K8 | refine zQf_u ?_ (by decide) (by decide) | refine zQf_c ?_ (by decide) (by decide))) (zQ_36 q10)
              obtain ⟨F11, l11, r11, s11, q11, e11⟩ := zi_50_50 e10
              have K11 : zQf s s11 := zQf_t (by repeat (first | exact K10 | refine zQf_u ?_ (by decide) (by decide) | refine zQf_c ?_ (by decide) (by decide))) (zQ_38 q11)
              obtain ⟨F12, l12, r12, s12, q12, e12⟩ := zi_50_57 e11
              have K12 : zQf s s12 := zQf_t (by repeat (first | exact K11 | refine zQf_u ?_ (by decide) (by decide) | refine zQf_c ?_ (by decide) (by decide))) (zQ_45 q12)
              obtain ⟨F13, l13, r13, s13, q13, e13⟩ := zi_50_61 e12
              have k13 : s13 = _ := zJ_77 q13
              have K13 : zQf s s13 := by
                rw [k13]
                exact (by repeat (first | exact K12 | refine zQf_u ?_ (by decide) (by decide) | refine zQf_c ?_ (by decide) (by decide)))
              obtain ⟨F14, l14, ⟨c14, e14⟩ | ⟨c14, e14⟩⟩ := zi_50_66 e13
              · obtain ⟨F15, l15, e15⟩ := zi_50_71 e14
                exact (ih _ (Nat.lt_trans l15 (Nat.lt_trans l14 (Nat.lt_trans l13 (Nat.lt_trans l12 (Nat.lt_trans l11 (Nat.lt_trans l10 (Nat.lt_trans l9 (Nat.lt_trans l8 (Nat.lt_trans l6 l4)))))))))).2 _ _ _ _ _ e15 (by repeat (first | exact K13 | refine zQf_u ?_ (by decide) (by decide) | refine zQf_c ?_ (by decide) (by decide)))
              · obtain ⟨F16, l16, r16, s16, q16, e16⟩ := zi_50_67 e14
                have K16 : zQf s s16 := zQf_t (by repeat (first | exact K13 | refine zQf_u ?_ (by decide) (by decide) | refine zQf_c ?_ (by decide) (by decide))) (zQ_51 q16)
                obtain ⟨F17, l17, e17⟩ := zi_50_71 e16
                exact (ih _ (Nat.lt_trans l17 (Nat.lt_trans l16 (Nat.lt_trans l14 (Nat.lt_trans l13 (Nat.lt_trans l12 (Nat.lt_trans l11 (Nat.lt_trans l10 (Nat.lt_trans l9 (Nat.lt_trans l8 (Nat.lt_trans l6 l4))))))))))).2 _ _ _ _ _ e17 (by repeat (first | exact K16 | refine zQf_u ?_ (by decide) (by decide) | refine zQf_c ?_ (by decide) (by decide)))
            · obtain ⟨F18, l18, e18⟩ := zi_50_73 e9
              exact (ih _ (Nat.lt_trans l18 (Nat.lt_trans l9 (Nat.lt_trans l8 (Nat.lt_trans l6 l4))))).1 _ _ _ _ _ e18 (by repeat (first | exact K8 | refine zQf_u ?_ (by decide) (by decide) | refine zQf_c ?_ (by decide) (by decide)))
  have K0 : zQf s s := zQf_r
  obtain ⟨F19, l19, r19, s19, q19, e19⟩ := zi_50_0 e0
  have K19 : zQf s s19 := zQf_t (by repeat (first | exact K0 | refine zQf_u ?_ (by decide) (by decide) | refine zQf_c ?_ (by decide) (by decide))) (zQ_3 q19)
  obtain ⟨F20, l20, r20, s20, q20, e20⟩ := zi_50_14 e19
  have K20 : zQf s s20 := zQf_t (by repeat (first | exact K19 | refine zQf_u ?_ (by decide) (by decide) | refine zQf_c ?_ (by decide) (by decide))) (zQ_44 q20)
  obtain ⟨F21, l21, e21⟩ := zi_50_24 e20
  exact (loop _).1 _ _ _ _ _ e21 (by repeat (first | exact K20 | refine zQf_u ?_ (by decide) (by decide) | refine zQf_c ?_ (by decide) (by decide)))
theorem zQ_53 {F : Nat} {x1 x2 x3 x4 x5 : Int} {s : zS} {R : Int × zS} (e0 : zG F xm_c53 0 [224, x1, x2, x3, x4, x5] [] s R) : zQf s R.2 := by
  have loop : ∀ F : Nat, (∀ (x1 x2 x3 x4 x5 : Int) , ∀ (t : zS) (R : Int × zS), zG F xm_c53 8 [224, x1, x2, x3, x4, x5] [] t R → zQf s t → zQf s R.2) := by
    intro F
    induction F using Nat.strongRecOn with
    | _ F ih =>
      intro x1 x2 x3 x4 x5 t R e0 K0
      obtain ⟨F1, l1, ⟨c1, e1⟩ | ⟨c1, e1⟩⟩ := zi_53_8 e0
      · obtain ⟨F2, l2, ⟨c2, e2⟩ | ⟨c2, e2⟩⟩ := zi_53_12 e1
        · obtain ⟨F3, l3, ⟨c3, e3⟩ | ⟨c3, e3⟩⟩ := zi_53_15 e2
          · obtain ⟨F4, l4, ⟨c4, e4⟩ | ⟨c4, e4⟩⟩ := zi_53_27 e3
            · obtain ⟨F5, l5, e5⟩ := zi_53_57 e4
              exact (ih _ (Nat.lt_trans l5 (Nat.lt_trans l4 (Nat.lt_trans l3 (Nat.lt_trans l2 l1))))) _ _ _ _ _ _ _ e5 (by repeat (first | exact K0 | refine zQf_u ?_ (by decide) (by decide) | refine zQf_c ?_ (by decide) (by decide)))
            · obtain ⟨F6, l6, e6⟩ := zi_53_37 e4
              obtain ⟨F7, l7, e7⟩ := zi_53_40 e6
              obtain ⟨F8, l8, ⟨c8, e8⟩ | ⟨c8, e8⟩⟩ := zi_53_41 e7
              · obtain ⟨F9, l9, e9⟩ := zi_53_42 e8
                exact (ih _ (Nat.lt_trans l9 (Nat.lt_trans l8 (Nat.lt_trans l7 (Nat.lt_trans l6 (Nat.lt_trans l4 (Nat.lt_trans l3 (Nat.lt_trans l2 l1)))))))) _ _ _ _ _ _ _ e9 (by repeat (first | exact K0 | refine zQf_u ?_ (by decide) (by decide) | refine zQf_c ?_ (by decide) (by decide)))
              · obtain ⟨F10, l10, e10⟩ := zi_53_57 e8
                exact (ih _ (Nat.lt_trans l10 (Nat.lt_trans l8 (Nat.lt_trans l7 (Nat.lt_trans l6 (Nat.lt_trans l4 (Nat.lt_trans l3 (Nat.lt_trans l2 l1)))))))) _ _ _ _ _ _ _ e10 (by repeat (first | exact K0 | refine zQf_u ?_ (by decide) (by decide) | refine zQf_c ?_ (by decide) (by decide)))
          · obtain ⟨F11, l11, ⟨c11, e11⟩ | ⟨c11, e11⟩⟩ := zi_53_29 e3
            · obtain ⟨F12, l12, e12⟩ := zi_53_57 e11
              exact (ih _ (Nat.lt_trans l12 (Nat.lt_trans l11 (Nat.lt_trans l3 (Nat.lt_trans l2 l1))))) _ _ _ _ _ _ _ e12 (by repeat (first | exact K0 | refine zQf_u ?_ (by decide) (by decide) | refine zQf_c ?_ (by decide) (by decide)))
            · obtain ⟨F13, l13, e13⟩ := zi_53_37 e11
              obtain ⟨F14, l14, e14⟩ := zi_53_40 e13
              obtain ⟨F15, l15, ⟨c15, e15⟩ | ⟨c15, e15⟩⟩ := zi_53_41 e14
              · obtain ⟨F16, l16, e16⟩ := zi_53_42 e15
                exact (ih _ (Nat.lt_trans l16 (Nat.lt_trans l15 (Nat.lt_trans l14 (Nat.lt_trans l13 (Nat.lt_trans l11 (Nat.lt_trans l3 (Nat.lt_trans l2 l1)))))))) _ _ _ _ _ _ _ e16 (by repeat (first | exact K0 | refine zQf_u ?_ (by decide) (by decide) | refine zQf_c ?_ (by decide) (by decide)))
              · obtain ⟨F17, l17, e17⟩ := zi_53_57 e15
                exact (ih _ (Nat.lt_trans l17 (Nat.lt_trans l15 (Nat.lt_trans l14 (Nat.lt_trans l13 (Nat.lt_trans l11 (Nat.lt_trans l3 (Nat.lt_trans l2 l1)))))))) _ _ _ _ _ _ _ e17 (by repeat (first | exact K0 | refine zQf_u ?_ (by decide) (by decide) | refine zQf_c ?_ (by decide) (by decide)))
        · have k18 := zi_53_59 e2
          subst k18
          exact (by repeat (first | exact K0 | refine zQf_u ?_ (by decide) (by decide) | refine zQf_c ?_ (by decide) (by decide)))
      · have k19 := zi_53_59 e1
        subst k19
        exact (by repeat (first | exact K0 | refine zQf_u ?_ (by decide) (by decide) | refine zQf_c ?_ (by decide) (by decide)))
  have K0 : zQf s s := zQf_r
  obtain ⟨F20, l20, r20, s20, q20, e20⟩ := zi_53_0 e0
  have K20 : zQf s s20 := zQf_t (by repeat (first | exact K0 | refine zQf_u ?_ (by decide) (by decide) | refine zQf_c ?_ (by decide) (by decide))) (zQ_240 q20 (by decide) (by decide))
  obtain ⟨F21, l21, e21⟩ := zi_53_6 e20
  exact (loop _) _ _ _ _ _ _ _ e21 (by repeat (first | exact K20 | refine zQf_u ?_ (by decide) (by decide) | refine zQf_c ?_ (by decide) (by decide)))
theorem zQ_52 {F : Nat} {x1 x2 x3 : Int} {s : zS} {R : Int × zS} (e0 : zG F xm_c52 0 [224, x1, x2, x3] [] s R) : zQf s R.2 := by
  have loop : ∀ F : Nat, (∀ (x1 x2 x3 : Int) , ∀ (t : zS) (R : Int × zS), zG F xm_c52 4 [224, x1, x2, x3] [] t R → zQf s t → zQf s R.2) := by
    intro F
    induction F using Nat.strongRecOn with
    | _ F ih =>
      intro x1 x2 x3 t R e0 K0
      obtain ⟨F1, l1, ⟨c1, e1⟩ | ⟨c1, e1⟩⟩ := zi_52_4 e0
      · obtain ⟨F2, l2, r2, s2, q2, e2⟩ := zi_52_10 e1
        have K2 : zQf s s2 := zQf_t (by repeat (first | exact K0 | refine zQf_u ?_ (by decide) (by decide) | refine zQf_c ?_ (by decide) (by decide))) (zQ_53 q2)
        obtain ⟨F3, l3, ⟨c3, e3⟩ | ⟨c3, e3⟩⟩ := zi_52_13 e2
        · obtain ⟨F4, l4, e4⟩ := zi_52_21 e3
          exact (ih _ (Nat.lt_trans l4 (Nat.lt_trans l3 (Nat.lt_trans l2 l1)))) _ _ _ _ _ e4 (by repeat (first | exact K2 | refine zQf_u ?_ (by decide) (by decide) | refine zQf_c ?_ (by decide) (by decide)))
        · obtain ⟨F5, l5, ⟨c5, e5⟩ | ⟨c5, e5⟩⟩ := zi_52_17 e3
          · obtain ⟨F6, l6, e6⟩ := zi_52_21 e5
            exact (ih _ (Nat.lt_trans l6 (Nat.lt_trans l5 (Nat.lt_trans l3 (Nat.lt_trans l2 l1))))) _ _ _ _ _ e6 (by repeat (first | exact K2 | refine zQf_u ?_ (by decide) (by decide) | refine zQf_c ?_ (by decide) (by decide)))
          · obtain ⟨F7, l7, e7⟩ := zi_52_26 e5
            exact (ih _ (Nat.lt_trans l7 (Nat.lt_trans l5 (Nat.lt_trans l3 (Nat.lt_trans l2 l1))))) _ _ _ _ _ e7 (by repeat (first | exact K2 | refine zQf_u ?_ (by decide) (by decide) | refine zQf_c ?_ (by decide) (by decide)))
      · have k8 := zi_52_28 e1
        subst k8
        exact (by repeat (first | exact K0 | refine zQf_u ?_ (by decide) (by decide) | refine zQf_c ?_ (by decide) (by decide)))
  have K0 : zQf s s := zQf_r
  obtain ⟨F9, l9, e9⟩ := zi_52_0 e0
  exact (loop _) _ _ _ _ _ e9 (by repeat (first | exact K0 | refine zQf_u ?_ (by decide) (by decide) | refine zQf_c ?_ (by decide) (by decide)))
theorem zQ_54 {F : Nat} {x1 x2 x3 x4 : Int} {s : zS} {R : Int × zS} (e0 : zG F xm_c54 0 [224, x1, x2, x3, x4] [] s R) : zQf s R.2 := by
  have loop : ∀ F : Nat, (∀ (x1 x2 x3 x4 : Int) , ∀ (t : zS) (R : Int × zS), zG F xm_c54 7 [224, x1, x2, x3, x4] [] t R → zQf s t → zQf s R.2) := by
    intro F
    induction F using Nat.strongRecOn with
    | _ F ih =>
      intro x1 x2 x3 x4 t R e0 K0
      obtain ⟨F1, l1, ⟨c1, e1⟩ | ⟨c1, e1⟩⟩ := zi_54_7 e0
      · obtain ⟨F2, l2, r2, s2, q2, e2⟩ := zi_54_13 e1
        have k2 : s2 = _ := zJ_120 q2
        have K2 : zQf s s2 := by
          rw [k2]
          exact (by repeat (first | exact K0 | refine zQf_u ?_ (by decide) (by decide) | refine zQf_c ?_ (by decide) (by decide)))
        obtain ⟨F3, l3, ⟨c3, e3⟩ | ⟨c3, e3⟩⟩ := zi_54_19 e2
        · obtain ⟨F4, l4, e4⟩ := zi_54_21 e3
          exact (ih _ (Nat.lt_trans l4 (Nat.lt_trans l3 (Nat.lt_trans l2 l1)))) _ _ _ _ _ _ e4 (by repeat (first | exact K2 | refine zQf_u ?_ (by decide) (by decide) | refine zQf_c ?_ (by decide) (by decide)))
        · obtain ⟨F5, l5, r5, s5, q5, e5⟩ := zi_54_22 e3
          have K5 : zQf s s5 := zQf_t (by repeat (first | exact K2 | refine zQf_u ?_ (by decide) (by decide) | refine zQf_c ?_ (by decide) (by decide))) (zQ_37 q5)
          obtain ⟨F6, l6, r6, s6, q6, e6⟩ := zi_54_28 e5
          have K6 : zQf s s6 := zQf_t (by repeat (first | exact K5 | refine zQf_u ?_ (by decide) (by decide) | refine zQf_c ?_ (by decide) (by decide))) (zQ_45 q6)
          obtain ⟨F7, l7, r7, s7, q7, e7⟩ := zi_54_43 e6
          have k7 : s7 = _ := zJ_239 q7
          have K7 : zQf s s7 := by
            rw [k7]
            exact (by repeat (first | exact K6 | refine zQf_u ?_ (by decide) (by decide) | refine zQf_c ?_ (by decide) (by decide)))
          obtain ⟨F8, l8, ⟨c8, e8⟩ | ⟨c8, e8⟩⟩ := zi_54_47 e7
          · obtain ⟨F9, l9, e9⟩ := zi_54_55 e8
            exact (ih _ (Nat.lt_trans l9 (Nat.lt_trans l8 (Nat.lt_trans l7 (Nat.lt_trans l6 (Nat.lt_trans l5 (Nat.lt_trans l3 (Nat.lt_trans l2 l1)))))))) _ _ _ _ _ _ e9 (by repeat (first | exact K7 | refine zQf_u ?_ (by decide) (by decide) | refine zQf_c ?_ (by decide) (by decide)))
          · obtain ⟨F10, l10, ⟨c10, e10⟩ | ⟨c10, e10⟩⟩ := zi_54_51 e8
            · obtain ⟨F11, l11, e11⟩ := zi_54_55 e10
              exact (ih _ (Nat.lt_trans l11 (Nat.lt_trans l10 (Nat.lt_trans l8 (Nat.lt_trans l7 (Nat.lt_trans l6 (Nat.lt_trans l5 (Nat.lt_trans l3 (Nat.lt_trans l2 l1))))))))) _ _ _ _ _ _ e11 (by repeat (first | exact K7 | refine zQf_u ?_ (by decide) (by decide) | refine zQf_c ?_ (by decide) (by decide)))
            · obtain ⟨F12, l12, e12⟩ := zi_54_60 e10
              exact (ih _ (Nat.lt_trans l12 (Nat.lt_trans l10 (Nat.lt_trans l8 (Nat.lt_trans l7 (Nat.lt_trans l6 (Nat.lt_trans l5 (Nat.lt_trans l3 (Nat.lt_trans l2 l1))))))))) _ _ _ _ _ _ e12 (by repeat (first | exact K7 | refine zQf_u ?_ (by decide) (by decide) | refine zQf_c ?_ (by decide) (by decide)))
      · have k13 := zi_54_62 e1
        subst k13
        exact (by repeat (first | exact K0 | refine zQf_u ?_ (by decide) (by decide) | refine zQf_c ?_ (by decide) (by decide)))
  have K0 : zQf s s := zQf_r
  obtain ⟨F14, l14, r14, s14, q14, e14⟩ := zi_54_0 e0
  have K14 : zQf s s14 := zQf_t (by repeat (first | exact K0 | refine zQf_u ?_ (by decide) (by decide) | refine zQf_c ?_ (by decide) (by decide))) (zQ_44 q14)
  obtain ⟨F15, l15, e15⟩ := zi_54_5 e14
  exact (loop _) _ _ _ _ _ _ e15 (by repeat (first | exact K14 | refine zQf_u ?_ (by decide) (by decide) | refine zQf_c ?_ (by decide) (by decide)))
theorem zQ_55 {F : Nat} {x1 x2 : Int} {s : zS} {R : Int × zS} (e0 : zG F xm_c55 0 [224, x1, x2] [] s R) : zQf s R.2 := by
  have loop : ∀ F : Nat, (∀ (x1 x2 : Int) , ∀ (t : zS) (R : Int × zS), zG F xm_c55 11 [224, x1, x2] [] t R → zQf s t → zQf s R.2) := by
    intro F
    induction F using Nat.strongRecOn with
    | _ F ih =>
      intro x1 x2 t R e0 K0
      obtain ⟨F1, l1, ⟨c1, e1⟩ | ⟨c1, e1⟩⟩ := zi_55_11 e0
      · obtain ⟨F2, l2, r2, s2, q2, e2⟩ := zi_55_17 e1
        have k2 : s2 = _ := zJ_120 q2
        have K2 : zQf s s2 := by
          rw [k2]
          exact (by repeat (first | exact K0 | refine zQf_u ?_ (by decide) (by decide) | refine zQf_c ?_ (by decide) (by decide)))
        obtain ⟨F3, l3, ⟨c3, e3⟩ | ⟨c3, e3⟩⟩ := zi_55_29 e2
        · obtain ⟨F4, l4, e4⟩ := zi_55_31 e3
          exact (ih _ (Nat.lt_trans l4 (Nat.lt_trans l3 (Nat.lt_trans l2 l1)))) _ _ _ _ e4 (by repeat (first | exact K2 | refine zQf_u ?_ (by decide) (by decide) | refine zQf_c ?_ (by decide) (by decide)))
        · obtain ⟨F5, l5, e5⟩ := zi_55_39 e3
          exact (ih _ (Nat.lt_trans l5 (Nat.lt_trans l3 (Nat.lt_trans l2 l1)))) _ _ _ _ e5 (by repeat (first | exact K2 | refine zQf_u ?_ (by decide) (by decide) | refine zQf_c ?_ (by decide) (by decide)))
      · have k6 := zi_55_41 e1
        subst k6
        exact (by repeat (first | exact K0 | refine zQf_u ?_ (by decide) (by decide) | refine zQf_c ?_ (by decide) (by decide)))
  have K0 : zQf s s := zQf_r
  obtain ⟨F7, l7, r7, s7, q7, e7⟩ := zi_55_0 e0
  have K7 : zQf s s7 := zQf_t (by repeat (first | exact K0 | refine zQf_u ?_ (by decide) (by decide) | refine zQf_c ?_ (by decide) (by decide))) (zQ_44 q7)
  obtain ⟨F8, l8, r8, s8, q8, e8⟩ := zi_55_3 e7
  have K8 : zQf s s8 := zQf_t (by repeat (first | exact K7 | refine zQf_u ?_ (by decide) (by decide) | refine zQf_c ?_ (by decide) (by decide))) (zQ_45 q8)
  obtain ⟨F9, l9, e9⟩ := zi_55_7 e8
  exact (loop _) _ _ _ _ e9 (by repeat (first | exact K8 | refine zQf_u ?_ (by decide) (by decide) | refine zQf_c ?_ (by decide) (by decide)))
theorem zQ_56 {F : Nat} {x1 x2 x3 x4 x5 x6 x7 x8 x9 x10 x11 : Int} {s : zS} {R : Int × zS} (e0 : zG F xm_c56 0 [224, x1, x2, x3, x4, x5, x6, x7, x8, x9, x10, x11] [] s R) : zQf s R.2 := by
  have loop : ∀ F : Nat, (∀ (x1 x2 x3 x4 x5 x6 x7 x8 x9 x10 x11 : Int) , ∀ (t : zS) (R : Int × zS), zG F xm_c56 24 [224, x1, x2, x3, x4, x5, x6, x7, x8, x9, x10, x11] [] t R → zQf s t → zQf s R.2) := by
    intro F
    induction F using Nat.strongRecOn with
    | _ F ih =>
      intro x1 x2 x3 x4 x5 x6 x7 x8 x9 x10 x11 t R e0 K0
      obtain ⟨F1, l1, ⟨c1, e1⟩ | ⟨c1, e1⟩⟩ := zi_56_24 e0
      · obtain ⟨F2, l2, r2, s2, q2, e2⟩ := zi_56_27 e1
        have k2 : s2 = _ := zJ_57 q2
        have K2 : zQf s s2 := by
          rw [k2]
          exact (by repeat (first | exact K0 | refine zQf_u ?_ (by decide) (by decide) | refine zQf_c ?_ (by decide) (by decide)))
        obtain ⟨F3, l3, r3, s3, q3, e3⟩ := zi_56_29 e2
        have k3 : s3 = _ := zJ_57 q3
        have K3 : zQf s s3 := by
          rw [k3]
          exact (by repeat (first | exact K2 | refine zQf_u ?_ (by decide) (by decide) | refine zQf_c ?_ (by decide) (by decide)))
        obtain ⟨F4, l4, r4, s4, q4, e4⟩ := zi_56_40 e3
        have k4 : s4 = _ := zJ_4 q4
        have K4 : zQf s s4 := by
          rw [k4]
          exact (by repeat (first | exact K3 | refine zQf_u ?_ (by decide) (by decide) | refine zQf_c ?_ (by decide) (by decide)))
        obtain ⟨F5, l5, ⟨c5, e5⟩ | ⟨c5, e5⟩⟩ := zi_56_53 e4
        · obtain ⟨F6, l6, r6, s6, q6, e6⟩ := zi_56_66 e5
          have K6 : zQf s s6 := zQf_t (by repeat (first | exact K4 | refine zQf_u ?_ (by decide) (by decide) | refine zQf_c ?_ (by decide) (by decide))) (zQ_44 q6)
          obtain ⟨F7, l7, r7, s7, q7, e7⟩ := zi_56_73 e6
          have K7 : zQf s s7 := zQf_t (by repeat (first | exact K6 | refine zQf_u ?_ (by decide) (by decide) | refine zQf_c ?_ (by decide) (by decide))) (zQ_45 q7)
          obtain ⟨F8, l8, e8⟩ := zi_56_77 e7
          exact (ih _ (Nat.lt_trans l8 (Nat.lt_trans l7 (Nat.lt_trans l6 (Nat.lt_trans l5 (Nat.lt_trans l4 (Nat.lt_trans l3 (Nat.lt_trans l2 l1)))))))) _ _ _ _ _ _ _ _ _ _ _ _ _ e8 (by repeat (first | exact K7 | refine zQf_u ?_ (by decide) (by decide) | refine zQf_c ?_ (by decide) (by decide)))
        · obtain ⟨F9, l9, ⟨c9, e9⟩ | ⟨c9, e9⟩⟩ := zi_56_54 e5
          · obtain ⟨F10, l10, r10, s10, q10, e10⟩ := zi_56_66 e9
            have K10 : zQf s s10 := zQf_t (by repeat (first | exact K4 | refine zQf_u ?_ (by decide) (by decide) | refine zQf_c ?_ (by decide) (by decide))) (zQ_44 q10)
            obtain ⟨F11, l11, r11, s11, q11, e11⟩ := zi_56_73 e10
            have K11 : zQf s s11 := zQf_t (by repeat (first | exact K10 | refine zQf_u ?_ (by decide) (by decide) | refine zQf_c ?_ (by decide) (by decide))) (zQ_45 q11)
            obtain ⟨F12, l12, e12⟩ := zi_56_77 e11
            exact (ih _ (Nat.lt_trans l12 (Nat.lt_trans l11 (Nat.lt_trans l10 (Nat.lt_trans l9 (Nat.lt_trans l5 (Nat.lt_trans l4 (Nat.lt_trans l3 (Nat.lt_trans l2 l1))))))))) _ _ _ _ _ _ _ _ _ _ _ _ _ e12 (by repeat (first | exact K11 | refine zQf_u ?_ (by decide) (by decide) | refine zQf_c ?_ (by decide) (by decide)))
          · obtain ⟨F13, l13, r13, s13, q13, e13⟩ := zi_56_61 e9
            have K13 : zQf s s13 := zQf_t (by repeat (first | exact K4 | refine zQf_u ?_ (by decide) (by decide) | refine zQf_c ?_ (by decide) (by decide))) (zQ_5 q13)
            obtain ⟨F14, l14, r14, s14, q14, e14⟩ := zi_56_66 e13
            have K14 : zQf s s14 := zQf_t (by repeat (first | exact K13 | refine zQf_u ?_ (by decide) (by decide) | refine zQf_c ?_ (by decide) (by decide))) (zQ_44 q14)
            obtain ⟨F15, l15, r15, s15, q15, e15⟩ := zi_56_73 e14
            have K15 : zQf s s15 := zQf_t (by repeat (first | exact K14 | refine zQf_u ?_ (by decide) (by decide) | refine zQf_c ?_ (by decide) (by decide))) (zQ_45 q15)
            obtain ⟨F16, l16, e16⟩ := zi_56_77 e15
            exact (ih _ (Nat.lt_trans l16 (Nat.lt_trans l15 (Nat.lt_trans l14 (Nat.lt_trans l13 (Nat.lt_trans l9 (Nat.lt_trans l5 (Nat.lt_trans l4 (Nat.lt_trans l3 (Nat.lt_trans l2 l1)))))))))) _ _ _ _ _ _ _ _ _ _ _ _ _ e16 (by repeat (first | exact K15 | refine zQf_u ?_ (by decide) (by decide) | refine zQf_c ?_ (by decide) (by decide)))
      · have k17 := zi_56_83 e1
        subst k17
        exact (by repeat (first | exact K0 | refine zQf_u ?_ (by decide) (by decide) | refine zQf_c ?_ (by decide) (by decide)))
  have K0 : zQf s s := zQf_r
  obtain ⟨F18, l18, ⟨c18, e18⟩ | ⟨c18, e18⟩⟩ := zi_56_0 e0
  · obtain ⟨F19, l19, ⟨c19, e19⟩ | ⟨c19, e19⟩⟩ := zi_56_12 e18
    · obtain ⟨F20, l20, e20⟩ := zi_56_15 e19
      exact (loop _) _ _ _ _ _ _ _ _ _ _ _ _ _ e20 (by repeat (first | exact K0 | refine zQf_u ?_ (by decide) (by decide) | refine zQf_c ?_ (by decide) (by decide)))
    · have k21 := zi_56_14 e19
      subst k21
      exact (by repeat (first | exact K0 | refine zQf_u ?_ (by decide) (by decide) | refine zQf_c ?_ (by decide) (by decide)))
  · have k22 := zi_56_14 e18
    subst k22
    exact (by repeat (first | exact K0 | refine zQf_u ?_ (by decide) (by decide) | refine zQf_c ?_ (by decide) (by decide)))
theorem zQ_102 {F : Nat} {x1 : Int} {s : zS} {R : Int × zS} (e0 : zG F xm_c102 0 [7, x1] [] s R) : zQf s R.2 := by
  have K0 : zQf s s := zQf_r
  obtain ⟨F1, l1, r1, s1, q1, e1⟩ := zi_102_0 e0
  have k1 : s1 = _ := zJ_21 q1
  have K1 : zQf s s1 := by
    rw [k1]
    exact (by repeat (first | exact K0 | refine zQf_u ?_ (by decide) (by decide) | refine zQf_c ?_ (by decide) (by decide)))
  obtain ⟨F2, l2, ⟨c2, e2⟩ | ⟨c2, e2⟩⟩ := zi_102_4 e1
  · have k3 := zi_102_10 e2
    subst k3
    exact (by repeat (first | exact K1 | refine zQf_u ?_ (by decide) (by decide) | refine zQf_c ?_ (by decide) (by decide)))
  · obtain ⟨F4, l4, ⟨c4, e4⟩ | ⟨c4, e4⟩⟩ := zi_102_5 e2
    · have k5 := zi_102_10 e4
      subst k5
      exact (by repeat (first | exact K1 | refine zQf_u ?_ (by decide) (by decide) | refine zQf_c ?_ (by decide) (by decide)))
    · obtain ⟨F6, l6, ⟨c6, e6⟩ | ⟨c6, e6⟩⟩ := zi_102_7 e4
      · have k7 := zi_102_10 e6
        subst k7
        exact (by repeat (first | exact K1 | refine zQf_u ?_ (by decide) (by decide) | refine zQf_c ?_ (by decide) (by decide)))
      · obtain ⟨F8, l8, r8, s8, q8, e8⟩ := zi_102_12 e6
        have k8 : s8 = _ := zJ_118 q8
        have K8 : zQf s s8 := by
          rw [k8]
          exact (by repeat (first | exact K1 | refine zQf_u ?_ (by decide) (by decide) | refine zQf_c ?_ (by decide) (by decide)))
        obtain ⟨F9, l9, r9, s9, q9, e9⟩ := zi_102_16 e8
        have K9 : zQf s s9 := zQf_t (by repeat (first | exact K8 | refine zQf_u ?_ (by decide) (by decide) | refine zQf_c ?_ (by decide) (by decide))) (zQ_42 q9)
        obtain ⟨F10, l10, r10, s10, q10, e10⟩ := zi_102_17 e9
        have K10 : zQf s s10 := zQf_t (by repeat (first | exact K9 | refine zQf_u ?_ (by decide) (by decide) | refine zQf_c ?_ (by decide) (by decide))) (zQ_44 q10)
        obtain ⟨F11, l11, r11, s11, q11, e11⟩ := zi_102_21 e10
        have K11 : zQf s s11 := zQf_t (by repeat (first | exact K10 | refine zQf_u ?_ (by decide) (by decide) | refine zQf_c ?_ (by decide) (by decide))) (zQ_45 q11)
        have k12 := zi_102_26 e11
        subst k12
        exact (by repeat (first | exact K11 | refine zQf_u ?_ (by decide) (by decide) | refine zQf_c ?_ (by decide) (by decide)))
theorem zQ_103 {F : Nat} {x1 x2 : Int} {s : zS} {R : Int × zS} (e0 : zG F xm_c103 0 [7, x1, x2] [] s R) : zQf s R.2 := by
  have K0 : zQf s s := zQf_r
  obtain ⟨F1, l1, r1, s1, q1, e1⟩ := zi_103_0 e0
  have k1 : s1 = _ := zJ_23 q1
  have K1 : zQf s s1 := by
    rw [k1]
    exact (by repeat (first | exact K0 | refine zQf_u ?_ (by decide) (by decide) | refine zQf_c ?_ (by decide) (by decide)))
  obtain ⟨F2, l2, ⟨c2, e2⟩ | ⟨c2, e2⟩⟩ := zi_103_5 e1
  · have k3 := zi_103_11 e2
    subst k3
    exact (by repeat (first | exact K1 | refine zQf_u ?_ (by decide) (by decide) | refine zQf_c ?_ (by decide) (by decide)))
  · obtain ⟨F4, l4, ⟨c4, e4⟩ | ⟨c4, e4⟩⟩ := zi_103_6 e2
    · have k5 := zi_103_11 e4
      subst k5
      exact (by repeat (first | exact K1 | refine zQf_u ?_ (by decide) (by decide) | refine zQf_c ?_ (by decide) (by decide)))
    · obtain ⟨F6, l6, ⟨c6, e6⟩ | ⟨c6, e6⟩⟩ := zi_103_8 e4
      · have k7 := zi_103_11 e6
        subst k7
        exact (by repeat (first | exact K1 | refine zQf_u ?_ (by decide) (by decide) | refine zQf_c ?_ (by decide) (by decide)))
      · obtain ⟨F8, l8, r8, s8, q8, e8⟩ := zi_103_13 e6
        have k8 : s8 = _ := zJ_118 q8
        have K8 : zQf s s8 := by
          rw [k8]
          exact (by repeat (first | exact K1 | refine zQf_u ?_ (by decide) (by decide) | refine zQf_c ?_ (by decide) (by decide)))
        obtain ⟨F9, l9, r9, s9, q9, e9⟩ := zi_103_17 e8
        have K9 : zQf s s9 := zQf_t (by repeat (first | exact K8 | refine zQf_u ?_ (by decide) (by decide) | refine zQf_c ?_ (by decide) (by decide))) (zQ_42 q9)
        obtain ⟨F10, l10, r10, s10, q10, e10⟩ := zi_103_18 e9
        have K10 : zQf s s10 := zQf_t (by repeat (first | exact K9 | refine zQf_u ?_ (by decide) (by decide) | refine zQf_c ?_ (by decide) (by decide))) (zQ_44 q10)
        have k11 := zi_103_22 e10
        subst k11
        exact (by repeat (first | exact K10 | refine zQf_u ?_ (by decide) (by decide) | refine zQf_c ?_ (by decide) (by decide)))
theorem zQ_104 {F : Nat} {x1 : Int} {s : zS} {R : Int × zS} (e0 : zG F xm_c104 0 [7, x1] [] s R) : zQf s R.2 := by
  have K0 : zQf s s := zQf_r
  obtain ⟨F1, l1, r1, s1, q1, e1⟩ := zi_104_0 e0
  have k1 : s1 = _ := zJ_23 q1
  have K1 : zQf s s1 := by
    rw [k1]
    exact (by repeat (first | exact K0 | refine zQf_u ?_ (by decide) (by decide) | refine zQf_c ?_ (by decide) (by decide)))
  obtain ⟨F2, l2, ⟨c2, e2⟩ | ⟨c2, e2⟩⟩ := zi_104_5 e1
  · have k3 := zi_104_6 e2
    subst k3
    exact (by repeat (first | exact K1 | refine zQf_u ?_ (by decide) (by decide) | refine zQf_c ?_ (by decide) (by decide)))
  · obtain ⟨F4, l4, r4, s4, q4, e4⟩ := zi_104_8 e2
    have k4 : s4 = _ := zJ_118 q4
    have K4 : zQf s s4 := by
      rw [k4]
      exact (by repeat (first | exact K1 | refine zQf_u ?_ (by decide) (by decide) | refine zQf_c ?_ (by decide) (by decide)))
    obtain ⟨F5, l5, r5, s5, q5, e5⟩ := zi_104_12 e4
    have K5 : zQf s s5 := zQf_t (by repeat (first | exact K4 | refine zQf_u ?_ (by decide) (by decide) | refine zQf_c ?_ (by decide) (by decide))) (zQ_42 q5)
    obtain ⟨F6, l6, r6, s6, q6, e6⟩ := zi_104_13 e5
    have K6 : zQf s s6 := zQf_t (by repeat (first | exact K5 | refine zQf_u ?_ (by decide) (by decide) | refine zQf_c ?_ (by decide) (by decide))) (zQ_44 q6)
    obtain ⟨F7, l7, r7, s7, q7, e7⟩ := zi_104_17 e6
    have K7 : zQf s s7 := zQf_t (by repeat (first | exact K6 | refine zQf_u ?_ (by decide) (by decide) | refine zQf_c ?_ (by decide) (by decide))) (zQ_45 q7)
    obtain ⟨F8, l8, r8, s8, q8, e8⟩ := zi_104_22 e7
    have k8 : s8 = _ := zJ_120 q8
    have K8 : zQf s s8 := by
      rw [k8]
      exact (by repeat (first | exact K7 | refine zQf_u ?_ (by decide) (by decide) | refine zQf_c ?_ (by decide) (by decide)))
    obtain ⟨F9, l9, ⟨c9, e9⟩ | ⟨c9, e9⟩⟩ := zi_104_28 e8
    · have k10 := zi_104_30 e9
      subst k10
      exact (by repeat (first | exact K8 | refine zQf_u ?_ (by decide) (by decide) | refine zQf_c ?_ (by decide) (by decide)))
    · have k11 := zi_104_37 e9
      subst k11
      exact (by repeat (first | exact K8 | refine zQf_u ?_ (by decide) (by decide) | refine zQf_c ?_ (by decide) (by decide)))
theorem zQ_105 {F : Nat} {x1 x2 x3 x4 : Int} {s : zS} {R : Int × zS} (e0 : zG F xm_c105 0 [7, x1, x2, x3, x4] [] s R) : zQf s R.2 := by
  have K0 : zQf s s := zQf_r
  obtain ⟨F1, l1, r1, s1, q1, e1⟩ := zi_105_0 e0
  have k1 : s1 = _ := zJ_22 q1
  have K1 : zQf s s1 := by
    rw [k1]
    exact (by repeat (first | exact K0 | refine zQf_u ?_ (by decide) (by decide) | refine zQf_c ?_ (by decide) (by decide)))
  obtain ⟨F2, l2, ⟨c2, e2⟩ | ⟨c2, e2⟩⟩ := zi_105_5 e1
  · have k3 := zi_105_21 e2
    subst k3
    exact (by repeat (first | exact K1 | refine zQf_u ?_ (by decide) (by decide) | refine zQf_c ?_ (by decide) (by decide)))
  · obtain ⟨F4, l4, r4, s4, q4, e4⟩ := zi_105_6 e2
    have k4 : s4 = _ := zJ_22 q4
    have K4 : zQf s s4 := by
      rw [k4]
      exact (by repeat (first | exact K1 | refine zQf_u ?_ (by decide) (by decide) | refine zQf_c ?_ (by decide) (by decide)))
    obtain ⟨F5, l5, ⟨c5, e5⟩ | ⟨c5, e5⟩⟩ := zi_105_11 e4
    · have k6 := zi_105_21 e5
      subst k6
      exact (by repeat (first | exact K4 | refine zQf_u ?_ (by decide) (by decide) | refine zQf_c ?_ (by decide) (by decide)))
    · obtain ⟨F7, l7, ⟨c7, e7⟩ | ⟨c7, e7⟩⟩ := zi_105_12 e5
      · have k8 := zi_105_21 e7
        subst k8
        exact (by repeat (first | exact K4 | refine zQf_u ?_ (by decide) (by decide) | refine zQf_c ?_ (by decide) (by decide)))
      · obtain ⟨F9, l9, r9, s9, q9, e9⟩ := zi_105_15 e7
        have k9 : s9 = _ := zJ_121 q9
        have K9 : zQf s s9 := by
          rw [k9]
          exact (by repeat (first | exact K4 | refine zQf_u ?_ (by decide) (by decide) | refine zQf_c ?_ (by decide) (by decide)))
        obtain ⟨F10, l10, ⟨c10, e10⟩ | ⟨c10, e10⟩⟩ := zi_105_17 e9
        · have k11 := zi_105_21 e10
          subst k11
          exact (by repeat (first | exact K9 | refine zQf_u ?_ (by decide) (by decide) | refine zQf_c ?_ (by decide) (by decide)))
        · obtain ⟨F12, l12, r12, s12, q12, e12⟩ := zi_105_18 e10
          have k12 : s12 = _ := zJ_122 q12
          have K12 : zQf s s12 := by
            rw [k12]
            exact (by repeat (first | exact K9 | refine zQf_u ?_ (by decide) (by decide) | refine zQf_c ?_ (by decide) (by decide)))
          obtain ⟨F13, l13, ⟨c13, e13⟩ | ⟨c13, e13⟩⟩ := zi_105_20 e12
          · have k14 := zi_105_21 e13
            subst k14
            exact (by repeat (first | exact K12 | refine zQf_u ?_ (by decide) (by decide) | refine zQf_c ?_ (by decide) (by decide)))
          · obtain ⟨F15, l15, r15, s15, q15, e15⟩ := zi_105_23 e13
            have k15 : s15 = _ := zJ_118 q15
            have K15 : zQf s s15 := by
              rw [k15]
              exact (by repeat (first | exact K12 | refine zQf_u ?_ (by decide) (by decide) | refine zQf_c ?_ (by decide) (by decide)))
            obtain ⟨F16, l16, r16, s16, q16, e16⟩ := zi_105_27 e15
            have K16 : zQf s s16 := zQf_t (by repeat (first | exact K15 | refine zQf_u ?_ (by decide) (by decide) | refine zQf_c ?_ (by decide) (by decide))) (zQ_42 q16)
            obtain ⟨F17, l17, r17, s17, q17, e17⟩ := zi_105_28 e16
            have K17 : zQf s s17 := zQf_t (by repeat (first | exact K16 | refine zQf_u ?_ (by decide) (by decide) | refine zQf_c ?_ (by decide) (by decide))) (zQ_46 q17)
            obtain ⟨F18, l18, r18, s18, q18, e18⟩ := zi_105_34 e17
            have k18 : s18 = _ := zJ_123 q18
            have K18 : zQf s s18 := by
              rw [k18]
              exact (by repeat (first | exact K17 | refine zQf_u ?_ (by decide) (by decide) | refine zQf_c ?_ (by decide) (by decide)))
            have k19 := zi_105_36 e18
            subst k19
            exact (by repeat (first | exact K18 | refine zQf_u ?_ (by decide) (by decide) | refine zQf_c ?_ (by decide) (by decide)))
theorem zQ_107 {F : Nat} {x1 : Int} {s : zS} {R : Int × zS} (e0 : zG F xm_c107 0 [7, x1] [] s R) : zQf s R.2 := by
  have K0 : zQf s s := zQf_r
  obtain ⟨F1, l1, r1, s1, q1, e1⟩ := zi_107_0 e0
  have k1 : s1 = _ := zJ_21 q1
  have K1 : zQf s s1 := by
    rw [k1]
    exact (by repeat (first | exact K0 | refine zQf_u ?_ (by decide) (by decide) | refine zQf_c ?_ (by decide) (by decide)))
  obtain ⟨F2, l2, ⟨c2, e2⟩ | ⟨c2, e2⟩⟩ := zi_107_4 e1
  · have k3 := zi_107_10 e2
    subst k3
    exact (by repeat (first | exact K1 | refine zQf_u ?_ (by decide) (by decide) | refine zQf_c ?_ (by decide) (by decide)))
  · obtain ⟨F4, l4, ⟨c4, e4⟩ | ⟨c4, e4⟩⟩ := zi_107_5 e2
    · have k5 := zi_107_10 e4
      subst k5
      exact (by repeat (first | exact K1 | refine zQf_u ?_ (by decide) (by decide) | refine zQf_c ?_ (by decide) (by decide)))
    · obtain ⟨F6, l6, ⟨c6, e6⟩ | ⟨c6, e6⟩⟩ := zi_107_7 e4
      · have k7 := zi_107_10 e6
        subst k7
        exact (by repeat (first | exact K1 | refine zQf_u ?_ (by decide) (by decide) | refine zQf_c ?_ (by decide) (by decide)))
      · obtain ⟨F8, l8, r8, s8, q8, e8⟩ := zi_107_12 e6
        have k8 : s8 = _ := zJ_118 q8
        have K8 : zQf s s8 := by
          rw [k8]
          exact (by repeat (first | exact K1 | refine zQf_u ?_ (by decide) (by decide) | refine zQf_c ?_ (by decide) (by decide)))
        obtain ⟨F9, l9, r9, s9, q9, e9⟩ := zi_107_16 e8
        have K9 : zQf s s9 := zQf_t (by repeat (first | exact K8 | refine zQf_u ?_ (by decide) (by decide) | refine zQf_c ?_ (by decide) (by decide))) (zQ_42 q9)
        obtain ⟨F10, l10, r10, s10, q10, e10⟩ := zi_107_17 e9
        have K10 : zQf s s10 := zQf_t (by repeat (first | exact K9 | refine zQf_u ?_ (by decide) (by decide) | refine zQf_c ?_ (by decide) (by decide))) (zQ_50 q10)
        obtain ⟨F11, l11, ⟨c11, e11⟩ | ⟨c11, e11⟩⟩ := zi_107_20 e10
        · have k12 := zi_107_22 e11
          subst k12
          exact (by repeat (first | exact K10 | refine zQf_u ?_ (by decide) (by decide) | refine zQf_c ?_ (by decide) (by decide)))
        · obtain ⟨F13, l13, ⟨c13, e13⟩ | ⟨c13, e13⟩⟩ := zi_107_26 e11
          · have k14 := zi_107_30 e13
            subst k14
            exact (by repeat (first | exact K10 | refine zQf_u ?_ (by decide) (by decide) | refine zQf_c ?_ (by decide) (by decide)))
          · obtain ⟨F15, l15, ⟨c15, e15⟩ | ⟨c15, e15⟩⟩ := zi_107_32 e13
            · have k16 := zi_107_35 e15
              subst k16
              exact (by repeat (first | exact K10 | refine zQf_u ?_ (by decide) (by decide) | refine zQf_c ?_ (by decide) (by decide)))
            · have k17 := zi_107_39 e15
              subst k17
              exact (by repeat (first | exact K10 | refine zQf_u ?_ (by decide) (by decide) | refine zQf_c ?_ (by decide) (by decide)))
theorem zQ_108 {F : Nat} {x1 x2 : Int} {s : zS} {R : Int × zS} (e0 : zG F xm_c108 0 [7, x1, x2] [] s R) : zQf s R.2 := by
  have K0 : zQf s s := zQf_r
  obtain ⟨F1, l1, r1, s1, q1, e1⟩ := zi_108_0 e0
  have k1 : s1 = _ := zJ_21 q1
  have K1 : zQf s s1 := by
    rw [k1]
    exact (by repeat (first | exact K0 | refine zQf_u ?_ (by decide) (by decide) | refine zQf_c ?_ (by decide) (by decide)))
  obtain ⟨F2, l2, ⟨c2, e2⟩ | ⟨c2, e2⟩⟩ := zi_108_4 e1
  · have k3 := zi_108_8 e2
    subst k3
    exact (by repeat (first | exact K1 | refine zQf_u ?_ (by decide) (by decide) | refine zQf_c ?_ (by decide) (by decide)))
  · obtain ⟨F4, l4, r4, s4, q4, e4⟩ := zi_108_5 e2
    have k4 : s4 = _ := zJ_122 q4
    have K4 : zQf s s4 := by
      rw [k4]
      exact (by repeat (first | exact K1 | refine zQf_u ?_ (by decide) (by decide) | refine zQf_c ?_ (by decide) (by decide)))
    obtain ⟨F5, l5, ⟨c5, e5⟩ | ⟨c5, e5⟩⟩ := zi_108_7 e4
    · have k6 := zi_108_8 e5
      subst k6
      exact (by repeat (first | exact K4 | refine zQf_u ?_ (by decide) (by decide) | refine zQf_c ?_ (by decide) (by decide)))
    · obtain ⟨F7, l7, r7, s7, q7, e7⟩ := zi_108_10 e5
      have k7 : s7 = _ := zJ_118 q7
      have K7 : zQf s s7 := by
        rw [k7]
        exact (by repeat (first | exact K4 | refine zQf_u ?_ (by decide) (by decide) | refine zQf_c ?_ (by decide) (by decide)))
      obtain ⟨F8, l8, r8, s8, q8, e8⟩ := zi_108_14 e7
      have K8 : zQf s s8 := zQf_t (by repeat (first | exact K7 | refine zQf_u ?_ (by decide) (by decide) | refine zQf_c ?_ (by decide) (by decide))) (zQ_42 q8)
      obtain ⟨F9, l9, r9, s9, q9, e9⟩ := zi_108_15 e8
      have K9 : zQf s s9 := zQf_t (by repeat (first | exact K8 | refine zQf_u ?_ (by decide) (by decide) | refine zQf_c ?_ (by decide) (by decide))) (zQ_50 q9)
      obtain ⟨F10, l10, ⟨c10, e10⟩ | ⟨c10, e10⟩⟩ := zi_108_18 e9
      · have k11 := zi_108_22 e10
        subst k11
        exact (by repeat (first | exact K9 | refine zQf_u ?_ (by decide) (by decide) | refine zQf_c ?_ (by decide) (by decide)))
      · obtain ⟨F12, l12, r12, s12, q12, e12⟩ := zi_108_24 e10
        have K12 : zQf s s12 := zQf_t (by repeat (first | exact K9 | refine zQf_u ?_ (by decide) (by decide) | refine zQf_c ?_ (by decide) (by decide))) (zQ_52 q12)
        obtain ⟨F13, l13, ⟨c13, e13⟩ | ⟨c13, e13⟩⟩ := zi_108_27 e12
        · have k14 := zi_108_30 e13
          subst k14
          exact (by repeat (first | exact K12 | refine zQf_u ?_ (by decide) (by decide) | refine zQf_c ?_ (by decide) (by decide)))
        · have k15 := zi_108_32 e13
          subst k15
          exact (by repeat (first | exact K12 | refine zQf_u ?_ (by decide) (by decide) | refine zQf_c ?_ (by decide) (by decide)))
theorem zQ_109 {F : Nat} {x1 x2 x3 : Int} {s : zS} {R : Int × zS} (e0 : zG F xm_c109 0 [7, x1, x2, x3] [] s R) : zQf s R.2 := by
  have K0 : zQf s s := zQf_r
  obtain ⟨F1, l1, r1, s1, q1, e1⟩ := zi_109_0 e0
  have k1 : s1 = _ := zJ_21 q1
  have K1 : zQf s s1 := by
    rw [k1]
    exact (by repeat (first | exact K0 | refine zQf_u ?_ (by decide) (by decide) | refine zQf_c ?_ (by decide) (by decide)))
  obtain ⟨F2, l2, ⟨c2, e2⟩ | ⟨c2, e2⟩⟩ := zi_109_4 e1
  · have k3 := zi_109_11 e2
    subst k3
    exact (by repeat (first | exact K1 | refine zQf_u ?_ (by decide) (by decide) | refine zQf_c ?_ (by decide) (by decide)))
  · obtain ⟨F4, l4, r4, s4, q4, e4⟩ := zi_109_5 e2
    have k4 : s4 = _ := zJ_121 q4
    have K4 : zQf s s4 := by
      rw [k4]
      exact (by repeat (first | exact K1 | refine zQf_u ?_ (by decide) (by decide) | refine zQf_c ?_ (by decide) (by decide)))
    obtain ⟨F5, l5, ⟨c5, e5⟩ | ⟨c5, e5⟩⟩ := zi_109_7 e4
    · have k6 := zi_109_11 e5
      subst k6
      exact (by repeat (first | exact K4 | refine zQf_u ?_ (by decide) (by decide) | refine zQf_c ?_ (by decide) (by decide)))
    · obtain ⟨F7, l7, r7, s7, q7, e7⟩ := zi_109_8 e5
      have k7 : s7 = _ := zJ_122 q7
      have K7 : zQf s s7 := by
        rw [k7]
        exact (by repeat (first | exact K4 | refine zQf_u ?_ (by decide) (by decide) | refine zQf_c ?_ (by decide) (by decide)))
      obtain ⟨F8, l8, ⟨c8, e8⟩ | ⟨c8, e8⟩⟩ := zi_109_10 e7
      · have k9 := zi_109_11 e8
        subst k9
        exact (by repeat (first | exact K7 | refine zQf_u ?_ (by decide) (by decide) | refine zQf_c ?_ (by decide) (by decide)))
      · obtain ⟨F10, l10, r10, s10, q10, e10⟩ := zi_109_13 e8
        have k10 : s10 = _ := zJ_118 q10
        have K10 : zQf s s10 := by
          rw [k10]
          exact (by repeat (first | exact K7 | refine zQf_u ?_ (by decide) (by decide) | refine zQf_c ?_ (by decide) (by decide)))
        obtain ⟨F11, l11, r11, s11, q11, e11⟩ := zi_109_17 e10
        have K11 : zQf s s11 := zQf_t (by repeat (first | exact K10 | refine zQf_u ?_ (by decide) (by decide) | refine zQf_c ?_ (by decide) (by decide))) (zQ_42 q11)
        obtain ⟨F12, l12, r12, s12, q12, e12⟩ := zi_109_18 e11
        have K12 : zQf s s12 := zQf_t (by repeat (first | exact K11 | refine zQf_u ?_ (by decide) (by decide) | refine zQf_c ?_ (by decide) (by decide))) (zQ_54 q12)
        obtain ⟨F13, l13, ⟨c13, e13⟩ | ⟨c13, e13⟩⟩ := zi_109_22 e12
        · have k14 := zi_109_28 e13
          subst k14
          exact (by repeat (first | exact K12 | refine zQf_u ?_ (by decide) (by decide) | refine zQf_c ?_ (by decide) (by decide)))
        · obtain ⟨F15, l15, ⟨c15, e15⟩ | ⟨c15, e15⟩⟩ := zi_109_26 e13
          · have k16 := zi_109_28 e15
            subst k16
            exact (by repeat (first | exact K12 | refine zQf_u ?_ (by decide) (by decide) | refine zQf_c ?_ (by decide) (by decide)))
          · have k17 := zi_109_30 e15
            subst k17
            exact (by repeat (first | exact K12 | refine zQf_u ?_ (by decide) (by decide) | refine zQf_c ?_ (by decide) (by decide)))
theorem zQ_110 {F : Nat} {x1 x2 x3 : Int} {s : zS} {R : Int × zS} (e0 : zG F xm_c110 0 [7, x1, x2, x3] [] s R) : zQf s R.2 := by
  have K0 : zQf s s := zQf_r
  obtain ⟨F1, l1, r1, s1, q1, e1⟩ := zi_110_0 e0
  have k1 : s1 = _ := zJ_23 q1
  have K1 : zQf s s1 := by
    rw [k1]
    exact (by repeat (first | exact K0 | refine zQf_u ?_ (by decide) (by decide) | refine zQf_c ?_ (by decide) (by decide)))
  obtain ⟨F2, l2, ⟨c2, e2⟩ | ⟨c2, e2⟩⟩ := zi_110_5 e1
  · have k3 := zi_110_12 e2
    subst k3
    exact (by repeat (first | exact K1 | refine zQf_u ?_ (by decide) (by decide) | refine zQf_c ?_ (by decide) (by decide)))
  · obtain ⟨F4, l4, r4, s4, q4, e4⟩ := zi_110_6 e2
    have k4 : s4 = _ := zJ_121 q4
    have K4 : zQf s s4 := by
      rw [k4]
      exact (by repeat (first | exact K1 | refine zQf_u ?_ (by decide) (by decide) | refine zQf_c ?_ (by decide) (by decide)))
    obtain ⟨F5, l5, ⟨c5, e5⟩ | ⟨c5, e5⟩⟩ := zi_110_8 e4
    · have k6 := zi_110_12 e5
      subst k6
      exact (by repeat (first | exact K4 | refine zQf_u ?_ (by decide) (by decide) | refine zQf_c ?_ (by decide) (by decide)))
    · obtain ⟨F7, l7, r7, s7, q7, e7⟩ := zi_110_9 e5
      have k7 : s7 = _ := zJ_122 q7
      have K7 : zQf s s7 := by
        rw [k7]
        exact (by repeat (first | exact K4 | refine zQf_u ?_ (by decide) (by decide) | refine zQf_c ?_ (by decide) (by decide)))
      obtain ⟨F8, l8, ⟨c8, e8⟩ | ⟨c8, e8⟩⟩ := zi_110_11 e7
      · have k9 := zi_110_12 e8
        subst k9
        exact (by repeat (first | exact K7 | refine zQf_u ?_ (by decide) (by decide) | refine zQf_c ?_ (by decide) (by decide)))
      · obtain ⟨F10, l10, r10, s10, q10, e10⟩ := zi_110_14 e8
        have k10 : s10 = _ := zJ_118 q10
        have K10 : zQf s s10 := by
          rw [k10]
          exact (by repeat (first | exact K7 | refine zQf_u ?_ (by decide) (by decide) | refine zQf_c ?_ (by decide) (by decide)))
        obtain ⟨F11, l11, r11, s11, q11, e11⟩ := zi_110_18 e10
        have K11 : zQf s s11 := zQf_t (by repeat (first | exact K10 | refine zQf_u ?_ (by decide) (by decide) | refine zQf_c ?_ (by decide) (by decide))) (zQ_42 q11)
        obtain ⟨F12, l12, r12, s12, q12, e12⟩ := zi_110_19 e11
        have K12 : zQf s s12 := zQf_t (by repeat (first | exact K11 | refine zQf_u ?_ (by decide) (by decide) | refine zQf_c ?_ (by decide) (by decide))) (zQ_47 q12)
        obtain ⟨F13, l13, r13, s13, q13, e13⟩ := zi_110_24 e12
        have k13 : s13 = _ := zJ_123 q13
        have K13 : zQf s s13 := by
          rw [k13]
          exact (by repeat (first | exact K12 | refine zQf_u ?_ (by decide) (by decide) | refine zQf_c ?_ (by decide) (by decide)))
        have k14 := zi_110_26 e13
        subst k14
        exact (by repeat (first | exact K13 | refine zQf_u ?_ (by decide) (by decide) | refine zQf_c ?_ (by decide) (by decide)))
theorem zQ_112 {F : Nat} {x1 x2 x3 : Int} {s : zS} {R : Int × zS} (e0 : zG F xm_c112 0 [7, x1, x2, x3] [] s R) : zQf s R.2 := by
  have K0 : zQf s s := zQf_r
  obtain ⟨F1, l1, r1, s1, q1, e1⟩ := zi_112_0 e0
  have k1 : s1 = _ := zJ_23 q1
  have K1 : zQf s s1 := by
    rw [k1]
    exact (by repeat (first | exact K0 | refine zQf_u ?_ (by decide) (by decide) | refine zQf_c ?_ (by decide) (by decide)))
  obtain ⟨F2, l2, ⟨c2, e2⟩ | ⟨c2, e2⟩⟩ := zi_112_5 e1
  · have k3 := zi_112_14 e2
    subst k3
    exact (by repeat (first | exact K1 | refine zQf_u ?_ (by decide) (by decide) | refine zQf_c ?_ (by decide) (by decide)))
  · obtain ⟨F4, l4, ⟨c4, e4⟩ | ⟨c4, e4⟩⟩ := zi_112_6 e2
    · obtain ⟨F5, l5, r5, s5, q5, e5⟩ := zi_112_16 e4
      have k5 : s5 = _ := zJ_118 q5
      have K5 : zQf s s5 := by
        rw [k5]
        exact (by repeat (first | exact K1 | refine zQf_u ?_ (by decide) (by decide) | refine zQf_c ?_ (by decide) (by decide)))
      obtain ⟨F6, l6, r6, s6, q6, e6⟩ := zi_112_20 e5
      have K6 : zQf s s6 := zQf_t (by repeat (first | exact K5 | refine zQf_u ?_ (by decide) (by decide) | refine zQf_c ?_ (by decide) (by decide))) (zQ_42 q6)
      obtain ⟨F7, l7, r7, s7, q7, e7⟩ := zi_112_21 e6
      have K7 : zQf s s7 := zQf_t (by repeat (first | exact K6 | refine zQf_u ?_ (by decide) (by decide) | refine zQf_c ?_ (by decide) (by decide))) (zQ_55 q7)
      obtain ⟨F8, l8, r8, s8, q8, e8⟩ := zi_112_24 e7
      have k8 : s8 = _ := zJ_118 q8
      have K8 : zQf s s8 := by
        rw [k8]
        exact (by repeat (first | exact K7 | refine zQf_u ?_ (by decide) (by decide) | refine zQf_c ?_ (by decide) (by decide)))
      obtain ⟨F9, l9, r9, s9, q9, e9⟩ := zi_112_29 e8
      have K9 : zQf s s9 := zQf_t (by repeat (first | exact K8 | refine zQf_u ?_ (by decide) (by decide) | refine zQf_c ?_ (by decide) (by decide))) (zQ_42 q9)
      obtain ⟨F10, l10, r10, s10, q10, e10⟩ := zi_112_30 e9
      have K10 : zQf s s10 := zQf_t (by repeat (first | exact K9 | refine zQf_u ?_ (by decide) (by decide) | refine zQf_c ?_ (by decide) (by decide))) (zQ_55 q10)
      obtain ⟨F11, l11, ⟨c11, e11⟩ | ⟨c11, e11⟩⟩ := zi_112_43 e10
      · have k12 := zi_112_50 e11
        subst k12
        exact (by repeat (first | exact K10 | refine zQf_u ?_ (by decide) (by decide) | refine zQf_c ?_ (by decide) (by decide)))
      · obtain ⟨F13, l13, ⟨c13, e13⟩ | ⟨c13, e13⟩⟩ := zi_112_47 e11
        · have k14 := zi_112_50 e13
          subst k14
          exact (by repeat (first | exact K10 | refine zQf_u ?_ (by decide) (by decide) | refine zQf_c ?_ (by decide) (by decide)))
        · have k15 := zi_112_52 e13
          subst k15
          exact (by repeat (first | exact K10 | refine zQf_u ?_ (by decide) (by decide) | refine zQf_c ?_ (by decide) (by decide)))
    · have k16 := zi_112_14 e4
      subst k16
      exact (by repeat (first | exact K1 | refine zQf_u ?_ (by decide) (by decide) | refine zQf_c ?_ (by decide) (by decide)))
theorem zQ_114 {F : Nat} {x1 x2 x3 : Int} {s : zS} {R : Int × zS} (e0 : zG F xm_c114 0 [7, x1, x2, x3] [] s R) : zQf s R.2 := by
  have K0 : zQf s s := zQf_r
  obtain ⟨F1, l1, r1, s1, q1, e1⟩ := zi_114_0 e0
  have k1 : s1 = _ := zJ_21 q1
  have K1 : zQf s s1 := by
    rw [k1]
    exact (by repeat (first | exact K0 | refine zQf_u ?_ (by decide) (by decide) | refine zQf_c ?_ (by decide) (by decide)))
  obtain ⟨F2, l2, ⟨c2, e2⟩ | ⟨c2, e2⟩⟩ := zi_114_4 e1
  · have k3 := zi_114_17 e2
    subst k3
    exact (by repeat (first | exact K1 | refine zQf_u ?_ (by decide) (by decide) | refine zQf_c ?_ (by decide) (by decide)))
  · obtain ⟨F4, l4, ⟨c4, e4⟩ | ⟨c4, e4⟩⟩ := zi_114_5 e2
    · have k5 := zi_114_17 e4
      subst k5
      exact (by repeat (first | exact K1 | refine zQf_u ?_ (by decide) (by decide) | refine zQf_c ?_ (by decide) (by decide)))
    · obtain ⟨F6, l6, ⟨c6, e6⟩ | ⟨c6, e6⟩⟩ := zi_114_8 e4
      · have k7 := zi_114_17 e6
        subst k7
        exact (by repeat (first | exact K1 | refine zQf_u ?_ (by decide) (by decide) | refine zQf_c ?_ (by decide) (by decide)))
      · obtain ⟨F8, l8, r8, s8, q8, e8⟩ := zi_114_11 e6
        have k8 : s8 = _ := zJ_121 q8
        have K8 : zQf s s8 := by
          rw [k8]
          exact (by repeat (first | exact K1 | refine zQf_u ?_ (by decide) (by decide) | refine zQf_c ?_ (by decide) (by decide)))
        obtain ⟨F9, l9, ⟨c9, e9⟩ | ⟨c9, e9⟩⟩ := zi_114_13 e8
        · have k10 := zi_114_17 e9
          subst k10
          exact (by repeat (first | exact K8 | refine zQf_u ?_ (by decide) (by decide) | refine zQf_c ?_ (by decide) (by decide)))
        · obtain ⟨F11, l11, r11, s11, q11, e11⟩ := zi_114_14 e9
          have k11 : s11 = _ := zJ_122 q11
          have K11 : zQf s s11 := by
            rw [k11]
            exact (by repeat (first | exact K8 | refine zQf_u ?_ (by decide) (by decide) | refine zQf_c ?_ (by decide) (by decide)))
          obtain ⟨F12, l12, ⟨c12, e12⟩ | ⟨c12, e12⟩⟩ := zi_114_16 e11
          · have k13 := zi_114_17 e12
            subst k13
            exact (by repeat (first | exact K11 | refine zQf_u ?_ (by decide) (by decide) | refine zQf_c ?_ (by decide) (by decide)))
          · obtain ⟨F14, l14, r14, s14, q14, e14⟩ := zi_114_19 e12
            have k14 : s14 = _ := zJ_118 q14
            have K14 : zQf s s14 := by
              rw [k14]
              exact (by repeat (first | exact K11 | refine zQf_u ?_ (by decide) (by decide) | refine zQf_c ?_ (by decide) (by decide)))
            obtain ⟨F15, l15, r15, s15, q15, e15⟩ := zi_114_23 e14
            have K15 : zQf s s15 := zQf_t (by repeat (first | exact K14 | refine zQf_u ?_ (by decide) (by decide) | refine zQf_c ?_ (by decide) (by decide))) (zQ_42 q15)
            obtain ⟨F16, l16, r16, s16, q16, e16⟩ := zi_114_24 e15
            have K16 : zQf s s16 := zQf_t (by repeat (first | exact K15 | refine zQf_u ?_ (by decide) (by decide) | refine zQf_c ?_ (by decide) (by decide))) (zQ_56 q16)
            obtain ⟨F17, l17, ⟨c17, e17⟩ | ⟨c17, e17⟩⟩ := zi_114_29 e16
            · have k18 := zi_114_31 e17
              subst k18
              exact (by repeat (first | exact K16 | refine zQf_u ?_ (by decide) (by decide) | refine zQf_c ?_ (by decide) (by decide)))
            · obtain ⟨F19, l19, r19, s19, q19, e19⟩ := zi_114_36 e17
              have k19 : s19 = _ := zJc_39 q19
              have K19 : zQf s s19 := by
                rw [k19]
                exact (by repeat (first | exact K16 | refine zQf_u ?_ (by decide) (by decide) | refine zQf_c ?_ (by decide) (by decide)))
              have k20 := zi_114_40 e19
              subst k20
              exact (by repeat (first | exact K19 | refine zQf_u ?_ (by decide) (by decide) | refine zQf_c ?_ (by decide) (by decide)))
