/-! methods that leave all as it was, printed by wip/z/gen_inv.py -/
theorem zJ_125 {F : Nat} {x0 x1 x2 x3 x4 x5 : Int} {s : zS} {R : Int × zS} (e0 : zG F xm_c125 0 [x0, x1, x2, x3, x4, x5] [] s R) : R.2 = s := by
  obtain ⟨F1, l1, ⟨c1, e1⟩ | ⟨c1, e1⟩⟩ := zi_125_0 e0
  · have k2 := zi_125_10 e1
    subst k2
    rfl
  · obtain ⟨F3, l3, ⟨c3, e3⟩ | ⟨c3, e3⟩⟩ := zi_125_4 e1
    · have k4 := zi_125_10 e3
      subst k4
      rfl
    · have k5 := zi_125_8 e3
      subst k5
      rfl
theorem zJ_126 {F : Nat} {x0 x1 : Int} {s : zS} {R : Int × zS} (e0 : zG F xm_c126 0 [x0, x1] [] s R) : R.2 = s := by
  obtain ⟨F1, l1, ⟨c1, e1⟩ | ⟨c1, e1⟩⟩ := zi_126_0 e0
  · have k2 := zi_126_7 e1
    subst k2
    rfl
  · have k3 := zi_126_9 e1
    subst k3
    rfl
theorem zJ_127 {F : Nat} {x0 x1 x2 : Int} {s : zS} {R : Int × zS} (e0 : zG F xm_c127 0 [x0, x1, x2] [] s R) : R.2 = s := by
  have loop : ∀ F : Nat, (∀ (x0 x1 x2 : Int) (s : zS) (R : Int × zS), zG F xm_c127 4 [x0, x1, x2] [] s R → R.2 = s) := by
    intro F
    induction F using Nat.strongRecOn with
    | _ F ih =>
      intro x0 x1 x2 s R e0
      obtain ⟨F1, l1, ⟨c1, e1⟩ | ⟨c1, e1⟩⟩ := zi_127_4 e0
      · have k2 := zi_127_14 e1
        subst k2
        rfl
      · obtain ⟨F3, l3, e3⟩ := zi_127_6 e1
        exact (ih _ (Nat.lt_trans l3 l1)) _ _ _ _ _ e3
  obtain ⟨F4, l4, e4⟩ := zi_127_0 e0
  exact (loop _) _ _ _ _ _ e4
theorem zJ_175 {F : Nat} {x0 : Int} {s : zS} {R : Int × zS} (e0 : zG F xm_c175 0 [x0] [] s R) : R.2 = s := by
  obtain ⟨F1, l1, ⟨c1, e1⟩ | ⟨c1, e1⟩⟩ := zi_175_0 e0
  · have k2 := zi_175_5 e1
    subst k2
    rfl
  · have k3 := zi_175_7 e1
    subst k3
    rfl
theorem zJ_177 {F : Nat} {x0 x1 : Int} {s : zS} {R : Int × zS} (e0 : zG F xm_c177 0 [x0, x1] [] s R) : R.2 = s := by
  obtain ⟨F1, l1, ⟨c1, e1⟩ | ⟨c1, e1⟩⟩ := zi_177_0 e0
  · have k2 := zi_177_10 e1
    subst k2
    rfl
  · obtain ⟨F3, l3, ⟨c3, e3⟩ | ⟨c3, e3⟩⟩ := zi_177_2 e1
    · have k4 := zi_177_8 e3
      subst k4
      rfl
    · have k5 := zi_177_10 e3
      subst k5
      rfl
theorem zJ_178 {F : Nat} {x0 x1 x2 : Int} {s : zS} {R : Int × zS} (e0 : zG F xm_c178 0 [x0, x1, x2] [] s R) : R.2 = s := by
  have k1 := zi_178_0 e0
  subst k1
  rfl
theorem zJ_179 {F : Nat} {x0 x1 : Int} {s : zS} {R : Int × zS} (e0 : zG F xm_c179 0 [x0, x1] [] s R) : R.2 = s := by
  obtain ⟨F1, l1, r1, s1, q1, e1⟩ := zi_179_0 e0
  have k1 : s1 = _ := zJ_178 q1
  subst k1
  obtain ⟨F2, l2, ⟨c2, e2⟩ | ⟨c2, e2⟩⟩ := zi_179_4 e1
  · have k3 := zi_179_7 e2
    subst k3
    rfl
  · have k4 := zi_179_5 e2
    subst k4
    rfl
theorem zJ_180 {F : Nat} {x0 x1 : Int} {s : zS} {R : Int × zS} (e0 : zG F xm_c180 0 [x0, x1] [] s R) : R.2 = s := by
  obtain ⟨F1, l1, r1, s1, q1, e1⟩ := zi_180_0 e0
  have k1 : s1 = _ := zJ_178 q1
  subst k1
  obtain ⟨F2, l2, r2, s2, q2, e2⟩ := zi_180_4 e1
  have k2 : s2 = _ := zJ_178 q2
  subst k2
  obtain ⟨F3, l3, ⟨c3, e3⟩ | ⟨c3, e3⟩⟩ := zi_180_8 e2
  · have k4 := zi_180_9 e3
    subst k4
    rfl
  · have k5 := zi_180_11 e3
    subst k5
    rfl
theorem zJ_181 {F : Nat} {x0 x1 x2 : Int} {s : zS} {R : Int × zS} (e0 : zG F xm_c181 0 [x0, x1, x2] [] s R) : R.2 = s := by
  have loop : ∀ F : Nat, (∀ (x0 x1 x2 : Int) (s : zS) (R : Int × zS), zG F xm_c181 4 [x0, x1, x2] [] s R → R.2 = s) := by
    intro F
    induction F using Nat.strongRecOn with
    | _ F ih =>
      intro x0 x1 x2 s R e0
      obtain ⟨F1, l1, ⟨c1, e1⟩ | ⟨c1, e1⟩⟩ := zi_181_4 e0
      · obtain ⟨F2, l2, r2, s2, q2, e2⟩ := zi_181_10 e1
        have k2 : s2 = _ := zJ_179 q2
        subst k2
        obtain ⟨F3, l3, ⟨c3, e3⟩ | ⟨c3, e3⟩⟩ := zi_181_14 e2
        · obtain ⟨F4, l4, e4⟩ := zi_181_19 e3
          exact (ih _ (Nat.lt_trans l4 (Nat.lt_trans l3 (Nat.lt_trans l2 l1)))) _ _ _ _ _ e4
        · obtain ⟨F5, l5, e5⟩ := zi_181_15 e3
          exact (ih _ (Nat.lt_trans l5 (Nat.lt_trans l3 (Nat.lt_trans l2 l1)))) _ _ _ _ _ e5
      · have k6 := zi_181_24 e1
        subst k6
        rfl
  obtain ⟨F7, l7, e7⟩ := zi_181_0 e0
  exact (loop _) _ _ _ _ _ e7
theorem zJ_182 {F : Nat} {x0 x1 : Int} {s : zS} {R : Int × zS} (e0 : zG F xm_c182 0 [x0, x1] [] s R) : R.2 = s := by
  obtain ⟨F1, l1, ⟨c1, e1⟩ | ⟨c1, e1⟩⟩ := zi_182_0 e0
  · have k2 := zi_182_13 e1
    subst k2
    rfl
  · obtain ⟨F3, l3, ⟨c3, e3⟩ | ⟨c3, e3⟩⟩ := zi_182_5 e1
    · have k4 := zi_182_13 e3
      subst k4
      rfl
    · have k5 := zi_182_11 e3
      subst k5
      rfl
theorem zJ_213 {F : Nat} {x0 x1 x2 : Int} {s : zS} {R : Int × zS} (e0 : zG F xm_c213 0 [x0, x1, x2] [] s R) : R.2 = s := by
  have loop : ∀ F : Nat, (∀ (x0 x1 x2 : Int) (s : zS) (R : Int × zS), zG F xm_c213 4 [x0, x1, x2] [] s R → R.2 = s) := by
    intro F
    induction F using Nat.strongRecOn with
    | _ F ih =>
      intro x0 x1 x2 s R e0
      obtain ⟨F1, l1, ⟨c1, e1⟩ | ⟨c1, e1⟩⟩ := zi_213_4 e0
      · obtain ⟨F2, l2, r2, s2, q2, e2⟩ := zi_213_10 e1
        have k2 : s2 = _ := zJ_179 q2
        subst k2
        obtain ⟨F3, l3, ⟨c3, e3⟩ | ⟨c3, e3⟩⟩ := zi_213_14 e2
        · obtain ⟨F4, l4, r4, s4, q4, e4⟩ := zi_213_15 e3
          have k4 : s4 = _ := zJ_178 q4
          subst k4
          obtain ⟨F5, l5, ⟨c5, e5⟩ | ⟨c5, e5⟩⟩ := zi_213_19 e4
          · obtain ⟨F6, l6, e6⟩ := zi_213_20 e5
            exact (ih _ (Nat.lt_trans l6 (Nat.lt_trans l5 (Nat.lt_trans l4 (Nat.lt_trans l3 (Nat.lt_trans l2 l1)))))) _ _ _ _ _ e6
          · obtain ⟨F7, l7, e7⟩ := zi_213_24 e5
            exact (ih _ (Nat.lt_trans l7 (Nat.lt_trans l5 (Nat.lt_trans l4 (Nat.lt_trans l3 (Nat.lt_trans l2 l1)))))) _ _ _ _ _ e7
        · obtain ⟨F8, l8, e8⟩ := zi_213_24 e3
          exact (ih _ (Nat.lt_trans l8 (Nat.lt_trans l3 (Nat.lt_trans l2 l1)))) _ _ _ _ _ e8
      · have k9 := zi_213_29 e1
        subst k9
        rfl
  obtain ⟨F10, l10, e10⟩ := zi_213_0 e0
  exact (loop _) _ _ _ _ _ e10
theorem zJ_214 {F : Nat} {x0 x1 x2 : Int} {s : zS} {R : Int × zS} (e0 : zG F xm_c214 0 [x0, x1, x2] [] s R) : R.2 = s := by
  have loop : ∀ F : Nat, (∀ (x0 x1 x2 : Int) (s : zS) (R : Int × zS), zG F xm_c214 2 [x0, x1, x2] [] s R → R.2 = s) := by
    intro F
    induction F using Nat.strongRecOn with
    | _ F ih =>
      intro x0 x1 x2 s R e0
      obtain ⟨F1, l1, ⟨c1, e1⟩ | ⟨c1, e1⟩⟩ := zi_214_2 e0
      · obtain ⟨F2, l2, r2, s2, q2, e2⟩ := zi_214_8 e1
        have k2 : s2 = _ := zJ_178 q2
        subst k2
        obtain ⟨F3, l3, ⟨c3, e3⟩ | ⟨c3, e3⟩⟩ := zi_214_12 e2
        · obtain ⟨F4, l4, r4, s4, q4, e4⟩ := zi_214_14 e3
          have k4 : s4 = _ := zJ_179 q4
          subst k4
          obtain ⟨F5, l5, ⟨c5, e5⟩ | ⟨c5, e5⟩⟩ := zi_214_17 e4
          · obtain ⟨F6, l6, e6⟩ := zi_214_20 e5
            exact (ih _ (Nat.lt_trans l6 (Nat.lt_trans l5 (Nat.lt_trans l4 (Nat.lt_trans l3 (Nat.lt_trans l2 l1)))))) _ _ _ _ _ e6
          · have k7 := zi_214_18 e5
            subst k7
            rfl
        · obtain ⟨F8, l8, e8⟩ := zi_214_20 e3
          exact (ih _ (Nat.lt_trans l8 (Nat.lt_trans l3 (Nat.lt_trans l2 l1)))) _ _ _ _ _ e8
      · have k9 := zi_214_22 e1
        subst k9
        rfl
  obtain ⟨F10, l10, e10⟩ := zi_214_0 e0
  exact (loop _) _ _ _ _ _ e10
theorem zJ_217 {F : Nat} {x0 x1 : Int} {s : zS} {R : Int × zS} (e0 : zG F xm_c217 0 [x0, x1] [] s R) : R.2 = s := by
  obtain ⟨F1, l1, r1, s1, q1, e1⟩ := zi_217_0 e0
  have k1 : s1 = _ := zJ_179 q1
  subst k1
  obtain ⟨F2, l2, ⟨c2, e2⟩ | ⟨c2, e2⟩⟩ := zi_217_3 e1
  · have k3 := zi_217_9 e2
    subst k3
    rfl
  · obtain ⟨F4, l4, r4, s4, q4, e4⟩ := zi_217_4 e2
    have k4 : s4 = _ := zJ_178 q4
    subst k4
    have k5 := zi_217_8 e4
    subst k5
    rfl
theorem zJ_218 {F : Nat} {x0 x1 : Int} {s : zS} {R : Int × zS} (e0 : zG F xm_c218 0 [x0, x1] [] s R) : R.2 = s := by
  have loop : ∀ F : Nat, (∀ (x0 x1 : Int) (s : zS) (R : Int × zS), zG F xm_c218 2 [x0, x1] [] s R → R.2 = s) := by
    intro F
    induction F using Nat.strongRecOn with
    | _ F ih =>
      intro x0 x1 s R e0
      obtain ⟨F1, l1, ⟨c1, e1⟩ | ⟨c1, e1⟩⟩ := zi_218_2 e0
      · obtain ⟨F2, l2, r2, s2, q2, e2⟩ := zi_218_8 e1
        have k2 : s2 = _ := zJ_217 q2
        subst k2
        obtain ⟨F3, l3, ⟨c3, e3⟩ | ⟨c3, e3⟩⟩ := zi_218_18 e2
        · obtain ⟨F4, l4, e4⟩ := zi_218_31 e3
          exact (ih _ (Nat.lt_trans l4 (Nat.lt_trans l3 (Nat.lt_trans l2 l1)))) _ _ _ _ e4
        · have k5 := zi_218_29 e3
          subst k5
          rfl
      · have k6 := zi_218_33 e1
        subst k6
        rfl
  obtain ⟨F7, l7, e7⟩ := zi_218_0 e0
  exact (loop _) _ _ _ _ e7
theorem zJ_223 {F : Nat} {x0 x1 x2 x3 x4 x5 : Int} {s : zS} {R : Int × zS} (e0 : zG F xm_c223 0 [x0, x1, x2, x3, x4, x5] [] s R) : R.2 = s := by
  have loop : ∀ F : Nat, (∀ (x0 x1 x2 x3 x4 x5 : Int) (s : zS) (R : Int × zS), zG F xm_c223 4 [x0, x1, x2, x3, x4, x5] [] s R → R.2 = s) ∧ (∀ (x0 x1 x2 x3 x4 x5 : Int) (s : zS) (R : Int × zS), zG F xm_c223 12 [x0, x1, x2, x3, x4, x5] [] s R → R.2 = s) := by
    intro F
    induction F using Nat.strongRecOn with
    | _ F ih =>
      refine ⟨?_, ?_⟩
      · intro x0 x1 x2 x3 x4 x5 s R e0
        obtain ⟨F1, l1, ⟨c1, e1⟩ | ⟨c1, e1⟩⟩ := zi_223_4 e0
        · obtain ⟨F2, l2, e2⟩ := zi_223_8 e1
          exact (ih _ (Nat.lt_trans l2 l1)).2 _ _ _ _ _ _ _ _ e2
        · have k3 := zi_223_50 e1
          subst k3
          rfl
      · intro x0 x1 x2 x3 x4 x5 s R e0
        obtain ⟨F4, l4, ⟨c4, e4⟩ | ⟨c4, e4⟩⟩ := zi_223_12 e0
        · obtain ⟨F5, l5, ⟨c5, e5⟩ | ⟨c5, e5⟩⟩ := zi_223_16 e4
          · obtain ⟨F6, l6, e6⟩ := zi_223_34 e5
            exact (ih _ (Nat.lt_trans l6 (Nat.lt_trans l5 l4))).2 _ _ _ _ _ _ _ _ e6
          · obtain ⟨F7, l7, e7⟩ := zi_223_36 e5
            exact (ih _ (Nat.lt_trans l7 (Nat.lt_trans l5 l4))).2 _ _ _ _ _ _ _ _ e7
        · obtain ⟨F8, l8, ⟨c8, e8⟩ | ⟨c8, e8⟩⟩ := zi_223_41 e4
          · obtain ⟨F9, l9, e9⟩ := zi_223_44 e8
            exact (ih _ (Nat.lt_trans l9 (Nat.lt_trans l8 l4))).1 _ _ _ _ _ _ _ _ e9
          · obtain ⟨F10, l10, e10⟩ := zi_223_46 e8
            exact (ih _ (Nat.lt_trans l10 (Nat.lt_trans l8 l4))).1 _ _ _ _ _ _ _ _ e10
  obtain ⟨F11, l11, e11⟩ := zi_223_0 e0
  exact (loop _).1 _ _ _ _ _ _ _ _ e11
