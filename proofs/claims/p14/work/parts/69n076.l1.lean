/-! read-only methods leave all as it was, printed by wip/z/gen_ro.py -/
theorem zi_93_0 {x0 x1 x2 : Int} {s : zS} {R : Int × zS} {F : Nat} (e : zG F xm_c93 0 [x0, x1, x2] [] s R) : ∃ F1, F1 < F ∧ ∃ r s1, zG F1 xm_c23 0 [(x0 + 3) + 1, x1] [] s (r, s1) ∧ zG F1 xm_c93 5 [x0, x1, x2] [(false, r)] s1 R := zd_call (k := 5) (push := fun r => [(false, r)]) (by decide) (fun F => rfl) e
theorem zi_93_5 {x0 x1 x2 y0 : Int} {s : zS} {R : Int × zS} {F : Nat} (e : zG F xm_c93 5 [x0, x1, x2] [(false, y0)] s R) : ∃ F1, F1 < F ∧ ((y0 = 0 ∧ zG F1 xm_c93 6 [x0, x1, x2] [] s R) ∨ (¬ (y0 = 0) ∧ zG F1 xm_c93 8 [x0, x1, x2] [] s R)) := zd_if (k := 1) (by decide) (fun F => rfl) e
theorem zi_93_6 {x0 x1 x2 : Int} {s : zS} {R : Int × zS} {F : Nat} (e : zG F xm_c93 6 [x0, x1, x2] [] s R) : R = ((-1000), s) := zd_ret (k := 2) (fun F => rfl) e
theorem zi_93_8 {x0 x1 x2 : Int} {s : zS} {R : Int × zS} {F : Nat} (e : zG F xm_c93 8 [x0, x1, x2] [] s R) : ∃ F1, F1 < F ∧ zG F1 xm_c93 9 [x0, x1, x2] [(false, x2)] s R := zd_step (k := 1) (by decide) (fun F => rfl) e
theorem zi_93_9 {x0 x1 x2 y0 : Int} {s : zS} {R : Int × zS} {F : Nat} (e : zG F xm_c93 9 [x0, x1, x2] [(false, y0)] s R) : ∃ F1, F1 < F ∧ (((y0 = 0) ∧ zG F1 xm_c93 10 [x0, x1, x2] [] s R) ∨ ((y0 = 1) ∧ zG F1 xm_c93 17 [x0, x1, x2] [] s R) ∨ ((y0 = 2) ∧ zG F1 xm_c93 24 [x0, x1, x2] [] s R) ∨ ((y0 = 3) ∧ zG F1 xm_c93 31 [x0, x1, x2] [] s R) ∨ ((y0 = 4) ∧ zG F1 xm_c93 38 [x0, x1, x2] [] s R) ∨ ((y0 = 5) ∧ zG F1 xm_c93 45 [x0, x1, x2] [] s R) ∨ ((y0 = 6) ∧ zG F1 xm_c93 52 [x0, x1, x2] [] s R) ∨ ((y0 = 7) ∧ zG F1 xm_c93 59 [x0, x1, x2] [] s R) ∨ ((y0 < 0 ∨ 8 ≤ y0) ∧ zG F1 xm_c93 66 [x0, x1, x2] [] s R)) := by
  by_cases h0 : y0 = 0
  · have h0c := h0
    subst h0
    obtain ⟨F1, l1, e1⟩ := zd_step (k := 1) (pc1 := 10) (by decide) (fun F => rfl) e
    exact ⟨F1, l1, Or.inl ⟨rfl, e1⟩⟩
  by_cases h1 : y0 = 1
  · have h1c := h1
    subst h1
    obtain ⟨F1, l1, e1⟩ := zd_step (k := 1) (pc1 := 17) (by decide) (fun F => rfl) e
    exact ⟨F1, l1, Or.inr (Or.inl ⟨rfl, e1⟩)⟩
  by_cases h2 : y0 = 2
  · have h2c := h2
    subst h2
    obtain ⟨F1, l1, e1⟩ := zd_step (k := 1) (pc1 := 24) (by decide) (fun F => rfl) e
    exact ⟨F1, l1, Or.inr (Or.inr (Or.inl ⟨rfl, e1⟩))⟩
  by_cases h3 : y0 = 3
  · have h3c := h3
    subst h3
    obtain ⟨F1, l1, e1⟩ := zd_step (k := 1) (pc1 := 31) (by decide) (fun F => rfl) e
    exact ⟨F1, l1, Or.inr (Or.inr (Or.inr (Or.inl ⟨rfl, e1⟩)))⟩
  by_cases h4 : y0 = 4
  · have h4c := h4
    subst h4
    obtain ⟨F1, l1, e1⟩ := zd_step (k := 1) (pc1 := 38) (by decide) (fun F => rfl) e
    exact ⟨F1, l1, Or.inr (Or.inr (Or.inr (Or.inr (Or.inl ⟨rfl, e1⟩))))⟩
  by_cases h5 : y0 = 5
  · have h5c := h5
    subst h5
    obtain ⟨F1, l1, e1⟩ := zd_step (k := 1) (pc1 := 45) (by decide) (fun F => rfl) e
    exact ⟨F1, l1, Or.inr (Or.inr (Or.inr (Or.inr (Or.inr (Or.inl ⟨rfl, e1⟩)))))⟩
  by_cases h6 : y0 = 6
  · have h6c := h6
    subst h6
    obtain ⟨F1, l1, e1⟩ := zd_step (k := 1) (pc1 := 52) (by decide) (fun F => rfl) e
    exact ⟨F1, l1, Or.inr (Or.inr (Or.inr (Or.inr (Or.inr (Or.inr (Or.inl ⟨rfl, e1⟩))))))⟩
  by_cases h7 : y0 = 7
  · have h7c := h7
    subst h7
    obtain ⟨F1, l1, e1⟩ := zd_step (k := 1) (pc1 := 59) (by decide) (fun F => rfl) e
    exact ⟨F1, l1, Or.inr (Or.inr (Or.inr (Or.inr (Or.inr (Or.inr (Or.inr (Or.inl ⟨rfl, e1⟩)))))))⟩
  have hx : y0 < 0 ∨ 8 ≤ y0 := by omega
  obtain ⟨F1, l1, e1⟩ := zd_stp e (k := 1) (pc1 := 66) (by decide) (fun F => by
    show (match zsw 0 66 [10, 17, 24, 31, 38, 45, 52, 59] y0 with
      | some t => zm_run F xm_c93 (xm_drop t xm_c93) _ _ _
      | none => none) = _
    rw [show zsw 0 66 [10, 17, 24, 31, 38, 45, 52, 59] y0 = some 66 from if_pos hx])
  exact ⟨F1, l1, Or.inr (Or.inr (Or.inr (Or.inr (Or.inr (Or.inr (Or.inr (Or.inr (⟨hx, e1⟩))))))))⟩
theorem zi_93_10 {x0 x1 x2 : Int} {s : zS} {R : Int × zS} {F : Nat} (e : zG F xm_c93 10 [x0, x1, x2] [] s R) : R = (s (((x0 + 3) + 9) + 1) x1, s) := zd_ret (k := 7) (fun F => rfl) e
theorem zi_93_17 {x0 x1 x2 : Int} {s : zS} {R : Int × zS} {F : Nat} (e : zG F xm_c93 17 [x0, x1, x2] [] s R) : R = (s (((x0 + 3) + 9) + 2) x1, s) := zd_ret (k := 7) (fun F => rfl) e
theorem zi_93_24 {x0 x1 x2 : Int} {s : zS} {R : Int × zS} {F : Nat} (e : zG F xm_c93 24 [x0, x1, x2] [] s R) : R = (s (((x0 + 3) + 9) + 3) x1, s) := zd_ret (k := 7) (fun F => rfl) e
theorem zi_93_31 {x0 x1 x2 : Int} {s : zS} {R : Int × zS} {F : Nat} (e : zG F xm_c93 31 [x0, x1, x2] [] s R) : R = (s (((x0 + 3) + 9) + 4) x1, s) := zd_ret (k := 7) (fun F => rfl) e
theorem zi_93_38 {x0 x1 x2 : Int} {s : zS} {R : Int × zS} {F : Nat} (e : zG F xm_c93 38 [x0, x1, x2] [] s R) : R = (s (((x0 + 3) + 1) + 1) x1, s) := zd_ret (k := 7) (fun F => rfl) e
theorem zi_93_45 {x0 x1 x2 : Int} {s : zS} {R : Int × zS} {F : Nat} (e : zG F xm_c93 45 [x0, x1, x2] [] s R) : R = (s (((x0 + 3) + 1) + 3) x1, s) := zd_ret (k := 7) (fun F => rfl) e
theorem zi_93_52 {x0 x1 x2 : Int} {s : zS} {R : Int × zS} {F : Nat} (e : zG F xm_c93 52 [x0, x1, x2] [] s R) : ∃ F1, F1 < F ∧ ∃ r s1, zG F1 xm_c120 0 [s ((x0 + 3) + 1) 4, x1] [] s (r, s1) ∧ zG F1 xm_c93 58 [x0, x1, x2] [(false, r)] s1 R := zd_call (k := 6) (push := fun r => [(false, r)]) (by decide) (fun F => rfl) e
theorem zi_93_58 {x0 x1 x2 y0 : Int} {s : zS} {R : Int × zS} {F : Nat} (e : zG F xm_c93 58 [x0, x1, x2] [(false, y0)] s R) : R = (y0, s) := zd_ret (k := 1) (fun F => rfl) e
theorem zi_93_59 {x0 x1 x2 : Int} {s : zS} {R : Int × zS} {F : Nat} (e : zG F xm_c93 59 [x0, x1, x2] [] s R) : R = (s (((x0 + 3) + 1) + 4) x1, s) := zd_ret (k := 7) (fun F => rfl) e
theorem zi_93_66 {x0 x1 x2 : Int} {s : zS} {R : Int × zS} {F : Nat} (e : zG F xm_c93 66 [x0, x1, x2] [] s R) : R = ((-1000), s) := zd_ret (k := 2) (fun F => rfl) e
theorem zi_94_0 {x0 x1 x2 : Int} {s : zS} {R : Int × zS} {F : Nat} (e : zG F xm_c94 0 [x0, x1, x2] [] s R) : ∃ F1, F1 < F ∧ ∃ r s1, zG F1 xm_c23 0 [(x0 + 3) + 1, x1] [] s (r, s1) ∧ zG F1 xm_c94 5 [x0, x1, x2] [(false, r)] s1 R := zd_call (k := 5) (push := fun r => [(false, r)]) (by decide) (fun F => rfl) e
theorem zi_94_5 {x0 x1 x2 y0 : Int} {s : zS} {R : Int × zS} {F : Nat} (e : zG F xm_c94 5 [x0, x1, x2] [(false, y0)] s R) : ∃ F1, F1 < F ∧ ((y0 = 0 ∧ zG F1 xm_c94 6 [x0, x1, x2] [] s R) ∨ (¬ (y0 = 0) ∧ zG F1 xm_c94 8 [x0, x1, x2] [] s R)) := zd_if (k := 1) (by decide) (fun F => rfl) e
theorem zi_94_6 {x0 x1 x2 : Int} {s : zS} {R : Int × zS} {F : Nat} (e : zG F xm_c94 6 [x0, x1, x2] [] s R) : R = ((-1000), s) := zd_ret (k := 2) (fun F => rfl) e
theorem zi_94_8 {x0 x1 x2 : Int} {s : zS} {R : Int × zS} {F : Nat} (e : zG F xm_c94 8 [x0, x1, x2] [] s R) : ∃ F1, F1 < F ∧ zG F1 xm_c94 9 [x0, x1, x2] [(false, x2)] s R := zd_step (k := 1) (by decide) (fun F => rfl) e
theorem zi_94_9 {x0 x1 x2 y0 : Int} {s : zS} {R : Int × zS} {F : Nat} (e : zG F xm_c94 9 [x0, x1, x2] [(false, y0)] s R) : ∃ F1, F1 < F ∧ (((y0 = 0) ∧ zG F1 xm_c94 10 [x0, x1, x2] [] s R) ∨ ((y0 = 1) ∧ zG F1 xm_c94 17 [x0, x1, x2] [] s R) ∨ ((y0 = 2) ∧ zG F1 xm_c94 24 [x0, x1, x2] [] s R) ∨ ((y0 < 0 ∨ 3 ≤ y0) ∧ zG F1 xm_c94 31 [x0, x1, x2] [] s R)) := by
  by_cases h0 : y0 = 0
  · have h0c := h0
    subst h0
    obtain ⟨F1, l1, e1⟩ := zd_step (k := 1) (pc1 := 10) (by decide) (fun F => rfl) e
    exact ⟨F1, l1, Or.inl ⟨rfl, e1⟩⟩
  by_cases h1 : y0 = 1
  · have h1c := h1
    subst h1
    obtain ⟨F1, l1, e1⟩ := zd_step (k := 1) (pc1 := 17) (by decide) (fun F => rfl) e
    exact ⟨F1, l1, Or.inr (Or.inl ⟨rfl, e1⟩)⟩
  by_cases h2 : y0 = 2
  · have h2c := h2
    subst h2
    obtain ⟨F1, l1, e1⟩ := zd_step (k := 1) (pc1 := 24) (by decide) (fun F => rfl) e
    exact ⟨F1, l1, Or.inr (Or.inr (Or.inl ⟨rfl, e1⟩))⟩
  have hx : y0 < 0 ∨ 3 ≤ y0 := by omega
  obtain ⟨F1, l1, e1⟩ := zd_stp e (k := 1) (pc1 := 31) (by decide) (fun F => by
    show (match zsw 0 31 [10, 17, 24] y0 with
      | some t => zm_run F xm_c94 (xm_drop t xm_c94) _ _ _
      | none => none) = _
    rw [show zsw 0 31 [10, 17, 24] y0 = some 31 from if_pos hx])
  exact ⟨F1, l1, Or.inr (Or.inr (Or.inr (⟨hx, e1⟩)))⟩
theorem zi_94_10 {x0 x1 x2 : Int} {s : zS} {R : Int × zS} {F : Nat} (e : zG F xm_c94 10 [x0, x1, x2] [] s R) : R = (s (((x0 + 3) + 14) + 1) x1, s) := zd_ret (k := 7) (fun F => rfl) e
theorem zi_94_17 {x0 x1 x2 : Int} {s : zS} {R : Int × zS} {F : Nat} (e : zG F xm_c94 17 [x0, x1, x2] [] s R) : R = (s (((x0 + 3) + 14) + 2) x1, s) := zd_ret (k := 7) (fun F => rfl) e
theorem zi_94_24 {x0 x1 x2 : Int} {s : zS} {R : Int × zS} {F : Nat} (e : zG F xm_c94 24 [x0, x1, x2] [] s R) : R = (s (((x0 + 3) + 14) + 3) x1, s) := zd_ret (k := 7) (fun F => rfl) e
theorem zi_94_31 {x0 x1 x2 : Int} {s : zS} {R : Int × zS} {F : Nat} (e : zG F xm_c94 31 [x0, x1, x2] [] s R) : R = ((-1000), s) := zd_ret (k := 2) (fun F => rfl) e
theorem zi_7_0 {x0 x1 x2 x3 x4 : Int} {s : zS} {R : Int × zS} {F : Nat} (e : zG F xm_c7 0 [x0, x1, x2, x3, x4] [] s R) : ∃ F1, F1 < F ∧ zG F1 xm_c7 4 [x0, x1, x2, 0, 0] [] s R := zd_step (k := 4) (by decide) (fun F => rfl) e
theorem zi_7_4 {x0 x1 x2 x3 x4 : Int} {s : zS} {R : Int × zS} {F : Nat} (e : zG F xm_c7 4 [x0, x1, x2, x3, x4] [] s R) : ∃ F1, F1 < F ∧ ((x4 < x2 ∧ zG F1 xm_c7 7 [x0, x1, x2, x3, x4] [] s R) ∨ (¬ (x4 < x2) ∧ zG F1 xm_c7 23 [x0, x1, x2, x3, x4] [] s R)) := zd_if (k := 3) (by decide) (fun F => rfl) e
theorem zi_7_7 {x0 x1 x2 x3 x4 : Int} {s : zS} {R : Int × zS} {F : Nat} (e : zG F xm_c7 7 [x0, x1, x2, x3, x4] [] s R) : ∃ F1, F1 < F ∧ ((s (x0 + 1) x4 = x1 ∧ zG F1 xm_c7 14 [x0, x1, x2, x3, x4] [(false, x3)] s R) ∨ (¬ (s (x0 + 1) x4 = x1) ∧ zG F1 xm_c7 18 [x0, x1, x2, x3, x4] [(false, x3)] s R)) := zd_if (k := 7) (by decide) (fun F => rfl) e
theorem zi_7_14 {x0 x1 x2 x3 x4 y0 : Int} {s : zS} {R : Int × zS} {F : Nat} (e : zG F xm_c7 14 [x0, x1, x2, x3, x4] [(false, y0)] s R) : ∃ F1, F1 < F ∧ zG F1 xm_c7 4 [x0, x1, x2, zor y0 (zshl 1 x4), zw (x4 + 1)] [] s R := zd_step (k := 8) (by decide) (fun F => rfl) e
theorem zi_7_18 {x0 x1 x2 x3 x4 y0 : Int} {s : zS} {R : Int × zS} {F : Nat} (e : zG F xm_c7 18 [x0, x1, x2, x3, x4] [(false, y0)] s R) : ∃ F1, F1 < F ∧ zG F1 xm_c7 4 [x0, x1, x2, zor y0 0, zw (x4 + 1)] [] s R := zd_step (k := 5) (by decide) (fun F => rfl) e
theorem zi_7_23 {x0 x1 x2 x3 x4 : Int} {s : zS} {R : Int × zS} {F : Nat} (e : zG F xm_c7 23 [x0, x1, x2, x3, x4] [] s R) : R = (x3, s) := zd_ret (k := 2) (fun F => rfl) e
theorem zi_95_0 {x0 x1 x2 : Int} {s : zS} {R : Int × zS} {F : Nat} (e : zG F xm_c95 0 [x0, x1, x2] [] s R) : ∃ F1, F1 < F ∧ ∃ r s1, zG F1 xm_c22 0 [(x0 + 3) + 1, x1] [] s (r, s1) ∧ zG F1 xm_c95 5 [x0, x1, x2] [(false, r)] s1 R := zd_call (k := 5) (push := fun r => [(false, r)]) (by decide) (fun F => rfl) e
theorem zi_95_5 {x0 x1 x2 y0 : Int} {s : zS} {R : Int × zS} {F : Nat} (e : zG F xm_c95 5 [x0, x1, x2] [(false, y0)] s R) : ∃ F1, F1 < F ∧ ((y0 = 0 ∧ zG F1 xm_c95 6 [x0, x1, x2] [] s R) ∨ (¬ (y0 = 0) ∧ zG F1 xm_c95 8 [x0, x1, x2] [] s R)) := zd_if (k := 1) (by decide) (fun F => rfl) e
theorem zi_95_6 {x0 x1 x2 : Int} {s : zS} {R : Int × zS} {F : Nat} (e : zG F xm_c95 6 [x0, x1, x2] [] s R) : R = ((-1), s) := zd_ret (k := 2) (fun F => rfl) e
theorem zi_95_8 {x0 x1 x2 : Int} {s : zS} {R : Int × zS} {F : Nat} (e : zG F xm_c95 8 [x0, x1, x2] [] s R) : ∃ F1, F1 < F ∧ zG F1 xm_c95 9 [x0, x1, x2] [(false, x2)] s R := zd_step (k := 1) (by decide) (fun F => rfl) e
theorem zi_95_9 {x0 x1 x2 y0 : Int} {s : zS} {R : Int × zS} {F : Nat} (e : zG F xm_c95 9 [x0, x1, x2] [(false, y0)] s R) : ∃ F1, F1 < F ∧ (((y0 = 0) ∧ zG F1 xm_c95 10 [x0, x1, x2] [] s R) ∨ ((y0 = 1) ∧ zG F1 xm_c95 20 [x0, x1, x2] [] s R) ∨ ((y0 = 2) ∧ zG F1 xm_c95 27 [x0, x1, x2] [] s R) ∨ ((y0 < 0 ∨ 3 ≤ y0) ∧ zG F1 xm_c95 34 [x0, x1, x2] [] s R)) := by
  by_cases h0 : y0 = 0
  · have h0c := h0
    subst h0
    obtain ⟨F1, l1, e1⟩ := zd_step (k := 1) (pc1 := 10) (by decide) (fun F => rfl) e
    exact ⟨F1, l1, Or.inl ⟨rfl, e1⟩⟩
  by_cases h1 : y0 = 1
  · have h1c := h1
    subst h1
    obtain ⟨F1, l1, e1⟩ := zd_step (k := 1) (pc1 := 20) (by decide) (fun F => rfl) e
    exact ⟨F1, l1, Or.inr (Or.inl ⟨rfl, e1⟩)⟩
  by_cases h2 : y0 = 2
  · have h2c := h2
    subst h2
    obtain ⟨F1, l1, e1⟩ := zd_step (k := 1) (pc1 := 27) (by decide) (fun F => rfl) e
    exact ⟨F1, l1, Or.inr (Or.inr (Or.inl ⟨rfl, e1⟩))⟩
  have hx : y0 < 0 ∨ 3 ≤ y0 := by omega
  obtain ⟨F1, l1, e1⟩ := zd_stp e (k := 1) (pc1 := 34) (by decide) (fun F => by
    show (match zsw 0 34 [10, 20, 27] y0 with
      | some t => zm_run F xm_c95 (xm_drop t xm_c95) _ _ _
      | none => none) = _
    rw [show zsw 0 34 [10, 20, 27] y0 = some 34 from if_pos hx])
  exact ⟨F1, l1, Or.inr (Or.inr (Or.inr (⟨hx, e1⟩)))⟩
theorem zi_95_10 {x0 x1 x2 : Int} {s : zS} {R : Int × zS} {F : Nat} (e : zG F xm_c95 10 [x0, x1, x2] [] s R) : ∃ F1, F1 < F ∧ ∃ r s1, zG F1 xm_c7 0 [(x0 + 3) + 9, x1, s ((x0 + 3) + 1) 1, 0, 0] [] s (r, s1) ∧ zG F1 xm_c95 19 [x0, x1, x2] [(false, r)] s1 R := zd_call (k := 9) (push := fun r => [(false, r)]) (by decide) (fun F => rfl) e
theorem zi_95_19 {x0 x1 x2 y0 : Int} {s : zS} {R : Int × zS} {F : Nat} (e : zG F xm_c95 19 [x0, x1, x2] [(false, y0)] s R) : R = (y0, s) := zd_ret (k := 1) (fun F => rfl) e
theorem zi_95_20 {x0 x1 x2 : Int} {s : zS} {R : Int × zS} {F : Nat} (e : zG F xm_c95 20 [x0, x1, x2] [] s R) : ∃ F1, F1 < F ∧ ∃ r s1, zG F1 xm_c120 0 [s ((x0 + 3) + 9) 1, x1] [] s (r, s1) ∧ zG F1 xm_c95 26 [x0, x1, x2] [(false, r)] s1 R := zd_call (k := 6) (push := fun r => [(false, r)]) (by decide) (fun F => rfl) e
theorem zi_95_26 {x0 x1 x2 y0 : Int} {s : zS} {R : Int × zS} {F : Nat} (e : zG F xm_c95 26 [x0, x1, x2] [(false, y0)] s R) : R = (y0, s) := zd_ret (k := 1) (fun F => rfl) e
theorem zi_95_27 {x0 x1 x2 : Int} {s : zS} {R : Int × zS} {F : Nat} (e : zG F xm_c95 27 [x0, x1, x2] [] s R) : ∃ F1, F1 < F ∧ ∃ r s1, zG F1 xm_c120 0 [s ((x0 + 3) + 1) 6, x1] [] s (r, s1) ∧ zG F1 xm_c95 33 [x0, x1, x2] [(false, r)] s1 R := zd_call (k := 6) (push := fun r => [(false, r)]) (by decide) (fun F => rfl) e
theorem zi_95_33 {x0 x1 x2 y0 : Int} {s : zS} {R : Int × zS} {F : Nat} (e : zG F xm_c95 33 [x0, x1, x2] [(false, y0)] s R) : R = (y0, s) := zd_ret (k := 1) (fun F => rfl) e
theorem zi_95_34 {x0 x1 x2 : Int} {s : zS} {R : Int × zS} {F : Nat} (e : zG F xm_c95 34 [x0, x1, x2] [] s R) : R = ((-1), s) := zd_ret (k := 2) (fun F => rfl) e
theorem zi_119_0 {x0 x1 x2 x3 : Int} {s : zS} {R : Int × zS} {F : Nat} (e : zG F xm_c119 0 [x0, x1, x2, x3] [] s R) : ∃ F1, F1 < F ∧ zG F1 xm_c119 4 [x0, x1, 0, 0] [] s R := zd_step (k := 4) (by decide) (fun F => rfl) e
theorem zi_119_4 {x0 x1 x2 x3 : Int} {s : zS} {R : Int × zS} {F : Nat} (e : zG F xm_c119 4 [x0, x1, x2, x3] [] s R) : ∃ F1, F1 < F ∧ ((x3 < s ((x0 + 3) + 1) 1 ∧ zG F1 xm_c119 10 [x0, x1, x2, x3] [] s R) ∨ (¬ (x3 < s ((x0 + 3) + 1) 1) ∧ zG F1 xm_c119 24 [x0, x1, x2, x3] [] s R)) := zd_if (k := 6) (by decide) (fun F => rfl) e
theorem zi_119_10 {x0 x1 x2 x3 : Int} {s : zS} {R : Int × zS} {F : Nat} (e : zG F xm_c119 10 [x0, x1, x2, x3] [] s R) : ∃ F1, F1 < F ∧ zG F1 xm_c119 4 [x0, x1, zw (x2 + (if 0 ≤ zw ((s (((x0 + 3) + 9) + 1) x3) - x1) then zw ((s (((x0 + 3) + 9) + 1) x3) - x1) else zw (0 - (zw ((s (((x0 + 3) + 9) + 1) x3) - x1))))), zw (x3 + 1)] [] s R := zd_step (k := 14) (by decide) (fun F => rfl) e
theorem zi_119_24 {x0 x1 x2 x3 : Int} {s : zS} {R : Int × zS} {F : Nat} (e : zG F xm_c119 24 [x0, x1, x2, x3] [] s R) : R = (x2, s) := zd_ret (k := 2) (fun F => rfl) e
theorem zi_111_0 {x0 x1 x2 x3 : Int} {s : zS} {R : Int × zS} {F : Nat} (e : zG F xm_c111 0 [x0, x1, x2, x3] [] s R) : ∃ F1, F1 < F ∧ ∃ r s1, zG F1 xm_c21 0 [(x0 + 3) + 1] [] s (r, s1) ∧ zG F1 xm_c111 4 [x0, x1, x2, x3] [(false, r)] s1 R := zd_call (k := 4) (push := fun r => [(false, r)]) (by decide) (fun F => rfl) e
theorem zi_111_4 {x0 x1 x2 x3 y0 : Int} {s : zS} {R : Int × zS} {F : Nat} (e : zG F xm_c111 4 [x0, x1, x2, x3] [(false, y0)] s R) : ∃ F1, F1 < F ∧ ((y0 = 0 ∧ zG F1 xm_c111 8 [x0, x1, x2, x3] [] s R) ∨ (¬ (y0 = 0) ∧ zG F1 xm_c111 5 [x0, x1, x2, x3] [] s R)) := zd_if (k := 1) (by decide) (fun F => rfl) e
theorem zi_111_5 {x0 x1 x2 x3 : Int} {s : zS} {R : Int × zS} {F : Nat} (e : zG F xm_c111 5 [x0, x1, x2, x3] [] s R) : ∃ F1, F1 < F ∧ ∃ r s1, zG F1 xm_c122 0 [x1] [] s (r, s1) ∧ zG F1 xm_c111 7 [x0, x1, x2, x3] [(false, r)] s1 R := zd_call (k := 2) (push := fun r => [(false, r)]) (by decide) (fun F => rfl) e
theorem zi_111_7 {x0 x1 x2 x3 y0 : Int} {s : zS} {R : Int × zS} {F : Nat} (e : zG F xm_c111 7 [x0, x1, x2, x3] [(false, y0)] s R) : ∃ F1, F1 < F ∧ ((y0 = 0 ∧ zG F1 xm_c111 8 [x0, x1, x2, x3] [] s R) ∨ (¬ (y0 = 0) ∧ zG F1 xm_c111 10 [x0, x1, x2, x3] [] s R)) := zd_if (k := 1) (by decide) (fun F => rfl) e
theorem zi_111_8 {x0 x1 x2 x3 : Int} {s : zS} {R : Int × zS} {F : Nat} (e : zG F xm_c111 8 [x0, x1, x2, x3] [] s R) : R = ((-1), s) := zd_ret (k := 2) (fun F => rfl) e
theorem zi_111_10 {x0 x1 x2 x3 : Int} {s : zS} {R : Int × zS} {F : Nat} (e : zG F xm_c111 10 [x0, x1, x2, x3] [] s R) : ∃ F1, F1 < F ∧ zG F1 xm_c111 14 [x0, x1, 0, 1] [] s R := zd_step (k := 4) (by decide) (fun F => rfl) e
theorem zi_111_14 {x0 x1 x2 x3 : Int} {s : zS} {R : Int × zS} {F : Nat} (e : zG F xm_c111 14 [x0, x1, x2, x3] [] s R) : ∃ F1, F1 < F ∧ ((x3 < s ((x0 + 3) + 1) 0 ∧ zG F1 xm_c111 20 [x0, x1, x2, x3] [] s R) ∨ (¬ (x3 < s ((x0 + 3) + 1) 0) ∧ zG F1 xm_c111 31 [x0, x1, x2, x3] [] s R)) := zd_if (k := 6) (by decide) (fun F => rfl) e
theorem zi_111_20 {x0 x1 x2 x3 : Int} {s : zS} {R : Int × zS} {F : Nat} (e : zG F xm_c111 20 [x0, x1, x2, x3] [] s R) : ∃ F1, F1 < F ∧ ∃ r s1, zG F1 xm_c119 0 [x0, x3, 0, 0] [] s (r, s1) ∧ zG F1 xm_c111 23 [x0, x1, x2, x3] [(false, r)] s1 R := zd_call (k := 3) (push := fun r => [(false, r)]) (by decide) (fun F => rfl) e
theorem zi_111_23 {x0 x1 x2 x3 y0 : Int} {s : zS} {R : Int × zS} {F : Nat} (e : zG F xm_c111 23 [x0, x1, x2, x3] [(false, y0)] s R) : ∃ F1, F1 < F ∧ ∃ r s1, zG F1 xm_c119 0 [x0, x2, 0, 0] [] s (r, s1) ∧ zG F1 xm_c111 26 [x0, x1, x2, x3] [(false, r), (false, y0)] s1 R := zd_call (k := 3) (push := fun r => [(false, r), (false, y0)]) (by decide) (fun F => rfl) e
theorem zi_111_26 {x0 x1 x2 x3 y0 y1 : Int} {s : zS} {R : Int × zS} {F : Nat} (e : zG F xm_c111 26 [x0, x1, x2, x3] [(false, y1), (false, y0)] s R) : ∃ F1, F1 < F ∧ ((y0 < y1 ∧ zG F1 xm_c111 27 [x0, x1, x2, x3] [] s R) ∨ (¬ (y0 < y1) ∧ zG F1 xm_c111 29 [x0, x1, x2, x3] [] s R)) := zd_if (k := 1) (by decide) (fun F => rfl) e
theorem zi_111_27 {x0 x1 x2 x3 : Int} {s : zS} {R : Int × zS} {F : Nat} (e : zG F xm_c111 27 [x0, x1, x2, x3] [] s R) : ∃ F1, F1 < F ∧ zG F1 xm_c111 14 [x0, x1, x3, zw (x3 + 1)] [] s R := zd_step (k := 4) (by decide) (fun F => rfl) e
theorem zi_111_29 {x0 x1 x2 x3 : Int} {s : zS} {R : Int × zS} {F : Nat} (e : zG F xm_c111 29 [x0, x1, x2, x3] [] s R) : ∃ F1, F1 < F ∧ zG F1 xm_c111 14 [x0, x1, x2, zw (x3 + 1)] [] s R := zd_step (k := 2) (by decide) (fun F => rfl) e
theorem zi_111_31 {x0 x1 x2 x3 : Int} {s : zS} {R : Int × zS} {F : Nat} (e : zG F xm_c111 31 [x0, x1, x2, x3] [] s R) : ∃ F1, F1 < F ∧ ((x1 = 0 ∧ zG F1 xm_c111 33 [x0, x1, x2, x3] [] s R) ∨ (¬ (x1 = 0) ∧ zG F1 xm_c111 35 [x0, x1, x2, x3] [] s R)) := zd_if (k := 2) (by decide) (fun F => rfl) e
theorem zi_111_33 {x0 x1 x2 x3 : Int} {s : zS} {R : Int × zS} {F : Nat} (e : zG F xm_c111 33 [x0, x1, x2, x3] [] s R) : R = (x2, s) := zd_ret (k := 3) (fun F => rfl) e
theorem zi_111_35 {x0 x1 x2 x3 : Int} {s : zS} {R : Int × zS} {F : Nat} (e : zG F xm_c111 35 [x0, x1, x2, x3] [] s R) : ∃ F1, F1 < F ∧ ∃ r s1, zG F1 xm_c119 0 [x0, x2, 0, 0] [] s (r, s1) ∧ zG F1 xm_c111 38 [x0, x1, x2, x3] [(false, r)] s1 R := zd_call (k := 3) (push := fun r => [(false, r)]) (by decide) (fun F => rfl) e
theorem zi_111_38 {x0 x1 x2 x3 y0 : Int} {s : zS} {R : Int × zS} {F : Nat} (e : zG F xm_c111 38 [x0, x1, x2, x3] [(false, y0)] s R) : R = (y0, s) := zd_ret (k := 1) (fun F => rfl) e
theorem zi_6_0 {x0 x1 x2 x3 : Int} {s : zS} {R : Int × zS} {F : Nat} (e : zG F xm_c6 0 [x0, x1, x2, x3] [] s R) : ∃ F1, F1 < F ∧ zG F1 xm_c6 4 [x0, x1, 0, 0] [] s R := zd_step (k := 4) (by decide) (fun F => rfl) e
theorem zi_6_4 {x0 x1 x2 x3 : Int} {s : zS} {R : Int × zS} {F : Nat} (e : zG F xm_c6 4 [x0, x1, x2, x3] [] s R) : ∃ F1, F1 < F ∧ ((x3 < x1 ∧ zG F1 xm_c6 7 [x0, x1, x2, x3] [] s R) ∨ (¬ (x3 < x1) ∧ zG F1 xm_c6 21 [x0, x1, x2, x3] [] s R)) := zd_if (k := 3) (by decide) (fun F => rfl) e
theorem zi_6_7 {x0 x1 x2 x3 : Int} {s : zS} {R : Int × zS} {F : Nat} (e : zG F xm_c6 7 [x0, x1, x2, x3] [] s R) : ∃ F1, F1 < F ∧ ∃ r s1, zG F1 xm_c4 0 [x0, x3] [] s (r, s1) ∧ zG F1 xm_c6 11 [x0, x1, x2, x3] [(false, r), (false, x2)] s1 R := zd_call (k := 4) (push := fun r => [(false, r), (false, x2)]) (by decide) (fun F => rfl) e
theorem zi_6_11 {x0 x1 x2 x3 y0 y1 : Int} {s : zS} {R : Int × zS} {F : Nat} (e : zG F xm_c6 11 [x0, x1, x2, x3] [(false, y1), (false, y0)] s R) : ∃ F1, F1 < F ∧ ((y1 = 0 ∧ zG F1 xm_c6 14 [x0, x1, x2, x3] [(false, y0)] s R) ∨ (¬ (y1 = 0) ∧ zG F1 xm_c6 12 [x0, x1, x2, x3] [(false, y0)] s R)) := zd_if (k := 1) (by decide) (fun F => rfl) e
theorem zi_6_12 {x0 x1 x2 x3 y0 : Int} {s : zS} {R : Int × zS} {F : Nat} (e : zG F xm_c6 12 [x0, x1, x2, x3] [(false, y0)] s R) : ∃ F1, F1 < F ∧ zG F1 xm_c6 4 [x0, x1, zor y0 0, zw (x3 + 1)] [] s R := zd_step (k := 6) (by decide) (fun F => rfl) e
theorem zi_6_14 {x0 x1 x2 x3 y0 : Int} {s : zS} {R : Int × zS} {F : Nat} (e : zG F xm_c6 14 [x0, x1, x2, x3] [(false, y0)] s R) : ∃ F1, F1 < F ∧ zG F1 xm_c6 4 [x0, x1, zor y0 (zshl 1 x3), zw (x3 + 1)] [] s R := zd_step (k := 7) (by decide) (fun F => rfl) e
theorem zi_6_21 {x0 x1 x2 x3 : Int} {s : zS} {R : Int × zS} {F : Nat} (e : zG F xm_c6 21 [x0, x1, x2, x3] [] s R) : R = (x2, s) := zd_ret (k := 2) (fun F => rfl) e
theorem zi_115_0 {x0 x1 : Int} {s : zS} {R : Int × zS} {F : Nat} (e : zG F xm_c115 0 [x0, x1] [] s R) : ∃ F1, F1 < F ∧ zG F1 xm_c115 1 [x0, x1] [(false, x1)] s R := zd_step (k := 1) (by decide) (fun F => rfl) e
theorem zi_115_1 {x0 x1 y0 : Int} {s : zS} {R : Int × zS} {F : Nat} (e : zG F xm_c115 1 [x0, x1] [(false, y0)] s R) : ∃ F1, F1 < F ∧ (((y0 = 0) ∧ zG F1 xm_c115 2 [x0, x1] [] s R) ∨ ((y0 = 1) ∧ zG F1 xm_c115 7 [x0, x1] [] s R) ∨ ((y0 = 2) ∧ zG F1 xm_c115 12 [x0, x1] [] s R) ∨ ((y0 = 3) ∧ zG F1 xm_c115 17 [x0, x1] [] s R) ∨ ((y0 = 4) ∧ zG F1 xm_c115 20 [x0, x1] [] s R) ∨ ((y0 = 5) ∧ zG F1 xm_c115 24 [x0, x1] [] s R) ∨ ((y0 = 6) ∧ zG F1 xm_c115 29 [x0, x1] [] s R) ∨ ((y0 = 7) ∧ zG F1 xm_c115 34 [x0, x1] [] s R) ∨ ((y0 = 8) ∧ zG F1 xm_c115 43 [x0, x1] [] s R) ∨ ((y0 = 9) ∧ zG F1 xm_c115 47 [x0, x1] [] s R) ∨ ((y0 = 10) ∧ zG F1 xm_c115 51 [x0, x1] [] s R) ∨ ((y0 = 11) ∧ zG F1 xm_c115 55 [x0, x1] [] s R) ∨ ((y0 = 12) ∧ zG F1 xm_c115 59 [x0, x1] [] s R) ∨ ((y0 < 0 ∨ 13 ≤ y0) ∧ zG F1 xm_c115 64 [x0, x1] [] s R)) := by
  by_cases h0 : y0 = 0
  · have h0c := h0
    subst h0
    obtain ⟨F1, l1, e1⟩ := zd_step (k := 1) (pc1 := 2) (by decide) (fun F => rfl) e
    exact ⟨F1, l1, Or.inl ⟨rfl, e1⟩⟩
  by_cases h1 : y0 = 1
  · have h1c := h1
    subst h1
    obtain ⟨F1, l1, e1⟩ := zd_step (k := 1) (pc1 := 7) (by decide) (fun F => rfl) e
    exact ⟨F1, l1, Or.inr (Or.inl ⟨rfl, e1⟩)⟩
  by_cases h2 : y0 = 2
  · have h2c := h2
    subst h2
    obtain ⟨F1, l1, e1⟩ := zd_step (k := 1) (pc1 := 12) (by decide) (fun F => rfl) e
    exact ⟨F1, l1, Or.inr (Or.inr (Or.inl ⟨rfl, e1⟩))⟩
  by_cases h3 : y0 = 3
  · have h3c := h3
    subst h3
    obtain ⟨F1, l1, e1⟩ := zd_step (k := 1) (pc1 := 17) (by decide) (fun F => rfl) e
    exact ⟨F1, l1, Or.inr (Or.inr (Or.inr (Or.inl ⟨rfl, e1⟩)))⟩
  by_cases h4 : y0 = 4
  · have h4c := h4
    subst h4
    obtain ⟨F1, l1, e1⟩ := zd_step (k := 1) (pc1 := 20) (by decide) (fun F => rfl) e
    exact ⟨F1, l1, Or.inr (Or.inr (Or.inr (Or.inr (Or.inl ⟨rfl, e1⟩))))⟩
  by_cases h5 : y0 = 5
  · have h5c := h5
    subst h5
    obtain ⟨F1, l1, e1⟩ := zd_step (k := 1) (pc1 := 24) (by decide) (fun F => rfl) e
    exact ⟨F1, l1, Or.inr (Or.inr (Or.inr (Or.inr (Or.inr (Or.inl ⟨rfl, e1⟩)))))⟩
  by_cases h6 : y0 = 6
  · have h6c := h6
    subst h6
    obtain ⟨F1, l1, e1⟩ := zd_step (k := 1) (pc1 := 29) (by decide) (fun F => rfl) e
    exact ⟨F1, l1, Or.inr (Or.inr (Or.inr (Or.inr (Or.inr (Or.inr (Or.inl ⟨rfl, e1⟩))))))⟩
  by_cases h7 : y0 = 7
  · have h7c := h7
    subst h7
    obtain ⟨F1, l1, e1⟩ := zd_step (k := 1) (pc1 := 34) (by decide) (fun F => rfl) e
    exact ⟨F1, l1, Or.inr (Or.inr (Or.inr (Or.inr (Or.inr (Or.inr (Or.inr (Or.inl ⟨rfl, e1⟩)))))))⟩
  by_cases h8 : y0 = 8
  · have h8c := h8
    subst h8
    obtain ⟨F1, l1, e1⟩ := zd_step (k := 1) (pc1 := 43) (by decide) (fun F => rfl) e
    exact ⟨F1, l1, Or.inr (Or.inr (Or.inr (Or.inr (Or.inr (Or.inr (Or.inr (Or.inr (Or.inl ⟨rfl, e1⟩))))))))⟩
  by_cases h9 : y0 = 9
  · have h9c := h9
    subst h9
    obtain ⟨F1, l1, e1⟩ := zd_step (k := 1) (pc1 := 47) (by decide) (fun F => rfl) e
    exact ⟨F1, l1, Or.inr (Or.inr (Or.inr (Or.inr (Or.inr (Or.inr (Or.inr (Or.inr (Or.inr (Or.inl ⟨rfl, e1⟩)))))))))⟩
  by_cases h10 : y0 = 10
  · have h10c := h10
    subst h10
    obtain ⟨F1, l1, e1⟩ := zd_step (k := 1) (pc1 := 51) (by decide) (fun F => rfl) e
    exact ⟨F1, l1, Or.inr (Or.inr (Or.inr (Or.inr (Or.inr (Or.inr (Or.inr (Or.inr (Or.inr (Or.inr (Or.inl ⟨rfl, e1⟩))))))))))⟩
  by_cases h11 : y0 = 11
  · have h11c := h11
    subst h11
    obtain ⟨F1, l1, e1⟩ := zd_step (k := 1) (pc1 := 55) (by decide) (fun F => rfl) e
    exact ⟨F1, l1, Or.inr (Or.inr (Or.inr (Or.inr (Or.inr (Or.inr (Or.inr (Or.inr (Or.inr (Or.inr (Or.inr (Or.inl ⟨rfl, e1⟩)))))))))))⟩
  by_cases h12 : y0 = 12
  · have h12c := h12
    subst h12
    obtain ⟨F1, l1, e1⟩ := zd_step (k := 1) (pc1 := 59) (by decide) (fun F => rfl) e
    exact ⟨F1, l1, Or.inr (Or.inr (Or.inr (Or.inr (Or.inr (Or.inr (Or.inr (Or.inr (Or.inr (Or.inr (Or.inr (Or.inr (Or.inl ⟨rfl, e1⟩))))))))))))⟩
  have hx : y0 < 0 ∨ 13 ≤ y0 := by omega
  obtain ⟨F1, l1, e1⟩ := zd_stp e (k := 1) (pc1 := 64) (by decide) (fun F => by
    show (match zsw 0 64 [2, 7, 12, 17, 20, 24, 29, 34, 43, 47, 51, 55, 59] y0 with
      | some t => zm_run F xm_c115 (xm_drop t xm_c115) _ _ _
      | none => none) = _
    rw [show zsw 0 64 [2, 7, 12, 17, 20, 24, 29, 34, 43, 47, 51, 55, 59] y0 = some 64 from if_pos hx])
  exact ⟨F1, l1, Or.inr (Or.inr (Or.inr (Or.inr (Or.inr (Or.inr (Or.inr (Or.inr (Or.inr (Or.inr (Or.inr (Or.inr (Or.inr (⟨hx, e1⟩)))))))))))))⟩
theorem zi_115_2 {x0 x1 : Int} {s : zS} {R : Int × zS} {F : Nat} (e : zG F xm_c115 2 [x0, x1] [] s R) : R = (s ((x0 + 3) + 1) 0, s) := zd_ret (k := 5) (fun F => rfl) e
theorem zi_115_7 {x0 x1 : Int} {s : zS} {R : Int × zS} {F : Nat} (e : zG F xm_c115 7 [x0, x1] [] s R) : R = (s ((x0 + 3) + 1) 1, s) := zd_ret (k := 5) (fun F => rfl) e
theorem zi_115_12 {x0 x1 : Int} {s : zS} {R : Int × zS} {F : Nat} (e : zG F xm_c115 12 [x0, x1] [] s R) : R = (s ((x0 + 3) + 1) 2, s) := zd_ret (k := 5) (fun F => rfl) e
theorem zi_115_17 {x0 x1 : Int} {s : zS} {R : Int × zS} {F : Nat} (e : zG F xm_c115 17 [x0, x1] [] s R) : R = (s x0 8, s) := zd_ret (k := 3) (fun F => rfl) e
theorem zi_115_20 {x0 x1 : Int} {s : zS} {R : Int × zS} {F : Nat} (e : zG F xm_c115 20 [x0, x1] [] s R) : R = (s (x0 + 3) 6, s) := zd_ret (k := 4) (fun F => rfl) e
theorem zi_115_24 {x0 x1 : Int} {s : zS} {R : Int × zS} {F : Nat} (e : zG F xm_c115 24 [x0, x1] [] s R) : R = (s ((x0 + 3) + 9) 0, s) := zd_ret (k := 5) (fun F => rfl) e
theorem zi_115_29 {x0 x1 : Int} {s : zS} {R : Int × zS} {F : Nat} (e : zG F xm_c115 29 [x0, x1] [] s R) : R = (s ((x0 + 3) + 14) 0, s) := zd_ret (k := 5) (fun F => rfl) e
theorem zi_115_34 {x0 x1 : Int} {s : zS} {R : Int × zS} {F : Nat} (e : zG F xm_c115 34 [x0, x1] [] s R) : ∃ F1, F1 < F ∧ ∃ r s1, zG F1 xm_c6 0 [(x0 + 3) + 9, s ((x0 + 3) + 1) 1, 0, 0] [] s (r, s1) ∧ zG F1 xm_c115 42 [x0, x1] [(false, r)] s1 R := zd_call (k := 8) (push := fun r => [(false, r)]) (by decide) (fun F => rfl) e
theorem zi_115_42 {x0 x1 y0 : Int} {s : zS} {R : Int × zS} {F : Nat} (e : zG F xm_c115 42 [x0, x1] [(false, y0)] s R) : R = (y0, s) := zd_ret (k := 1) (fun F => rfl) e
theorem zi_115_43 {x0 x1 : Int} {s : zS} {R : Int × zS} {F : Nat} (e : zG F xm_c115 43 [x0, x1] [] s R) : R = (s (x0 + 3) 5, s) := zd_ret (k := 4) (fun F => rfl) e
theorem zi_115_47 {x0 x1 : Int} {s : zS} {R : Int × zS} {F : Nat} (e : zG F xm_c115 47 [x0, x1] [] s R) : R = (s (x0 + 33) 3, s) := zd_ret (k := 4) (fun F => rfl) e
theorem zi_115_51 {x0 x1 : Int} {s : zS} {R : Int × zS} {F : Nat} (e : zG F xm_c115 51 [x0, x1] [] s R) : R = (s (x0 + 3) 7, s) := zd_ret (k := 4) (fun F => rfl) e
theorem zi_115_55 {x0 x1 : Int} {s : zS} {R : Int × zS} {F : Nat} (e : zG F xm_c115 55 [x0, x1] [] s R) : R = (s (x0 + 1) 1, s) := zd_ret (k := 4) (fun F => rfl) e
theorem zi_115_59 {x0 x1 : Int} {s : zS} {R : Int × zS} {F : Nat} (e : zG F xm_c115 59 [x0, x1] [] s R) : R = (s ((x0 + 3) + 1) 7, s) := zd_ret (k := 5) (fun F => rfl) e
theorem zi_115_64 {x0 x1 : Int} {s : zS} {R : Int × zS} {F : Nat} (e : zG F xm_c115 64 [x0, x1] [] s R) : R = ((-1), s) := zd_ret (k := 2) (fun F => rfl) e
theorem zi_176_0 {x0 x1 : Int} {s : zS} {R : Int × zS} {F : Nat} (e : zG F xm_c176 0 [x0, x1] [] s R) : ∃ F1, F1 < F ∧ ((x1 < 0 ∧ zG F1 xm_c176 10 [x0, x1] [] s R) ∨ (¬ (x1 < 0) ∧ zG F1 xm_c176 2 [x0, x1] [] s R)) := zd_if (k := 2) (by decide) (fun F => rfl) e
theorem zi_176_2 {x0 x1 : Int} {s : zS} {R : Int × zS} {F : Nat} (e : zG F xm_c176 2 [x0, x1] [] s R) : ∃ F1, F1 < F ∧ ((x1 < s (x0 + 10) 1 ∧ zG F1 xm_c176 8 [x0, x1] [] s R) ∨ (¬ (x1 < s (x0 + 10) 1) ∧ zG F1 xm_c176 10 [x0, x1] [] s R)) := zd_if (k := 6) (by decide) (fun F => rfl) e
theorem zi_176_8 {x0 x1 : Int} {s : zS} {R : Int × zS} {F : Nat} (e : zG F xm_c176 8 [x0, x1] [] s R) : R = (1, s) := zd_ret (k := 3) (fun F => rfl) e
theorem zi_176_10 {x0 x1 : Int} {s : zS} {R : Int × zS} {F : Nat} (e : zG F xm_c176 10 [x0, x1] [] s R) : R = (0, s) := zd_ret (k := 2) (fun F => rfl) e
theorem zi_184_0 {x0 x1 x2 : Int} {s : zS} {R : Int × zS} {F : Nat} (e : zG F xm_c184 0 [x0, x1, x2] [] s R) : ∃ F1, F1 < F ∧ ∃ r s1, zG F1 xm_c176 0 [x0, x1] [] s (r, s1) ∧ zG F1 xm_c184 3 [x0, x1, x2] [(false, r)] s1 R := zd_call (k := 3) (push := fun r => [(false, r)]) (by decide) (fun F => rfl) e
theorem zi_184_3 {x0 x1 x2 y0 : Int} {s : zS} {R : Int × zS} {F : Nat} (e : zG F xm_c184 3 [x0, x1, x2] [(false, y0)] s R) : ∃ F1, F1 < F ∧ ((y0 = 0 ∧ zG F1 xm_c184 15 [x0, x1, x2] [] s R) ∨ (¬ (y0 = 0) ∧ zG F1 xm_c184 4 [x0, x1, x2] [] s R)) := zd_if (k := 1) (by decide) (fun F => rfl) e
theorem zi_184_4 {x0 x1 x2 : Int} {s : zS} {R : Int × zS} {F : Nat} (e : zG F xm_c184 4 [x0, x1, x2] [] s R) : ∃ F1, F1 < F ∧ ∃ r s1, zG F1 xm_c125 0 [x2, 0, 0, 0, 7, 0] [] s (r, s1) ∧ zG F1 xm_c184 9 [x0, x1, x2] [(false, r)] s1 R := zd_call (k := 5) (push := fun r => [(false, r)]) (by decide) (fun F => rfl) e
theorem zi_184_9 {x0 x1 x2 y0 : Int} {s : zS} {R : Int × zS} {F : Nat} (e : zG F xm_c184 9 [x0, x1, x2] [(false, y0)] s R) : ∃ F1, F1 < F ∧ ((y0 = 0 ∧ zG F1 xm_c184 15 [x0, x1, x2] [] s R) ∨ (¬ (y0 = 0) ∧ zG F1 xm_c184 10 [x0, x1, x2] [] s R)) := zd_if (k := 1) (by decide) (fun F => rfl) e
theorem zi_184_10 {x0 x1 x2 : Int} {s : zS} {R : Int × zS} {F : Nat} (e : zG F xm_c184 10 [x0, x1, x2] [] s R) : ∃ F1, F1 < F ∧ ∃ r s1, zG F1 xm_c178 0 [x0, x1, x2] [] s (r, s1) ∧ zG F1 xm_c184 14 [x0, x1, x2] [(false, r)] s1 R := zd_call (k := 4) (push := fun r => [(false, r)]) (by decide) (fun F => rfl) e
theorem zi_184_14 {x0 x1 x2 y0 : Int} {s : zS} {R : Int × zS} {F : Nat} (e : zG F xm_c184 14 [x0, x1, x2] [(false, y0)] s R) : R = (y0, s) := zd_ret (k := 2) (fun F => rfl) e
theorem zi_184_15 {x0 x1 x2 : Int} {s : zS} {R : Int × zS} {F : Nat} (e : zG F xm_c184 15 [x0, x1, x2] [] s R) : R = ((-1000), s) := zd_ret (k := 2) (fun F => rfl) e
theorem zi_185_0 {x0 x1 x2 : Int} {s : zS} {R : Int × zS} {F : Nat} (e : zG F xm_c185 0 [x0, x1, x2] [] s R) : ∃ F1, F1 < F ∧ ∃ r s1, zG F1 xm_c176 0 [x0, x1] [] s (r, s1) ∧ zG F1 xm_c185 3 [x0, x1, x2] [(false, r)] s1 R := zd_call (k := 3) (push := fun r => [(false, r)]) (by decide) (fun F => rfl) e
theorem zi_185_3 {x0 x1 x2 y0 : Int} {s : zS} {R : Int × zS} {F : Nat} (e : zG F xm_c185 3 [x0, x1, x2] [(false, y0)] s R) : ∃ F1, F1 < F ∧ ((y0 = 0 ∧ zG F1 xm_c185 17 [x0, x1, x2] [] s R) ∨ (¬ (y0 = 0) ∧ zG F1 xm_c185 4 [x0, x1, x2] [] s R)) := zd_if (k := 1) (by decide) (fun F => rfl) e
theorem zi_185_4 {x0 x1 x2 : Int} {s : zS} {R : Int × zS} {F : Nat} (e : zG F xm_c185 4 [x0, x1, x2] [] s R) : ∃ F1, F1 < F ∧ ∃ r s1, zG F1 xm_c125 0 [x2, 0, 0, 0, 2, 0] [] s (r, s1) ∧ zG F1 xm_c185 9 [x0, x1, x2] [(false, r)] s1 R := zd_call (k := 5) (push := fun r => [(false, r)]) (by decide) (fun F => rfl) e
theorem zi_185_9 {x0 x1 x2 y0 : Int} {s : zS} {R : Int × zS} {F : Nat} (e : zG F xm_c185 9 [x0, x1, x2] [(false, y0)] s R) : ∃ F1, F1 < F ∧ ((y0 = 0 ∧ zG F1 xm_c185 17 [x0, x1, x2] [] s R) ∨ (¬ (y0 = 0) ∧ zG F1 xm_c185 10 [x0, x1, x2] [] s R)) := zd_if (k := 1) (by decide) (fun F => rfl) e
theorem zi_185_10 {x0 x1 x2 : Int} {s : zS} {R : Int × zS} {F : Nat} (e : zG F xm_c185 10 [x0, x1, x2] [] s R) : ∃ F1, F1 < F ∧ ∃ r s1, zG F1 xm_c178 0 [x0, x1, zw (8 + x2)] [] s (r, s1) ∧ zG F1 xm_c185 16 [x0, x1, x2] [(false, r)] s1 R := zd_call (k := 6) (push := fun r => [(false, r)]) (by decide) (fun F => rfl) e
theorem zi_185_16 {x0 x1 x2 y0 : Int} {s : zS} {R : Int × zS} {F : Nat} (e : zG F xm_c185 16 [x0, x1, x2] [(false, y0)] s R) : R = (y0, s) := zd_ret (k := 2) (fun F => rfl) e
theorem zi_185_17 {x0 x1 x2 : Int} {s : zS} {R : Int × zS} {F : Nat} (e : zG F xm_c185 17 [x0, x1, x2] [] s R) : R = ((-1000), s) := zd_ret (k := 2) (fun F => rfl) e
theorem zi_186_0 {x0 x1 x2 x3 x4 : Int} {s : zS} {R : Int × zS} {F : Nat} (e : zG F xm_c186 0 [x0, x1, x2, x3, x4] [] s R) : ∃ F1, F1 < F ∧ ∃ r s1, zG F1 xm_c177 0 [x0, x1] [] s (r, s1) ∧ zG F1 xm_c186 3 [x0, x1, x2, x3, x4] [(false, r)] s1 R := zd_call (k := 3) (push := fun r => [(false, r)]) (by decide) (fun F => rfl) e
theorem zi_186_3 {x0 x1 x2 x3 x4 y0 : Int} {s : zS} {R : Int × zS} {F : Nat} (e : zG F xm_c186 3 [x0, x1, x2, x3, x4] [(false, y0)] s R) : ∃ F1, F1 < F ∧ ((y0 = 0 ∧ zG F1 xm_c186 10 [x0, x1, x2, x3, x4] [] s R) ∨ (¬ (y0 = 0) ∧ zG F1 xm_c186 4 [x0, x1, x2, x3, x4] [] s R)) := zd_if (k := 1) (by decide) (fun F => rfl) e
theorem zi_186_4 {x0 x1 x2 x3 x4 : Int} {s : zS} {R : Int × zS} {F : Nat} (e : zG F xm_c186 4 [x0, x1, x2, x3, x4] [] s R) : ∃ F1, F1 < F ∧ ∃ r s1, zG F1 xm_c125 0 [x2, 0, 0, 0, 2, 0] [] s (r, s1) ∧ zG F1 xm_c186 9 [x0, x1, x2, x3, x4] [(false, r)] s1 R := zd_call (k := 5) (push := fun r => [(false, r)]) (by decide) (fun F => rfl) e
theorem zi_186_9 {x0 x1 x2 x3 x4 y0 : Int} {s : zS} {R : Int × zS} {F : Nat} (e : zG F xm_c186 9 [x0, x1, x2, x3, x4] [(false, y0)] s R) : ∃ F1, F1 < F ∧ ((y0 = 0 ∧ zG F1 xm_c186 10 [x0, x1, x2, x3, x4] [] s R) ∨ (¬ (y0 = 0) ∧ zG F1 xm_c186 12 [x0, x1, x2, x3, x4] [] s R)) := zd_if (k := 1) (by decide) (fun F => rfl) e
theorem zi_186_10 {x0 x1 x2 x3 x4 : Int} {s : zS} {R : Int × zS} {F : Nat} (e : zG F xm_c186 10 [x0, x1, x2, x3, x4] [] s R) : R = ((-1), s) := zd_ret (k := 2) (fun F => rfl) e
theorem zi_186_12 {x0 x1 x2 x3 x4 : Int} {s : zS} {R : Int × zS} {F : Nat} (e : zG F xm_c186 12 [x0, x1, x2, x3, x4] [] s R) : ∃ F1, F1 < F ∧ ((0 < x2 ∧ zG F1 xm_c186 14 [x0, x1, x2, x3, x4] [] s R) ∨ (¬ (0 < x2) ∧ zG F1 xm_c186 25 [x0, x1, x2, x3, x4] [] s R)) := zd_if (k := 2) (by decide) (fun F => rfl) e
theorem zi_186_14 {x0 x1 x2 x3 x4 : Int} {s : zS} {R : Int × zS} {F : Nat} (e : zG F xm_c186 14 [x0, x1, x2, x3, x4] [] s R) : R = (zand (zshr (s (x0 + 10) (zw (7 + x2))) x1) 1, s) := zd_ret (k := 11) (fun F => rfl) e
theorem zi_186_25 {x0 x1 x2 x3 x4 : Int} {s : zS} {R : Int × zS} {F : Nat} (e : zG F xm_c186 25 [x0, x1, x2, x3, x4] [] s R) : ∃ F1, F1 < F ∧ zG F1 xm_c186 29 [x0, x1, x2, 0, 0] [] s R := zd_step (k := 4) (by decide) (fun F => rfl) e
theorem zi_186_29 {x0 x1 x2 x3 x4 : Int} {s : zS} {R : Int × zS} {F : Nat} (e : zG F xm_c186 29 [x0, x1, x2, x3, x4] [] s R) : ∃ F1, F1 < F ∧ ((x4 < s (x0 + 10) 1 ∧ zG F1 xm_c186 35 [x0, x1, x2, x3, x4] [] s R) ∨ (¬ (x4 < s (x0 + 10) 1) ∧ zG F1 xm_c186 51 [x0, x1, x2, x3, x4] [] s R)) := zd_if (k := 6) (by decide) (fun F => rfl) e
theorem zi_186_35 {x0 x1 x2 x3 x4 : Int} {s : zS} {R : Int × zS} {F : Nat} (e : zG F xm_c186 35 [x0, x1, x2, x3, x4] [] s R) : ∃ F1, F1 < F ∧ ∃ r s1, zG F1 xm_c178 0 [x0, x4, 0] [] s (r, s1) ∧ zG F1 xm_c186 40 [x0, x1, x2, x3, x4] [(false, r), (false, x3)] s1 R := zd_call (k := 5) (push := fun r => [(false, r), (false, x3)]) (by decide) (fun F => rfl) e
theorem zi_186_40 {x0 x1 x2 x3 x4 y0 y1 : Int} {s : zS} {R : Int × zS} {F : Nat} (e : zG F xm_c186 40 [x0, x1, x2, x3, x4] [(false, y1), (false, y0)] s R) : ∃ F1, F1 < F ∧ ((y1 = x1 ∧ zG F1 xm_c186 42 [x0, x1, x2, x3, x4] [(false, y0)] s R) ∨ (¬ (y1 = x1) ∧ zG F1 xm_c186 46 [x0, x1, x2, x3, x4] [(false, y0)] s R)) := zd_if (k := 2) (by decide) (fun F => rfl) e
theorem zi_186_42 {x0 x1 x2 x3 x4 y0 : Int} {s : zS} {R : Int × zS} {F : Nat} (e : zG F xm_c186 42 [x0, x1, x2, x3, x4] [(false, y0)] s R) : ∃ F1, F1 < F ∧ zG F1 xm_c186 29 [x0, x1, x2, zor y0 (zshl 1 x4), zw (x4 + 1)] [] s R := zd_step (k := 8) (by decide) (fun F => rfl) e
theorem zi_186_46 {x0 x1 x2 x3 x4 y0 : Int} {s : zS} {R : Int × zS} {F : Nat} (e : zG F xm_c186 46 [x0, x1, x2, x3, x4] [(false, y0)] s R) : ∃ F1, F1 < F ∧ zG F1 xm_c186 29 [x0, x1, x2, zor y0 0, zw (x4 + 1)] [] s R := zd_step (k := 5) (by decide) (fun F => rfl) e
theorem zi_186_51 {x0 x1 x2 x3 x4 : Int} {s : zS} {R : Int × zS} {F : Nat} (e : zG F xm_c186 51 [x0, x1, x2, x3, x4] [] s R) : R = (x3, s) := zd_ret (k := 2) (fun F => rfl) e
theorem zi_203_0 {x0 x1 : Int} {s : zS} {R : Int × zS} {F : Nat} (e : zG F xm_c203 0 [x0, x1] [] s R) : ∃ F1, F1 < F ∧ ((x0 < x1 ∧ zG F1 xm_c203 3 [x0, x1] [] s R) ∨ (¬ (x0 < x1) ∧ zG F1 xm_c203 7 [x0, x1] [] s R)) := zd_if (k := 3) (by decide) (fun F => rfl) e
theorem zi_203_3 {x0 x1 : Int} {s : zS} {R : Int × zS} {F : Nat} (e : zG F xm_c203 3 [x0, x1] [] s R) : R = (zw (x1 - x0), s) := zd_ret (k := 5) (fun F => rfl) e
theorem zi_203_7 {x0 x1 : Int} {s : zS} {R : Int × zS} {F : Nat} (e : zG F xm_c203 7 [x0, x1] [] s R) : R = (zw (x0 - x1), s) := zd_ret (k := 4) (fun F => rfl) e
theorem zi_227_0 {x0 x1 x2 x3 : Int} {s : zS} {R : Int × zS} {F : Nat} (e : zG F xm_c227 0 [x0, x1, x2, x3] [] s R) : ∃ F1, F1 < F ∧ zG F1 xm_c227 4 [x0, x1, 0, 0] [] s R := zd_step (k := 4) (by decide) (fun F => rfl) e
theorem zi_227_4 {x0 x1 x2 x3 : Int} {s : zS} {R : Int × zS} {F : Nat} (e : zG F xm_c227 4 [x0, x1, x2, x3] [] s R) : ∃ F1, F1 < F ∧ ((x3 < s (x0 + 10) 1 ∧ zG F1 xm_c227 10 [x0, x1, x2, x3] [] s R) ∨ (¬ (x3 < s (x0 + 10) 1) ∧ zG F1 xm_c227 21 [x0, x1, x2, x3] [] s R)) := zd_if (k := 6) (by decide) (fun F => rfl) e
theorem zi_227_10 {x0 x1 x2 x3 : Int} {s : zS} {R : Int × zS} {F : Nat} (e : zG F xm_c227 10 [x0, x1, x2, x3] [] s R) : ∃ F1, F1 < F ∧ ∃ r s1, zG F1 xm_c178 0 [x0, x3, 0] [] s (r, s1) ∧ zG F1 xm_c227 15 [x0, x1, x2, x3] [(false, r), (false, x2)] s1 R := zd_call (k := 5) (push := fun r => [(false, r), (false, x2)]) (by decide) (fun F => rfl) e
theorem zi_227_15 {x0 x1 x2 x3 y0 y1 : Int} {s : zS} {R : Int × zS} {F : Nat} (e : zG F xm_c227 15 [x0, x1, x2, x3] [(false, y1), (false, y0)] s R) : ∃ F1, F1 < F ∧ ∃ r s1, zG F1 xm_c203 0 [y1, x1] [] s (r, s1) ∧ zG F1 xm_c227 17 [x0, x1, x2, x3] [(false, r), (false, y0)] s1 R := zd_call (k := 2) (push := fun r => [(false, r), (false, y0)]) (by decide) (fun F => rfl) e
theorem zi_227_17 {x0 x1 x2 x3 y0 y1 : Int} {s : zS} {R : Int × zS} {F : Nat} (e : zG F xm_c227 17 [x0, x1, x2, x3] [(false, y1), (false, y0)] s R) : ∃ F1, F1 < F ∧ zG F1 xm_c227 4 [x0, x1, zw (y0 + y1), zw (x3 + 1)] [] s R := zd_step (k := 4) (by decide) (fun F => rfl) e
theorem zi_227_21 {x0 x1 x2 x3 : Int} {s : zS} {R : Int × zS} {F : Nat} (e : zG F xm_c227 21 [x0, x1, x2, x3] [] s R) : R = (x2, s) := zd_ret (k := 2) (fun F => rfl) e
theorem zi_228_0 {x0 x1 x2 x3 : Int} {s : zS} {R : Int × zS} {F : Nat} (e : zG F xm_c228 0 [x0, x1, x2, x3] [] s R) : ∃ F1, F1 < F ∧ ∃ r s1, zG F1 xm_c175 0 [x0] [] s (r, s1) ∧ zG F1 xm_c228 2 [x0, x1, x2, x3] [(false, r)] s1 R := zd_call (k := 2) (push := fun r => [(false, r)]) (by decide) (fun F => rfl) e
theorem zi_228_2 {x0 x1 x2 x3 y0 : Int} {s : zS} {R : Int × zS} {F : Nat} (e : zG F xm_c228 2 [x0, x1, x2, x3] [(false, y0)] s R) : ∃ F1, F1 < F ∧ ((y0 = 0 ∧ zG F1 xm_c228 9 [x0, x1, x2, x3] [] s R) ∨ (¬ (y0 = 0) ∧ zG F1 xm_c228 3 [x0, x1, x2, x3] [] s R)) := zd_if (k := 1) (by decide) (fun F => rfl) e
theorem zi_228_3 {x0 x1 x2 x3 : Int} {s : zS} {R : Int × zS} {F : Nat} (e : zG F xm_c228 3 [x0, x1, x2, x3] [] s R) : ∃ F1, F1 < F ∧ ∃ r s1, zG F1 xm_c125 0 [x1, 0, 0, 0, 1, 0] [] s (r, s1) ∧ zG F1 xm_c228 8 [x0, x1, x2, x3] [(false, r)] s1 R := zd_call (k := 5) (push := fun r => [(false, r)]) (by decide) (fun F => rfl) e
theorem zi_228_8 {x0 x1 x2 x3 y0 : Int} {s : zS} {R : Int × zS} {F : Nat} (e : zG F xm_c228 8 [x0, x1, x2, x3] [(false, y0)] s R) : ∃ F1, F1 < F ∧ ((y0 = 0 ∧ zG F1 xm_c228 9 [x0, x1, x2, x3] [] s R) ∨ (¬ (y0 = 0) ∧ zG F1 xm_c228 11 [x0, x1, x2, x3] [] s R)) := zd_if (k := 1) (by decide) (fun F => rfl) e
theorem zi_228_9 {x0 x1 x2 x3 : Int} {s : zS} {R : Int × zS} {F : Nat} (e : zG F xm_c228 9 [x0, x1, x2, x3] [] s R) : R = ((-1), s) := zd_ret (k := 2) (fun F => rfl) e
theorem zi_228_11 {x0 x1 x2 x3 : Int} {s : zS} {R : Int × zS} {F : Nat} (e : zG F xm_c228 11 [x0, x1, x2, x3] [] s R) : ∃ F1, F1 < F ∧ zG F1 xm_c228 15 [x0, x1, 0, 1] [] s R := zd_step (k := 4) (by decide) (fun F => rfl) e
theorem zi_228_15 {x0 x1 x2 x3 : Int} {s : zS} {R : Int × zS} {F : Nat} (e : zG F xm_c228 15 [x0, x1, x2, x3] [] s R) : ∃ F1, F1 < F ∧ ((x3 < s (x0 + 10) 0 ∧ zG F1 xm_c228 21 [x0, x1, x2, x3] [] s R) ∨ (¬ (x3 < s (x0 + 10) 0) ∧ zG F1 xm_c228 32 [x0, x1, x2, x3] [] s R)) := zd_if (k := 6) (by decide) (fun F => rfl) e
theorem zi_228_21 {x0 x1 x2 x3 : Int} {s : zS} {R : Int × zS} {F : Nat} (e : zG F xm_c228 21 [x0, x1, x2, x3] [] s R) : ∃ F1, F1 < F ∧ ∃ r s1, zG F1 xm_c227 0 [x0, x3, 0, 0] [] s (r, s1) ∧ zG F1 xm_c228 24 [x0, x1, x2, x3] [(false, r)] s1 R := zd_call (k := 3) (push := fun r => [(false, r)]) (by decide) (fun F => rfl) e
theorem zi_228_24 {x0 x1 x2 x3 y0 : Int} {s : zS} {R : Int × zS} {F : Nat} (e : zG F xm_c228 24 [x0, x1, x2, x3] [(false, y0)] s R) : ∃ F1, F1 < F ∧ ∃ r s1, zG F1 xm_c227 0 [x0, x2, 0, 0] [] s (r, s1) ∧ zG F1 xm_c228 27 [x0, x1, x2, x3] [(false, r), (false, y0)] s1 R := zd_call (k := 3) (push := fun r => [(false, r), (false, y0)]) (by decide) (fun F => rfl) e
theorem zi_228_27 {x0 x1 x2 x3 y0 y1 : Int} {s : zS} {R : Int × zS} {F : Nat} (e : zG F xm_c228 27 [x0, x1, x2, x3] [(false, y1), (false, y0)] s R) : ∃ F1, F1 < F ∧ ((y0 < y1 ∧ zG F1 xm_c228 28 [x0, x1, x2, x3] [] s R) ∨ (¬ (y0 < y1) ∧ zG F1 xm_c228 30 [x0, x1, x2, x3] [] s R)) := zd_if (k := 1) (by decide) (fun F => rfl) e
theorem zi_228_28 {x0 x1 x2 x3 : Int} {s : zS} {R : Int × zS} {F : Nat} (e : zG F xm_c228 28 [x0, x1, x2, x3] [] s R) : ∃ F1, F1 < F ∧ zG F1 xm_c228 15 [x0, x1, x3, zw (x3 + 1)] [] s R := zd_step (k := 4) (by decide) (fun F => rfl) e
theorem zi_228_30 {x0 x1 x2 x3 : Int} {s : zS} {R : Int × zS} {F : Nat} (e : zG F xm_c228 30 [x0, x1, x2, x3] [] s R) : ∃ F1, F1 < F ∧ zG F1 xm_c228 15 [x0, x1, x2, zw (x3 + 1)] [] s R := zd_step (k := 2) (by decide) (fun F => rfl) e
theorem zi_228_32 {x0 x1 x2 x3 : Int} {s : zS} {R : Int × zS} {F : Nat} (e : zG F xm_c228 32 [x0, x1, x2, x3] [] s R) : ∃ F1, F1 < F ∧ ((x1 = 0 ∧ zG F1 xm_c228 34 [x0, x1, x2, x3] [] s R) ∨ (¬ (x1 = 0) ∧ zG F1 xm_c228 36 [x0, x1, x2, x3] [] s R)) := zd_if (k := 2) (by decide) (fun F => rfl) e
theorem zi_228_34 {x0 x1 x2 x3 : Int} {s : zS} {R : Int × zS} {F : Nat} (e : zG F xm_c228 34 [x0, x1, x2, x3] [] s R) : R = (x2, s) := zd_ret (k := 3) (fun F => rfl) e
theorem zi_228_36 {x0 x1 x2 x3 : Int} {s : zS} {R : Int × zS} {F : Nat} (e : zG F xm_c228 36 [x0, x1, x2, x3] [] s R) : ∃ F1, F1 < F ∧ ∃ r s1, zG F1 xm_c227 0 [x0, x2, 0, 0] [] s (r, s1) ∧ zG F1 xm_c228 39 [x0, x1, x2, x3] [(false, r)] s1 R := zd_call (k := 3) (push := fun r => [(false, r)]) (by decide) (fun F => rfl) e
theorem zi_228_39 {x0 x1 x2 x3 y0 : Int} {s : zS} {R : Int × zS} {F : Nat} (e : zG F xm_c228 39 [x0, x1, x2, x3] [(false, y0)] s R) : R = (y0, s) := zd_ret (k := 1) (fun F => rfl) e
theorem zi_235_0 {x0 x1 x2 x3 : Int} {s : zS} {R : Int × zS} {F : Nat} (e : zG F xm_c235 0 [x0, x1, x2, x3] [] s R) : ∃ F1, F1 < F ∧ zG F1 xm_c235 3 [x0, x1, 0, x3] [(false, x1)] s R := zd_step (k := 3) (by decide) (fun F => rfl) e
theorem zi_235_3 {x0 x1 x2 x3 y0 : Int} {s : zS} {R : Int × zS} {F : Nat} (e : zG F xm_c235 3 [x0, x1, x2, x3] [(false, y0)] s R) : ∃ F1, F1 < F ∧ (((y0 = 0) ∧ zG F1 xm_c235 4 [x0, x1, x2, x3] [] s R) ∨ ((y0 = 1) ∧ zG F1 xm_c235 4 [x0, x1, x2, x3] [] s R) ∨ ((y0 = 2) ∧ zG F1 xm_c235 4 [x0, x1, x2, x3] [] s R) ∨ ((y0 = 3) ∧ zG F1 xm_c235 9 [x0, x1, x2, x3] [] s R) ∨ ((y0 = 4) ∧ zG F1 xm_c235 12 [x0, x1, x2, x3] [] s R) ∨ ((y0 = 5) ∧ zG F1 xm_c235 15 [x0, x1, x2, x3] [] s R) ∨ ((y0 = 6) ∧ zG F1 xm_c235 20 [x0, x1, x2, x3] [] s R) ∨ ((y0 = 7) ∧ zG F1 xm_c235 23 [x0, x1, x2, x3] [] s R) ∨ ((y0 = 8) ∧ zG F1 xm_c235 47 [x0, x1, x2, x3] [] s R) ∨ ((y0 = 9) ∧ zG F1 xm_c235 52 [x0, x1, x2, x3] [] s R) ∨ ((y0 = 10) ∧ zG F1 xm_c235 55 [x0, x1, x2, x3] [] s R) ∨ ((y0 = 11) ∧ zG F1 xm_c235 58 [x0, x1, x2, x3] [] s R) ∨ ((y0 = 12) ∧ zG F1 xm_c235 61 [x0, x1, x2, x3] [] s R) ∨ ((y0 < 0 ∨ 13 ≤ y0) ∧ zG F1 xm_c235 66 [x0, x1, x2, x3] [] s R)) := by
  by_cases h0 : y0 = 0
  · have h0c := h0
    subst h0
    obtain ⟨F1, l1, e1⟩ := zd_step (k := 1) (pc1 := 4) (by decide) (fun F => rfl) e
    exact ⟨F1, l1, Or.inl ⟨rfl, e1⟩⟩
  by_cases h1 : y0 = 1
  · have h1c := h1
    subst h1
    obtain ⟨F1, l1, e1⟩ := zd_step (k := 1) (pc1 := 4) (by decide) (fun F => rfl) e
    exact ⟨F1, l1, Or.inr (Or.inl ⟨rfl, e1⟩)⟩
  by_cases h2 : y0 = 2
  · have h2c := h2
    subst h2
    obtain ⟨F1, l1, e1⟩ := zd_step (k := 1) (pc1 := 4) (by decide) (fun F => rfl) e
    exact ⟨F1, l1, Or.inr (Or.inr (Or.inl ⟨rfl, e1⟩))⟩
  by_cases h3 : y0 = 3
  · have h3c := h3
    subst h3
    obtain ⟨F1, l1, e1⟩ := zd_step (k := 1) (pc1 := 9) (by decide) (fun F => rfl) e
    exact ⟨F1, l1, Or.inr (Or.inr (Or.inr (Or.inl ⟨rfl, e1⟩)))⟩
  by_cases h4 : y0 = 4
  · have h4c := h4
    subst h4
    obtain ⟨F1, l1, e1⟩ := zd_step (k := 1) (pc1 := 12) (by decide) (fun F => rfl) e
    exact ⟨F1, l1, Or.inr (Or.inr (Or.inr (Or.inr (Or.inl ⟨rfl, e1⟩))))⟩
  by_cases h5 : y0 = 5
  · have h5c := h5
    subst h5
    obtain ⟨F1, l1, e1⟩ := zd_step (k := 1) (pc1 := 15) (by decide) (fun F => rfl) e
    exact ⟨F1, l1, Or.inr (Or.inr (Or.inr (Or.inr (Or.inr (Or.inl ⟨rfl, e1⟩)))))⟩
  by_cases h6 : y0 = 6
  · have h6c := h6
    subst h6
    obtain ⟨F1, l1, e1⟩ := zd_step (k := 1) (pc1 := 20) (by decide) (fun F => rfl) e
    exact ⟨F1, l1, Or.inr (Or.inr (Or.inr (Or.inr (Or.inr (Or.inr (Or.inl ⟨rfl, e1⟩))))))⟩
  by_cases h7 : y0 = 7
  · have h7c := h7
    subst h7
    obtain ⟨F1, l1, e1⟩ := zd_step (k := 1) (pc1 := 23) (by decide) (fun F => rfl) e
    exact ⟨F1, l1, Or.inr (Or.inr (Or.inr (Or.inr (Or.inr (Or.inr (Or.inr (Or.inl ⟨rfl, e1⟩)))))))⟩
  by_cases h8 : y0 = 8
  · have h8c := h8
    subst h8
    obtain ⟨F1, l1, e1⟩ := zd_step (k := 1) (pc1 := 47) (by decide) (fun F => rfl) e
    exact ⟨F1, l1, Or.inr (Or.inr (Or.inr (Or.inr (Or.inr (Or.inr (Or.inr (Or.inr (Or.inl ⟨rfl, e1⟩))))))))⟩
  by_cases h9 : y0 = 9
  · have h9c := h9
    subst h9
    obtain ⟨F1, l1, e1⟩ := zd_step (k := 1) (pc1 := 52) (by decide) (fun F => rfl) e
    exact ⟨F1, l1, Or.inr (Or.inr (Or.inr (Or.inr (Or.inr (Or.inr (Or.inr (Or.inr (Or.inr (Or.inl ⟨rfl, e1⟩)))))))))⟩
  by_cases h10 : y0 = 10
  · have h10c := h10
    subst h10
    obtain ⟨F1, l1, e1⟩ := zd_step (k := 1) (pc1 := 55) (by decide) (fun F => rfl) e
    exact ⟨F1, l1, Or.inr (Or.inr (Or.inr (Or.inr (Or.inr (Or.inr (Or.inr (Or.inr (Or.inr (Or.inr (Or.inl ⟨rfl, e1⟩))))))))))⟩
  by_cases h11 : y0 = 11
  · have h11c := h11
    subst h11
    obtain ⟨F1, l1, e1⟩ := zd_step (k := 1) (pc1 := 58) (by decide) (fun F => rfl) e
    exact ⟨F1, l1, Or.inr (Or.inr (Or.inr (Or.inr (Or.inr (Or.inr (Or.inr (Or.inr (Or.inr (Or.inr (Or.inr (Or.inl ⟨rfl, e1⟩)))))))))))⟩
  by_cases h12 : y0 = 12
  · have h12c := h12
    subst h12
    obtain ⟨F1, l1, e1⟩ := zd_step (k := 1) (pc1 := 61) (by decide) (fun F => rfl) e
    exact ⟨F1, l1, Or.inr (Or.inr (Or.inr (Or.inr (Or.inr (Or.inr (Or.inr (Or.inr (Or.inr (Or.inr (Or.inr (Or.inr (Or.inl ⟨rfl, e1⟩))))))))))))⟩
  have hx : y0 < 0 ∨ 13 ≤ y0 := by omega
  obtain ⟨F1, l1, e1⟩ := zd_stp e (k := 1) (pc1 := 66) (by decide) (fun F => by
    show (match zsw 0 66 [4, 4, 4, 9, 12, 15, 20, 23, 47, 52, 55, 58, 61] y0 with
      | some t => zm_run F xm_c235 (xm_drop t xm_c235) _ _ _
      | none => none) = _
    rw [show zsw 0 66 [4, 4, 4, 9, 12, 15, 20, 23, 47, 52, 55, 58, 61] y0 = some 66 from if_pos hx])
  exact ⟨F1, l1, Or.inr (Or.inr (Or.inr (Or.inr (Or.inr (Or.inr (Or.inr (Or.inr (Or.inr (Or.inr (Or.inr (Or.inr (Or.inr (⟨hx, e1⟩)))))))))))))⟩
theorem zi_235_4 {x0 x1 x2 x3 : Int} {s : zS} {R : Int × zS} {F : Nat} (e : zG F xm_c235 4 [x0, x1, x2, x3] [] s R) : R = (s (x0 + 10) x1, s) := zd_ret (k := 5) (fun F => rfl) e
theorem zi_235_9 {x0 x1 x2 x3 : Int} {s : zS} {R : Int × zS} {F : Nat} (e : zG F xm_c235 9 [x0, x1, x2, x3] [] s R) : R = (s x0 2, s) := zd_ret (k := 3) (fun F => rfl) e
theorem zi_235_12 {x0 x1 x2 x3 : Int} {s : zS} {R : Int × zS} {F : Nat} (e : zG F xm_c235 12 [x0, x1, x2, x3] [] s R) : R = (s x0 21, s) := zd_ret (k := 3) (fun F => rfl) e
theorem zi_235_15 {x0 x1 x2 x3 : Int} {s : zS} {R : Int × zS} {F : Nat} (e : zG F xm_c235 15 [x0, x1, x2, x3] [] s R) : R = (s (x0 + 10) 4, s) := zd_ret (k := 5) (fun F => rfl) e
theorem zi_235_20 {x0 x1 x2 x3 : Int} {s : zS} {R : Int × zS} {F : Nat} (e : zG F xm_c235 20 [x0, x1, x2, x3] [] s R) : ∃ F1, F1 < F ∧ ∃ r s1, zG F1 xm_c181 0 [x0, 0, 0] [] s (r, s1) ∧ zG F1 xm_c235 22 [x0, x1, x2, x3] [(false, r)] s1 R := zd_call (k := 2) (push := fun r => [(false, r)]) (by decide) (fun F => rfl) e
theorem zi_235_22 {x0 x1 x2 x3 y0 : Int} {s : zS} {R : Int × zS} {F : Nat} (e : zG F xm_c235 22 [x0, x1, x2, x3] [(false, y0)] s R) : R = (y0, s) := zd_ret (k := 1) (fun F => rfl) e
theorem zi_235_23 {x0 x1 x2 x3 : Int} {s : zS} {R : Int × zS} {F : Nat} (e : zG F xm_c235 23 [x0, x1, x2, x3] [] s R) : ∃ F1, F1 < F ∧ zG F1 xm_c235 25 [x0, x1, x2, 0] [] s R := zd_step (k := 2) (by decide) (fun F => rfl) e
theorem zi_235_25 {x0 x1 x2 x3 : Int} {s : zS} {R : Int × zS} {F : Nat} (e : zG F xm_c235 25 [x0, x1, x2, x3] [] s R) : ∃ F1, F1 < F ∧ ((x3 < s (x0 + 10) 1 ∧ zG F1 xm_c235 31 [x0, x1, x2, x3] [] s R) ∨ (¬ (x3 < s (x0 + 10) 1) ∧ zG F1 xm_c235 45 [x0, x1, x2, x3] [] s R)) := zd_if (k := 6) (by decide) (fun F => rfl) e
theorem zi_235_31 {x0 x1 x2 x3 : Int} {s : zS} {R : Int × zS} {F : Nat} (e : zG F xm_c235 31 [x0, x1, x2, x3] [] s R) : ∃ F1, F1 < F ∧ ∃ r s1, zG F1 xm_c180 0 [x0, x3] [] s (r, s1) ∧ zG F1 xm_c235 35 [x0, x1, x2, x3] [(false, r), (false, x2)] s1 R := zd_call (k := 4) (push := fun r => [(false, r), (false, x2)]) (by decide) (fun F => rfl) e
theorem zi_235_35 {x0 x1 x2 x3 y0 y1 : Int} {s : zS} {R : Int × zS} {F : Nat} (e : zG F xm_c235 35 [x0, x1, x2, x3] [(false, y1), (false, y0)] s R) : ∃ F1, F1 < F ∧ ((y1 = 0 ∧ zG F1 xm_c235 38 [x0, x1, x2, x3] [(false, y0)] s R) ∨ (¬ (y1 = 0) ∧ zG F1 xm_c235 36 [x0, x1, x2, x3] [(false, y0)] s R)) := zd_if (k := 1) (by decide) (fun F => rfl) e
theorem zi_235_36 {x0 x1 x2 x3 y0 : Int} {s : zS} {R : Int × zS} {F : Nat} (e : zG F xm_c235 36 [x0, x1, x2, x3] [(false, y0)] s R) : ∃ F1, F1 < F ∧ zG F1 xm_c235 25 [x0, x1, zor y0 0, zw (x3 + 1)] [] s R := zd_step (k := 6) (by decide) (fun F => rfl) e
theorem zi_235_38 {x0 x1 x2 x3 y0 : Int} {s : zS} {R : Int × zS} {F : Nat} (e : zG F xm_c235 38 [x0, x1, x2, x3] [(false, y0)] s R) : ∃ F1, F1 < F ∧ zG F1 xm_c235 25 [x0, x1, zor y0 (zshl 1 x3), zw (x3 + 1)] [] s R := zd_step (k := 7) (by decide) (fun F => rfl) e
theorem zi_235_45 {x0 x1 x2 x3 : Int} {s : zS} {R : Int × zS} {F : Nat} (e : zG F xm_c235 45 [x0, x1, x2, x3] [] s R) : R = (x2, s) := zd_ret (k := 2) (fun F => rfl) e
theorem zi_235_47 {x0 x1 x2 x3 : Int} {s : zS} {R : Int × zS} {F : Nat} (e : zG F xm_c235 47 [x0, x1, x2, x3] [] s R) : R = (s (x0 + 10) 137, s) := zd_ret (k := 5) (fun F => rfl) e
theorem zi_235_52 {x0 x1 x2 x3 : Int} {s : zS} {R : Int × zS} {F : Nat} (e : zG F xm_c235 52 [x0, x1, x2, x3] [] s R) : R = (s x0 26, s) := zd_ret (k := 3) (fun F => rfl) e
theorem zi_235_55 {x0 x1 x2 x3 : Int} {s : zS} {R : Int × zS} {F : Nat} (e : zG F xm_c235 55 [x0, x1, x2, x3] [] s R) : R = (s x0 22, s) := zd_ret (k := 3) (fun F => rfl) e
theorem zi_235_58 {x0 x1 x2 x3 : Int} {s : zS} {R : Int × zS} {F : Nat} (e : zG F xm_c235 58 [x0, x1, x2, x3] [] s R) : R = (s x0 1, s) := zd_ret (k := 3) (fun F => rfl) e
theorem zi_235_61 {x0 x1 x2 x3 : Int} {s : zS} {R : Int × zS} {F : Nat} (e : zG F xm_c235 61 [x0, x1, x2, x3] [] s R) : R = (s (x0 + 10) 5, s) := zd_ret (k := 5) (fun F => rfl) e
theorem zi_235_66 {x0 x1 x2 x3 : Int} {s : zS} {R : Int × zS} {F : Nat} (e : zG F xm_c235 66 [x0, x1, x2, x3] [] s R) : R = ((-1), s) := zd_ret (k := 2) (fun F => rfl) e
theorem zJ_93 {F : Nat} {x0 x1 x2 : Int} {s : zS} {R : Int × zS} (e0 : zG F xm_c93 0 [x0, x1, x2] [] s R) : R.2 = s := by
  obtain ⟨F1, l1, r1, s1, q1, e1⟩ := zi_93_0 e0
  have k1 : s1 = _ := zJ_23 q1
  subst k1
  obtain ⟨F2, l2, ⟨c2, e2⟩ | ⟨c2, e2⟩⟩ := zi_93_5 e1
  · have k3 := zi_93_6 e2
    subst k3
    rfl
  · obtain ⟨F4, l4, e4⟩ := zi_93_8 e2
    obtain ⟨F5, l5, ⟨c5, e5⟩ | ⟨c5, e5⟩ | ⟨c5, e5⟩ | ⟨c5, e5⟩ | ⟨c5, e5⟩ | ⟨c5, e5⟩ | ⟨c5, e5⟩ | ⟨c5, e5⟩ | ⟨c5, e5⟩⟩ := zi_93_9 e4
    · have k6 := zi_93_10 e5
      subst k6
      rfl
    · have k7 := zi_93_17 e5
      subst k7
      rfl
    · have k8 := zi_93_24 e5
      subst k8
      rfl
    · have k9 := zi_93_31 e5
      subst k9
      rfl
    · have k10 := zi_93_38 e5
      subst k10
      rfl
    · have k11 := zi_93_45 e5
      subst k11
      rfl
    · obtain ⟨F12, l12, r12, s12, q12, e12⟩ := zi_93_52 e5
      have k12 : s12 = _ := zJ_120 q12
      subst k12
      have k13 := zi_93_58 e12
      subst k13
      rfl
    · have k14 := zi_93_59 e5
      subst k14
      rfl
    · have k15 := zi_93_66 e5
      subst k15
      rfl
theorem zJ_94 {F : Nat} {x0 x1 x2 : Int} {s : zS} {R : Int × zS} (e0 : zG F xm_c94 0 [x0, x1, x2] [] s R) : R.2 = s := by
  obtain ⟨F1, l1, r1, s1, q1, e1⟩ := zi_94_0 e0
  have k1 : s1 = _ := zJ_23 q1
  subst k1
  obtain ⟨F2, l2, ⟨c2, e2⟩ | ⟨c2, e2⟩⟩ := zi_94_5 e1
  · have k3 := zi_94_6 e2
    subst k3
    rfl
  · obtain ⟨F4, l4, e4⟩ := zi_94_8 e2
    obtain ⟨F5, l5, ⟨c5, e5⟩ | ⟨c5, e5⟩ | ⟨c5, e5⟩ | ⟨c5, e5⟩⟩ := zi_94_9 e4
    · have k6 := zi_94_10 e5
      subst k6
      rfl
    · have k7 := zi_94_17 e5
      subst k7
      rfl
    · have k8 := zi_94_24 e5
      subst k8
      rfl
    · have k9 := zi_94_31 e5
      subst k9
      rfl
theorem zJ_7 {F : Nat} {x0 x1 x2 x3 x4 : Int} {s : zS} {R : Int × zS} (e0 : zG F xm_c7 0 [x0, x1, x2, x3, x4] [] s R) : R.2 = s := by
  have loop : ∀ F : Nat, (∀ (x0 x1 x2 x3 x4 : Int) , ∀ (s : zS) (R : Int × zS), zG F xm_c7 4 [x0, x1, x2, x3, x4] [] s R → R.2 = s) := by
    intro F
    induction F using Nat.strongRecOn with
    | _ F ih =>
      intro x0 x1 x2 x3 x4 s R e0
      obtain ⟨F1, l1, ⟨c1, e1⟩ | ⟨c1, e1⟩⟩ := zi_7_4 e0
      · obtain ⟨F2, l2, ⟨c2, e2⟩ | ⟨c2, e2⟩⟩ := zi_7_7 e1
        · obtain ⟨F3, l3, e3⟩ := zi_7_14 e2
          exact (ih _ (Nat.lt_trans l3 (Nat.lt_trans l2 l1))) _ _ _ _ _ _ _ e3
        · obtain ⟨F4, l4, e4⟩ := zi_7_18 e2
          exact (ih _ (Nat.lt_trans l4 (Nat.lt_trans l2 l1))) _ _ _ _ _ _ _ e4
      · have k5 := zi_7_23 e1
        subst k5
        rfl
  obtain ⟨F6, l6, e6⟩ := zi_7_0 e0
  exact (loop _) _ _ _ _ _ _ _ e6
theorem zJ_95 {F : Nat} {x0 x1 x2 : Int} {s : zS} {R : Int × zS} (e0 : zG F xm_c95 0 [x0, x1, x2] [] s R) : R.2 = s := by
  obtain ⟨F1, l1, r1, s1, q1, e1⟩ := zi_95_0 e0
  have k1 : s1 = _ := zJ_22 q1
  subst k1
  obtain ⟨F2, l2, ⟨c2, e2⟩ | ⟨c2, e2⟩⟩ := zi_95_5 e1
  · have k3 := zi_95_6 e2
    subst k3
    rfl
  · obtain ⟨F4, l4, e4⟩ := zi_95_8 e2
    obtain ⟨F5, l5, ⟨c5, e5⟩ | ⟨c5, e5⟩ | ⟨c5, e5⟩ | ⟨c5, e5⟩⟩ := zi_95_9 e4
    · obtain ⟨F6, l6, r6, s6, q6, e6⟩ := zi_95_10 e5
      have k6 : s6 = _ := zJ_7 q6
      subst k6
      have k7 := zi_95_19 e6
      subst k7
      rfl
    · obtain ⟨F8, l8, r8, s8, q8, e8⟩ := zi_95_20 e5
      have k8 : s8 = _ := zJ_120 q8
      subst k8
      have k9 := zi_95_26 e8
      subst k9
      rfl
    · obtain ⟨F10, l10, r10, s10, q10, e10⟩ := zi_95_27 e5
      have k10 : s10 = _ := zJ_120 q10
      subst k10
      have k11 := zi_95_33 e10
      subst k11
      rfl
    · have k12 := zi_95_34 e5
      subst k12
      rfl
theorem zJ_119 {F : Nat} {x0 x1 x2 x3 : Int} {s : zS} {R : Int × zS} (e0 : zG F xm_c119 0 [x0, x1, x2, x3] [] s R) : R.2 = s := by
  have loop : ∀ F : Nat, (∀ (x0 x1 x2 x3 : Int) , ∀ (s : zS) (R : Int × zS), zG F xm_c119 4 [x0, x1, x2, x3] [] s R → R.2 = s) := by
    intro F
    induction F using Nat.strongRecOn with
    | _ F ih =>
      intro x0 x1 x2 x3 s R e0
      obtain ⟨F1, l1, ⟨c1, e1⟩ | ⟨c1, e1⟩⟩ := zi_119_4 e0
      · obtain ⟨F2, l2, e2⟩ := zi_119_10 e1
        exact (ih _ (Nat.lt_trans l2 l1)) _ _ _ _ _ _ e2
      · have k3 := zi_119_24 e1
        subst k3
        rfl
  obtain ⟨F4, l4, e4⟩ := zi_119_0 e0
  exact (loop _) _ _ _ _ _ _ e4
theorem zJ_111 {F : Nat} {x0 x1 x2 x3 : Int} {s : zS} {R : Int × zS} (e0 : zG F xm_c111 0 [x0, x1, x2, x3] [] s R) : R.2 = s := by
  have loop : ∀ F : Nat, (∀ (x0 x1 x2 x3 : Int) , ∀ (s : zS) (R : Int × zS), zG F xm_c111 14 [x0, x1, x2, x3] [] s R → R.2 = s) := by
    intro F
    induction F using Nat.strongRecOn with
    | _ F ih =>
      intro x0 x1 x2 x3 s R e0
      obtain ⟨F1, l1, ⟨c1, e1⟩ | ⟨c1, e1⟩⟩ := zi_111_14 e0
      · obtain ⟨F2, l2, r2, s2, q2, e2⟩ := zi_111_20 e1
        have k2 : s2 = _ := zJ_119 q2
        subst k2
        obtain ⟨F3, l3, r3, s3, q3, e3⟩ := zi_111_23 e2
        have k3 : s3 = _ := zJ_119 q3
        subst k3
        obtain ⟨F4, l4, ⟨c4, e4⟩ | ⟨c4, e4⟩⟩ := zi_111_26 e3
        · obtain ⟨F5, l5, e5⟩ := zi_111_27 e4
          exact (ih _ (Nat.lt_trans l5 (Nat.lt_trans l4 (Nat.lt_trans l3 (Nat.lt_trans l2 l1))))) _ _ _ _ _ _ e5
        · obtain ⟨F6, l6, e6⟩ := zi_111_29 e4
          exact (ih _ (Nat.lt_trans l6 (Nat.lt_trans l4 (Nat.lt_trans l3 (Nat.lt_trans l2 l1))))) _ _ _ _ _ _ e6
      · obtain ⟨F7, l7, ⟨c7, e7⟩ | ⟨c7, e7⟩⟩ := zi_111_31 e1
        · have k8 := zi_111_33 e7
          subst k8
          rfl
        · obtain ⟨F9, l9, r9, s9, q9, e9⟩ := zi_111_35 e7
          have k9 : s9 = _ := zJ_119 q9
          subst k9
          have k10 := zi_111_38 e9
          subst k10
          rfl
  obtain ⟨F11, l11, r11, s11, q11, e11⟩ := zi_111_0 e0
  have k11 : s11 = _ := zJ_21 q11
  subst k11
  obtain ⟨F12, l12, ⟨c12, e12⟩ | ⟨c12, e12⟩⟩ := zi_111_4 e11
  · have k13 := zi_111_8 e12
    subst k13
    rfl
  · obtain ⟨F14, l14, r14, s14, q14, e14⟩ := zi_111_5 e12
    have k14 : s14 = _ := zJ_122 q14
    subst k14
    obtain ⟨F15, l15, ⟨c15, e15⟩ | ⟨c15, e15⟩⟩ := zi_111_7 e14
    · have k16 := zi_111_8 e15
      subst k16
      rfl
    · obtain ⟨F17, l17, e17⟩ := zi_111_10 e15
      exact (loop _) _ _ _ _ _ _ e17
theorem zJ_6 {F : Nat} {x0 x1 x2 x3 : Int} {s : zS} {R : Int × zS} (e0 : zG F xm_c6 0 [x0, x1, x2, x3] [] s R) : R.2 = s := by
  have loop : ∀ F : Nat, (∀ (x0 x1 x2 x3 : Int) , ∀ (s : zS) (R : Int × zS), zG F xm_c6 4 [x0, x1, x2, x3] [] s R → R.2 = s) := by
    intro F
    induction F using Nat.strongRecOn with
    | _ F ih =>
      intro x0 x1 x2 x3 s R e0
      obtain ⟨F1, l1, ⟨c1, e1⟩ | ⟨c1, e1⟩⟩ := zi_6_4 e0
      · obtain ⟨F2, l2, r2, s2, q2, e2⟩ := zi_6_7 e1
        have k2 : s2 = _ := zJ_4 q2
        subst k2
        obtain ⟨F3, l3, ⟨c3, e3⟩ | ⟨c3, e3⟩⟩ := zi_6_11 e2
        · obtain ⟨F4, l4, e4⟩ := zi_6_14 e3
          exact (ih _ (Nat.lt_trans l4 (Nat.lt_trans l3 (Nat.lt_trans l2 l1)))) _ _ _ _ _ _ e4
        · obtain ⟨F5, l5, e5⟩ := zi_6_12 e3
          exact (ih _ (Nat.lt_trans l5 (Nat.lt_trans l3 (Nat.lt_trans l2 l1)))) _ _ _ _ _ _ e5
      · have k6 := zi_6_21 e1
        subst k6
        rfl
  obtain ⟨F7, l7, e7⟩ := zi_6_0 e0
  exact (loop _) _ _ _ _ _ _ e7
theorem zJ_115 {F : Nat} {x0 x1 : Int} {s : zS} {R : Int × zS} (e0 : zG F xm_c115 0 [x0, x1] [] s R) : R.2 = s := by
  obtain ⟨F1, l1, e1⟩ := zi_115_0 e0
  obtain ⟨F2, l2, ⟨c2, e2⟩ | ⟨c2, e2⟩ | ⟨c2, e2⟩ | ⟨c2, e2⟩ | ⟨c2, e2⟩ | ⟨c2, e2⟩ | ⟨c2, e2⟩ | ⟨c2, e2⟩ | ⟨c2, e2⟩ | ⟨c2, e2⟩ | ⟨c2, e2⟩ | ⟨c2, e2⟩ | ⟨c2, e2⟩ | ⟨c2, e2⟩⟩ := zi_115_1 e1
  · have k3 := zi_115_2 e2
    subst k3
    rfl
  · have k4 := zi_115_7 e2
    subst k4
    rfl
  · have k5 := zi_115_12 e2
    subst k5
    rfl
  · have k6 := zi_115_17 e2
    subst k6
    rfl
  · have k7 := zi_115_20 e2
    subst k7
    rfl
  · have k8 := zi_115_24 e2
    subst k8
    rfl
  · have k9 := zi_115_29 e2
    subst k9
    rfl
  · obtain ⟨F10, l10, r10, s10, q10, e10⟩ := zi_115_34 e2
    have k10 : s10 = _ := zJ_6 q10
    subst k10
    have k11 := zi_115_42 e10
    subst k11
    rfl
  · have k12 := zi_115_43 e2
    subst k12
    rfl
  · have k13 := zi_115_47 e2
    subst k13
    rfl
  · have k14 := zi_115_51 e2
    subst k14
    rfl
  · have k15 := zi_115_55 e2
    subst k15
    rfl
  · have k16 := zi_115_59 e2
    subst k16
    rfl
  · have k17 := zi_115_64 e2
    subst k17
    rfl
theorem zJr_176 {F : Nat} {x0 x1 : Int} {s : zS} {R : Int × zS} (e0 : zG F xm_c176 0 [x0, x1] [] s R) : R.2 = s := by
  obtain ⟨F1, l1, ⟨c1, e1⟩ | ⟨c1, e1⟩⟩ := zi_176_0 e0
  · have k2 := zi_176_10 e1
    subst k2
    rfl
  · obtain ⟨F3, l3, ⟨c3, e3⟩ | ⟨c3, e3⟩⟩ := zi_176_2 e1
    · have k4 := zi_176_8 e3
      subst k4
      rfl
    · have k5 := zi_176_10 e3
      subst k5
      rfl
theorem zJ_184 {F : Nat} {x0 x1 x2 : Int} {s : zS} {R : Int × zS} (e0 : zG F xm_c184 0 [x0, x1, x2] [] s R) : R.2 = s := by
  obtain ⟨F1, l1, r1, s1, q1, e1⟩ := zi_184_0 e0
  have k1 : s1 = _ := zJr_176 q1
  subst k1
  obtain ⟨F2, l2, ⟨c2, e2⟩ | ⟨c2, e2⟩⟩ := zi_184_3 e1
  · have k3 := zi_184_15 e2
    subst k3
    rfl
  · obtain ⟨F4, l4, r4, s4, q4, e4⟩ := zi_184_4 e2
    have k4 : s4 = _ := zJ_125 q4
    subst k4
    obtain ⟨F5, l5, ⟨c5, e5⟩ | ⟨c5, e5⟩⟩ := zi_184_9 e4
    · have k6 := zi_184_15 e5
      subst k6
      rfl
    · obtain ⟨F7, l7, r7, s7, q7, e7⟩ := zi_184_10 e5
      have k7 : s7 = _ := zJ_178 q7
      subst k7
      have k8 := zi_184_14 e7
      subst k8
      rfl
theorem zJ_185 {F : Nat} {x0 x1 x2 : Int} {s : zS} {R : Int × zS} (e0 : zG F xm_c185 0 [x0, x1, x2] [] s R) : R.2 = s := by
  obtain ⟨F1, l1, r1, s1, q1, e1⟩ := zi_185_0 e0
  have k1 : s1 = _ := zJr_176 q1
  subst k1
  obtain ⟨F2, l2, ⟨c2, e2⟩ | ⟨c2, e2⟩⟩ := zi_185_3 e1
  · have k3 := zi_185_17 e2
    subst k3
    rfl
  · obtain ⟨F4, l4, r4, s4, q4, e4⟩ := zi_185_4 e2
    have k4 : s4 = _ := zJ_125 q4
    subst k4
    obtain ⟨F5, l5, ⟨c5, e5⟩ | ⟨c5, e5⟩⟩ := zi_185_9 e4
    · have k6 := zi_185_17 e5
      subst k6
      rfl
    · obtain ⟨F7, l7, r7, s7, q7, e7⟩ := zi_185_10 e5
      have k7 : s7 = _ := zJ_178 q7
      subst k7
      have k8 := zi_185_16 e7
      subst k8
      rfl
theorem zJ_186 {F : Nat} {x0 x1 x2 x3 x4 : Int} {s : zS} {R : Int × zS} (e0 : zG F xm_c186 0 [x0, x1, x2, x3, x4] [] s R) : R.2 = s := by
  have loop : ∀ F : Nat, (∀ (x0 x1 x2 x3 x4 : Int) , ∀ (s : zS) (R : Int × zS), zG F xm_c186 29 [x0, x1, x2, x3, x4] [] s R → R.2 = s) := by
    intro F
    induction F using Nat.strongRecOn with
    | _ F ih =>
      intro x0 x1 x2 x3 x4 s R e0
      obtain ⟨F1, l1, ⟨c1, e1⟩ | ⟨c1, e1⟩⟩ := zi_186_29 e0
      · obtain ⟨F2, l2, r2, s2, q2, e2⟩ := zi_186_35 e1
        have k2 : s2 = _ := zJ_178 q2
        subst k2
        obtain ⟨F3, l3, ⟨c3, e3⟩ | ⟨c3, e3⟩⟩ := zi_186_40 e2
        · obtain ⟨F4, l4, e4⟩ := zi_186_42 e3
          exact (ih _ (Nat.lt_trans l4 (Nat.lt_trans l3 (Nat.lt_trans l2 l1)))) _ _ _ _ _ _ _ e4
        · obtain ⟨F5, l5, e5⟩ := zi_186_46 e3
          exact (ih _ (Nat.lt_trans l5 (Nat.lt_trans l3 (Nat.lt_trans l2 l1)))) _ _ _ _ _ _ _ e5
      · have k6 := zi_186_51 e1
        subst k6
        rfl
  obtain ⟨F7, l7, r7, s7, q7, e7⟩ := zi_186_0 e0
  have k7 : s7 = _ := zJ_177 q7
  subst k7
  obtain ⟨F8, l8, ⟨c8, e8⟩ | ⟨c8, e8⟩⟩ := zi_186_3 e7
  · have k9 := zi_186_10 e8
    subst k9
    rfl
  · obtain ⟨F10, l10, r10, s10, q10, e10⟩ := zi_186_4 e8
    have k10 : s10 = _ := zJ_125 q10
    subst k10
    obtain ⟨F11, l11, ⟨c11, e11⟩ | ⟨c11, e11⟩⟩ := zi_186_9 e10
    · have k12 := zi_186_10 e11
      subst k12
      rfl
    · obtain ⟨F13, l13, ⟨c13, e13⟩ | ⟨c13, e13⟩⟩ := zi_186_12 e11
      · have k14 := zi_186_14 e13
        subst k14
        rfl
      · obtain ⟨F15, l15, e15⟩ := zi_186_25 e13
        exact (loop _) _ _ _ _ _ _ _ e15
theorem zJ_203 {F : Nat} {x0 x1 : Int} {s : zS} {R : Int × zS} (e0 : zG F xm_c203 0 [x0, x1] [] s R) : R.2 = s := by
  obtain ⟨F1, l1, ⟨c1, e1⟩ | ⟨c1, e1⟩⟩ := zi_203_0 e0
  · have k2 := zi_203_3 e1
    subst k2
    rfl
  · have k3 := zi_203_7 e1
    subst k3
    rfl
theorem zJ_227 {F : Nat} {x0 x1 x2 x3 : Int} {s : zS} {R : Int × zS} (e0 : zG F xm_c227 0 [x0, x1, x2, x3] [] s R) : R.2 = s := by
  have loop : ∀ F : Nat, (∀ (x0 x1 x2 x3 : Int) , ∀ (s : zS) (R : Int × zS), zG F xm_c227 4 [x0, x1, x2, x3] [] s R → R.2 = s) := by
    intro F
    induction F using Nat.strongRecOn with
    | _ F ih =>
      intro x0 x1 x2 x3 s R e0
      obtain ⟨F1, l1, ⟨c1, e1⟩ | ⟨c1, e1⟩⟩ := zi_227_4 e0
      · obtain ⟨F2, l2, r2, s2, q2, e2⟩ := zi_227_10 e1
        have k2 : s2 = _ := zJ_178 q2
        subst k2
        obtain ⟨F3, l3, r3, s3, q3, e3⟩ := zi_227_15 e2
        have k3 : s3 = _ := zJ_203 q3
        subst k3
        obtain ⟨F4, l4, e4⟩ := zi_227_17 e3
        exact (ih _ (Nat.lt_trans l4 (Nat.lt_trans l3 (Nat.lt_trans l2 l1)))) _ _ _ _ _ _ e4
      · have k5 := zi_227_21 e1
        subst k5
        rfl
  obtain ⟨F6, l6, e6⟩ := zi_227_0 e0
  exact (loop _) _ _ _ _ _ _ e6
theorem zJ_228 {F : Nat} {x0 x1 x2 x3 : Int} {s : zS} {R : Int × zS} (e0 : zG F xm_c228 0 [x0, x1, x2, x3] [] s R) : R.2 = s := by
  have loop : ∀ F : Nat, (∀ (x0 x1 x2 x3 : Int) , ∀ (s : zS) (R : Int × zS), zG F xm_c228 15 [x0, x1, x2, x3] [] s R → R.2 = s) := by
    intro F
    induction F using Nat.strongRecOn with
    | _ F ih =>
      intro x0 x1 x2 x3 s R e0
      obtain ⟨F1, l1, ⟨c1, e1⟩ | ⟨c1, e1⟩⟩ := zi_228_15 e0
      · obtain ⟨F2, l2, r2, s2, q2, e2⟩ := zi_228_21 e1
        have k2 : s2 = _ := zJ_227 q2
        subst k2
        obtain ⟨F3, l3, r3, s3, q3, e3⟩ := zi_228_24 e2
        have k3 : s3 = _ := zJ_227 q3
        subst k3
        obtain ⟨F4, l4, ⟨c4, e4⟩ | ⟨c4, e4⟩⟩ := zi_228_27 e3
        · obtain ⟨F5, l5, e5⟩ := zi_228_28 e4
          exact (ih _ (Nat.lt_trans l5 (Nat.lt_trans l4 (Nat.lt_trans l3 (Nat.lt_trans l2 l1))))) _ _ _ _ _ _ e5
        · obtain ⟨F6, l6, e6⟩ := zi_228_30 e4
          exact (ih _ (Nat.lt_trans l6 (Nat.lt_trans l4 (Nat.lt_trans l3 (Nat.lt_trans l2 l1))))) _ _ _ _ _ _ e6
      · obtain ⟨F7, l7, ⟨c7, e7⟩ | ⟨c7, e7⟩⟩ := zi_228_32 e1
        · have k8 := zi_228_34 e7
          subst k8
          rfl
        · obtain ⟨F9, l9, r9, s9, q9, e9⟩ := zi_228_36 e7
          have k9 : s9 = _ := zJ_227 q9
          subst k9
          have k10 := zi_228_39 e9
          subst k10
          rfl
  obtain ⟨F11, l11, r11, s11, q11, e11⟩ := zi_228_0 e0
  have k11 : s11 = _ := zJ_175 q11
  subst k11
  obtain ⟨F12, l12, ⟨c12, e12⟩ | ⟨c12, e12⟩⟩ := zi_228_2 e11
  · have k13 := zi_228_9 e12
    subst k13
    rfl
  · obtain ⟨F14, l14, r14, s14, q14, e14⟩ := zi_228_3 e12
    have k14 : s14 = _ := zJ_125 q14
    subst k14
    obtain ⟨F15, l15, ⟨c15, e15⟩ | ⟨c15, e15⟩⟩ := zi_228_8 e14
    · have k16 := zi_228_9 e15
      subst k16
      rfl
    · obtain ⟨F17, l17, e17⟩ := zi_228_11 e15
      exact (loop _) _ _ _ _ _ _ e17
theorem zJ_235 {F : Nat} {x0 x1 x2 x3 : Int} {s : zS} {R : Int × zS} (e0 : zG F xm_c235 0 [x0, x1, x2, x3] [] s R) : R.2 = s := by
  have loop : ∀ F : Nat, (∀ (x0 x1 x2 x3 : Int) , ∀ (s : zS) (R : Int × zS), zG F xm_c235 25 [x0, x1, x2, x3] [] s R → R.2 = s) := by
    intro F
    induction F using Nat.strongRecOn with
    | _ F ih =>
      intro x0 x1 x2 x3 s R e0
      obtain ⟨F1, l1, ⟨c1, e1⟩ | ⟨c1, e1⟩⟩ := zi_235_25 e0
      · obtain ⟨F2, l2, r2, s2, q2, e2⟩ := zi_235_31 e1
        have k2 : s2 = _ := zJ_180 q2
        subst k2
        obtain ⟨F3, l3, ⟨c3, e3⟩ | ⟨c3, e3⟩⟩ := zi_235_35 e2
        · obtain ⟨F4, l4, e4⟩ := zi_235_38 e3
          exact (ih _ (Nat.lt_trans l4 (Nat.lt_trans l3 (Nat.lt_trans l2 l1)))) _ _ _ _ _ _ e4
        · obtain ⟨F5, l5, e5⟩ := zi_235_36 e3
          exact (ih _ (Nat.lt_trans l5 (Nat.lt_trans l3 (Nat.lt_trans l2 l1)))) _ _ _ _ _ _ e5
      · have k6 := zi_235_45 e1
        subst k6
        rfl
  obtain ⟨F7, l7, e7⟩ := zi_235_0 e0
  obtain ⟨F8, l8, ⟨c8, e8⟩ | ⟨c8, e8⟩ | ⟨c8, e8⟩ | ⟨c8, e8⟩ | ⟨c8, e8⟩ | ⟨c8, e8⟩ | ⟨c8, e8⟩ | ⟨c8, e8⟩ | ⟨c8, e8⟩ | ⟨c8, e8⟩ | ⟨c8, e8⟩ | ⟨c8, e8⟩ | ⟨c8, e8⟩ | ⟨c8, e8⟩⟩ := zi_235_3 e7
  · have k9 := zi_235_4 e8
    subst k9
    rfl
  · have k10 := zi_235_4 e8
    subst k10
    rfl
  · have k11 := zi_235_4 e8
    subst k11
    rfl
  · have k12 := zi_235_9 e8
    subst k12
    rfl
  · have k13 := zi_235_12 e8
    subst k13
    rfl
  · have k14 := zi_235_15 e8
    subst k14
    rfl
  · obtain ⟨F15, l15, r15, s15, q15, e15⟩ := zi_235_20 e8
    have k15 : s15 = _ := zJ_181 q15
    subst k15
    have k16 := zi_235_22 e15
    subst k16
    rfl
  · obtain ⟨F17, l17, e17⟩ := zi_235_23 e8
    exact (loop _) _ _ _ _ _ _ e17
  · have k18 := zi_235_47 e8
    subst k18
    rfl
  · have k19 := zi_235_52 e8
    subst k19
    rfl
  · have k20 := zi_235_55 e8
    subst k20
    rfl
  · have k21 := zi_235_58 e8
    subst k21
    rfl
  · have k22 := zi_235_61 e8
    subst k22
    rfl
  · have k23 := zi_235_66 e8
    subst k23
    rfl
