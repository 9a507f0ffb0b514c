/-! straight runs, printed by wip/z/gen_f.py 113 231 93 94 95 111 115 119 6 7 184 185 186 228 227 235 -/
theorem zb_113_0 {x0 x1 x2 : Int} {s : zS} {R : Int × zS} (h1 : x1 < 0 → zA xm_c113 2 [x0, x1, x2] [] s R) (h2 : ¬ (x1 < 0) → zA xm_c113 4 [x0, x1, x2] [] s R) : zA xm_c113 0 [x0, x1, x2] [] s R := zA_if (k := 2) (fun F => rfl) h1 h2
theorem zb_113_4 {x0 x1 x2 : Int} {s : zS} {R : Int × zS} (h : (s (x0 + 3) 7, zu s (x0 + 3) 7 x1) = R) : zA xm_c113 4 [x0, x1, x2] [] s R := zA_ret (k := 10) (fun F => congrArg some h)
theorem zb_113_2 {x0 x1 x2 : Int} {s : zS} {R : Int × zS} (h : ((-1), s) = R) : zA xm_c113 2 [x0, x1, x2] [] s R := zA_ret (k := 2) (fun F => congrArg some h)
theorem zb_231_0 {x0 x1 x2 : Int} {s : zS} {R : Int × zS} (h1 : x1 < 0 → zA xm_c231 2 [x0, x1, x2] [] s R) (h2 : ¬ (x1 < 0) → zA xm_c231 4 [x0, x1, x2] [] s R) : zA xm_c231 0 [x0, x1, x2] [] s R := zA_if (k := 2) (fun F => rfl) h1 h2
theorem zb_231_4 {x0 x1 x2 : Int} {s : zS} {R : Int × zS} (h : (s x0 22, zu s x0 22 x1) = R) : zA xm_c231 4 [x0, x1, x2] [] s R := zA_ret (k := 8) (fun F => congrArg some h)
theorem zb_231_2 {x0 x1 x2 : Int} {s : zS} {R : Int × zS} (h : ((-1), s) = R) : zA xm_c231 2 [x0, x1, x2] [] s R := zA_ret (k := 2) (fun F => congrArg some h)
theorem zb_93_0 {x0 x1 x2 : Int} {s : zS} {R : Int × zS} {r : Int} {s1 : zS} (hE : zE xm_c23 [(x0 + 3) + 1, x1] s r s1) (h : zA xm_c93 5 [x0, x1, x2] [(false, r)] s1 R) : zA xm_c93 0 [x0, x1, x2] [] s R := zA_call (k := 5) (push := fun r => [(false, r)]) (fun F => rfl) hE h
theorem zb_93_5 {x0 x1 x2 y0 : Int} {s : zS} {R : Int × zS} (h1 : y0 = 0 → zA xm_c93 6 [x0, x1, x2] [] s R) (h2 : ¬ (y0 = 0) → zA xm_c93 8 [x0, x1, x2] [] s R) : zA xm_c93 5 [x0, x1, x2] [(false, y0)] s R := zA_if (k := 1) (fun F => rfl) h1 h2
theorem zb_93_8 {x0 x1 x2 : Int} {s : zS} {R : Int × zS} (h : zA xm_c93 9 [x0, x1, x2] [(false, x2)] s R) : zA xm_c93 8 [x0, x1, x2] [] s R := zA_step (k := 1) (fun F => rfl) h
theorem zb_93_9_c0 {x0 x1 x2 y0 : Int} {s : zS} {R : Int × zS} (hx : y0 = 0) (h : zA xm_c93 10 [x0, x1, x2] [] s R) : zA xm_c93 9 [x0, x1, x2] [(false, y0)] s R := by
  subst hx
  exact zA_step (k := 1) (fun F => rfl) h
theorem zb_93_9_c1 {x0 x1 x2 y0 : Int} {s : zS} {R : Int × zS} (hx : y0 = 1) (h : zA xm_c93 17 [x0, x1, x2] [] s R) : zA xm_c93 9 [x0, x1, x2] [(false, y0)] s R := by
  subst hx
  exact zA_step (k := 1) (fun F => rfl) h
theorem zb_93_9_c2 {x0 x1 x2 y0 : Int} {s : zS} {R : Int × zS} (hx : y0 = 2) (h : zA xm_c93 24 [x0, x1, x2] [] s R) : zA xm_c93 9 [x0, x1, x2] [(false, y0)] s R := by
  subst hx
  exact zA_step (k := 1) (fun F => rfl) h
theorem zb_93_9_c3 {x0 x1 x2 y0 : Int} {s : zS} {R : Int × zS} (hx : y0 = 3) (h : zA xm_c93 31 [x0, x1, x2] [] s R) : zA xm_c93 9 [x0, x1, x2] [(false, y0)] s R := by
  subst hx
  exact zA_step (k := 1) (fun F => rfl) h
theorem zb_93_9_c4 {x0 x1 x2 y0 : Int} {s : zS} {R : Int × zS} (hx : y0 = 4) (h : zA xm_c93 38 [x0, x1, x2] [] s R) : zA xm_c93 9 [x0, x1, x2] [(false, y0)] s R := by
  subst hx
  exact zA_step (k := 1) (fun F => rfl) h
theorem zb_93_9_c5 {x0 x1 x2 y0 : Int} {s : zS} {R : Int × zS} (hx : y0 = 5) (h : zA xm_c93 45 [x0, x1, x2] [] s R) : zA xm_c93 9 [x0, x1, x2] [(false, y0)] s R := by
  subst hx
  exact zA_step (k := 1) (fun F => rfl) h
theorem zb_93_9_c6 {x0 x1 x2 y0 : Int} {s : zS} {R : Int × zS} (hx : y0 = 6) (h : zA xm_c93 52 [x0, x1, x2] [] s R) : zA xm_c93 9 [x0, x1, x2] [(false, y0)] s R := by
  subst hx
  exact zA_step (k := 1) (fun F => rfl) h
theorem zb_93_9_c7 {x0 x1 x2 y0 : Int} {s : zS} {R : Int × zS} (hx : y0 = 7) (h : zA xm_c93 59 [x0, x1, x2] [] s R) : zA xm_c93 9 [x0, x1, x2] [(false, y0)] s R := by
  subst hx
  exact zA_step (k := 1) (fun F => rfl) h
theorem zb_93_9_d {x0 x1 x2 y0 : Int} {s : zS} {R : Int × zS} (hx : y0 < 0 ∨ 8 ≤ y0) (h : zA xm_c93 66 [x0, x1, x2] [] s R) : zA xm_c93 9 [x0, x1, x2] [(false, y0)] s R := zA_step (k := 1) (fun F => by
    show (match zsw 0 66 [10, 17, 24, 31, 38, 45, 52, 59] y0 with
      | some t => zm_run F xm_c93 (xm_drop t xm_c93) _ _ _
      | none => none) = _
    rw [show zsw 0 66 [10, 17, 24, 31, 38, 45, 52, 59] y0 = some 66 from if_pos hx]) h
theorem zb_93_66 {x0 x1 x2 : Int} {s : zS} {R : Int × zS} (h : ((-1000), s) = R) : zA xm_c93 66 [x0, x1, x2] [] s R := zA_ret (k := 2) (fun F => congrArg some h)
theorem zb_93_59 {x0 x1 x2 : Int} {s : zS} {R : Int × zS} (h : (s (((x0 + 3) + 1) + 4) x1, s) = R) : zA xm_c93 59 [x0, x1, x2] [] s R := zA_ret (k := 7) (fun F => congrArg some h)
theorem zb_93_52 {x0 x1 x2 : Int} {s : zS} {R : Int × zS} {r : Int} {s1 : zS} (hE : zE xm_c120 [s ((x0 + 3) + 1) 4, x1] s r s1) (h : zA xm_c93 58 [x0, x1, x2] [(false, r)] s1 R) : zA xm_c93 52 [x0, x1, x2] [] s R := zA_call (k := 6) (push := fun r => [(false, r)]) (fun F => rfl) hE h
theorem zb_93_58 {x0 x1 x2 y0 : Int} {s : zS} {R : Int × zS} (h : (y0, s) = R) : zA xm_c93 58 [x0, x1, x2] [(false, y0)] s R := zA_ret (k := 1) (fun F => congrArg some h)
theorem zb_93_45 {x0 x1 x2 : Int} {s : zS} {R : Int × zS} (h : (s (((x0 + 3) + 1) + 3) x1, s) = R) : zA xm_c93 45 [x0, x1, x2] [] s R := zA_ret (k := 7) (fun F => congrArg some h)
theorem zb_93_38 {x0 x1 x2 : Int} {s : zS} {R : Int × zS} (h : (s (((x0 + 3) + 1) + 1) x1, s) = R) : zA xm_c93 38 [x0, x1, x2] [] s R := zA_ret (k := 7) (fun F => congrArg some h)
theorem zb_93_31 {x0 x1 x2 : Int} {s : zS} {R : Int × zS} (h : (s (((x0 + 3) + 9) + 4) x1, s) = R) : zA xm_c93 31 [x0, x1, x2] [] s R := zA_ret (k := 7) (fun F => congrArg some h)
theorem zb_93_24 {x0 x1 x2 : Int} {s : zS} {R : Int × zS} (h : (s (((x0 + 3) + 9) + 3) x1, s) = R) : zA xm_c93 24 [x0, x1, x2] [] s R := zA_ret (k := 7) (fun F => congrArg some h)
theorem zb_93_17 {x0 x1 x2 : Int} {s : zS} {R : Int × zS} (h : (s (((x0 + 3) + 9) + 2) x1, s) = R) : zA xm_c93 17 [x0, x1, x2] [] s R := zA_ret (k := 7) (fun F => congrArg some h)
theorem zb_93_10 {x0 x1 x2 : Int} {s : zS} {R : Int × zS} (h : (s (((x0 + 3) + 9) + 1) x1, s) = R) : zA xm_c93 10 [x0, x1, x2] [] s R := zA_ret (k := 7) (fun F => congrArg some h)
theorem zb_93_6 {x0 x1 x2 : Int} {s : zS} {R : Int × zS} (h : ((-1000), s) = R) : zA xm_c93 6 [x0, x1, x2] [] s R := zA_ret (k := 2) (fun F => congrArg some h)
theorem zb_94_0 {x0 x1 x2 : Int} {s : zS} {R : Int × zS} {r : Int} {s1 : zS} (hE : zE xm_c23 [(x0 + 3) + 1, x1] s r s1) (h : zA xm_c94 5 [x0, x1, x2] [(false, r)] s1 R) : zA xm_c94 0 [x0, x1, x2] [] s R := zA_call (k := 5) (push := fun r => [(false, r)]) (fun F => rfl) hE h
theorem zb_94_5 {x0 x1 x2 y0 : Int} {s : zS} {R : Int × zS} (h1 : y0 = 0 → zA xm_c94 6 [x0, x1, x2] [] s R) (h2 : ¬ (y0 = 0) → zA xm_c94 8 [x0, x1, x2] [] s R) : zA xm_c94 5 [x0, x1, x2] [(false, y0)] s R := zA_if (k := 1) (fun F => rfl) h1 h2
theorem zb_94_8 {x0 x1 x2 : Int} {s : zS} {R : Int × zS} (h : zA xm_c94 9 [x0, x1, x2] [(false, x2)] s R) : zA xm_c94 8 [x0, x1, x2] [] s R := zA_step (k := 1) (fun F => rfl) h
theorem zb_94_9_c0 {x0 x1 x2 y0 : Int} {s : zS} {R : Int × zS} (hx : y0 = 0) (h : zA xm_c94 10 [x0, x1, x2] [] s R) : zA xm_c94 9 [x0, x1, x2] [(false, y0)] s R := by
  subst hx
  exact zA_step (k := 1) (fun F => rfl) h
theorem zb_94_9_c1 {x0 x1 x2 y0 : Int} {s : zS} {R : Int × zS} (hx : y0 = 1) (h : zA xm_c94 17 [x0, x1, x2] [] s R) : zA xm_c94 9 [x0, x1, x2] [(false, y0)] s R := by
  subst hx
  exact zA_step (k := 1) (fun F => rfl) h
theorem zb_94_9_c2 {x0 x1 x2 y0 : Int} {s : zS} {R : Int × zS} (hx : y0 = 2) (h : zA xm_c94 24 [x0, x1, x2] [] s R) : zA xm_c94 9 [x0, x1, x2] [(false, y0)] s R := by
  subst hx
  exact zA_step (k := 1) (fun F => rfl) h
theorem zb_94_9_d {x0 x1 x2 y0 : Int} {s : zS} {R : Int × zS} (hx : y0 < 0 ∨ 3 ≤ y0) (h : zA xm_c94 31 [x0, x1, x2] [] s R) : zA xm_c94 9 [x0, x1, x2] [(false, y0)] s R := zA_step (k := 1) (fun F => by
    show (match zsw 0 31 [10, 17, 24] y0 with
      | some t => zm_run F xm_c94 (xm_drop t xm_c94) _ _ _
      | none => none) = _
    rw [show zsw 0 31 [10, 17, 24] y0 = some 31 from if_pos hx]) h
theorem zb_94_31 {x0 x1 x2 : Int} {s : zS} {R : Int × zS} (h : ((-1000), s) = R) : zA xm_c94 31 [x0, x1, x2] [] s R := zA_ret (k := 2) (fun F => congrArg some h)
theorem zb_94_24 {x0 x1 x2 : Int} {s : zS} {R : Int × zS} (h : (s (((x0 + 3) + 14) + 3) x1, s) = R) : zA xm_c94 24 [x0, x1, x2] [] s R := zA_ret (k := 7) (fun F => congrArg some h)
theorem zb_94_17 {x0 x1 x2 : Int} {s : zS} {R : Int × zS} (h : (s (((x0 + 3) + 14) + 2) x1, s) = R) : zA xm_c94 17 [x0, x1, x2] [] s R := zA_ret (k := 7) (fun F => congrArg some h)
theorem zb_94_10 {x0 x1 x2 : Int} {s : zS} {R : Int × zS} (h : (s (((x0 + 3) + 14) + 1) x1, s) = R) : zA xm_c94 10 [x0, x1, x2] [] s R := zA_ret (k := 7) (fun F => congrArg some h)
theorem zb_94_6 {x0 x1 x2 : Int} {s : zS} {R : Int × zS} (h : ((-1000), s) = R) : zA xm_c94 6 [x0, x1, x2] [] s R := zA_ret (k := 2) (fun F => congrArg some h)
theorem zb_95_0 {x0 x1 x2 : Int} {s : zS} {R : Int × zS} {r : Int} {s1 : zS} (hE : zE xm_c22 [(x0 + 3) + 1, x1] s r s1) (h : zA xm_c95 5 [x0, x1, x2] [(false, r)] s1 R) : zA xm_c95 0 [x0, x1, x2] [] s R := zA_call (k := 5) (push := fun r => [(false, r)]) (fun F => rfl) hE h
theorem zb_95_5 {x0 x1 x2 y0 : Int} {s : zS} {R : Int × zS} (h1 : y0 = 0 → zA xm_c95 6 [x0, x1, x2] [] s R) (h2 : ¬ (y0 = 0) → zA xm_c95 8 [x0, x1, x2] [] s R) : zA xm_c95 5 [x0, x1, x2] [(false, y0)] s R := zA_if (k := 1) (fun F => rfl) h1 h2
theorem zb_95_8 {x0 x1 x2 : Int} {s : zS} {R : Int × zS} (h : zA xm_c95 9 [x0, x1, x2] [(false, x2)] s R) : zA xm_c95 8 [x0, x1, x2] [] s R := zA_step (k := 1) (fun F => rfl) h
theorem zb_95_9_c0 {x0 x1 x2 y0 : Int} {s : zS} {R : Int × zS} (hx : y0 = 0) (h : zA xm_c95 10 [x0, x1, x2] [] s R) : zA xm_c95 9 [x0, x1, x2] [(false, y0)] s R := by
  subst hx
  exact zA_step (k := 1) (fun F => rfl) h
theorem zb_95_9_c1 {x0 x1 x2 y0 : Int} {s : zS} {R : Int × zS} (hx : y0 = 1) (h : zA xm_c95 20 [x0, x1, x2] [] s R) : zA xm_c95 9 [x0, x1, x2] [(false, y0)] s R := by
  subst hx
  exact zA_step (k := 1) (fun F => rfl) h
theorem zb_95_9_c2 {x0 x1 x2 y0 : Int} {s : zS} {R : Int × zS} (hx : y0 = 2) (h : zA xm_c95 27 [x0, x1, x2] [] s R) : zA xm_c95 9 [x0, x1, x2] [(false, y0)] s R := by
  subst hx
  exact zA_step (k := 1) (fun F => rfl) h
theorem zb_95_9_d {x0 x1 x2 y0 : Int} {s : zS} {R : Int × zS} (hx : y0 < 0 ∨ 3 ≤ y0) (h : zA xm_c95 34 [x0, x1, x2] [] s R) : zA xm_c95 9 [x0, x1, x2] [(false, y0)] s R := zA_step (k := 1) (fun F => by
    show (match zsw 0 34 [10, 20, 27] y0 with
      | some t => zm_run F xm_c95 (xm_drop t xm_c95) _ _ _
      | none => none) = _
    rw [show zsw 0 34 [10, 20, 27] y0 = some 34 from if_pos hx]) h
theorem zb_95_34 {x0 x1 x2 : Int} {s : zS} {R : Int × zS} (h : ((-1), s) = R) : zA xm_c95 34 [x0, x1, x2] [] s R := zA_ret (k := 2) (fun F => congrArg some h)
theorem zb_95_27 {x0 x1 x2 : Int} {s : zS} {R : Int × zS} {r : Int} {s1 : zS} (hE : zE xm_c120 [s ((x0 + 3) + 1) 6, x1] s r s1) (h : zA xm_c95 33 [x0, x1, x2] [(false, r)] s1 R) : zA xm_c95 27 [x0, x1, x2] [] s R := zA_call (k := 6) (push := fun r => [(false, r)]) (fun F => rfl) hE h
theorem zb_95_33 {x0 x1 x2 y0 : Int} {s : zS} {R : Int × zS} (h : (y0, s) = R) : zA xm_c95 33 [x0, x1, x2] [(false, y0)] s R := zA_ret (k := 1) (fun F => congrArg some h)
theorem zb_95_20 {x0 x1 x2 : Int} {s : zS} {R : Int × zS} {r : Int} {s1 : zS} (hE : zE xm_c120 [s ((x0 + 3) + 9) 1, x1] s r s1) (h : zA xm_c95 26 [x0, x1, x2] [(false, r)] s1 R) : zA xm_c95 20 [x0, x1, x2] [] s R := zA_call (k := 6) (push := fun r => [(false, r)]) (fun F => rfl) hE h
theorem zb_95_26 {x0 x1 x2 y0 : Int} {s : zS} {R : Int × zS} (h : (y0, s) = R) : zA xm_c95 26 [x0, x1, x2] [(false, y0)] s R := zA_ret (k := 1) (fun F => congrArg some h)
theorem zb_95_10 {x0 x1 x2 : Int} {s : zS} {R : Int × zS} {r : Int} {s1 : zS} (hE : zE xm_c7 [(x0 + 3) + 9, x1, s ((x0 + 3) + 1) 1, 0, 0] s r s1) (h : zA xm_c95 19 [x0, x1, x2] [(false, r)] s1 R) : zA xm_c95 10 [x0, x1, x2] [] s R := zA_call (k := 9) (push := fun r => [(false, r)]) (fun F => rfl) hE h
theorem zb_95_19 {x0 x1 x2 y0 : Int} {s : zS} {R : Int × zS} (h : (y0, s) = R) : zA xm_c95 19 [x0, x1, x2] [(false, y0)] s R := zA_ret (k := 1) (fun F => congrArg some h)
theorem zb_95_6 {x0 x1 x2 : Int} {s : zS} {R : Int × zS} (h : ((-1), s) = R) : zA xm_c95 6 [x0, x1, x2] [] s R := zA_ret (k := 2) (fun F => congrArg some h)
theorem zb_111_0 {x0 x1 x2 x3 : Int} {s : zS} {R : Int × zS} {r : Int} {s1 : zS} (hE : zE xm_c21 [(x0 + 3) + 1] s r s1) (h : zA xm_c111 4 [x0, x1, x2, x3] [(false, r)] s1 R) : zA xm_c111 0 [x0, x1, x2, x3] [] s R := zA_call (k := 4) (push := fun r => [(false, r)]) (fun F => rfl) hE h
theorem zb_111_4 {x0 x1 x2 x3 y0 : Int} {s : zS} {R : Int × zS} (h1 : y0 = 0 → zA xm_c111 8 [x0, x1, x2, x3] [] s R) (h2 : ¬ (y0 = 0) → zA xm_c111 5 [x0, x1, x2, x3] [] s R) : zA xm_c111 4 [x0, x1, x2, x3] [(false, y0)] s R := zA_if (k := 1) (fun F => rfl) h1 h2
theorem zb_111_5 {x0 x1 x2 x3 : Int} {s : zS} {R : Int × zS} {r : Int} {s1 : zS} (hE : zE xm_c122 [x1] s r s1) (h : zA xm_c111 7 [x0, x1, x2, x3] [(false, r)] s1 R) : zA xm_c111 5 [x0, x1, x2, x3] [] s R := zA_call (k := 2) (push := fun r => [(false, r)]) (fun F => rfl) hE h
theorem zb_111_7 {x0 x1 x2 x3 y0 : Int} {s : zS} {R : Int × zS} (h1 : y0 = 0 → zA xm_c111 8 [x0, x1, x2, x3] [] s R) (h2 : ¬ (y0 = 0) → zA xm_c111 10 [x0, x1, x2, x3] [] s R) : zA xm_c111 7 [x0, x1, x2, x3] [(false, y0)] s R := zA_if (k := 1) (fun F => rfl) h1 h2
theorem zb_111_10 {x0 x1 x2 x3 : Int} {s : zS} {R : Int × zS} (h : zA xm_c111 14 [x0, x1, 0, 1] [] s R) : zA xm_c111 10 [x0, x1, x2, x3] [] s R := zA_step (k := 4) (fun F => rfl) h
theorem zb_111_14 {x0 x1 x2 x3 : Int} {s : zS} {R : Int × zS} (h1 : x3 < s ((x0 + 3) + 1) 0 → zA xm_c111 20 [x0, x1, x2, x3] [] s R) (h2 : ¬ (x3 < s ((x0 + 3) + 1) 0) → zA xm_c111 31 [x0, x1, x2, x3] [] s R) : zA xm_c111 14 [x0, x1, x2, x3] [] s R := zA_if (k := 6) (fun F => rfl) h1 h2
theorem zb_111_31 {x0 x1 x2 x3 : Int} {s : zS} {R : Int × zS} (h1 : x1 = 0 → zA xm_c111 33 [x0, x1, x2, x3] [] s R) (h2 : ¬ (x1 = 0) → zA xm_c111 35 [x0, x1, x2, x3] [] s R) : zA xm_c111 31 [x0, x1, x2, x3] [] s R := zA_if (k := 2) (fun F => rfl) h1 h2
theorem zb_111_35 {x0 x1 x2 x3 : Int} {s : zS} {R : Int × zS} {r : Int} {s1 : zS} (hE : zE xm_c119 [x0, x2, 0, 0] s r s1) (h : zA xm_c111 38 [x0, x1, x2, x3] [(false, r)] s1 R) : zA xm_c111 35 [x0, x1, x2, x3] [] s R := zA_call (k := 3) (push := fun r => [(false, r)]) (fun F => rfl) hE h
theorem zb_111_38 {x0 x1 x2 x3 y0 : Int} {s : zS} {R : Int × zS} (h : (y0, s) = R) : zA xm_c111 38 [x0, x1, x2, x3] [(false, y0)] s R := zA_ret (k := 1) (fun F => congrArg some h)
theorem zb_111_33 {x0 x1 x2 x3 : Int} {s : zS} {R : Int × zS} (h : (x2, s) = R) : zA xm_c111 33 [x0, x1, x2, x3] [] s R := zA_ret (k := 3) (fun F => congrArg some h)
theorem zb_111_20 {x0 x1 x2 x3 : Int} {s : zS} {R : Int × zS} {r : Int} {s1 : zS} (hE : zE xm_c119 [x0, x3, 0, 0] s r s1) (h : zA xm_c111 23 [x0, x1, x2, x3] [(false, r)] s1 R) : zA xm_c111 20 [x0, x1, x2, x3] [] s R := zA_call (k := 3) (push := fun r => [(false, r)]) (fun F => rfl) hE h
theorem zb_111_23 {x0 x1 x2 x3 y0 : Int} {s : zS} {R : Int × zS} {r : Int} {s1 : zS} (hE : zE xm_c119 [x0, x2, 0, 0] s r s1) (h : zA xm_c111 26 [x0, x1, x2, x3] [(false, r), (false, y0)] s1 R) : zA xm_c111 23 [x0, x1, x2, x3] [(false, y0)] s R := zA_call (k := 3) (push := fun r => [(false, r), (false, y0)]) (fun F => rfl) hE h
theorem zb_111_26 {x0 x1 x2 x3 y0 y1 : Int} {s : zS} {R : Int × zS} (h1 : y0 < y1 → zA xm_c111 27 [x0, x1, x2, x3] [] s R) (h2 : ¬ (y0 < y1) → zA xm_c111 29 [x0, x1, x2, x3] [] s R) : zA xm_c111 26 [x0, x1, x2, x3] [(false, y1), (false, y0)] s R := zA_if (k := 1) (fun F => rfl) h1 h2
theorem zb_111_29 {x0 x1 x2 x3 : Int} {s : zS} {R : Int × zS} (h : zA xm_c111 14 [x0, x1, x2, zw (x3 + 1)] [] s R) : zA xm_c111 29 [x0, x1, x2, x3] [] s R := zA_step (k := 2) (fun F => rfl) h
theorem zb_111_27 {x0 x1 x2 x3 : Int} {s : zS} {R : Int × zS} (h : zA xm_c111 14 [x0, x1, x3, zw (x3 + 1)] [] s R) : zA xm_c111 27 [x0, x1, x2, x3] [] s R := zA_step (k := 4) (fun F => rfl) h
theorem zb_111_8 {x0 x1 x2 x3 : Int} {s : zS} {R : Int × zS} (h : ((-1), s) = R) : zA xm_c111 8 [x0, x1, x2, x3] [] s R := zA_ret (k := 2) (fun F => congrArg some h)
theorem zb_115_0 {x0 x1 : Int} {s : zS} {R : Int × zS} (h : zA xm_c115 1 [x0, x1] [(false, x1)] s R) : zA xm_c115 0 [x0, x1] [] s R := zA_step (k := 1) (fun F => rfl) h
theorem zb_115_1_c0 {x0 x1 y0 : Int} {s : zS} {R : Int × zS} (hx : y0 = 0) (h : zA xm_c115 2 [x0, x1] [] s R) : zA xm_c115 1 [x0, x1] [(false, y0)] s R := by
  subst hx
  exact zA_step (k := 1) (fun F => rfl) h
theorem zb_115_1_c1 {x0 x1 y0 : Int} {s : zS} {R : Int × zS} (hx : y0 = 1) (h : zA xm_c115 7 [x0, x1] [] s R) : zA xm_c115 1 [x0, x1] [(false, y0)] s R := by
  subst hx
  exact zA_step (k := 1) (fun F => rfl) h
theorem zb_115_1_c2 {x0 x1 y0 : Int} {s : zS} {R : Int × zS} (hx : y0 = 2) (h : zA xm_c115 12 [x0, x1] [] s R) : zA xm_c115 1 [x0, x1] [(false, y0)] s R := by
  subst hx
  exact zA_step (k := 1) (fun F => rfl) h
theorem zb_115_1_c3 {x0 x1 y0 : Int} {s : zS} {R : Int × zS} (hx : y0 = 3) (h : zA xm_c115 17 [x0, x1] [] s R) : zA xm_c115 1 [x0, x1] [(false, y0)] s R := by
  subst hx
  exact zA_step (k := 1) (fun F => rfl) h
theorem zb_115_1_c4 {x0 x1 y0 : Int} {s : zS} {R : Int × zS} (hx : y0 = 4) (h : zA xm_c115 20 [x0, x1] [] s R) : zA xm_c115 1 [x0, x1] [(false, y0)] s R := by
  subst hx
  exact zA_step (k := 1) (fun F => rfl) h
theorem zb_115_1_c5 {x0 x1 y0 : Int} {s : zS} {R : Int × zS} (hx : y0 = 5) (h : zA xm_c115 24 [x0, x1] [] s R) : zA xm_c115 1 [x0, x1] [(false, y0)] s R := by
  subst hx
  exact zA_step (k := 1) (fun F => rfl) h
theorem zb_115_1_c6 {x0 x1 y0 : Int} {s : zS} {R : Int × zS} (hx : y0 = 6) (h : zA xm_c115 29 [x0, x1] [] s R) : zA xm_c115 1 [x0, x1] [(false, y0)] s R := by
  subst hx
  exact zA_step (k := 1) (fun F => rfl) h
theorem zb_115_1_c7 {x0 x1 y0 : Int} {s : zS} {R : Int × zS} (hx : y0 = 7) (h : zA xm_c115 34 [x0, x1] [] s R) : zA xm_c115 1 [x0, x1] [(false, y0)] s R := by
  subst hx
  exact zA_step (k := 1) (fun F => rfl) h
theorem zb_115_1_c8 {x0 x1 y0 : Int} {s : zS} {R : Int × zS} (hx : y0 = 8) (h : zA xm_c115 43 [x0, x1] [] s R) : zA xm_c115 1 [x0, x1] [(false, y0)] s R := by
  subst hx
  exact zA_step (k := 1) (fun F => rfl) h
theorem zb_115_1_c9 {x0 x1 y0 : Int} {s : zS} {R : Int × zS} (hx : y0 = 9) (h : zA xm_c115 47 [x0, x1] [] s R) : zA xm_c115 1 [x0, x1] [(false, y0)] s R := by
  subst hx
  exact zA_step (k := 1) (fun F => rfl) h
theorem zb_115_1_c10 {x0 x1 y0 : Int} {s : zS} {R : Int × zS} (hx : y0 = 10) (h : zA xm_c115 51 [x0, x1] [] s R) : zA xm_c115 1 [x0, x1] [(false, y0)] s R := by
  subst hx
  exact zA_step (k := 1) (fun F => rfl) h
theorem zb_115_1_c11 {x0 x1 y0 : Int} {s : zS} {R : Int × zS} (hx : y0 = 11) (h : zA xm_c115 55 [x0, x1] [] s R) : zA xm_c115 1 [x0, x1] [(false, y0)] s R := by
  subst hx
  exact zA_step (k := 1) (fun F => rfl) h
theorem zb_115_1_c12 {x0 x1 y0 : Int} {s : zS} {R : Int × zS} (hx : y0 = 12) (h : zA xm_c115 59 [x0, x1] [] s R) : zA xm_c115 1 [x0, x1] [(false, y0)] s R := by
  subst hx
  exact zA_step (k := 1) (fun F => rfl) h
theorem zb_115_1_d {x0 x1 y0 : Int} {s : zS} {R : Int × zS} (hx : y0 < 0 ∨ 13 ≤ y0) (h : zA xm_c115 64 [x0, x1] [] s R) : zA xm_c115 1 [x0, x1] [(false, y0)] s R := zA_step (k := 1) (fun F => by
    show (match zsw 0 64 [2, 7, 12, 17, 20, 24, 29, 34, 43, 47, 51, 55, 59] y0 with
      | some t => zm_run F xm_c115 (xm_drop t xm_c115) _ _ _
      | none => none) = _
    rw [show zsw 0 64 [2, 7, 12, 17, 20, 24, 29, 34, 43, 47, 51, 55, 59] y0 = some 64 from if_pos hx]) h
theorem zb_115_64 {x0 x1 : Int} {s : zS} {R : Int × zS} (h : ((-1), s) = R) : zA xm_c115 64 [x0, x1] [] s R := zA_ret (k := 2) (fun F => congrArg some h)
theorem zb_115_59 {x0 x1 : Int} {s : zS} {R : Int × zS} (h : (s ((x0 + 3) + 1) 7, s) = R) : zA xm_c115 59 [x0, x1] [] s R := zA_ret (k := 5) (fun F => congrArg some h)
theorem zb_115_55 {x0 x1 : Int} {s : zS} {R : Int × zS} (h : (s (x0 + 1) 1, s) = R) : zA xm_c115 55 [x0, x1] [] s R := zA_ret (k := 4) (fun F => congrArg some h)
theorem zb_115_51 {x0 x1 : Int} {s : zS} {R : Int × zS} (h : (s (x0 + 3) 7, s) = R) : zA xm_c115 51 [x0, x1] [] s R := zA_ret (k := 4) (fun F => congrArg some h)
theorem zb_115_47 {x0 x1 : Int} {s : zS} {R : Int × zS} (h : (s (x0 + 33) 3, s) = R) : zA xm_c115 47 [x0, x1] [] s R := zA_ret (k := 4) (fun F => congrArg some h)
theorem zb_115_43 {x0 x1 : Int} {s : zS} {R : Int × zS} (h : (s (x0 + 3) 5, s) = R) : zA xm_c115 43 [x0, x1] [] s R := zA_ret (k := 4) (fun F => congrArg some h)
theorem zb_115_34 {x0 x1 : Int} {s : zS} {R : Int × zS} {r : Int} {s1 : zS} (hE : zE xm_c6 [(x0 + 3) + 9, s ((x0 + 3) + 1) 1, 0, 0] s r s1) (h : zA xm_c115 42 [x0, x1] [(false, r)] s1 R) : zA xm_c115 34 [x0, x1] [] s R := zA_call (k := 8) (push := fun r => [(false, r)]) (fun F => rfl) hE h
theorem zb_115_42 {x0 x1 y0 : Int} {s : zS} {R : Int × zS} (h : (y0, s) = R) : zA xm_c115 42 [x0, x1] [(false, y0)] s R := zA_ret (k := 1) (fun F => congrArg some h)
theorem zb_115_29 {x0 x1 : Int} {s : zS} {R : Int × zS} (h : (s ((x0 + 3) + 14) 0, s) = R) : zA xm_c115 29 [x0, x1] [] s R := zA_ret (k := 5) (fun F => congrArg some h)
theorem zb_115_24 {x0 x1 : Int} {s : zS} {R : Int × zS} (h : (s ((x0 + 3) + 9) 0, s) = R) : zA xm_c115 24 [x0, x1] [] s R := zA_ret (k := 5) (fun F => congrArg some h)
theorem zb_115_20 {x0 x1 : Int} {s : zS} {R : Int × zS} (h : (s (x0 + 3) 6, s) = R) : zA xm_c115 20 [x0, x1] [] s R := zA_ret (k := 4) (fun F => congrArg some h)
theorem zb_115_17 {x0 x1 : Int} {s : zS} {R : Int × zS} (h : (s x0 8, s) = R) : zA xm_c115 17 [x0, x1] [] s R := zA_ret (k := 3) (fun F => congrArg some h)
theorem zb_115_12 {x0 x1 : Int} {s : zS} {R : Int × zS} (h : (s ((x0 + 3) + 1) 2, s) = R) : zA xm_c115 12 [x0, x1] [] s R := zA_ret (k := 5) (fun F => congrArg some h)
theorem zb_115_7 {x0 x1 : Int} {s : zS} {R : Int × zS} (h : (s ((x0 + 3) + 1) 1, s) = R) : zA xm_c115 7 [x0, x1] [] s R := zA_ret (k := 5) (fun F => congrArg some h)
theorem zb_115_2 {x0 x1 : Int} {s : zS} {R : Int × zS} (h : (s ((x0 + 3) + 1) 0, s) = R) : zA xm_c115 2 [x0, x1] [] s R := zA_ret (k := 5) (fun F => congrArg some h)
theorem zb_119_0 {x0 x1 x2 x3 : Int} {s : zS} {R : Int × zS} (h : zA xm_c119 4 [x0, x1, 0, 0] [] s R) : zA xm_c119 0 [x0, x1, x2, x3] [] s R := zA_step (k := 4) (fun F => rfl) h
theorem zb_119_4 {x0 x1 x2 x3 : Int} {s : zS} {R : Int × zS} (h1 : x3 < s ((x0 + 3) + 1) 1 → zA xm_c119 10 [x0, x1, x2, x3] [] s R) (h2 : ¬ (x3 < s ((x0 + 3) + 1) 1) → zA xm_c119 24 [x0, x1, x2, x3] [] s R) : zA xm_c119 4 [x0, x1, x2, x3] [] s R := zA_if (k := 6) (fun F => rfl) h1 h2
theorem zb_119_24 {x0 x1 x2 x3 : Int} {s : zS} {R : Int × zS} (h : (x2, s) = R) : zA xm_c119 24 [x0, x1, x2, x3] [] s R := zA_ret (k := 2) (fun F => congrArg some h)
theorem zb_119_10 {x0 x1 x2 x3 : Int} {s : zS} {R : Int × zS} (h : zA xm_c119 4 [x0, x1, zw (x2 + (if 0 ≤ zw ((s (((x0 + 3) + 9) + 1) x3) - x1) then zw ((s (((x0 + 3) + 9) + 1) x3) - x1) else zw (0 - (zw ((s (((x0 + 3) + 9) + 1) x3) - x1))))), zw (x3 + 1)] [] s R) : zA xm_c119 10 [x0, x1, x2, x3] [] s R := zA_step (k := 14) (fun F => rfl) h
