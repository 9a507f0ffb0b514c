/-! straight runs, printed by wip/z/gen_f.py 122 -/
theorem zb_122_0 {x0 : Int} {s : zS} {R : Int × zS} (h1 : x0 = 0 → zA xm_c122 5 [x0] [] s R) (h2 : ¬ (x0 = 0) → zA xm_c122 2 [x0] [] s R) : zA xm_c122 0 [x0] [] s R := zA_if (k := 2) (fun F => rfl) h1 h2
theorem zb_122_2 {x0 : Int} {s : zS} {R : Int × zS} (h1 : x0 = 1 → zA xm_c122 5 [x0] [] s R) (h2 : ¬ (x0 = 1) → zA xm_c122 7 [x0] [] s R) : zA xm_c122 2 [x0] [] s R := zA_if (k := 3) (fun F => rfl) h1 h2
theorem zb_122_7 {x0 : Int} {s : zS} {R : Int × zS} (h : (0, s) = R) : zA xm_c122 7 [x0] [] s R := zA_ret (k := 2) (fun F => congrArg some h)
theorem zb_122_5 {x0 : Int} {s : zS} {R : Int × zS} (h : (1, s) = R) : zA xm_c122 5 [x0] [] s R := zA_ret (k := 3) (fun F => congrArg some h)
