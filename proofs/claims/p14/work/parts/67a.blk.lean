/-! straight runs, printed by wip/z/gen_blk.py 81 82 83 84 86 80 73 71 72 70 -/
theorem zb_81_0 {x0 x1 : Int} {s : zS} {R : Int × zS} (h1 : s x0 5 = 0 → zA xm_c81 3 [x0, x1] [] s R) (h2 : ¬ (s x0 5 = 0) → zA xm_c81 13 [x0, x1] [] s R) : zA xm_c81 0 [x0, x1] [] s R := zA_if (k := 3) (fun F => rfl) h1 h2
theorem zb_81_13 {x0 x1 : Int} {s : zS} {R : Int × zS} (h : ((0 : Int), zu (zu s x0 2 (-2)) x0 4 0) = R) : zA xm_c81 13 [x0, x1] [] s R := zA_ret (k := 7) (fun F => congrArg some h)
theorem zb_81_3 {x0 x1 : Int} {s : zS} {R : Int × zS} (h : ((0 : Int), zu (zu (zu s x0 5 (zw ((zw (1 + (zw (8 * (s x0 3))))) + x1))) x0 2 (-2)) x0 4 0) = R) : zA xm_c81 3 [x0, x1] [] s R := zA_ret (k := 17) (fun F => congrArg some h)
theorem zb_82_0 {x0 x1 x2 : Int} {s : zS} {R : Int × zS} (h1 : s x0 5 = 0 → zA xm_c82 4 [x0, x1, x2] [] s R) (h2 : ¬ (s x0 5 = 0) → zA xm_c82 3 [x0, x1, x2] [] s R) : zA xm_c82 0 [x0, x1, x2] [] s R := zA_if (k := 3) (fun F => rfl) h1 h2
theorem zb_82_3 {x0 x1 x2 : Int} {s : zS} {R : Int × zS} (h : ((0 : Int), s) = R) : zA xm_c82 3 [x0, x1, x2] [] s R := zA_ret (k := 1) (fun F => congrArg some h)
theorem zb_82_4 {x0 x1 x2 : Int} {s : zS} {R : Int × zS} (h : zA xm_c82 11 [x0, x1, x2] [] (zu s x0 3 (zw ((s x0 3) + (s x0 4)))) R) : zA xm_c82 4 [x0, x1, x2] [] s R := zA_step (k := 7) (fun F => rfl) h
theorem zb_82_11 {x0 x1 x2 : Int} {s : zS} {R : Int × zS} (h1 : s x0 3 < s x0 1 → zA xm_c82 16 [x0, x1, x2] [] s R) (h2 : ¬ (s x0 3 < s x0 1) → zA xm_c82 30 [x0, x1, x2] [] s R) : zA xm_c82 11 [x0, x1, x2] [] s R := zA_if (k := 5) (fun F => rfl) h1 h2
theorem zb_82_30 {x0 x1 x2 : Int} {s : zS} {R : Int × zS} (h1 : s x0 3 < s x0 1 → zA xm_c82 36 [x0, x1, x2] [(false, x0)] s R) (h2 : ¬ (s x0 3 < s x0 1) → zA xm_c82 38 [x0, x1, x2] [(false, x0)] s R) : zA xm_c82 30 [x0, x1, x2] [] s R := zA_if (k := 6) (fun F => rfl) h1 h2
theorem zb_82_38 {x0 x1 x2 y0 : Int} {s : zS} {R : Int × zS} (h1 : (zu s y0 4 0) x0 4 = 1 → zA xm_c82 44 [x0, x1, x2] [] (zu s y0 4 0) R) (h2 : ¬ ((zu s y0 4 0) x0 4 = 1) → zA xm_c82 52 [x0, x1, x2] [] (zu s y0 4 0) R) : zA xm_c82 38 [x0, x1, x2] [(false, y0)] s R := zA_if (k := 6) (fun F => rfl) h1 h2
theorem zb_82_52 {x0 x1 x2 : Int} {s : zS} {R : Int × zS} (h1 : zw ((s x0 3) + 1) < s x0 1 → zA xm_c82 61 [x0, (-1), x2] [] s R) (h2 : ¬ (zw ((s x0 3) + 1) < s x0 1) → zA xm_c82 69 [x0, (-1), x2] [] s R) : zA xm_c82 52 [x0, x1, x2] [] s R := zA_if (k := 9) (fun F => rfl) h1 h2
theorem zb_82_69 {x0 x1 x2 : Int} {s : zS} {R : Int × zS} (h1 : x1 < 97 → zA xm_c82 115 [x0, x1, (-1)] [] s R) (h2 : ¬ (x1 < 97) → zA xm_c82 74 [x0, x1, (-1)] [] s R) : zA xm_c82 69 [x0, x1, x2] [] s R := zA_if (k := 5) (fun F => rfl) h1 h2
theorem zb_82_74 {x0 x1 x2 : Int} {s : zS} {R : Int × zS} (h1 : 122 < x1 → zA xm_c82 115 [x0, x1, x2] [] s R) (h2 : ¬ (122 < x1) → zA xm_c82 77 [x0, x1, x2] [] s R) : zA xm_c82 74 [x0, x1, x2] [] s R := zA_if (k := 3) (fun F => rfl) h1 h2
theorem zb_82_77 {x0 x1 x2 : Int} {s : zS} {R : Int × zS} (h : zA xm_c82 80 [x0, x1, x2] [] (zu s x0 2 97) R) : zA xm_c82 77 [x0, x1, x2] [] s R := zA_step (k := 3) (fun F => rfl) h
theorem zb_82_80 {x0 x1 x2 : Int} {s : zS} {R : Int × zS} (h1 : zw ((s x0 3) + (s x0 4)) < s x0 1 → zA xm_c82 88 [x0, x1, x2] [] s R) (h2 : ¬ (zw ((s x0 3) + (s x0 4)) < s x0 1) → zA xm_c82 183 [x0, x1, x2] [] s R) : zA xm_c82 80 [x0, x1, x2] [] s R := zA_if (k := 8) (fun F => rfl) h1 h2
theorem zb_82_183 {x0 x1 x2 : Int} {s : zS} {R : Int × zS} (h : ((0 : Int), s) = R) : zA xm_c82 183 [x0, x1, x2] [] s R := zA_ret (k := 1) (fun F => congrArg some h)
theorem zb_82_88 {x0 x1 x2 : Int} {s : zS} {R : Int × zS} (h1 : s (x0 + 1) (zw ((s x0 3) + (s x0 4))) < 97 → zA xm_c82 183 [x0, x1, x2] [] s R) (h2 : ¬ (s (x0 + 1) (zw ((s x0 3) + (s x0 4))) < 97) → zA xm_c82 98 [x0, x1, x2] [] s R) : zA xm_c82 88 [x0, x1, x2] [] s R := zA_if (k := 10) (fun F => rfl) h1 h2
theorem zb_82_98 {x0 x1 x2 : Int} {s : zS} {R : Int × zS} (h1 : 122 < s (x0 + 1) (zw ((s x0 3) + (s x0 4))) → zA xm_c82 183 [x0, x1, x2] [] s R) (h2 : ¬ (122 < s (x0 + 1) (zw ((s x0 3) + (s x0 4)))) → zA xm_c82 108 [x0, x1, x2] [] s R) : zA xm_c82 98 [x0, x1, x2] [] s R := zA_if (k := 10) (fun F => rfl) h1 h2
theorem zb_82_108 {x0 x1 x2 : Int} {s : zS} {R : Int × zS} (h : zA xm_c82 80 [x0, x1, x2] [] (zu s x0 4 (zw ((s x0 4) + 1))) R) : zA xm_c82 108 [x0, x1, x2] [] s R := zA_step (k := 7) (fun F => rfl) h
theorem zb_82_115 {x0 x1 x2 : Int} {s : zS} {R : Int × zS} (h1 : x1 < 48 → zA xm_c82 159 [x0, x1, x2] [] s R) (h2 : ¬ (x1 < 48) → zA xm_c82 118 [x0, x1, x2] [] s R) : zA xm_c82 115 [x0, x1, x2] [] s R := zA_if (k := 3) (fun F => rfl) h1 h2
theorem zb_82_118 {x0 x1 x2 : Int} {s : zS} {R : Int × zS} (h1 : 57 < x1 → zA xm_c82 159 [x0, x1, x2] [] s R) (h2 : ¬ (57 < x1) → zA xm_c82 121 [x0, x1, x2] [] s R) : zA xm_c82 118 [x0, x1, x2] [] s R := zA_if (k := 3) (fun F => rfl) h1 h2
theorem zb_82_121 {x0 x1 x2 : Int} {s : zS} {R : Int × zS} (h : zA xm_c82 124 [x0, x1, x2] [] (zu s x0 2 48) R) : zA xm_c82 121 [x0, x1, x2] [] s R := zA_step (k := 3) (fun F => rfl) h
theorem zb_82_124 {x0 x1 x2 : Int} {s : zS} {R : Int × zS} (h1 : zw ((s x0 3) + (s x0 4)) < s x0 1 → zA xm_c82 132 [x0, x1, x2] [] s R) (h2 : ¬ (zw ((s x0 3) + (s x0 4)) < s x0 1) → zA xm_c82 183 [x0, x1, x2] [] s R) : zA xm_c82 124 [x0, x1, x2] [] s R := zA_if (k := 8) (fun F => rfl) h1 h2
theorem zb_82_132 {x0 x1 x2 : Int} {s : zS} {R : Int × zS} (h1 : s (x0 + 1) (zw ((s x0 3) + (s x0 4))) < 48 → zA xm_c82 183 [x0, x1, x2] [] s R) (h2 : ¬ (s (x0 + 1) (zw ((s x0 3) + (s x0 4))) < 48) → zA xm_c82 142 [x0, x1, x2] [] s R) : zA xm_c82 132 [x0, x1, x2] [] s R := zA_if (k := 10) (fun F => rfl) h1 h2
theorem zb_82_142 {x0 x1 x2 : Int} {s : zS} {R : Int × zS} (h1 : 57 < s (x0 + 1) (zw ((s x0 3) + (s x0 4))) → zA xm_c82 183 [x0, x1, x2] [] s R) (h2 : ¬ (57 < s (x0 + 1) (zw ((s x0 3) + (s x0 4)))) → zA xm_c82 152 [x0, x1, x2] [] s R) : zA xm_c82 142 [x0, x1, x2] [] s R := zA_if (k := 10) (fun F => rfl) h1 h2
theorem zb_82_152 {x0 x1 x2 : Int} {s : zS} {R : Int × zS} (h : zA xm_c82 124 [x0, x1, x2] [] (zu s x0 4 (zw ((s x0 4) + 1))) R) : zA xm_c82 152 [x0, x1, x2] [] s R := zA_step (k := 7) (fun F => rfl) h
theorem zb_82_159 {x0 x1 x2 : Int} {s : zS} {R : Int × zS} (h1 : x2 = 61 → zA xm_c82 162 [x0, x1, x2] [] s R) (h2 : ¬ (x2 = 61) → zA xm_c82 180 [x0, x1, x2] [] s R) : zA xm_c82 159 [x0, x1, x2] [] s R := zA_if (k := 3) (fun F => rfl) h1 h2
theorem zb_82_180 {x0 x1 x2 : Int} {s : zS} {R : Int × zS} (h : ((0 : Int), zu s x0 2 x1) = R) : zA xm_c82 180 [x0, x1, x2] [] s R := zA_ret (k := 4) (fun F => congrArg some h)
theorem zb_82_162 {x0 x1 x2 : Int} {s : zS} {R : Int × zS} (h1 : x1 = 60 → zA xm_c82 168 [x0, x1, x2] [] s R) (h2 : ¬ (x1 = 60) → zA xm_c82 165 [x0, x1, x2] [] s R) : zA xm_c82 162 [x0, x1, x2] [] s R := zA_if (k := 3) (fun F => rfl) h1 h2
theorem zb_82_165 {x0 x1 x2 : Int} {s : zS} {R : Int × zS} (h1 : x1 = 62 → zA xm_c82 168 [x0, x1, x2] [] s R) (h2 : ¬ (x1 = 62) → zA xm_c82 180 [x0, x1, x2] [] s R) : zA xm_c82 165 [x0, x1, x2] [] s R := zA_if (k := 3) (fun F => rfl) h1 h2
theorem zb_82_168 {x0 x1 x2 : Int} {s : zS} {R : Int × zS} (h1 : x1 = 60 → zA xm_c82 172 [x0, x1, x2] [(false, x0)] s R) (h2 : ¬ (x1 = 60) → zA xm_c82 174 [x0, x1, x2] [(false, x0)] s R) : zA xm_c82 168 [x0, x1, x2] [] s R := zA_if (k := 4) (fun F => rfl) h1 h2
theorem zb_82_174 {x0 x1 x2 y0 : Int} {s : zS} {R : Int × zS} (h : ((0 : Int), zu (zu s y0 2 257) x0 4 2) = R) : zA xm_c82 174 [x0, x1, x2] [(false, y0)] s R := zA_ret (k := 7) (fun F => congrArg some h)
theorem zb_82_172 {x0 x1 x2 y0 : Int} {s : zS} {R : Int × zS} (h : ((0 : Int), zu (zu s y0 2 256) x0 4 2) = R) : zA xm_c82 172 [x0, x1, x2] [(false, y0)] s R := zA_ret (k := 8) (fun F => congrArg some h)
theorem zb_82_61 {x0 x1 x2 : Int} {s : zS} {R : Int × zS} (h1 : x1 < 97 → zA xm_c82 115 [x0, x1, s (x0 + 1) (zw ((s x0 3) + 1))] [] s R) (h2 : ¬ (x1 < 97) → zA xm_c82 74 [x0, x1, s (x0 + 1) (zw ((s x0 3) + 1))] [] s R) : zA xm_c82 61 [x0, x1, x2] [] s R := zA_if (k := 12) (fun F => rfl) h1 h2
theorem zb_82_44 {x0 x1 x2 : Int} {s : zS} {R : Int × zS} (h1 : zw ((s x0 3) + 1) < s x0 1 → zA xm_c82 61 [x0, zand (s (x0 + 1) (s x0 3)) 255, x2] [] s R) (h2 : ¬ (zw ((s x0 3) + 1) < s x0 1) → zA xm_c82 69 [x0, zand (s (x0 + 1) (s x0 3)) 255, x2] [] s R) : zA xm_c82 44 [x0, x1, x2] [] s R := zA_if (k := 16) (fun F => rfl) h1 h2
theorem zb_82_36 {x0 x1 x2 y0 : Int} {s : zS} {R : Int × zS} (h1 : (zu s y0 4 1) x0 4 = 1 → zA xm_c82 44 [x0, x1, x2] [] (zu s y0 4 1) R) (h2 : ¬ ((zu s y0 4 1) x0 4 = 1) → zA xm_c82 52 [x0, x1, x2] [] (zu s y0 4 1) R) : zA xm_c82 36 [x0, x1, x2] [(false, y0)] s R := zA_if (k := 7) (fun F => rfl) h1 h2
theorem zb_82_16 {x0 x1 x2 : Int} {s : zS} {R : Int × zS} (h1 : s (x0 + 1) (s x0 3) = 32 → zA xm_c82 23 [x0, x1, x2] [] s R) (h2 : ¬ (s (x0 + 1) (s x0 3) = 32) → zA xm_c82 30 [x0, x1, x2] [] s R) : zA xm_c82 16 [x0, x1, x2] [] s R := zA_if (k := 7) (fun F => rfl) h1 h2
theorem zb_82_23 {x0 x1 x2 : Int} {s : zS} {R : Int × zS} (h : zA xm_c82 11 [x0, x1, x2] [] (zu s x0 3 (zw ((s x0 3) + 1))) R) : zA xm_c82 23 [x0, x1, x2] [] s R := zA_step (k := 7) (fun F => rfl) h
theorem zb_83_0 {x0 x1 x2 x3 x4 : Int} {s : zS} {R : Int × zS} (h : zA xm_c83 6 [x0, x1, 0, 0, 0] [] s R) : zA xm_c83 0 [x0, x1, x2, x3, x4] [] s R := zA_step (k := 6) (fun F => rfl) h
theorem zb_83_6 {x0 x1 x2 x3 x4 : Int} {s : zS} {R : Int × zS} (h1 : s x0 2 = 97 → zA xm_c83 10 [x0, x1, x2, x3, x4] [] s R) (h2 : ¬ (s x0 2 = 97) → zA xm_c83 56 [x0, x1, x2, x3, x4] [] s R) : zA xm_c83 6 [x0, x1, x2, x3, x4] [] s R := zA_if (k := 4) (fun F => rfl) h1 h2
theorem zb_83_56 {x0 x1 x2 x3 x4 : Int} {s : zS} {R : Int × zS} (h : ((-1), s) = R) : zA xm_c83 56 [x0, x1, x2, x3, x4] [] s R := zA_ret (k := 2) (fun F => congrArg some h)
theorem zb_83_10 {x0 x1 x2 x3 x4 : Int} {s : zS} {R : Int × zS} (h1 : zslen x1 < x4 → zA xm_c83 56 [x0, x1, x2, x3, x4] [] s R) (h2 : ¬ (zslen x1 < x4) → zA xm_c83 14 [x0, x1, x2, x3, x4] [] s R) : zA xm_c83 10 [x0, x1, x2, x3, x4] [] s R := zA_if (k := 4) (fun F => rfl) h1 h2
theorem zb_83_14 {x0 x1 x2 x3 x4 : Int} {s : zS} {R : Int × zS} (h1 : x4 = zslen x1 → zA xm_c83 23 [x0, x1, x2, x3, x4] [] s R) (h2 : ¬ (x4 = zslen x1) → zA xm_c83 18 [x0, x1, x2, x3, x4] [] s R) : zA xm_c83 14 [x0, x1, x2, x3, x4] [] s R := zA_if (k := 4) (fun F => rfl) h1 h2
theorem zb_83_18 {x0 x1 x2 x3 x4 : Int} {s : zS} {R : Int × zS} (h1 : zchar x1 x4 = 32 → zA xm_c83 23 [x0, x1, x2, x3, x4] [] s R) (h2 : ¬ (zchar x1 x4 = 32) → zA xm_c83 33 [x0, x1, x2, x3, x4] [] s R) : zA xm_c83 18 [x0, x1, x2, x3, x4] [] s R := zA_if (k := 5) (fun F => rfl) h1 h2
theorem zb_83_33 {x0 x1 x2 x3 x4 : Int} {s : zS} {R : Int × zS} (h1 : x3 < 0 → zA xm_c83 52 [x0, x1, x2, x3, x4] [] s R) (h2 : ¬ (x3 < 0) → zA xm_c83 35 [x0, x1, x2, x3, x4] [] s R) : zA xm_c83 33 [x0, x1, x2, x3, x4] [] s R := zA_if (k := 2) (fun F => rfl) h1 h2
theorem zb_83_35 {x0 x1 x2 x3 x4 : Int} {s : zS} {R : Int × zS} (h1 : x3 < s x0 4 → zA xm_c83 39 [x0, x1, x2, x3, x4] [] s R) (h2 : ¬ (x3 < s x0 4) → zA xm_c83 52 [x0, x1, x2, x3, x4] [] s R) : zA xm_c83 35 [x0, x1, x2, x3, x4] [] s R := zA_if (k := 4) (fun F => rfl) h1 h2
theorem zb_83_52 {x0 x1 x2 x3 x4 : Int} {s : zS} {R : Int × zS} (h : zA xm_c83 6 [x0, x1, x2, (-1), zw (x4 + 1)] [] s R) : zA xm_c83 52 [x0, x1, x2, x3, x4] [] s R := zA_step (k := 4) (fun F => rfl) h
theorem zb_83_39 {x0 x1 x2 x3 x4 : Int} {s : zS} {R : Int × zS} (h1 : zchar x1 x4 = s (x0 + 1) (zw ((s x0 3) + x3)) → zA xm_c83 50 [x0, x1, x2, x3, x4] [] s R) (h2 : ¬ (zchar x1 x4 = s (x0 + 1) (zw ((s x0 3) + x3))) → zA xm_c83 52 [x0, x1, x2, x3, x4] [] s R) : zA xm_c83 39 [x0, x1, x2, x3, x4] [] s R := zA_if (k := 11) (fun F => rfl) h1 h2
theorem zb_83_50 {x0 x1 x2 x3 x4 : Int} {s : zS} {R : Int × zS} (h : zA xm_c83 6 [x0, x1, x2, zw (x3 + 1), zw (x4 + 1)] [] s R) : zA xm_c83 50 [x0, x1, x2, x3, x4] [] s R := zA_step (k := 4) (fun F => rfl) h
theorem zb_83_23 {x0 x1 x2 x3 x4 : Int} {s : zS} {R : Int × zS} (h1 : x3 = s x0 4 → zA xm_c83 27 [x0, x1, x2, x3, x4] [] s R) (h2 : ¬ (x3 = s x0 4) → zA xm_c83 29 [x0, x1, x2, x3, x4] [] s R) : zA xm_c83 23 [x0, x1, x2, x3, x4] [] s R := zA_if (k := 4) (fun F => rfl) h1 h2
theorem zb_83_29 {x0 x1 x2 x3 x4 : Int} {s : zS} {R : Int × zS} (h : zA xm_c83 6 [x0, x1, zw (x2 + 1), 0, zw (x4 + 1)] [] s R) : zA xm_c83 29 [x0, x1, x2, x3, x4] [] s R := zA_step (k := 6) (fun F => rfl) h
theorem zb_83_27 {x0 x1 x2 x3 x4 : Int} {s : zS} {R : Int × zS} (h : (x2, s) = R) : zA xm_c83 27 [x0, x1, x2, x3, x4] [] s R := zA_ret (k := 2) (fun F => congrArg some h)
theorem zb_84_0 {x0 x1 x2 : Int} {s : zS} {R : Int × zS} (h : zA xm_c84 4 [x0, 0, 0] [] s R) : zA xm_c84 0 [x0, x1, x2] [] s R := zA_step (k := 4) (fun F => rfl) h
theorem zb_84_4 {x0 x1 x2 : Int} {s : zS} {R : Int × zS} (h1 : s x0 2 = 48 → zA xm_c84 8 [x0, x1, x2] [] s R) (h2 : ¬ (s x0 2 = 48) → zA xm_c84 31 [x0, x1, x2] [] s R) : zA xm_c84 4 [x0, x1, x2] [] s R := zA_if (k := 4) (fun F => rfl) h1 h2
theorem zb_84_31 {x0 x1 x2 : Int} {s : zS} {R : Int × zS} (h : (x1, s) = R) : zA xm_c84 31 [x0, x1, x2] [] s R := zA_ret (k := 2) (fun F => congrArg some h)
theorem zb_84_8 {x0 x1 x2 : Int} {s : zS} {R : Int × zS} (h1 : x2 < s x0 4 → zA xm_c84 12 [x0, x1, x2] [] s R) (h2 : ¬ (x2 < s x0 4) → zA xm_c84 31 [x0, x1, x2] [] s R) : zA xm_c84 8 [x0, x1, x2] [] s R := zA_if (k := 4) (fun F => rfl) h1 h2
theorem zb_84_12 {x0 x1 x2 : Int} {s : zS} {R : Int × zS} (h1 : x2 < 5 → zA xm_c84 15 [x0, x1, x2] [] s R) (h2 : ¬ (x2 < 5) → zA xm_c84 31 [x0, x1, x2] [] s R) : zA xm_c84 12 [x0, x1, x2] [] s R := zA_if (k := 3) (fun F => rfl) h1 h2
theorem zb_84_15 {x0 x1 x2 : Int} {s : zS} {R : Int × zS} (h : zA xm_c84 4 [x0, zw ((zw ((zw (x1 * 10)) + (s (x0 + 1) (zw ((s x0 3) + x2))))) - 48), zw (x2 + 1)] [] s R) : zA xm_c84 15 [x0, x1, x2] [] s R := zA_step (k := 16) (fun F => rfl) h
theorem zb_86_0 {x0 : Int} {s : zS} {R : Int × zS} (h1 : s x0 2 = 59 → zA xm_c86 4 [x0] [] s R) (h2 : ¬ (s x0 2 = 59) → zA xm_c86 8 [x0] [] s R) : zA xm_c86 0 [x0] [] s R := zA_if (k := 4) (fun F => rfl) h1 h2
theorem zb_86_8 {x0 : Int} {s : zS} {R : Int × zS} (h1 : s x0 2 = (-1) → zA xm_c86 15 [x0] [] s R) (h2 : ¬ (s x0 2 = (-1)) → zA xm_c86 12 [x0] [] s R) : zA xm_c86 8 [x0] [] s R := zA_if (k := 4) (fun F => rfl) h1 h2
theorem zb_86_12 {x0 : Int} {s : zS} {R : Int × zS} {r : Int} {s1 : zS} (hE : zE xm_c81 [x0, 0] s r s1) (h : zA xm_c86 15 [x0] [] s1 R) : zA xm_c86 12 [x0] [] s R := zA_call (k := 3) (push := fun r => []) (fun F => rfl) hE h
theorem zb_86_15 {x0 : Int} {s : zS} {R : Int × zS} (h : (0, s) = R) : zA xm_c86 15 [x0] [] s R := zA_ret (k := 2) (fun F => congrArg some h)
theorem zb_86_4 {x0 : Int} {s : zS} {R : Int × zS} {r : Int} {s1 : zS} (hE : zE xm_c82 [x0, 0, 0] s r s1) (h : zA xm_c86 6 [x0] [] s1 R) : zA xm_c86 4 [x0] [] s R := zA_call (k := 2) (push := fun r => []) (fun F => rfl) hE h
theorem zb_86_6 {x0 : Int} {s : zS} {R : Int × zS} (h : (1, s) = R) : zA xm_c86 6 [x0] [] s R := zA_ret (k := 2) (fun F => congrArg some h)
theorem zb_80_0 {x0 : Int} {s : zS} {R : Int × zS} {r : Int} {s1 : zS} (hE : zE xm_c82 [x0, 0, 0] (zu (zu (zu s x0 5 0) x0 3 0) x0 4 0) r s1) (h : zA xm_c80 11 [x0] [] s1 R) : zA xm_c80 0 [x0] [] s R := zA_call (k := 11) (push := fun r => []) (fun F => rfl) hE h
theorem zb_80_11 {x0 : Int} {s : zS} {R : Int × zS} (h : ((0 : Int), s) = R) : zA xm_c80 11 [x0] [] s R := zA_ret (k := 1) (fun F => congrArg some h)
theorem zb_73_0 {x0 x1 : Int} {s : zS} {R : Int × zS} {r : Int} {s1 : zS} (hE : zE xm_c83 [x0 + (-31), 3, 0, 0, 0] s r s1) (h : zA xm_c73 4 [x0, x1] [(false, r)] s1 R) : zA xm_c73 0 [x0, x1] [] s R := zA_call (k := 4) (push := fun r => [(false, r)]) (fun F => rfl) hE h
theorem zb_73_4 {x0 x1 y0 : Int} {s : zS} {R : Int × zS} (h1 : y0 = (-1) → zA xm_c73 8 [x0, y0] [] s R) (h2 : ¬ (y0 = (-1)) → zA xm_c73 18 [x0, y0] [] s R) : zA xm_c73 4 [x0, x1] [(false, y0)] s R := zA_if (k := 4) (fun F => rfl) h1 h2
theorem zb_73_18 {x0 x1 : Int} {s : zS} {R : Int × zS} (h1 : s (x0 + (-31)) 2 = 48 → zA xm_c73 23 [x0, x1] [] s R) (h2 : ¬ (s (x0 + (-31)) 2 = 48) → zA xm_c73 33 [x0, x1] [] s R) : zA xm_c73 18 [x0, x1] [] s R := zA_if (k := 5) (fun F => rfl) h1 h2
theorem zb_73_33 {x0 x1 : Int} {s : zS} {R : Int × zS} (h1 : s x0 2 < 60 → zA xm_c73 42 [x0, x1] [] s R) (h2 : ¬ (s x0 2 < 60) → zA xm_c73 37 [x0, x1] [] s R) : zA xm_c73 33 [x0, x1] [] s R := zA_if (k := 4) (fun F => rfl) h1 h2
theorem zb_73_37 {x0 x1 : Int} {s : zS} {R : Int × zS} {r : Int} {s1 : zS} (hE : zE xm_c81 [x0 + (-31), 3] s r s1) (h : zA xm_c73 41 [x0, x1] [] s1 R) : zA xm_c73 37 [x0, x1] [] s R := zA_call (k := 4) (push := fun r => []) (fun F => rfl) hE h
theorem zb_73_41 {x0 x1 : Int} {s : zS} {R : Int × zS} {r : Int} {s1 : zS} (hE : zE xm_c82 [x0 + (-31), 0, 0] (zu s x0 2 (zw ((s x0 2) + 1))) r s1) (h : zA xm_c73 67 [x0, x1] [] s1 R) : zA xm_c73 41 [x0, x1] [] s R := zA_call (k := 10) (push := fun r => []) (fun F => rfl) hE h
theorem zb_73_67 {x0 x1 : Int} {s : zS} {R : Int × zS} (h : ((0 : Int), s) = R) : zA xm_c73 67 [x0, x1] [] s R := zA_ret (k := 1) (fun F => congrArg some h)
theorem zb_73_42 {x0 x1 : Int} {s : zS} {R : Int × zS} (h1 : x1 = (-1) → zA xm_c73 51 [x0, x1] [] s R) (h2 : ¬ (x1 = (-1)) → zA xm_c73 45 [x0, x1] [] s R) : zA xm_c73 42 [x0, x1] [] s R := zA_if (k := 3) (fun F => rfl) h1 h2
theorem zb_73_45 {x0 x1 : Int} {s : zS} {R : Int × zS} {r : Int} {s1 : zS} (hE : zE xm_c60 [s x0 1, 1, x1] s r s1) (h : zA xm_c73 50 [x0, x1] [] s1 R) : zA xm_c73 45 [x0, x1] [] s R := zA_call (k := 5) (push := fun r => []) (fun F => rfl) hE h
theorem zb_73_50 {x0 x1 : Int} {s : zS} {R : Int × zS} {r : Int} {s1 : zS} (hE : zE xm_c82 [x0 + (-31), 0, 0] (zu s x0 2 (zw ((s x0 2) + 1))) r s1) (h : zA xm_c73 67 [x0, x1] [] s1 R) : zA xm_c73 50 [x0, x1] [] s R := zA_call (k := 10) (push := fun r => []) (fun F => rfl) hE h
theorem zb_73_51 {x0 x1 : Int} {s : zS} {R : Int × zS} {r : Int} {s1 : zS} (hE : zE xm_c84 [x0 + (-31), 0, 0] s r s1) (h : zA xm_c73 57 [x0, x1] [(false, r), (false, 0), (false, s x0 1)] s1 R) : zA xm_c73 51 [x0, x1] [] s R := zA_call (k := 6) (push := fun r => [(false, r), (false, 0), (false, s x0 1)]) (fun F => rfl) hE h
theorem zb_73_57 {x0 x1 y0 y1 y2 : Int} {s : zS} {R : Int × zS} {r : Int} {s1 : zS} (hE : zE xm_c60 [y0, y1, y2] s r s1) (h : zA xm_c73 58 [x0, x1] [] s1 R) : zA xm_c73 57 [x0, x1] [(false, y2), (false, y1), (false, y0)] s R := zA_call (k := 1) (push := fun r => []) (fun F => rfl) hE h
theorem zb_73_58 {x0 x1 : Int} {s : zS} {R : Int × zS} {r : Int} {s1 : zS} (hE : zE xm_c82 [x0 + (-31), 0, 0] (zu s x0 2 (zw ((s x0 2) + 1))) r s1) (h : zA xm_c73 67 [x0, x1] [] s1 R) : zA xm_c73 58 [x0, x1] [] s R := zA_call (k := 9) (push := fun r => []) (fun F => rfl) hE h
theorem zb_73_23 {x0 x1 : Int} {s : zS} {R : Int × zS} (h1 : 5 < s (x0 + (-31)) 4 → zA xm_c73 28 [x0, x1] [] s R) (h2 : ¬ (5 < s (x0 + (-31)) 4) → zA xm_c73 33 [x0, x1] [] s R) : zA xm_c73 23 [x0, x1] [] s R := zA_if (k := 5) (fun F => rfl) h1 h2
theorem zb_73_28 {x0 x1 : Int} {s : zS} {R : Int × zS} {r : Int} {s1 : zS} (hE : zE xm_c81 [x0 + (-31), 1] s r s1) (h : zA xm_c73 32 [x0, x1] [] s1 R) : zA xm_c73 28 [x0, x1] [] s R := zA_call (k := 4) (push := fun r => []) (fun F => rfl) hE h
theorem zb_73_32 {x0 x1 : Int} {s : zS} {R : Int × zS} {r : Int} {s1 : zS} (hE : zE xm_c82 [x0 + (-31), 0, 0] (zu s x0 2 (zw ((s x0 2) + 1))) r s1) (h : zA xm_c73 67 [x0, x1] [] s1 R) : zA xm_c73 32 [x0, x1] [] s R := zA_call (k := 10) (push := fun r => []) (fun F => rfl) hE h
theorem zb_73_8 {x0 x1 : Int} {s : zS} {R : Int × zS} (h1 : s (x0 + (-31)) 2 = 48 → zA xm_c73 18 [x0, x1] [] s R) (h2 : ¬ (s (x0 + (-31)) 2 = 48) → zA xm_c73 13 [x0, x1] [] s R) : zA xm_c73 8 [x0, x1] [] s R := zA_if (k := 5) (fun F => rfl) h1 h2
theorem zb_73_13 {x0 x1 : Int} {s : zS} {R : Int × zS} {r : Int} {s1 : zS} (hE : zE xm_c81 [x0 + (-31), 0] s r s1) (h : zA xm_c73 17 [x0, x1] [] s1 R) : zA xm_c73 13 [x0, x1] [] s R := zA_call (k := 4) (push := fun r => []) (fun F => rfl) hE h
theorem zb_73_17 {x0 x1 : Int} {s : zS} {R : Int × zS} {r : Int} {s1 : zS} (hE : zE xm_c82 [x0 + (-31), 0, 0] (zu s x0 2 (zw ((s x0 2) + 1))) r s1) (h : zA xm_c73 67 [x0, x1] [] s1 R) : zA xm_c73 17 [x0, x1] [] s R := zA_call (k := 10) (push := fun r => []) (fun F => rfl) hE h
theorem zb_71_0 {x0 x1 x2 x3 x4 : Int} {s : zS} {R : Int × zS} {r : Int} {s1 : zS} (hE : zE xm_c73 [x0, 0] s r s1) (h : zA xm_c71 2 [x0, x1, x2, x3, x4] [] s1 R) : zA xm_c71 0 [x0, x1, x2, x3, x4] [] s R := zA_call (k := 2) (push := fun r => []) (fun F => rfl) hE h
theorem zb_71_2 {x0 x1 x2 x3 x4 : Int} {s : zS} {R : Int × zS} {r : Int} {s1 : zS} (hE : zE xm_c72 [s (x0 + (-31)) 2] s r s1) (h : zA xm_c71 8 [x0, (-1), x2, x3, x4] [(false, r)] s1 R) : zA xm_c71 2 [x0, x1, x2, x3, x4] [] s R := zA_call (k := 6) (push := fun r => [(false, r)]) (fun F => rfl) hE h
theorem zb_71_8 {x0 x1 x2 x3 x4 y0 : Int} {s : zS} {R : Int × zS} (h : zA xm_c71 11 [x0, x1, y0, 0, x4] [] s R) : zA xm_c71 8 [x0, x1, x2, x3, x4] [(false, y0)] s R := zA_step (k := 3) (fun F => rfl) h
theorem zb_71_11 {x0 x1 x2 x3 x4 : Int} {s : zS} {R : Int × zS} (h1 : x3 < 400 → zA xm_c71 14 [x0, x1, x2, x3, x4] [] s R) (h2 : ¬ (x3 < 400) → zA xm_c71 59 [x0, x1, x2, x3, x4] [] s R) : zA xm_c71 11 [x0, x1, x2, x3, x4] [] s R := zA_if (k := 3) (fun F => rfl) h1 h2
theorem zb_71_59 {x0 x1 x2 x3 x4 : Int} {s : zS} {R : Int × zS} (h1 : x1 = (-1) → zA xm_c71 67 [x0, x1, x2, x3, x4] [] s R) (h2 : ¬ (x1 = (-1)) → zA xm_c71 62 [x0, x1, x2, x3, x4] [] s R) : zA xm_c71 59 [x0, x1, x2, x3, x4] [] s R := zA_if (k := 3) (fun F => rfl) h1 h2
theorem zb_71_62 {x0 x1 x2 x3 x4 : Int} {s : zS} {R : Int × zS} {r : Int} {s1 : zS} (hE : zE xm_c60 [s x0 1, x1, 0] s r s1) (h : zA xm_c71 67 [x0, x1, x2, x3, x4] [] s1 R) : zA xm_c71 62 [x0, x1, x2, x3, x4] [] s R := zA_call (k := 5) (push := fun r => []) (fun F => rfl) hE h
theorem zb_71_67 {x0 x1 x2 x3 x4 : Int} {s : zS} {R : Int × zS} (h : ((0 : Int), s) = R) : zA xm_c71 67 [x0, x1, x2, x3, x4] [] s R := zA_ret (k := 1) (fun F => congrArg some h)
theorem zb_71_14 {x0 x1 x2 x3 x4 : Int} {s : zS} {R : Int × zS} (h1 : x2 = (-1) → zA xm_c71 59 [x0, x1, x2, x3, x4] [] s R) (h2 : ¬ (x2 = (-1)) → zA xm_c71 17 [x0, x1, x2, x3, x4] [] s R) : zA xm_c71 14 [x0, x1, x2, x3, x4] [] s R := zA_if (k := 3) (fun F => rfl) h1 h2
theorem zb_71_17 {x0 x1 x2 x3 x4 : Int} {s : zS} {R : Int × zS} (h1 : x2 = 2 → zA xm_c71 23 [x0, x1, x2, x3, x4] [] s R) (h2 : ¬ (x2 = 2) → zA xm_c71 20 [x0, x1, x2, x3, x4] [] s R) : zA xm_c71 17 [x0, x1, x2, x3, x4] [] s R := zA_if (k := 3) (fun F => rfl) h1 h2
theorem zb_71_20 {x0 x1 x2 x3 x4 : Int} {s : zS} {R : Int × zS} (h1 : x2 = 3 → zA xm_c71 23 [x0, x1, x2, x3, x4] [] s R) (h2 : ¬ (x2 = 3) → zA xm_c71 25 [x0, x1, x2, x3, x4] [] s R) : zA xm_c71 20 [x0, x1, x2, x3, x4] [] s R := zA_if (k := 3) (fun F => rfl) h1 h2
theorem zb_71_25 {x0 x1 x2 x3 x4 : Int} {s : zS} {R : Int × zS} {r : Int} {s1 : zS} (hE : zE xm_c82 [x0 + (-31), 0, 0] s r s1) (h : zA xm_c71 30 [x0, x1, x2, x3, 0] [] s1 R) : zA xm_c71 25 [x0, x1, x2, x3, x4] [] s R := zA_call (k := 5) (push := fun r => []) (fun F => rfl) hE h
theorem zb_71_30 {x0 x1 x2 x3 x4 : Int} {s : zS} {R : Int × zS} (h1 : x4 = 0 → zA xm_c71 40 [x0, x1, x2, x3, x4] [] s R) (h2 : ¬ (x4 = 0) → zA xm_c71 32 [x0, x1, x2, x3, x4] [] s R) : zA xm_c71 30 [x0, x1, x2, x3, x4] [] s R := zA_if (k := 2) (fun F => rfl) h1 h2
theorem zb_71_32 {x0 x1 x2 x3 x4 : Int} {s : zS} {R : Int × zS} (h1 : x1 = (-1) → zA xm_c71 40 [x0, x1, x2, x3, x4] [] s R) (h2 : ¬ (x1 = (-1)) → zA xm_c71 35 [x0, x1, x2, x3, x4] [] s R) : zA xm_c71 32 [x0, x1, x2, x3, x4] [] s R := zA_if (k := 3) (fun F => rfl) h1 h2
theorem zb_71_35 {x0 x1 x2 x3 x4 : Int} {s : zS} {R : Int × zS} {r : Int} {s1 : zS} (hE : zE xm_c60 [s x0 1, x1, 0] s r s1) (h : zA xm_c71 40 [x0, x1, x2, x3, x4] [] s1 R) : zA xm_c71 35 [x0, x1, x2, x3, x4] [] s R := zA_call (k := 5) (push := fun r => []) (fun F => rfl) hE h
theorem zb_71_40 {x0 x1 x2 x3 x4 : Int} {s : zS} {R : Int × zS} {r : Int} {s1 : zS} (hE : zE xm_c73 [x0, 0] s r s1) (h : zA xm_c71 42 [x0, x1, x2, x3, x4] [] s1 R) : zA xm_c71 40 [x0, x1, x2, x3, x4] [] s R := zA_call (k := 2) (push := fun r => []) (fun F => rfl) hE h
theorem zb_71_42 {x0 x1 x2 x3 x4 : Int} {s : zS} {R : Int × zS} (h1 : x4 = 0 → zA xm_c71 47 [x0, x1, x2, x3, x4] [] s R) (h2 : ¬ (x4 = 0) → zA xm_c71 44 [x0, x1, x2, x3, x4] [] s R) : zA xm_c71 42 [x0, x1, x2, x3, x4] [] s R := zA_if (k := 2) (fun F => rfl) h1 h2
theorem zb_71_44 {x0 x1 x2 x3 x4 : Int} {s : zS} {R : Int × zS} {r : Int} {s1 : zS} (hE : zE xm_c72 [s (x0 + (-31)) 2] s r s1) (h : zA xm_c71 56 [x0, x2, x2, x3, x4] [(false, r)] s1 R) : zA xm_c71 44 [x0, x1, x2, x3, x4] [] s R := zA_call (k := 7) (push := fun r => [(false, r)]) (fun F => rfl) hE h
theorem zb_71_56 {x0 x1 x2 x3 x4 y0 : Int} {s : zS} {R : Int × zS} (h : zA xm_c71 11 [x0, x1, y0, zw (x3 + 1), x4] [] s R) : zA xm_c71 56 [x0, x1, x2, x3, x4] [(false, y0)] s R := zA_step (k := 3) (fun F => rfl) h
theorem zb_71_47 {x0 x1 x2 x3 x4 : Int} {s : zS} {R : Int × zS} {r : Int} {s1 : zS} (hE : zE xm_c60 [s x0 1, x2, 0] s r s1) (h : zA xm_c71 52 [x0, x1, x2, x3, x4] [] s1 R) : zA xm_c71 47 [x0, x1, x2, x3, x4] [] s R := zA_call (k := 5) (push := fun r => []) (fun F => rfl) hE h
theorem zb_71_52 {x0 x1 x2 x3 x4 : Int} {s : zS} {R : Int × zS} {r : Int} {s1 : zS} (hE : zE xm_c72 [s (x0 + (-31)) 2] s r s1) (h : zA xm_c71 56 [x0, x1, x2, x3, x4] [(false, r)] s1 R) : zA xm_c71 52 [x0, x1, x2, x3, x4] [] s R := zA_call (k := 4) (push := fun r => [(false, r)]) (fun F => rfl) hE h
theorem zb_71_23 {x0 x1 x2 x3 x4 : Int} {s : zS} {R : Int × zS} {r : Int} {s1 : zS} (hE : zE xm_c82 [x0 + (-31), 0, 0] s r s1) (h : zA xm_c71 30 [x0, x1, x2, x3, 1] [] s1 R) : zA xm_c71 23 [x0, x1, x2, x3, x4] [] s R := zA_call (k := 6) (push := fun r => []) (fun F => rfl) hE h
theorem zb_72_0 {x0 : Int} {s : zS} {R : Int × zS} (h : zA xm_c72 1 [x0] [(false, x0)] s R) : zA xm_c72 0 [x0] [] s R := zA_step (k := 1) (fun F => rfl) h
theorem zb_72_1_c37 {x0 y0 : Int} {s : zS} {R : Int × zS} (hx : y0 = 37) (h : zA xm_c72 10 [x0] [] s R) : zA xm_c72 1 [x0] [(false, y0)] s R := by
  subst hx
  exact zA_step (k := 1) (fun F => rfl) h
theorem zb_72_1_c38 {x0 y0 : Int} {s : zS} {R : Int × zS} (hx : y0 = 38) (h : zA xm_c72 12 [x0] [] s R) : zA xm_c72 1 [x0] [(false, y0)] s R := by
  subst hx
  exact zA_step (k := 1) (fun F => rfl) h
theorem zb_72_1_c39 {x0 y0 : Int} {s : zS} {R : Int × zS} (hx : y0 = 39) (h : zA xm_c72 12 [x0] [] s R) : zA xm_c72 1 [x0] [(false, y0)] s R := by
  subst hx
  exact zA_step (k := 1) (fun F => rfl) h
theorem zb_72_1_c40 {x0 y0 : Int} {s : zS} {R : Int × zS} (hx : y0 = 40) (h : zA xm_c72 12 [x0] [] s R) : zA xm_c72 1 [x0] [(false, y0)] s R := by
  subst hx
  exact zA_step (k := 1) (fun F => rfl) h
theorem zb_72_1_c41 {x0 y0 : Int} {s : zS} {R : Int × zS} (hx : y0 = 41) (h : zA xm_c72 12 [x0] [] s R) : zA xm_c72 1 [x0] [(false, y0)] s R := by
  subst hx
  exact zA_step (k := 1) (fun F => rfl) h
theorem zb_72_1_c42 {x0 y0 : Int} {s : zS} {R : Int × zS} (hx : y0 = 42) (h : zA xm_c72 6 [x0] [] s R) : zA xm_c72 1 [x0] [(false, y0)] s R := by
  subst hx
  exact zA_step (k := 1) (fun F => rfl) h
theorem zb_72_1_c43 {x0 y0 : Int} {s : zS} {R : Int × zS} (hx : y0 = 43) (h : zA xm_c72 2 [x0] [] s R) : zA xm_c72 1 [x0] [(false, y0)] s R := by
  subst hx
  exact zA_step (k := 1) (fun F => rfl) h
theorem zb_72_1_c44 {x0 y0 : Int} {s : zS} {R : Int × zS} (hx : y0 = 44) (h : zA xm_c72 12 [x0] [] s R) : zA xm_c72 1 [x0] [(false, y0)] s R := by
  subst hx
  exact zA_step (k := 1) (fun F => rfl) h
theorem zb_72_1_c45 {x0 y0 : Int} {s : zS} {R : Int × zS} (hx : y0 = 45) (h : zA xm_c72 4 [x0] [] s R) : zA xm_c72 1 [x0] [(false, y0)] s R := by
  subst hx
  exact zA_step (k := 1) (fun F => rfl) h
theorem zb_72_1_c46 {x0 y0 : Int} {s : zS} {R : Int × zS} (hx : y0 = 46) (h : zA xm_c72 12 [x0] [] s R) : zA xm_c72 1 [x0] [(false, y0)] s R := by
  subst hx
  exact zA_step (k := 1) (fun F => rfl) h
theorem zb_72_1_c47 {x0 y0 : Int} {s : zS} {R : Int × zS} (hx : y0 = 47) (h : zA xm_c72 8 [x0] [] s R) : zA xm_c72 1 [x0] [(false, y0)] s R := by
  subst hx
  exact zA_step (k := 1) (fun F => rfl) h
theorem zb_72_1_d {x0 y0 : Int} {s : zS} {R : Int × zS} (hx : y0 < 37 ∨ 48 ≤ y0) (h : zA xm_c72 12 [x0] [] s R) : zA xm_c72 1 [x0] [(false, y0)] s R := zA_step (k := 1) (fun F => by
    show (match zsw 37 12 [10, 12, 12, 12, 12, 6, 2, 12, 4, 12, 8] y0 with
      | some t => zm_run F xm_c72 (xm_drop t xm_c72) _ _ _
      | none => none) = _
    rw [show zsw 37 12 [10, 12, 12, 12, 12, 6, 2, 12, 4, 12, 8] y0 = some 12 from if_pos hx]) h
theorem zb_72_12 {x0 : Int} {s : zS} {R : Int × zS} (h : ((-1), s) = R) : zA xm_c72 12 [x0] [] s R := zA_ret (k := 2) (fun F => congrArg some h)
theorem zb_72_8 {x0 : Int} {s : zS} {R : Int × zS} (h : (5, s) = R) : zA xm_c72 8 [x0] [] s R := zA_ret (k := 2) (fun F => congrArg some h)
theorem zb_72_4 {x0 : Int} {s : zS} {R : Int × zS} (h : (3, s) = R) : zA xm_c72 4 [x0] [] s R := zA_ret (k := 2) (fun F => congrArg some h)
theorem zb_72_2 {x0 : Int} {s : zS} {R : Int × zS} (h : (2, s) = R) : zA xm_c72 2 [x0] [] s R := zA_ret (k := 2) (fun F => congrArg some h)
theorem zb_72_6 {x0 : Int} {s : zS} {R : Int × zS} (h : (4, s) = R) : zA xm_c72 6 [x0] [] s R := zA_ret (k := 2) (fun F => congrArg some h)
theorem zb_72_10 {x0 : Int} {s : zS} {R : Int × zS} (h : (6, s) = R) : zA xm_c72 10 [x0] [] s R := zA_ret (k := 2) (fun F => congrArg some h)
theorem zb_70_0 {x0 : Int} {s : zS} {R : Int × zS} (h : zA xm_c70 1 [x0] [(false, x0)] s R) : zA xm_c70 0 [x0] [] s R := zA_step (k := 1) (fun F => rfl) h
theorem zb_70_1_c60 {x0 y0 : Int} {s : zS} {R : Int × zS} (hx : y0 = 60) (h : zA xm_c70 2 [x0] [] s R) : zA xm_c70 1 [x0] [(false, y0)] s R := by
  subst hx
  exact zA_step (k := 1) (fun F => rfl) h
theorem zb_70_1_c61 {x0 y0 : Int} {s : zS} {R : Int × zS} (hx : y0 = 61) (h : zA xm_c70 6 [x0] [] s R) : zA xm_c70 1 [x0] [(false, y0)] s R := by
  subst hx
  exact zA_step (k := 1) (fun F => rfl) h
theorem zb_70_1_c62 {x0 y0 : Int} {s : zS} {R : Int × zS} (hx : y0 = 62) (h : zA xm_c70 10 [x0] [] s R) : zA xm_c70 1 [x0] [(false, y0)] s R := by
  subst hx
  exact zA_step (k := 1) (fun F => rfl) h
theorem zb_70_1_c256 {x0 y0 : Int} {s : zS} {R : Int × zS} (hx : y0 = 256) (h : zA xm_c70 4 [x0] [] s R) : zA xm_c70 1 [x0] [(false, y0)] s R := by
  subst hx
  exact zA_step (k := 1) (fun F => rfl) h
theorem zb_70_1_c257 {x0 y0 : Int} {s : zS} {R : Int × zS} (hx : y0 = 257) (h : zA xm_c70 8 [x0] [] s R) : zA xm_c70 1 [x0] [(false, y0)] s R := by
  subst hx
  exact zA_step (k := 1) (fun F => rfl) h
theorem zb_70_1_d {x0 y0 : Int} {s : zS} {R : Int × zS} (hx : y0 ≠ 60 ∧ y0 ≠ 61 ∧ y0 ≠ 62 ∧ y0 ≠ 256 ∧ y0 ≠ 257) (h : zA xm_c70 12 [x0] [] s R) : zA xm_c70 1 [x0] [(false, y0)] s R := zA_step (k := 1) (fun F => by
    show zm_run F xm_c70 (xm_drop (xm_look 12 [(60, 51), (61, 57), (62, 63), (256, 54), (257, 60)] [2, 6, 10, 4, 8] y0) xm_c70) _ _ _ = _
    rw [show xm_look 12 [(60, 51), (61, 57), (62, 63), (256, 54), (257, 60)] [2, 6, 10, 4, 8] y0 = 12 from by
      show (bif decide (_ = _) then _ else _) = _
      simp [Ne.symm, hx, xm_look]]) h
theorem zb_70_12 {x0 : Int} {s : zS} {R : Int × zS} (h : ((-1), s) = R) : zA xm_c70 12 [x0] [] s R := zA_ret (k := 2) (fun F => congrArg some h)
theorem zb_70_8 {x0 : Int} {s : zS} {R : Int × zS} (h : (10, s) = R) : zA xm_c70 8 [x0] [] s R := zA_ret (k := 2) (fun F => congrArg some h)
theorem zb_70_4 {x0 : Int} {s : zS} {R : Int × zS} (h : (8, s) = R) : zA xm_c70 4 [x0] [] s R := zA_ret (k := 2) (fun F => congrArg some h)
theorem zb_70_10 {x0 : Int} {s : zS} {R : Int × zS} (h : (11, s) = R) : zA xm_c70 10 [x0] [] s R := zA_ret (k := 2) (fun F => congrArg some h)
theorem zb_70_6 {x0 : Int} {s : zS} {R : Int × zS} (h : (9, s) = R) : zA xm_c70 6 [x0] [] s R := zA_ret (k := 2) (fun F => congrArg some h)
theorem zb_70_2 {x0 : Int} {s : zS} {R : Int × zS} (h : (7, s) = R) : zA xm_c70 2 [x0] [] s R := zA_ret (k := 2) (fun F => congrArg some h)
