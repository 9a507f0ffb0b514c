theorem yk_118_e : yk_en yt_118 yi_118 yw_118 yx_118 yh_118 (fun _ _ => none) [] = true := by decide +kernel
theorem yk_118_3 : yk_hd yt_118 yi_118 yw_118 yx_118 yh_118 (fun _ _ => none) yh_118_3 = true := by decide +kernel
theorem yk_118_7 : yk_hd yt_118 yi_118 yw_118 yx_118 yh_118 (fun _ _ => none) yh_118_7 = true := by decide +kernel
theorem yk_118_11 : yk_hd yt_118 yi_118 yw_118 yx_118 yh_118 (fun _ _ => none) yh_118_11 = true := by decide +kernel
