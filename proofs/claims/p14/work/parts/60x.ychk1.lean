theorem yk_118_0 : yk_hd yt_118 yi_118 yw_118 yx_118 yh_118 (fun _ _ => none) yh_118_0 = true := by decide +kernel
theorem yk_118_4 : yk_hd yt_118 yi_118 yw_118 yx_118 yh_118 (fun _ _ => none) yh_118_4 = true := by decide +kernel
theorem yk_118_8 : yk_hd yt_118 yi_118 yw_118 yx_118 yh_118 (fun _ _ => none) yh_118_8 = true := by decide +kernel
theorem yk_118_12 : yk_hd yt_118 yi_118 yw_118 yx_118 yh_118 (fun _ _ => none) yh_118_12 = true := by decide +kernel
