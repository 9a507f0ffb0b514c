theorem yk_118_1 : yk_hd yt_118 yi_118 yw_118 yx_118 yh_118 (fun _ _ => none) yh_118_1 = true := by decide +kernel
theorem yk_118_5 : yk_hd yt_118 yi_118 yw_118 yx_118 yh_118 (fun _ _ => none) yh_118_5 = true := by decide +kernel
theorem yk_118_9 : yk_hd yt_118 yi_118 yw_118 yx_118 yh_118 (fun _ _ => none) yh_118_9 = true := by decide +kernel
theorem yk_118_13 : yk_hd yt_118 yi_118 yw_118 yx_118 yh_118 (fun _ _ => none) yh_118_13 = true := by decide +kernel
