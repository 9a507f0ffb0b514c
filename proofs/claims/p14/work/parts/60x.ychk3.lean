theorem yk_118_2 : yk_hd yt_118 yi_118 yw_118 yx_118 yh_118 (fun _ _ => none) yh_118_2 = true := by decide +kernel
theorem yk_118_6 : yk_hd yt_118 yi_118 yw_118 yx_118 yh_118 (fun _ _ => none) yh_118_6 = true := by decide +kernel
theorem yk_118_10 : yk_hd yt_118 yi_118 yw_118 yx_118 yh_118 (fun _ _ => none) yh_118_10 = true := by decide +kernel
theorem yk_118_14 : yk_hd yt_118 yi_118 yw_118 yx_118 yh_118 (fun _ _ => none) yh_118_14 = true := by decide +kernel
