theorem yk_245_1 : yk_hd yt_245 yi_245 yw_245 yx_245 yh_245 (fun _ _ => none) yh_245_1 = true := by decide +kernel
theorem yk_245_5 : yk_hd yt_245 yi_245 yw_245 yx_245 yh_245 (fun _ _ => none) yh_245_5 = true := by decide +kernel
theorem yk_245_9 : yk_hd yt_245 yi_245 yw_245 yx_245 yh_245 (fun _ _ => none) yh_245_9 = true := by decide +kernel
theorem yk_245_13 : yk_hd yt_245 yi_245 yw_245 yx_245 yh_245 (fun _ _ => none) yh_245_13 = true := by decide +kernel
