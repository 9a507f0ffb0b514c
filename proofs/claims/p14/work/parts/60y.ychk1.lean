theorem yk_245_0 : yk_hd yt_245 yi_245 yw_245 yx_245 yh_245 (fun _ _ => none) yh_245_0 = true := by decide +kernel
theorem yk_245_4 : yk_hd yt_245 yi_245 yw_245 yx_245 yh_245 (fun _ _ => none) yh_245_4 = true := by decide +kernel
theorem yk_245_8 : yk_hd yt_245 yi_245 yw_245 yx_245 yh_245 (fun _ _ => none) yh_245_8 = true := by decide +kernel
theorem yk_245_12 : yk_hd yt_245 yi_245 yw_245 yx_245 yh_245 (fun _ _ => none) yh_245_12 = true := by decide +kernel
theorem yk_245_16 : yk_hd yt_245 yi_245 yw_245 yx_245 yh_245 (fun _ _ => none) yh_245_16 = true := by decide +kernel
