theorem yk_245_2 : yk_hd yt_245 yi_245 yw_245 yx_245 yh_245 (fun _ _ => none) yh_245_2 = true := by decide +kernel
theorem yk_245_6 : yk_hd yt_245 yi_245 yw_245 yx_245 yh_245 (fun _ _ => none) yh_245_6 = true := by decide +kernel
theorem yk_245_10 : yk_hd yt_245 yi_245 yw_245 yx_245 yh_245 (fun _ _ => none) yh_245_10 = true := by decide +kernel
theorem yk_245_14 : yk_hd yt_245 yi_245 yw_245 yx_245 yh_245 (fun _ _ => none) yh_245_14 = true := by decide +kernel
