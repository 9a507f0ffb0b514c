theorem yk_245_e : yk_en yt_245 yi_245 yw_245 yx_245 yh_245 (fun _ _ => none) [] = true := by decide +kernel
theorem yk_245_3 : yk_hd yt_245 yi_245 yw_245 yx_245 yh_245 (fun _ _ => none) yh_245_3 = true := by decide +kernel
theorem yk_245_7 : yk_hd yt_245 yi_245 yw_245 yx_245 yh_245 (fun _ _ => none) yh_245_7 = true := by decide +kernel
theorem yk_245_11 : yk_hd yt_245 yi_245 yw_245 yx_245 yh_245 (fun _ _ => none) yh_245_11 = true := by decide +kernel
theorem yk_245_15 : yk_hd yt_245 yi_245 yw_245 yx_245 yh_245 (fun _ _ => none) yh_245_15 = true := by decide +kernel
