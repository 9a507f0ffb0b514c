theorem yk_268_e : yk_en yt_268 yi_268 yw_268 yx_268 yh_268 (fun _ _ => none) [] = true := by decide +kernel
theorem yk_268_3 : yk_hd yt_268 yi_268 yw_268 yx_268 yh_268 (fun _ _ => none) yh_268_3 = true := by decide +kernel
theorem yk_268_7 : yk_hd yt_268 yi_268 yw_268 yx_268 yh_268 (fun _ _ => none) yh_268_7 = true := by decide +kernel
theorem yk_268_11 : yk_hd yt_268 yi_268 yw_268 yx_268 yh_268 (fun _ _ => none) yh_268_11 = true := by decide +kernel
