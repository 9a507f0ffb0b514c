theorem yk_268_0 : yk_hd yt_268 yi_268 yw_268 yx_268 yh_268 (fun _ _ => none) yh_268_0 = true := by decide +kernel
theorem yk_268_4 : yk_hd yt_268 yi_268 yw_268 yx_268 yh_268 (fun _ _ => none) yh_268_4 = true := by decide +kernel
theorem yk_268_8 : yk_hd yt_268 yi_268 yw_268 yx_268 yh_268 (fun _ _ => none) yh_268_8 = true := by decide +kernel
theorem yk_268_12 : yk_hd yt_268 yi_268 yw_268 yx_268 yh_268 (fun _ _ => none) yh_268_12 = true := by decide +kernel
