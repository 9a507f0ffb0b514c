theorem yk_268_1 : yk_hd yt_268 yi_268 yw_268 yx_268 yh_268 (fun _ _ => none) yh_268_1 = true := by decide +kernel
theorem yk_268_5 : yk_hd yt_268 yi_268 yw_268 yx_268 yh_268 (fun _ _ => none) yh_268_5 = true := by decide +kernel
theorem yk_268_9 : yk_hd yt_268 yi_268 yw_268 yx_268 yh_268 (fun _ _ => none) yh_268_9 = true := by decide +kernel
theorem yk_268_13 : yk_hd yt_268 yi_268 yw_268 yx_268 yh_268 (fun _ _ => none) yh_268_13 = true := by decide +kernel
