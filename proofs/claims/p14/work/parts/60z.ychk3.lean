theorem yk_268_2 : yk_hd yt_268 yi_268 yw_268 yx_268 yh_268 (fun _ _ => none) yh_268_2 = true := by decide +kernel
theorem yk_268_6 : yk_hd yt_268 yi_268 yw_268 yx_268 yh_268 (fun _ _ => none) yh_268_6 = true := by decide +kernel
theorem yk_268_10 : yk_hd yt_268 yi_268 yw_268 yx_268 yh_268 (fun _ _ => none) yh_268_10 = true := by decide +kernel
theorem yk_268_14 : yk_hd yt_268 yi_268 yw_268 yx_268 yh_268 (fun _ _ => none) yh_268_14 = true := by decide +kernel
