theorem xk_p51_0 : xn_okP xm_m51 40 0 = true := by decide +kernel
theorem xk_e51 : xm_drop 40 xm_m51.2.2.2.2.2.2.2.2 = [] := by decide +kernel
theorem xk_ok51 : xn_okM xm_m51 = true := xn_lM (by decide +kernel) (by decide +kernel) (xn_lP (r := xm_m51) 40 0 xk_p51_0 (show xn_okC xm_m51.1 (decide (xm_m51.2.1.name = "<init>")) xm_m51.2.2.1 xm_m51.2.2.2.2.2.2.2.2 (xm_drop 40 xm_m51.2.2.2.2.2.2.2.2) = true by rw [xk_e51]; rfl))
theorem xk_p52_0 : xn_okP xm_m52 40 0 = true := by decide +kernel
theorem xk_e52 : xm_drop 40 xm_m52.2.2.2.2.2.2.2.2 = [] := by decide +kernel
theorem xk_ok52 : xn_okM xm_m52 = true := xn_lM (by decide +kernel) (by decide +kernel) (xn_lP (r := xm_m52) 40 0 xk_p52_0 (show xn_okC xm_m52.1 (decide (xm_m52.2.1.name = "<init>")) xm_m52.2.2.1 xm_m52.2.2.2.2.2.2.2.2 (xm_drop 40 xm_m52.2.2.2.2.2.2.2.2) = true by rw [xk_e52]; rfl))
theorem xk_p53_0 : xn_okP xm_m53 40 0 = true := by decide +kernel
theorem xk_p53_40 : xn_okP xm_m53 40 40 = true := by decide +kernel
theorem xk_e53 : xm_drop 80 xm_m53.2.2.2.2.2.2.2.2 = [] := by decide +kernel
theorem xk_ok53 : xn_okM xm_m53 = true := xn_lM (by decide +kernel) (by decide +kernel) (xn_lP (r := xm_m53) 40 0 xk_p53_0 (xn_lP (r := xm_m53) 40 40 xk_p53_40 (show xn_okC xm_m53.1 (decide (xm_m53.2.1.name = "<init>")) xm_m53.2.2.1 xm_m53.2.2.2.2.2.2.2.2 (xm_drop 80 xm_m53.2.2.2.2.2.2.2.2) = true by rw [xk_e53]; rfl)))
theorem xk_p54_0 : xn_okP xm_m54 40 0 = true := by decide +kernel
theorem xk_p54_40 : xn_okP xm_m54 40 40 = true := by decide +kernel
theorem xk_e54 : xm_drop 80 xm_m54.2.2.2.2.2.2.2.2 = [] := by decide +kernel
theorem xk_ok54 : xn_okM xm_m54 = true := xn_lM (by decide +kernel) (by decide +kernel) (xn_lP (r := xm_m54) 40 0 xk_p54_0 (xn_lP (r := xm_m54) 40 40 xk_p54_40 (show xn_okC xm_m54.1 (decide (xm_m54.2.1.name = "<init>")) xm_m54.2.2.1 xm_m54.2.2.2.2.2.2.2.2 (xm_drop 80 xm_m54.2.2.2.2.2.2.2.2) = true by rw [xk_e54]; rfl)))
theorem xk_p55_0 : xn_okP xm_m55 40 0 = true := by decide +kernel
theorem xk_p55_40 : xn_okP xm_m55 40 40 = true := by decide +kernel
theorem xk_e55 : xm_drop 80 xm_m55.2.2.2.2.2.2.2.2 = [] := by decide +kernel
theorem xk_ok55 : xn_okM xm_m55 = true := xn_lM (by decide +kernel) (by decide +kernel) (xn_lP (r := xm_m55) 40 0 xk_p55_0 (xn_lP (r := xm_m55) 40 40 xk_p55_40 (show xn_okC xm_m55.1 (decide (xm_m55.2.1.name = "<init>")) xm_m55.2.2.1 xm_m55.2.2.2.2.2.2.2.2 (xm_drop 80 xm_m55.2.2.2.2.2.2.2.2) = true by rw [xk_e55]; rfl)))
theorem xk_p56_0 : xn_okP xm_m56 40 0 = true := by decide +kernel
theorem xk_p56_40 : xn_okP xm_m56 40 40 = true := by decide +kernel
theorem xk_p56_80 : xn_okP xm_m56 40 80 = true := by decide +kernel
theorem xk_e56 : xm_drop 120 xm_m56.2.2.2.2.2.2.2.2 = [] := by decide +kernel
theorem xk_ok56 : xn_okM xm_m56 = true := xn_lM (by decide +kernel) (by decide +kernel) (xn_lP (r := xm_m56) 40 0 xk_p56_0 (xn_lP (r := xm_m56) 40 40 xk_p56_40 (xn_lP (r := xm_m56) 40 80 xk_p56_80 (show xn_okC xm_m56.1 (decide (xm_m56.2.1.name = "<init>")) xm_m56.2.2.1 xm_m56.2.2.2.2.2.2.2.2 (xm_drop 120 xm_m56.2.2.2.2.2.2.2.2) = true by rw [xk_e56]; rfl))))
theorem xk_p57_0 : xn_okP xm_m57 40 0 = true := by decide +kernel
theorem xk_e57 : xm_drop 40 xm_m57.2.2.2.2.2.2.2.2 = [] := by decide +kernel
theorem xk_ok57 : xn_okM xm_m57 = true := xn_lM (by decide +kernel) (by decide +kernel) (xn_lP (r := xm_m57) 40 0 xk_p57_0 (show xn_okC xm_m57.1 (decide (xm_m57.2.1.name = "<init>")) xm_m57.2.2.1 xm_m57.2.2.2.2.2.2.2.2 (xm_drop 40 xm_m57.2.2.2.2.2.2.2.2) = true by rw [xk_e57]; rfl))
theorem xk_p58_0 : xn_okP xm_m58 40 0 = true := by decide +kernel
theorem xk_e58 : xm_drop 40 xm_m58.2.2.2.2.2.2.2.2 = [] := by decide +kernel
theorem xk_ok58 : xn_okM xm_m58 = true := xn_lM (by decide +kernel) (by decide +kernel) (xn_lP (r := xm_m58) 40 0 xk_p58_0 (show xn_okC xm_m58.1 (decide (xm_m58.2.1.name = "<init>")) xm_m58.2.2.1 xm_m58.2.2.2.2.2.2.2.2 (xm_drop 40 xm_m58.2.2.2.2.2.2.2.2) = true by rw [xk_e58]; rfl))
theorem xk_p59_0 : xn_okP xm_m59 40 0 = true := by decide +kernel
theorem xk_e59 : xm_drop 40 xm_m59.2.2.2.2.2.2.2.2 = [] := by decide +kernel
theorem xk_ok59 : xn_okM xm_m59 = true := xn_lM (by decide +kernel) (by decide +kernel) (xn_lP (r := xm_m59) 40 0 xk_p59_0 (show xn_okC xm_m59.1 (decide (xm_m59.2.1.name = "<init>")) xm_m59.2.2.1 xm_m59.2.2.2.2.2.2.2.2 (xm_drop 40 xm_m59.2.2.2.2.2.2.2.2) = true by rw [xk_e59]; rfl))
theorem xk_p60_0 : xn_okP xm_m60 40 0 = true := by decide +kernel
theorem xk_e60 : xm_drop 40 xm_m60.2.2.2.2.2.2.2.2 = [] := by decide +kernel
theorem xk_ok60 : xn_okM xm_m60 = true := xn_lM (by decide +kernel) (by decide +kernel) (xn_lP (r := xm_m60) 40 0 xk_p60_0 (show xn_okC xm_m60.1 (decide (xm_m60.2.1.name = "<init>")) xm_m60.2.2.1 xm_m60.2.2.2.2.2.2.2.2 (xm_drop 40 xm_m60.2.2.2.2.2.2.2.2) = true by rw [xk_e60]; rfl))
theorem xk_p61_0 : xn_okP xm_m61 40 0 = true := by decide +kernel
theorem xk_e61 : xm_drop 40 xm_m61.2.2.2.2.2.2.2.2 = [] := by decide +kernel
theorem xk_ok61 : xn_okM xm_m61 = true := xn_lM (by decide +kernel) (by decide +kernel) (xn_lP (r := xm_m61) 40 0 xk_p61_0 (show xn_okC xm_m61.1 (decide (xm_m61.2.1.name = "<init>")) xm_m61.2.2.1 xm_m61.2.2.2.2.2.2.2.2 (xm_drop 40 xm_m61.2.2.2.2.2.2.2.2) = true by rw [xk_e61]; rfl))
theorem xk_p62_0 : xn_okP xm_m62 40 0 = true := by decide +kernel
theorem xk_e62 : xm_drop 40 xm_m62.2.2.2.2.2.2.2.2 = [] := by decide +kernel
theorem xk_ok62 : xn_okM xm_m62 = true := xn_lM (by decide +kernel) (by decide +kernel) (xn_lP (r := xm_m62) 40 0 xk_p62_0 (show xn_okC xm_m62.1 (decide (xm_m62.2.1.name = "<init>")) xm_m62.2.2.1 xm_m62.2.2.2.2.2.2.2.2 (xm_drop 40 xm_m62.2.2.2.2.2.2.2.2) = true by rw [xk_e62]; rfl))
theorem xk_p63_0 : xn_okP xm_m63 40 0 = true := by decide +kernel
theorem xk_p63_40 : xn_okP xm_m63 40 40 = true := by decide +kernel
theorem xk_e63 : xm_drop 80 xm_m63.2.2.2.2.2.2.2.2 = [] := by decide +kernel
theorem xk_ok63 : xn_okM xm_m63 = true := xn_lM (by decide +kernel) (by decide +kernel) (xn_lP (r := xm_m63) 40 0 xk_p63_0 (xn_lP (r := xm_m63) 40 40 xk_p63_40 (show xn_okC xm_m63.1 (decide (xm_m63.2.1.name = "<init>")) xm_m63.2.2.1 xm_m63.2.2.2.2.2.2.2.2 (xm_drop 80 xm_m63.2.2.2.2.2.2.2.2) = true by rw [xk_e63]; rfl)))
theorem xk_p64_0 : xn_okP xm_m64 40 0 = true := by decide +kernel
theorem xk_p64_40 : xn_okP xm_m64 40 40 = true := by decide +kernel
theorem xk_p64_80 : xn_okP xm_m64 40 80 = true := by decide +kernel
theorem xk_p64_120 : xn_okP xm_m64 40 120 = true := by decide +kernel
theorem xk_p64_160 : xn_okP xm_m64 40 160 = true := by decide +kernel
theorem xk_p64_200 : xn_okP xm_m64 40 200 = true := by decide +kernel
theorem xk_e64 : xm_drop 240 xm_m64.2.2.2.2.2.2.2.2 = [] := by decide +kernel
theorem xk_ok64 : xn_okM xm_m64 = true := xn_lM (by decide +kernel) (by decide +kernel) (xn_lP (r := xm_m64) 40 0 xk_p64_0 (xn_lP (r := xm_m64) 40 40 xk_p64_40 (xn_lP (r := xm_m64) 40 80 xk_p64_80 (xn_lP (r := xm_m64) 40 120 xk_p64_120 (xn_lP (r := xm_m64) 40 160 xk_p64_160 (xn_lP (r := xm_m64) 40 200 xk_p64_200 (show xn_okC xm_m64.1 (decide (xm_m64.2.1.name = "<init>")) xm_m64.2.2.1 xm_m64.2.2.2.2.2.2.2.2 (xm_drop 240 xm_m64.2.2.2.2.2.2.2.2) = true by rw [xk_e64]; rfl)))))))
theorem xk_p65_0 : xn_okP xm_m65 40 0 = true := by decide +kernel
theorem xk_e65 : xm_drop 40 xm_m65.2.2.2.2.2.2.2.2 = [] := by decide +kernel
theorem xk_ok65 : xn_okM xm_m65 = true := xn_lM (by decide +kernel) (by decide +kernel) (xn_lP (r := xm_m65) 40 0 xk_p65_0 (show xn_okC xm_m65.1 (decide (xm_m65.2.1.name = "<init>")) xm_m65.2.2.1 xm_m65.2.2.2.2.2.2.2.2 (xm_drop 40 xm_m65.2.2.2.2.2.2.2.2) = true by rw [xk_e65]; rfl))
theorem xk_p66_0 : xn_okP xm_m66 40 0 = true := by decide +kernel
theorem xk_p66_40 : xn_okP xm_m66 40 40 = true := by decide +kernel
theorem xk_e66 : xm_drop 80 xm_m66.2.2.2.2.2.2.2.2 = [] := by decide +kernel
theorem xk_ok66 : xn_okM xm_m66 = true := xn_lM (by decide +kernel) (by decide +kernel) (xn_lP (r := xm_m66) 40 0 xk_p66_0 (xn_lP (r := xm_m66) 40 40 xk_p66_40 (show xn_okC xm_m66.1 (decide (xm_m66.2.1.name = "<init>")) xm_m66.2.2.1 xm_m66.2.2.2.2.2.2.2.2 (xm_drop 80 xm_m66.2.2.2.2.2.2.2.2) = true by rw [xk_e66]; rfl)))
theorem xk_p67_0 : xn_okP xm_m67 40 0 = true := by decide +kernel
theorem xk_p67_40 : xn_okP xm_m67 40 40 = true := by decide +kernel
theorem xk_e67 : xm_drop 80 xm_m67.2.2.2.2.2.2.2.2 = [] := by decide +kernel
theorem xk_ok67 : xn_okM xm_m67 = true := xn_lM (by decide +kernel) (by decide +kernel) (xn_lP (r := xm_m67) 40 0 xk_p67_0 (xn_lP (r := xm_m67) 40 40 xk_p67_40 (show xn_okC xm_m67.1 (decide (xm_m67.2.1.name = "<init>")) xm_m67.2.2.1 xm_m67.2.2.2.2.2.2.2.2 (xm_drop 80 xm_m67.2.2.2.2.2.2.2.2) = true by rw [xk_e67]; rfl)))
theorem xk_p68_0 : xn_okP xm_m68 40 0 = true := by decide +kernel
theorem xk_p68_40 : xn_okP xm_m68 40 40 = true := by decide +kernel
theorem xk_e68 : xm_drop 80 xm_m68.2.2.2.2.2.2.2.2 = [] := by decide +kernel
theorem xk_ok68 : xn_okM xm_m68 = true := xn_lM (by decide +kernel) (by decide +kernel) (xn_lP (r := xm_m68) 40 0 xk_p68_0 (xn_lP (r := xm_m68) 40 40 xk_p68_40 (show xn_okC xm_m68.1 (decide (xm_m68.2.1.name = "<init>")) xm_m68.2.2.1 xm_m68.2.2.2.2.2.2.2.2 (xm_drop 80 xm_m68.2.2.2.2.2.2.2.2) = true by rw [xk_e68]; rfl)))
theorem xk_p69_0 : xn_okP xm_m69 40 0 = true := by decide +kernel
theorem xk_e69 : xm_drop 40 xm_m69.2.2.2.2.2.2.2.2 = [] := by decide +kernel
theorem xk_ok69 : xn_okM xm_m69 = true := xn_lM (by decide +kernel) (by decide +kernel) (xn_lP (r := xm_m69) 40 0 xk_p69_0 (show xn_okC xm_m69.1 (decide (xm_m69.2.1.name = "<init>")) xm_m69.2.2.1 xm_m69.2.2.2.2.2.2.2.2 (xm_drop 40 xm_m69.2.2.2.2.2.2.2.2) = true by rw [xk_e69]; rfl))
theorem xk_p70_0 : xn_okP xm_m70 40 0 = true := by decide +kernel
theorem xk_e70 : xm_drop 40 xm_m70.2.2.2.2.2.2.2.2 = [] := by decide +kernel
theorem xk_ok70 : xn_okM xm_m70 = true := xn_lM (by decide +kernel) (by decide +kernel) (xn_lP (r := xm_m70) 40 0 xk_p70_0 (show xn_okC xm_m70.1 (decide (xm_m70.2.1.name = "<init>")) xm_m70.2.2.1 xm_m70.2.2.2.2.2.2.2.2 (xm_drop 40 xm_m70.2.2.2.2.2.2.2.2) = true by rw [xk_e70]; rfl))
theorem xk_p71_0 : xn_okP xm_m71 40 0 = true := by decide +kernel
theorem xk_p71_40 : xn_okP xm_m71 40 40 = true := by decide +kernel
theorem xk_e71 : xm_drop 80 xm_m71.2.2.2.2.2.2.2.2 = [] := by decide +kernel
theorem xk_ok71 : xn_okM xm_m71 = true := xn_lM (by decide +kernel) (by decide +kernel) (xn_lP (r := xm_m71) 40 0 xk_p71_0 (xn_lP (r := xm_m71) 40 40 xk_p71_40 (show xn_okC xm_m71.1 (decide (xm_m71.2.1.name = "<init>")) xm_m71.2.2.1 xm_m71.2.2.2.2.2.2.2.2 (xm_drop 80 xm_m71.2.2.2.2.2.2.2.2) = true by rw [xk_e71]; rfl)))
theorem xk_p72_0 : xn_okP xm_m72 40 0 = true := by decide +kernel
theorem xk_e72 : xm_drop 40 xm_m72.2.2.2.2.2.2.2.2 = [] := by decide +kernel
theorem xk_ok72 : xn_okM xm_m72 = true := xn_lM (by decide +kernel) (by decide +kernel) (xn_lP (r := xm_m72) 40 0 xk_p72_0 (show xn_okC xm_m72.1 (decide (xm_m72.2.1.name = "<init>")) xm_m72.2.2.1 xm_m72.2.2.2.2.2.2.2.2 (xm_drop 40 xm_m72.2.2.2.2.2.2.2.2) = true by rw [xk_e72]; rfl))
theorem xk_p73_0 : xn_okP xm_m73 40 0 = true := by decide +kernel
theorem xk_p73_40 : xn_okP xm_m73 40 40 = true := by decide +kernel
theorem xk_e73 : xm_drop 80 xm_m73.2.2.2.2.2.2.2.2 = [] := by decide +kernel
theorem xk_ok73 : xn_okM xm_m73 = true := xn_lM (by decide +kernel) (by decide +kernel) (xn_lP (r := xm_m73) 40 0 xk_p73_0 (xn_lP (r := xm_m73) 40 40 xk_p73_40 (show xn_okC xm_m73.1 (decide (xm_m73.2.1.name = "<init>")) xm_m73.2.2.1 xm_m73.2.2.2.2.2.2.2.2 (xm_drop 80 xm_m73.2.2.2.2.2.2.2.2) = true by rw [xk_e73]; rfl)))
theorem xk_p74_0 : xn_okP xm_m74 40 0 = true := by decide +kernel
theorem xk_e74 : xm_drop 40 xm_m74.2.2.2.2.2.2.2.2 = [] := by decide +kernel
theorem xk_ok74 : xn_okM xm_m74 = true := xn_lM (by decide +kernel) (by decide +kernel) (xn_lP (r := xm_m74) 40 0 xk_p74_0 (show xn_okC xm_m74.1 (decide (xm_m74.2.1.name = "<init>")) xm_m74.2.2.1 xm_m74.2.2.2.2.2.2.2.2 (xm_drop 40 xm_m74.2.2.2.2.2.2.2.2) = true by rw [xk_e74]; rfl))
theorem xk_p75_0 : xn_okP xm_m75 40 0 = true := by decide +kernel
theorem xk_e75 : xm_drop 40 xm_m75.2.2.2.2.2.2.2.2 = [] := by decide +kernel
theorem xk_ok75 : xn_okM xm_m75 = true := xn_lM (by decide +kernel) (by decide +kernel) (xn_lP (r := xm_m75) 40 0 xk_p75_0 (show xn_okC xm_m75.1 (decide (xm_m75.2.1.name = "<init>")) xm_m75.2.2.1 xm_m75.2.2.2.2.2.2.2.2 (xm_drop 40 xm_m75.2.2.2.2.2.2.2.2) = true by rw [xk_e75]; rfl))
theorem xk_p76_0 : xn_okP xm_m76 40 0 = true := by decide +kernel
theorem xk_p76_40 : xn_okP xm_m76 40 40 = true := by decide +kernel
theorem xk_e76 : xm_drop 80 xm_m76.2.2.2.2.2.2.2.2 = [] := by decide +kernel
theorem xk_ok76 : xn_okM xm_m76 = true := xn_lM (by decide +kernel) (by decide +kernel) (xn_lP (r := xm_m76) 40 0 xk_p76_0 (xn_lP (r := xm_m76) 40 40 xk_p76_40 (show xn_okC xm_m76.1 (decide (xm_m76.2.1.name = "<init>")) xm_m76.2.2.1 xm_m76.2.2.2.2.2.2.2.2 (xm_drop 80 xm_m76.2.2.2.2.2.2.2.2) = true by rw [xk_e76]; rfl)))
theorem xk_p77_0 : xn_okP xm_m77 40 0 = true := by decide +kernel
theorem xk_e77 : xm_drop 40 xm_m77.2.2.2.2.2.2.2.2 = [] := by decide +kernel
theorem xk_ok77 : xn_okM xm_m77 = true := xn_lM (by decide +kernel) (by decide +kernel) (xn_lP (r := xm_m77) 40 0 xk_p77_0 (show xn_okC xm_m77.1 (decide (xm_m77.2.1.name = "<init>")) xm_m77.2.2.1 xm_m77.2.2.2.2.2.2.2.2 (xm_drop 40 xm_m77.2.2.2.2.2.2.2.2) = true by rw [xk_e77]; rfl))
theorem xk_p78_0 : xn_okP xm_m78 40 0 = true := by decide +kernel
theorem xk_e78 : xm_drop 40 xm_m78.2.2.2.2.2.2.2.2 = [] := by decide +kernel
theorem xk_ok78 : xn_okM xm_m78 = true := xn_lM (by decide +kernel) (by decide +kernel) (xn_lP (r := xm_m78) 40 0 xk_p78_0 (show xn_okC xm_m78.1 (decide (xm_m78.2.1.name = "<init>")) xm_m78.2.2.1 xm_m78.2.2.2.2.2.2.2.2 (xm_drop 40 xm_m78.2.2.2.2.2.2.2.2) = true by rw [xk_e78]; rfl))
theorem xk_p79_0 : xn_okP xm_m79 40 0 = true := by decide +kernel
theorem xk_e79 : xm_drop 40 xm_m79.2.2.2.2.2.2.2.2 = [] := by decide +kernel
theorem xk_ok79 : xn_okM xm_m79 = true := xn_lM (by decide +kernel) (by decide +kernel) (xn_lP (r := xm_m79) 40 0 xk_p79_0 (show xn_okC xm_m79.1 (decide (xm_m79.2.1.name = "<init>")) xm_m79.2.2.1 xm_m79.2.2.2.2.2.2.2.2 (xm_drop 40 xm_m79.2.2.2.2.2.2.2.2) = true by rw [xk_e79]; rfl))
theorem xk_p80_0 : xn_okP xm_m80 40 0 = true := by decide +kernel
theorem xk_e80 : xm_drop 40 xm_m80.2.2.2.2.2.2.2.2 = [] := by decide +kernel
theorem xk_ok80 : xn_okM xm_m80 = true := xn_lM (by decide +kernel) (by decide +kernel) (xn_lP (r := xm_m80) 40 0 xk_p80_0 (show xn_okC xm_m80.1 (decide (xm_m80.2.1.name = "<init>")) xm_m80.2.2.1 xm_m80.2.2.2.2.2.2.2.2 (xm_drop 40 xm_m80.2.2.2.2.2.2.2.2) = true by rw [xk_e80]; rfl))
theorem xk_p81_0 : xn_okP xm_m81 40 0 = true := by decide +kernel
theorem xk_e81 : xm_drop 40 xm_m81.2.2.2.2.2.2.2.2 = [] := by decide +kernel
theorem xk_ok81 : xn_okM xm_m81 = true := xn_lM (by decide +kernel) (by decide +kernel) (xn_lP (r := xm_m81) 40 0 xk_p81_0 (show xn_okC xm_m81.1 (decide (xm_m81.2.1.name = "<init>")) xm_m81.2.2.1 xm_m81.2.2.2.2.2.2.2.2 (xm_drop 40 xm_m81.2.2.2.2.2.2.2.2) = true by rw [xk_e81]; rfl))
theorem xk_p82_0 : xn_okP xm_m82 40 0 = true := by decide +kernel
theorem xk_p82_40 : xn_okP xm_m82 40 40 = true := by decide +kernel
theorem xk_p82_80 : xn_okP xm_m82 40 80 = true := by decide +kernel
theorem xk_p82_120 : xn_okP xm_m82 40 120 = true := by decide +kernel
theorem xk_p82_160 : xn_okP xm_m82 40 160 = true := by decide +kernel
theorem xk_e82 : xm_drop 200 xm_m82.2.2.2.2.2.2.2.2 = [] := by decide +kernel
theorem xk_ok82 : xn_okM xm_m82 = true := xn_lM (by decide +kernel) (by decide +kernel) (xn_lP (r := xm_m82) 40 0 xk_p82_0 (xn_lP (r := xm_m82) 40 40 xk_p82_40 (xn_lP (r := xm_m82) 40 80 xk_p82_80 (xn_lP (r := xm_m82) 40 120 xk_p82_120 (xn_lP (r := xm_m82) 40 160 xk_p82_160 (show xn_okC xm_m82.1 (decide (xm_m82.2.1.name = "<init>")) xm_m82.2.2.1 xm_m82.2.2.2.2.2.2.2.2 (xm_drop 200 xm_m82.2.2.2.2.2.2.2.2) = true by rw [xk_e82]; rfl))))))
theorem xk_p83_0 : xn_okP xm_m83 40 0 = true := by decide +kernel
theorem xk_p83_40 : xn_okP xm_m83 40 40 = true := by decide +kernel
theorem xk_e83 : xm_drop 80 xm_m83.2.2.2.2.2.2.2.2 = [] := by decide +kernel
theorem xk_ok83 : xn_okM xm_m83 = true := xn_lM (by decide +kernel) (by decide +kernel) (xn_lP (r := xm_m83) 40 0 xk_p83_0 (xn_lP (r := xm_m83) 40 40 xk_p83_40 (show xn_okC xm_m83.1 (decide (xm_m83.2.1.name = "<init>")) xm_m83.2.2.1 xm_m83.2.2.2.2.2.2.2.2 (xm_drop 80 xm_m83.2.2.2.2.2.2.2.2) = true by rw [xk_e83]; rfl)))
theorem xk_p84_0 : xn_okP xm_m84 40 0 = true := by decide +kernel
theorem xk_e84 : xm_drop 40 xm_m84.2.2.2.2.2.2.2.2 = [] := by decide +kernel
theorem xk_ok84 : xn_okM xm_m84 = true := xn_lM (by decide +kernel) (by decide +kernel) (xn_lP (r := xm_m84) 40 0 xk_p84_0 (show xn_okC xm_m84.1 (decide (xm_m84.2.1.name = "<init>")) xm_m84.2.2.1 xm_m84.2.2.2.2.2.2.2.2 (xm_drop 40 xm_m84.2.2.2.2.2.2.2.2) = true by rw [xk_e84]; rfl))
theorem xk_p85_0 : xn_okP xm_m85 40 0 = true := by decide +kernel
theorem xk_e85 : xm_drop 40 xm_m85.2.2.2.2.2.2.2.2 = [] := by decide +kernel
theorem xk_ok85 : xn_okM xm_m85 = true := xn_lM (by decide +kernel) (by decide +kernel) (xn_lP (r := xm_m85) 40 0 xk_p85_0 (show xn_okC xm_m85.1 (decide (xm_m85.2.1.name = "<init>")) xm_m85.2.2.1 xm_m85.2.2.2.2.2.2.2.2 (xm_drop 40 xm_m85.2.2.2.2.2.2.2.2) = true by rw [xk_e85]; rfl))
theorem xk_p86_0 : xn_okP xm_m86 40 0 = true := by decide +kernel
theorem xk_e86 : xm_drop 40 xm_m86.2.2.2.2.2.2.2.2 = [] := by decide +kernel
theorem xk_ok86 : xn_okM xm_m86 = true := xn_lM (by decide +kernel) (by decide +kernel) (xn_lP (r := xm_m86) 40 0 xk_p86_0 (show xn_okC xm_m86.1 (decide (xm_m86.2.1.name = "<init>")) xm_m86.2.2.1 xm_m86.2.2.2.2.2.2.2.2 (xm_drop 40 xm_m86.2.2.2.2.2.2.2.2) = true by rw [xk_e86]; rfl))
theorem xk_p87_0 : xn_okP xm_m87 40 0 = true := by decide +kernel
theorem xk_p87_40 : xn_okP xm_m87 40 40 = true := by decide +kernel
theorem xk_e87 : xm_drop 80 xm_m87.2.2.2.2.2.2.2.2 = [] := by decide +kernel
theorem xk_ok87 : xn_okM xm_m87 = true := xn_lM (by decide +kernel) (by decide +kernel) (xn_lP (r := xm_m87) 40 0 xk_p87_0 (xn_lP (r := xm_m87) 40 40 xk_p87_40 (show xn_okC xm_m87.1 (decide (xm_m87.2.1.name = "<init>")) xm_m87.2.2.1 xm_m87.2.2.2.2.2.2.2.2 (xm_drop 80 xm_m87.2.2.2.2.2.2.2.2) = true by rw [xk_e87]; rfl)))
theorem xk_p88_0 : xn_okP xm_m88 40 0 = true := by decide +kernel
theorem xk_e88 : xm_drop 40 xm_m88.2.2.2.2.2.2.2.2 = [] := by decide +kernel
theorem xk_ok88 : xn_okM xm_m88 = true := xn_lM (by decide +kernel) (by decide +kernel) (xn_lP (r := xm_m88) 40 0 xk_p88_0 (show xn_okC xm_m88.1 (decide (xm_m88.2.1.name = "<init>")) xm_m88.2.2.1 xm_m88.2.2.2.2.2.2.2.2 (xm_drop 40 xm_m88.2.2.2.2.2.2.2.2) = true by rw [xk_e88]; rfl))
theorem xk_p89_0 : xn_okP xm_m89 40 0 = true := by decide +kernel
theorem xk_e89 : xm_drop 40 xm_m89.2.2.2.2.2.2.2.2 = [] := by decide +kernel
theorem xk_ok89 : xn_okM xm_m89 = true := xn_lM (by decide +kernel) (by decide +kernel) (xn_lP (r := xm_m89) 40 0 xk_p89_0 (show xn_okC xm_m89.1 (decide (xm_m89.2.1.name = "<init>")) xm_m89.2.2.1 xm_m89.2.2.2.2.2.2.2.2 (xm_drop 40 xm_m89.2.2.2.2.2.2.2.2) = true by rw [xk_e89]; rfl))
theorem xk_p90_0 : xn_okP xm_m90 40 0 = true := by decide +kernel
theorem xk_e90 : xm_drop 40 xm_m90.2.2.2.2.2.2.2.2 = [] := by decide +kernel
theorem xk_ok90 : xn_okM xm_m90 = true := xn_lM (by decide +kernel) (by decide +kernel) (xn_lP (r := xm_m90) 40 0 xk_p90_0 (show xn_okC xm_m90.1 (decide (xm_m90.2.1.name = "<init>")) xm_m90.2.2.1 xm_m90.2.2.2.2.2.2.2.2 (xm_drop 40 xm_m90.2.2.2.2.2.2.2.2) = true by rw [xk_e90]; rfl))
theorem xk_p91_0 : xn_okP xm_m91 40 0 = true := by decide +kernel
theorem xk_e91 : xm_drop 40 xm_m91.2.2.2.2.2.2.2.2 = [] := by decide +kernel
theorem xk_ok91 : xn_okM xm_m91 = true := xn_lM (by decide +kernel) (by decide +kernel) (xn_lP (r := xm_m91) 40 0 xk_p91_0 (show xn_okC xm_m91.1 (decide (xm_m91.2.1.name = "<init>")) xm_m91.2.2.1 xm_m91.2.2.2.2.2.2.2.2 (xm_drop 40 xm_m91.2.2.2.2.2.2.2.2) = true by rw [xk_e91]; rfl))
theorem xk_p92_0 : xn_okP xm_m92 40 0 = true := by decide +kernel
theorem xk_e92 : xm_drop 40 xm_m92.2.2.2.2.2.2.2.2 = [] := by decide +kernel
theorem xk_ok92 : xn_okM xm_m92 = true := xn_lM (by decide +kernel) (by decide +kernel) (xn_lP (r := xm_m92) 40 0 xk_p92_0 (show xn_okC xm_m92.1 (decide (xm_m92.2.1.name = "<init>")) xm_m92.2.2.1 xm_m92.2.2.2.2.2.2.2.2 (xm_drop 40 xm_m92.2.2.2.2.2.2.2.2) = true by rw [xk_e92]; rfl))
theorem xk_p93_0 : xn_okP xm_m93 40 0 = true := by decide +kernel
theorem xk_p93_40 : xn_okP xm_m93 40 40 = true := by decide +kernel
theorem xk_e93 : xm_drop 80 xm_m93.2.2.2.2.2.2.2.2 = [] := by decide +kernel
theorem xk_ok93 : xn_okM xm_m93 = true := xn_lM (by decide +kernel) (by decide +kernel) (xn_lP (r := xm_m93) 40 0 xk_p93_0 (xn_lP (r := xm_m93) 40 40 xk_p93_40 (show xn_okC xm_m93.1 (decide (xm_m93.2.1.name = "<init>")) xm_m93.2.2.1 xm_m93.2.2.2.2.2.2.2.2 (xm_drop 80 xm_m93.2.2.2.2.2.2.2.2) = true by rw [xk_e93]; rfl)))
theorem xk_p94_0 : xn_okP xm_m94 40 0 = true := by decide +kernel
theorem xk_e94 : xm_drop 40 xm_m94.2.2.2.2.2.2.2.2 = [] := by decide +kernel
theorem xk_ok94 : xn_okM xm_m94 = true := xn_lM (by decide +kernel) (by decide +kernel) (xn_lP (r := xm_m94) 40 0 xk_p94_0 (show xn_okC xm_m94.1 (decide (xm_m94.2.1.name = "<init>")) xm_m94.2.2.1 xm_m94.2.2.2.2.2.2.2.2 (xm_drop 40 xm_m94.2.2.2.2.2.2.2.2) = true by rw [xk_e94]; rfl))
theorem xk_p95_0 : xn_okP xm_m95 40 0 = true := by decide +kernel
theorem xk_e95 : xm_drop 40 xm_m95.2.2.2.2.2.2.2.2 = [] := by decide +kernel
theorem xk_ok95 : xn_okM xm_m95 = true := xn_lM (by decide +kernel) (by decide +kernel) (xn_lP (r := xm_m95) 40 0 xk_p95_0 (show xn_okC xm_m95.1 (decide (xm_m95.2.1.name = "<init>")) xm_m95.2.2.1 xm_m95.2.2.2.2.2.2.2.2 (xm_drop 40 xm_m95.2.2.2.2.2.2.2.2) = true by rw [xk_e95]; rfl))
theorem xk_p96_0 : xn_okP xm_m96 40 0 = true := by decide +kernel
theorem xk_e96 : xm_drop 40 xm_m96.2.2.2.2.2.2.2.2 = [] := by decide +kernel
theorem xk_ok96 : xn_okM xm_m96 = true := xn_lM (by decide +kernel) (by decide +kernel) (xn_lP (r := xm_m96) 40 0 xk_p96_0 (show xn_okC xm_m96.1 (decide (xm_m96.2.1.name = "<init>")) xm_m96.2.2.1 xm_m96.2.2.2.2.2.2.2.2 (xm_drop 40 xm_m96.2.2.2.2.2.2.2.2) = true by rw [xk_e96]; rfl))
theorem xk_p97_0 : xn_okP xm_m97 40 0 = true := by decide +kernel
theorem xk_p97_40 : xn_okP xm_m97 40 40 = true := by decide +kernel
theorem xk_e97 : xm_drop 80 xm_m97.2.2.2.2.2.2.2.2 = [] := by decide +kernel
theorem xk_ok97 : xn_okM xm_m97 = true := xn_lM (by decide +kernel) (by decide +kernel) (xn_lP (r := xm_m97) 40 0 xk_p97_0 (xn_lP (r := xm_m97) 40 40 xk_p97_40 (show xn_okC xm_m97.1 (decide (xm_m97.2.1.name = "<init>")) xm_m97.2.2.1 xm_m97.2.2.2.2.2.2.2.2 (xm_drop 80 xm_m97.2.2.2.2.2.2.2.2) = true by rw [xk_e97]; rfl)))
theorem xk_p98_0 : xn_okP xm_m98 40 0 = true := by decide +kernel
theorem xk_p98_40 : xn_okP xm_m98 40 40 = true := by decide +kernel
theorem xk_e98 : xm_drop 80 xm_m98.2.2.2.2.2.2.2.2 = [] := by decide +kernel
theorem xk_ok98 : xn_okM xm_m98 = true := xn_lM (by decide +kernel) (by decide +kernel) (xn_lP (r := xm_m98) 40 0 xk_p98_0 (xn_lP (r := xm_m98) 40 40 xk_p98_40 (show xn_okC xm_m98.1 (decide (xm_m98.2.1.name = "<init>")) xm_m98.2.2.1 xm_m98.2.2.2.2.2.2.2.2 (xm_drop 80 xm_m98.2.2.2.2.2.2.2.2) = true by rw [xk_e98]; rfl)))
theorem xk_p99_0 : xn_okP xm_m99 40 0 = true := by decide +kernel
theorem xk_e99 : xm_drop 40 xm_m99.2.2.2.2.2.2.2.2 = [] := by decide +kernel
theorem xk_ok99 : xn_okM xm_m99 = true := xn_lM (by decide +kernel) (by decide +kernel) (xn_lP (r := xm_m99) 40 0 xk_p99_0 (show xn_okC xm_m99.1 (decide (xm_m99.2.1.name = "<init>")) xm_m99.2.2.1 xm_m99.2.2.2.2.2.2.2.2 (xm_drop 40 xm_m99.2.2.2.2.2.2.2.2) = true by rw [xk_e99]; rfl))
theorem xk_p100_0 : xn_okP xm_m100 40 0 = true := by decide +kernel
theorem xk_e100 : xm_drop 40 xm_m100.2.2.2.2.2.2.2.2 = [] := by decide +kernel
theorem xk_ok100 : xn_okM xm_m100 = true := xn_lM (by decide +kernel) (by decide +kernel) (xn_lP (r := xm_m100) 40 0 xk_p100_0 (show xn_okC xm_m100.1 (decide (xm_m100.2.1.name = "<init>")) xm_m100.2.2.1 xm_m100.2.2.2.2.2.2.2.2 (xm_drop 40 xm_m100.2.2.2.2.2.2.2.2) = true by rw [xk_e100]; rfl))
theorem xk_p101_0 : xn_okP xm_m101 40 0 = true := by decide +kernel
theorem xk_e101 : xm_drop 40 xm_m101.2.2.2.2.2.2.2.2 = [] := by decide +kernel
theorem xk_ok101 : xn_okM xm_m101 = true := xn_lM (by decide +kernel) (by decide +kernel) (xn_lP (r := xm_m101) 40 0 xk_p101_0 (show xn_okC xm_m101.1 (decide (xm_m101.2.1.name = "<init>")) xm_m101.2.2.1 xm_m101.2.2.2.2.2.2.2.2 (xm_drop 40 xm_m101.2.2.2.2.2.2.2.2) = true by rw [xk_e101]; rfl))
theorem xk_p102_0 : xn_okP xm_m102 40 0 = true := by decide +kernel
theorem xk_e102 : xm_drop 40 xm_m102.2.2.2.2.2.2.2.2 = [] := by decide +kernel
theorem xk_ok102 : xn_okM xm_m102 = true := xn_lM (by decide +kernel) (by decide +kernel) (xn_lP (r := xm_m102) 40 0 xk_p102_0 (show xn_okC xm_m102.1 (decide (xm_m102.2.1.name = "<init>")) xm_m102.2.2.1 xm_m102.2.2.2.2.2.2.2.2 (xm_drop 40 xm_m102.2.2.2.2.2.2.2.2) = true by rw [xk_e102]; rfl))
theorem xk_p103_0 : xn_okP xm_m103 40 0 = true := by decide +kernel
theorem xk_e103 : xm_drop 40 xm_m103.2.2.2.2.2.2.2.2 = [] := by decide +kernel
theorem xk_ok103 : xn_okM xm_m103 = true := xn_lM (by decide +kernel) (by decide +kernel) (xn_lP (r := xm_m103) 40 0 xk_p103_0 (show xn_okC xm_m103.1 (decide (xm_m103.2.1.name = "<init>")) xm_m103.2.2.1 xm_m103.2.2.2.2.2.2.2.2 (xm_drop 40 xm_m103.2.2.2.2.2.2.2.2) = true by rw [xk_e103]; rfl))
theorem xk_p104_0 : xn_okP xm_m104 40 0 = true := by decide +kernel
theorem xk_e104 : xm_drop 40 xm_m104.2.2.2.2.2.2.2.2 = [] := by decide +kernel
theorem xk_ok104 : xn_okM xm_m104 = true := xn_lM (by decide +kernel) (by decide +kernel) (xn_lP (r := xm_m104) 40 0 xk_p104_0 (show xn_okC xm_m104.1 (decide (xm_m104.2.1.name = "<init>")) xm_m104.2.2.1 xm_m104.2.2.2.2.2.2.2.2 (xm_drop 40 xm_m104.2.2.2.2.2.2.2.2) = true by rw [xk_e104]; rfl))
theorem xk_p105_0 : xn_okP xm_m105 40 0 = true := by decide +kernel
theorem xk_e105 : xm_drop 40 xm_m105.2.2.2.2.2.2.2.2 = [] := by decide +kernel
theorem xk_ok105 : xn_okM xm_m105 = true := xn_lM (by decide +kernel) (by decide +kernel) (xn_lP (r := xm_m105) 40 0 xk_p105_0 (show xn_okC xm_m105.1 (decide (xm_m105.2.1.name = "<init>")) xm_m105.2.2.1 xm_m105.2.2.2.2.2.2.2.2 (xm_drop 40 xm_m105.2.2.2.2.2.2.2.2) = true by rw [xk_e105]; rfl))
theorem xk_p106_0 : xn_okP xm_m106 40 0 = true := by decide +kernel
theorem xk_p106_40 : xn_okP xm_m106 40 40 = true := by decide +kernel
theorem xk_e106 : xm_drop 80 xm_m106.2.2.2.2.2.2.2.2 = [] := by decide +kernel
theorem xk_ok106 : xn_okM xm_m106 = true := xn_lM (by decide +kernel) (by decide +kernel) (xn_lP (r := xm_m106) 40 0 xk_p106_0 (xn_lP (r := xm_m106) 40 40 xk_p106_40 (show xn_okC xm_m106.1 (decide (xm_m106.2.1.name = "<init>")) xm_m106.2.2.1 xm_m106.2.2.2.2.2.2.2.2 (xm_drop 80 xm_m106.2.2.2.2.2.2.2.2) = true by rw [xk_e106]; rfl)))
theorem xk_p107_0 : xn_okP xm_m107 40 0 = true := by decide +kernel
theorem xk_p107_40 : xn_okP xm_m107 40 40 = true := by decide +kernel
theorem xk_e107 : xm_drop 80 xm_m107.2.2.2.2.2.2.2.2 = [] := by decide +kernel
theorem xk_ok107 : xn_okM xm_m107 = true := xn_lM (by decide +kernel) (by decide +kernel) (xn_lP (r := xm_m107) 40 0 xk_p107_0 (xn_lP (r := xm_m107) 40 40 xk_p107_40 (show xn_okC xm_m107.1 (decide (xm_m107.2.1.name = "<init>")) xm_m107.2.2.1 xm_m107.2.2.2.2.2.2.2.2 (xm_drop 80 xm_m107.2.2.2.2.2.2.2.2) = true by rw [xk_e107]; rfl)))
theorem xk_p108_0 : xn_okP xm_m108 40 0 = true := by decide +kernel
theorem xk_e108 : xm_drop 40 xm_m108.2.2.2.2.2.2.2.2 = [] := by decide +kernel
theorem xk_ok108 : xn_okM xm_m108 = true := xn_lM (by decide +kernel) (by decide +kernel) (xn_lP (r := xm_m108) 40 0 xk_p108_0 (show xn_okC xm_m108.1 (decide (xm_m108.2.1.name = "<init>")) xm_m108.2.2.1 xm_m108.2.2.2.2.2.2.2.2 (xm_drop 40 xm_m108.2.2.2.2.2.2.2.2) = true by rw [xk_e108]; rfl))
theorem xk_p109_0 : xn_okP xm_m109 40 0 = true := by decide +kernel
theorem xk_e109 : xm_drop 40 xm_m109.2.2.2.2.2.2.2.2 = [] := by decide +kernel
theorem xk_ok109 : xn_okM xm_m109 = true := xn_lM (by decide +kernel) (by decide +kernel) (xn_lP (r := xm_m109) 40 0 xk_p109_0 (show xn_okC xm_m109.1 (decide (xm_m109.2.1.name = "<init>")) xm_m109.2.2.1 xm_m109.2.2.2.2.2.2.2.2 (xm_drop 40 xm_m109.2.2.2.2.2.2.2.2) = true by rw [xk_e109]; rfl))
theorem xk_p110_0 : xn_okP xm_m110 40 0 = true := by decide +kernel
theorem xk_e110 : xm_drop 40 xm_m110.2.2.2.2.2.2.2.2 = [] := by decide +kernel
theorem xk_ok110 : xn_okM xm_m110 = true := xn_lM (by decide +kernel) (by decide +kernel) (xn_lP (r := xm_m110) 40 0 xk_p110_0 (show xn_okC xm_m110.1 (decide (xm_m110.2.1.name = "<init>")) xm_m110.2.2.1 xm_m110.2.2.2.2.2.2.2.2 (xm_drop 40 xm_m110.2.2.2.2.2.2.2.2) = true by rw [xk_e110]; rfl))
theorem xk_p111_0 : xn_okP xm_m111 40 0 = true := by decide +kernel
theorem xk_e111 : xm_drop 40 xm_m111.2.2.2.2.2.2.2.2 = [] := by decide +kernel
theorem xk_ok111 : xn_okM xm_m111 = true := xn_lM (by decide +kernel) (by decide +kernel) (xn_lP (r := xm_m111) 40 0 xk_p111_0 (show xn_okC xm_m111.1 (decide (xm_m111.2.1.name = "<init>")) xm_m111.2.2.1 xm_m111.2.2.2.2.2.2.2.2 (xm_drop 40 xm_m111.2.2.2.2.2.2.2.2) = true by rw [xk_e111]; rfl))
