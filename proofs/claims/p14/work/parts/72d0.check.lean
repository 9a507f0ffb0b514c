theorem xk_p0_0 : xn_okP xm_m0 40 0 = true := by decide +kernel
theorem xk_p0_40 : xn_okP xm_m0 40 40 = true := by decide +kernel
theorem xk_p0_80 : xn_okP xm_m0 40 80 = true := by decide +kernel
theorem xk_p0_120 : xn_okP xm_m0 40 120 = true := by decide +kernel
theorem xk_p0_160 : xn_okP xm_m0 40 160 = true := by decide +kernel
theorem xk_p0_200 : xn_okP xm_m0 40 200 = true := by decide +kernel
theorem xk_p0_240 : xn_okP xm_m0 40 240 = true := by decide +kernel
theorem xk_p0_280 : xn_okP xm_m0 40 280 = true := by decide +kernel
theorem xk_p0_320 : xn_okP xm_m0 40 320 = true := by decide +kernel
theorem xk_p0_360 : xn_okP xm_m0 40 360 = true := by decide +kernel
theorem xk_p0_400 : xn_okP xm_m0 40 400 = true := by decide +kernel
theorem xk_p0_440 : xn_okP xm_m0 40 440 = true := by decide +kernel
theorem xk_p0_480 : xn_okP xm_m0 40 480 = true := by decide +kernel
theorem xk_p0_520 : xn_okP xm_m0 40 520 = true := by decide +kernel
theorem xk_p0_560 : xn_okP xm_m0 40 560 = true := by decide +kernel
theorem xk_p0_600 : xn_okP xm_m0 40 600 = true := by decide +kernel
theorem xk_p0_640 : xn_okP xm_m0 40 640 = true := by decide +kernel
theorem xk_p0_680 : xn_okP xm_m0 40 680 = true := by decide +kernel
theorem xk_e0 : xm_drop 720 xm_m0.2.2.2.2.2.2.2.2 = [] := by decide +kernel
theorem xk_ok0 : xn_okM xm_m0 = true := xn_lM (by decide +kernel) (by decide +kernel) (xn_lP (r := xm_m0) 40 0 xk_p0_0 (xn_lP (r := xm_m0) 40 40 xk_p0_40 (xn_lP (r := xm_m0) 40 80 xk_p0_80 (xn_lP (r := xm_m0) 40 120 xk_p0_120 (xn_lP (r := xm_m0) 40 160 xk_p0_160 (xn_lP (r := xm_m0) 40 200 xk_p0_200 (xn_lP (r := xm_m0) 40 240 xk_p0_240 (xn_lP (r := xm_m0) 40 280 xk_p0_280 (xn_lP (r := xm_m0) 40 320 xk_p0_320 (xn_lP (r := xm_m0) 40 360 xk_p0_360 (xn_lP (r := xm_m0) 40 400 xk_p0_400 (xn_lP (r := xm_m0) 40 440 xk_p0_440 (xn_lP (r := xm_m0) 40 480 xk_p0_480 (xn_lP (r := xm_m0) 40 520 xk_p0_520 (xn_lP (r := xm_m0) 40 560 xk_p0_560 (xn_lP (r := xm_m0) 40 600 xk_p0_600 (xn_lP (r := xm_m0) 40 640 xk_p0_640 (xn_lP (r := xm_m0) 40 680 xk_p0_680 (show xn_okC xm_m0.1 (decide (xm_m0.2.1.name = "<init>")) xm_m0.2.2.1 xm_m0.2.2.2.2.2.2.2.2 (xm_drop 720 xm_m0.2.2.2.2.2.2.2.2) = true by rw [xk_e0]; rfl)))))))))))))))))))
theorem xk_p1_0 : xn_okP xm_m1 40 0 = true := by decide +kernel
theorem xk_e1 : xm_drop 40 xm_m1.2.2.2.2.2.2.2.2 = [] := by decide +kernel
theorem xk_ok1 : xn_okM xm_m1 = true := xn_lM (by decide +kernel) (by decide +kernel) (xn_lP (r := xm_m1) 40 0 xk_p1_0 (show xn_okC xm_m1.1 (decide (xm_m1.2.1.name = "<init>")) xm_m1.2.2.1 xm_m1.2.2.2.2.2.2.2.2 (xm_drop 40 xm_m1.2.2.2.2.2.2.2.2) = true by rw [xk_e1]; rfl))
theorem xk_p2_0 : xn_okP xm_m2 40 0 = true := by decide +kernel
theorem xk_p2_40 : xn_okP xm_m2 40 40 = true := by decide +kernel
theorem xk_e2 : xm_drop 80 xm_m2.2.2.2.2.2.2.2.2 = [] := by decide +kernel
theorem xk_ok2 : xn_okM xm_m2 = true := xn_lM (by decide +kernel) (by decide +kernel) (xn_lP (r := xm_m2) 40 0 xk_p2_0 (xn_lP (r := xm_m2) 40 40 xk_p2_40 (show xn_okC xm_m2.1 (decide (xm_m2.2.1.name = "<init>")) xm_m2.2.2.1 xm_m2.2.2.2.2.2.2.2.2 (xm_drop 80 xm_m2.2.2.2.2.2.2.2.2) = true by rw [xk_e2]; rfl)))
theorem xk_p3_0 : xn_okP xm_m3 40 0 = true := by decide +kernel
theorem xk_e3 : xm_drop 40 xm_m3.2.2.2.2.2.2.2.2 = [] := by decide +kernel
theorem xk_ok3 : xn_okM xm_m3 = true := xn_lM (by decide +kernel) (by decide +kernel) (xn_lP (r := xm_m3) 40 0 xk_p3_0 (show xn_okC xm_m3.1 (decide (xm_m3.2.1.name = "<init>")) xm_m3.2.2.1 xm_m3.2.2.2.2.2.2.2.2 (xm_drop 40 xm_m3.2.2.2.2.2.2.2.2) = true by rw [xk_e3]; rfl))
theorem xk_p4_0 : xn_okP xm_m4 40 0 = true := by decide +kernel
theorem xk_e4 : xm_drop 40 xm_m4.2.2.2.2.2.2.2.2 = [] := by decide +kernel
theorem xk_ok4 : xn_okM xm_m4 = true := xn_lM (by decide +kernel) (by decide +kernel) (xn_lP (r := xm_m4) 40 0 xk_p4_0 (show xn_okC xm_m4.1 (decide (xm_m4.2.1.name = "<init>")) xm_m4.2.2.1 xm_m4.2.2.2.2.2.2.2.2 (xm_drop 40 xm_m4.2.2.2.2.2.2.2.2) = true by rw [xk_e4]; rfl))
theorem xk_p5_0 : xn_okP xm_m5 40 0 = true := by decide +kernel
theorem xk_e5 : xm_drop 40 xm_m5.2.2.2.2.2.2.2.2 = [] := by decide +kernel
theorem xk_ok5 : xn_okM xm_m5 = true := xn_lM (by decide +kernel) (by decide +kernel) (xn_lP (r := xm_m5) 40 0 xk_p5_0 (show xn_okC xm_m5.1 (decide (xm_m5.2.1.name = "<init>")) xm_m5.2.2.1 xm_m5.2.2.2.2.2.2.2.2 (xm_drop 40 xm_m5.2.2.2.2.2.2.2.2) = true by rw [xk_e5]; rfl))
theorem xk_p6_0 : xn_okP xm_m6 40 0 = true := by decide +kernel
theorem xk_e6 : xm_drop 40 xm_m6.2.2.2.2.2.2.2.2 = [] := by decide +kernel
theorem xk_ok6 : xn_okM xm_m6 = true := xn_lM (by decide +kernel) (by decide +kernel) (xn_lP (r := xm_m6) 40 0 xk_p6_0 (show xn_okC xm_m6.1 (decide (xm_m6.2.1.name = "<init>")) xm_m6.2.2.1 xm_m6.2.2.2.2.2.2.2.2 (xm_drop 40 xm_m6.2.2.2.2.2.2.2.2) = true by rw [xk_e6]; rfl))
theorem xk_p7_0 : xn_okP xm_m7 40 0 = true := by decide +kernel
theorem xk_e7 : xm_drop 40 xm_m7.2.2.2.2.2.2.2.2 = [] := by decide +kernel
theorem xk_ok7 : xn_okM xm_m7 = true := xn_lM (by decide +kernel) (by decide +kernel) (xn_lP (r := xm_m7) 40 0 xk_p7_0 (show xn_okC xm_m7.1 (decide (xm_m7.2.1.name = "<init>")) xm_m7.2.2.1 xm_m7.2.2.2.2.2.2.2.2 (xm_drop 40 xm_m7.2.2.2.2.2.2.2.2) = true by rw [xk_e7]; rfl))
theorem xk_p8_0 : xn_okP xm_m8 40 0 = true := by decide +kernel
theorem xk_p8_40 : xn_okP xm_m8 40 40 = true := by decide +kernel
theorem xk_e8 : xm_drop 80 xm_m8.2.2.2.2.2.2.2.2 = [] := by decide +kernel
theorem xk_ok8 : xn_okM xm_m8 = true := xn_lM (by decide +kernel) (by decide +kernel) (xn_lP (r := xm_m8) 40 0 xk_p8_0 (xn_lP (r := xm_m8) 40 40 xk_p8_40 (show xn_okC xm_m8.1 (decide (xm_m8.2.1.name = "<init>")) xm_m8.2.2.1 xm_m8.2.2.2.2.2.2.2.2 (xm_drop 80 xm_m8.2.2.2.2.2.2.2.2) = true by rw [xk_e8]; rfl)))
theorem xk_p9_0 : xn_okP xm_m9 40 0 = true := by decide +kernel
theorem xk_p9_40 : xn_okP xm_m9 40 40 = true := by decide +kernel
theorem xk_e9 : xm_drop 80 xm_m9.2.2.2.2.2.2.2.2 = [] := by decide +kernel
theorem xk_ok9 : xn_okM xm_m9 = true := xn_lM (by decide +kernel) (by decide +kernel) (xn_lP (r := xm_m9) 40 0 xk_p9_0 (xn_lP (r := xm_m9) 40 40 xk_p9_40 (show xn_okC xm_m9.1 (decide (xm_m9.2.1.name = "<init>")) xm_m9.2.2.1 xm_m9.2.2.2.2.2.2.2.2 (xm_drop 80 xm_m9.2.2.2.2.2.2.2.2) = true by rw [xk_e9]; rfl)))
theorem xk_p10_0 : xn_okP xm_m10 40 0 = true := by decide +kernel
theorem xk_p10_40 : xn_okP xm_m10 40 40 = true := by decide +kernel
theorem xk_e10 : xm_drop 80 xm_m10.2.2.2.2.2.2.2.2 = [] := by decide +kernel
theorem xk_ok10 : xn_okM xm_m10 = true := xn_lM (by decide +kernel) (by decide +kernel) (xn_lP (r := xm_m10) 40 0 xk_p10_0 (xn_lP (r := xm_m10) 40 40 xk_p10_40 (show xn_okC xm_m10.1 (decide (xm_m10.2.1.name = "<init>")) xm_m10.2.2.1 xm_m10.2.2.2.2.2.2.2.2 (xm_drop 80 xm_m10.2.2.2.2.2.2.2.2) = true by rw [xk_e10]; rfl)))
theorem xk_p11_0 : xn_okP xm_m11 40 0 = true := by decide +kernel
theorem xk_e11 : xm_drop 40 xm_m11.2.2.2.2.2.2.2.2 = [] := by decide +kernel
theorem xk_ok11 : xn_okM xm_m11 = true := xn_lM (by decide +kernel) (by decide +kernel) (xn_lP (r := xm_m11) 40 0 xk_p11_0 (show xn_okC xm_m11.1 (decide (xm_m11.2.1.name = "<init>")) xm_m11.2.2.1 xm_m11.2.2.2.2.2.2.2.2 (xm_drop 40 xm_m11.2.2.2.2.2.2.2.2) = true by rw [xk_e11]; rfl))
theorem xk_p12_0 : xn_okP xm_m12 40 0 = true := by decide +kernel
theorem xk_e12 : xm_drop 40 xm_m12.2.2.2.2.2.2.2.2 = [] := by decide +kernel
theorem xk_ok12 : xn_okM xm_m12 = true := xn_lM (by decide +kernel) (by decide +kernel) (xn_lP (r := xm_m12) 40 0 xk_p12_0 (show xn_okC xm_m12.1 (decide (xm_m12.2.1.name = "<init>")) xm_m12.2.2.1 xm_m12.2.2.2.2.2.2.2.2 (xm_drop 40 xm_m12.2.2.2.2.2.2.2.2) = true by rw [xk_e12]; rfl))
theorem xk_p13_0 : xn_okP xm_m13 40 0 = true := by decide +kernel
theorem xk_p13_40 : xn_okP xm_m13 40 40 = true := by decide +kernel
theorem xk_p13_80 : xn_okP xm_m13 40 80 = true := by decide +kernel
theorem xk_p13_120 : xn_okP xm_m13 40 120 = true := by decide +kernel
theorem xk_p13_160 : xn_okP xm_m13 40 160 = true := by decide +kernel
theorem xk_e13 : xm_drop 200 xm_m13.2.2.2.2.2.2.2.2 = [] := by decide +kernel
theorem xk_ok13 : xn_okM xm_m13 = true := xn_lM (by decide +kernel) (by decide +kernel) (xn_lP (r := xm_m13) 40 0 xk_p13_0 (xn_lP (r := xm_m13) 40 40 xk_p13_40 (xn_lP (r := xm_m13) 40 80 xk_p13_80 (xn_lP (r := xm_m13) 40 120 xk_p13_120 (xn_lP (r := xm_m13) 40 160 xk_p13_160 (show xn_okC xm_m13.1 (decide (xm_m13.2.1.name = "<init>")) xm_m13.2.2.1 xm_m13.2.2.2.2.2.2.2.2 (xm_drop 200 xm_m13.2.2.2.2.2.2.2.2) = true by rw [xk_e13]; rfl))))))
theorem xk_p14_0 : xn_okP xm_m14 40 0 = true := by decide +kernel
theorem xk_e14 : xm_drop 40 xm_m14.2.2.2.2.2.2.2.2 = [] := by decide +kernel
theorem xk_ok14 : xn_okM xm_m14 = true := xn_lM (by decide +kernel) (by decide +kernel) (xn_lP (r := xm_m14) 40 0 xk_p14_0 (show xn_okC xm_m14.1 (decide (xm_m14.2.1.name = "<init>")) xm_m14.2.2.1 xm_m14.2.2.2.2.2.2.2.2 (xm_drop 40 xm_m14.2.2.2.2.2.2.2.2) = true by rw [xk_e14]; rfl))
theorem xk_p15_0 : xn_okP xm_m15 40 0 = true := by decide +kernel
theorem xk_p15_40 : xn_okP xm_m15 40 40 = true := by decide +kernel
theorem xk_p15_80 : xn_okP xm_m15 40 80 = true := by decide +kernel
theorem xk_e15 : xm_drop 120 xm_m15.2.2.2.2.2.2.2.2 = [] := by decide +kernel
theorem xk_ok15 : xn_okM xm_m15 = true := xn_lM (by decide +kernel) (by decide +kernel) (xn_lP (r := xm_m15) 40 0 xk_p15_0 (xn_lP (r := xm_m15) 40 40 xk_p15_40 (xn_lP (r := xm_m15) 40 80 xk_p15_80 (show xn_okC xm_m15.1 (decide (xm_m15.2.1.name = "<init>")) xm_m15.2.2.1 xm_m15.2.2.2.2.2.2.2.2 (xm_drop 120 xm_m15.2.2.2.2.2.2.2.2) = true by rw [xk_e15]; rfl))))
theorem xk_p16_0 : xn_okP xm_m16 40 0 = true := by decide +kernel
theorem xk_e16 : xm_drop 40 xm_m16.2.2.2.2.2.2.2.2 = [] := by decide +kernel
theorem xk_ok16 : xn_okM xm_m16 = true := xn_lM (by decide +kernel) (by decide +kernel) (xn_lP (r := xm_m16) 40 0 xk_p16_0 (show xn_okC xm_m16.1 (decide (xm_m16.2.1.name = "<init>")) xm_m16.2.2.1 xm_m16.2.2.2.2.2.2.2.2 (xm_drop 40 xm_m16.2.2.2.2.2.2.2.2) = true by rw [xk_e16]; rfl))
theorem xk_p17_0 : xn_okP xm_m17 40 0 = true := by decide +kernel
theorem xk_e17 : xm_drop 40 xm_m17.2.2.2.2.2.2.2.2 = [] := by decide +kernel
theorem xk_ok17 : xn_okM xm_m17 = true := xn_lM (by decide +kernel) (by decide +kernel) (xn_lP (r := xm_m17) 40 0 xk_p17_0 (show xn_okC xm_m17.1 (decide (xm_m17.2.1.name = "<init>")) xm_m17.2.2.1 xm_m17.2.2.2.2.2.2.2.2 (xm_drop 40 xm_m17.2.2.2.2.2.2.2.2) = true by rw [xk_e17]; rfl))
theorem xk_p18_0 : xn_okP xm_m18 40 0 = true := by decide +kernel
theorem xk_e18 : xm_drop 40 xm_m18.2.2.2.2.2.2.2.2 = [] := by decide +kernel
theorem xk_ok18 : xn_okM xm_m18 = true := xn_lM (by decide +kernel) (by decide +kernel) (xn_lP (r := xm_m18) 40 0 xk_p18_0 (show xn_okC xm_m18.1 (decide (xm_m18.2.1.name = "<init>")) xm_m18.2.2.1 xm_m18.2.2.2.2.2.2.2.2 (xm_drop 40 xm_m18.2.2.2.2.2.2.2.2) = true by rw [xk_e18]; rfl))
theorem xk_p19_0 : xn_okP xm_m19 40 0 = true := by decide +kernel
theorem xk_e19 : xm_drop 40 xm_m19.2.2.2.2.2.2.2.2 = [] := by decide +kernel
theorem xk_ok19 : xn_okM xm_m19 = true := xn_lM (by decide +kernel) (by decide +kernel) (xn_lP (r := xm_m19) 40 0 xk_p19_0 (show xn_okC xm_m19.1 (decide (xm_m19.2.1.name = "<init>")) xm_m19.2.2.1 xm_m19.2.2.2.2.2.2.2.2 (xm_drop 40 xm_m19.2.2.2.2.2.2.2.2) = true by rw [xk_e19]; rfl))
theorem xk_p20_0 : xn_okP xm_m20 40 0 = true := by decide +kernel
theorem xk_e20 : xm_drop 40 xm_m20.2.2.2.2.2.2.2.2 = [] := by decide +kernel
theorem xk_ok20 : xn_okM xm_m20 = true := xn_lM (by decide +kernel) (by decide +kernel) (xn_lP (r := xm_m20) 40 0 xk_p20_0 (show xn_okC xm_m20.1 (decide (xm_m20.2.1.name = "<init>")) xm_m20.2.2.1 xm_m20.2.2.2.2.2.2.2.2 (xm_drop 40 xm_m20.2.2.2.2.2.2.2.2) = true by rw [xk_e20]; rfl))
theorem xk_p21_0 : xn_okP xm_m21 40 0 = true := by decide +kernel
theorem xk_e21 : xm_drop 40 xm_m21.2.2.2.2.2.2.2.2 = [] := by decide +kernel
theorem xk_ok21 : xn_okM xm_m21 = true := xn_lM (by decide +kernel) (by decide +kernel) (xn_lP (r := xm_m21) 40 0 xk_p21_0 (show xn_okC xm_m21.1 (decide (xm_m21.2.1.name = "<init>")) xm_m21.2.2.1 xm_m21.2.2.2.2.2.2.2.2 (xm_drop 40 xm_m21.2.2.2.2.2.2.2.2) = true by rw [xk_e21]; rfl))
theorem xk_p22_0 : xn_okP xm_m22 40 0 = true := by decide +kernel
theorem xk_e22 : xm_drop 40 xm_m22.2.2.2.2.2.2.2.2 = [] := by decide +kernel
theorem xk_ok22 : xn_okM xm_m22 = true := xn_lM (by decide +kernel) (by decide +kernel) (xn_lP (r := xm_m22) 40 0 xk_p22_0 (show xn_okC xm_m22.1 (decide (xm_m22.2.1.name = "<init>")) xm_m22.2.2.1 xm_m22.2.2.2.2.2.2.2.2 (xm_drop 40 xm_m22.2.2.2.2.2.2.2.2) = true by rw [xk_e22]; rfl))
theorem xk_p23_0 : xn_okP xm_m23 40 0 = true := by decide +kernel
theorem xk_e23 : xm_drop 40 xm_m23.2.2.2.2.2.2.2.2 = [] := by decide +kernel
theorem xk_ok23 : xn_okM xm_m23 = true := xn_lM (by decide +kernel) (by decide +kernel) (xn_lP (r := xm_m23) 40 0 xk_p23_0 (show xn_okC xm_m23.1 (decide (xm_m23.2.1.name = "<init>")) xm_m23.2.2.1 xm_m23.2.2.2.2.2.2.2.2 (xm_drop 40 xm_m23.2.2.2.2.2.2.2.2) = true by rw [xk_e23]; rfl))
theorem xk_p24_0 : xn_okP xm_m24 40 0 = true := by decide +kernel
theorem xk_e24 : xm_drop 40 xm_m24.2.2.2.2.2.2.2.2 = [] := by decide +kernel
theorem xk_ok24 : xn_okM xm_m24 = true := xn_lM (by decide +kernel) (by decide +kernel) (xn_lP (r := xm_m24) 40 0 xk_p24_0 (show xn_okC xm_m24.1 (decide (xm_m24.2.1.name = "<init>")) xm_m24.2.2.1 xm_m24.2.2.2.2.2.2.2.2 (xm_drop 40 xm_m24.2.2.2.2.2.2.2.2) = true by rw [xk_e24]; rfl))
theorem xk_p25_0 : xn_okP xm_m25 40 0 = true := by decide +kernel
theorem xk_p25_40 : xn_okP xm_m25 40 40 = true := by decide +kernel
theorem xk_p25_80 : xn_okP xm_m25 40 80 = true := by decide +kernel
theorem xk_e25 : xm_drop 120 xm_m25.2.2.2.2.2.2.2.2 = [] := by decide +kernel
theorem xk_ok25 : xn_okM xm_m25 = true := xn_lM (by decide +kernel) (by decide +kernel) (xn_lP (r := xm_m25) 40 0 xk_p25_0 (xn_lP (r := xm_m25) 40 40 xk_p25_40 (xn_lP (r := xm_m25) 40 80 xk_p25_80 (show xn_okC xm_m25.1 (decide (xm_m25.2.1.name = "<init>")) xm_m25.2.2.1 xm_m25.2.2.2.2.2.2.2.2 (xm_drop 120 xm_m25.2.2.2.2.2.2.2.2) = true by rw [xk_e25]; rfl))))
theorem xk_p26_0 : xn_okP xm_m26 40 0 = true := by decide +kernel
theorem xk_e26 : xm_drop 40 xm_m26.2.2.2.2.2.2.2.2 = [] := by decide +kernel
theorem xk_ok26 : xn_okM xm_m26 = true := xn_lM (by decide +kernel) (by decide +kernel) (xn_lP (r := xm_m26) 40 0 xk_p26_0 (show xn_okC xm_m26.1 (decide (xm_m26.2.1.name = "<init>")) xm_m26.2.2.1 xm_m26.2.2.2.2.2.2.2.2 (xm_drop 40 xm_m26.2.2.2.2.2.2.2.2) = true by rw [xk_e26]; rfl))
theorem xk_p27_0 : xn_okP xm_m27 40 0 = true := by decide +kernel
theorem xk_e27 : xm_drop 40 xm_m27.2.2.2.2.2.2.2.2 = [] := by decide +kernel
theorem xk_ok27 : xn_okM xm_m27 = true := xn_lM (by decide +kernel) (by decide +kernel) (xn_lP (r := xm_m27) 40 0 xk_p27_0 (show xn_okC xm_m27.1 (decide (xm_m27.2.1.name = "<init>")) xm_m27.2.2.1 xm_m27.2.2.2.2.2.2.2.2 (xm_drop 40 xm_m27.2.2.2.2.2.2.2.2) = true by rw [xk_e27]; rfl))
theorem xk_p28_0 : xn_okP xm_m28 40 0 = true := by decide +kernel
theorem xk_e28 : xm_drop 40 xm_m28.2.2.2.2.2.2.2.2 = [] := by decide +kernel
theorem xk_ok28 : xn_okM xm_m28 = true := xn_lM (by decide +kernel) (by decide +kernel) (xn_lP (r := xm_m28) 40 0 xk_p28_0 (show xn_okC xm_m28.1 (decide (xm_m28.2.1.name = "<init>")) xm_m28.2.2.1 xm_m28.2.2.2.2.2.2.2.2 (xm_drop 40 xm_m28.2.2.2.2.2.2.2.2) = true by rw [xk_e28]; rfl))
theorem xk_p29_0 : xn_okP xm_m29 40 0 = true := by decide +kernel
theorem xk_e29 : xm_drop 40 xm_m29.2.2.2.2.2.2.2.2 = [] := by decide +kernel
theorem xk_ok29 : xn_okM xm_m29 = true := xn_lM (by decide +kernel) (by decide +kernel) (xn_lP (r := xm_m29) 40 0 xk_p29_0 (show xn_okC xm_m29.1 (decide (xm_m29.2.1.name = "<init>")) xm_m29.2.2.1 xm_m29.2.2.2.2.2.2.2.2 (xm_drop 40 xm_m29.2.2.2.2.2.2.2.2) = true by rw [xk_e29]; rfl))
theorem xk_p30_0 : xn_okP xm_m30 40 0 = true := by decide +kernel
theorem xk_e30 : xm_drop 40 xm_m30.2.2.2.2.2.2.2.2 = [] := by decide +kernel
theorem xk_ok30 : xn_okM xm_m30 = true := xn_lM (by decide +kernel) (by decide +kernel) (xn_lP (r := xm_m30) 40 0 xk_p30_0 (show xn_okC xm_m30.1 (decide (xm_m30.2.1.name = "<init>")) xm_m30.2.2.1 xm_m30.2.2.2.2.2.2.2.2 (xm_drop 40 xm_m30.2.2.2.2.2.2.2.2) = true by rw [xk_e30]; rfl))
theorem xk_p31_0 : xn_okP xm_m31 40 0 = true := by decide +kernel
theorem xk_p31_40 : xn_okP xm_m31 40 40 = true := by decide +kernel
theorem xk_e31 : xm_drop 80 xm_m31.2.2.2.2.2.2.2.2 = [] := by decide +kernel
theorem xk_ok31 : xn_okM xm_m31 = true := xn_lM (by decide +kernel) (by decide +kernel) (xn_lP (r := xm_m31) 40 0 xk_p31_0 (xn_lP (r := xm_m31) 40 40 xk_p31_40 (show xn_okC xm_m31.1 (decide (xm_m31.2.1.name = "<init>")) xm_m31.2.2.1 xm_m31.2.2.2.2.2.2.2.2 (xm_drop 80 xm_m31.2.2.2.2.2.2.2.2) = true by rw [xk_e31]; rfl)))
theorem xk_p32_0 : xn_okP xm_m32 40 0 = true := by decide +kernel
theorem xk_e32 : xm_drop 40 xm_m32.2.2.2.2.2.2.2.2 = [] := by decide +kernel
theorem xk_ok32 : xn_okM xm_m32 = true := xn_lM (by decide +kernel) (by decide +kernel) (xn_lP (r := xm_m32) 40 0 xk_p32_0 (show xn_okC xm_m32.1 (decide (xm_m32.2.1.name = "<init>")) xm_m32.2.2.1 xm_m32.2.2.2.2.2.2.2.2 (xm_drop 40 xm_m32.2.2.2.2.2.2.2.2) = true by rw [xk_e32]; rfl))
theorem xk_p33_0 : xn_okP xm_m33 40 0 = true := by decide +kernel
theorem xk_p33_40 : xn_okP xm_m33 40 40 = true := by decide +kernel
theorem xk_p33_80 : xn_okP xm_m33 40 80 = true := by decide +kernel
theorem xk_e33 : xm_drop 120 xm_m33.2.2.2.2.2.2.2.2 = [] := by decide +kernel
theorem xk_ok33 : xn_okM xm_m33 = true := xn_lM (by decide +kernel) (by decide +kernel) (xn_lP (r := xm_m33) 40 0 xk_p33_0 (xn_lP (r := xm_m33) 40 40 xk_p33_40 (xn_lP (r := xm_m33) 40 80 xk_p33_80 (show xn_okC xm_m33.1 (decide (xm_m33.2.1.name = "<init>")) xm_m33.2.2.1 xm_m33.2.2.2.2.2.2.2.2 (xm_drop 120 xm_m33.2.2.2.2.2.2.2.2) = true by rw [xk_e33]; rfl))))
theorem xk_p34_0 : xn_okP xm_m34 40 0 = true := by decide +kernel
theorem xk_p34_40 : xn_okP xm_m34 40 40 = true := by decide +kernel
theorem xk_p34_80 : xn_okP xm_m34 40 80 = true := by decide +kernel
theorem xk_e34 : xm_drop 120 xm_m34.2.2.2.2.2.2.2.2 = [] := by decide +kernel
theorem xk_ok34 : xn_okM xm_m34 = true := xn_lM (by decide +kernel) (by decide +kernel) (xn_lP (r := xm_m34) 40 0 xk_p34_0 (xn_lP (r := xm_m34) 40 40 xk_p34_40 (xn_lP (r := xm_m34) 40 80 xk_p34_80 (show xn_okC xm_m34.1 (decide (xm_m34.2.1.name = "<init>")) xm_m34.2.2.1 xm_m34.2.2.2.2.2.2.2.2 (xm_drop 120 xm_m34.2.2.2.2.2.2.2.2) = true by rw [xk_e34]; rfl))))
theorem xk_p35_0 : xn_okP xm_m35 40 0 = true := by decide +kernel
theorem xk_e35 : xm_drop 40 xm_m35.2.2.2.2.2.2.2.2 = [] := by decide +kernel
theorem xk_ok35 : xn_okM xm_m35 = true := xn_lM (by decide +kernel) (by decide +kernel) (xn_lP (r := xm_m35) 40 0 xk_p35_0 (show xn_okC xm_m35.1 (decide (xm_m35.2.1.name = "<init>")) xm_m35.2.2.1 xm_m35.2.2.2.2.2.2.2.2 (xm_drop 40 xm_m35.2.2.2.2.2.2.2.2) = true by rw [xk_e35]; rfl))
theorem xk_p36_0 : xn_okP xm_m36 40 0 = true := by decide +kernel
theorem xk_e36 : xm_drop 40 xm_m36.2.2.2.2.2.2.2.2 = [] := by decide +kernel
theorem xk_ok36 : xn_okM xm_m36 = true := xn_lM (by decide +kernel) (by decide +kernel) (xn_lP (r := xm_m36) 40 0 xk_p36_0 (show xn_okC xm_m36.1 (decide (xm_m36.2.1.name = "<init>")) xm_m36.2.2.1 xm_m36.2.2.2.2.2.2.2.2 (xm_drop 40 xm_m36.2.2.2.2.2.2.2.2) = true by rw [xk_e36]; rfl))
theorem xk_p37_0 : xn_okP xm_m37 40 0 = true := by decide +kernel
theorem xk_e37 : xm_drop 40 xm_m37.2.2.2.2.2.2.2.2 = [] := by decide +kernel
theorem xk_ok37 : xn_okM xm_m37 = true := xn_lM (by decide +kernel) (by decide +kernel) (xn_lP (r := xm_m37) 40 0 xk_p37_0 (show xn_okC xm_m37.1 (decide (xm_m37.2.1.name = "<init>")) xm_m37.2.2.1 xm_m37.2.2.2.2.2.2.2.2 (xm_drop 40 xm_m37.2.2.2.2.2.2.2.2) = true by rw [xk_e37]; rfl))
theorem xk_p38_0 : xn_okP xm_m38 40 0 = true := by decide +kernel
theorem xk_e38 : xm_drop 40 xm_m38.2.2.2.2.2.2.2.2 = [] := by decide +kernel
theorem xk_ok38 : xn_okM xm_m38 = true := xn_lM (by decide +kernel) (by decide +kernel) (xn_lP (r := xm_m38) 40 0 xk_p38_0 (show xn_okC xm_m38.1 (decide (xm_m38.2.1.name = "<init>")) xm_m38.2.2.1 xm_m38.2.2.2.2.2.2.2.2 (xm_drop 40 xm_m38.2.2.2.2.2.2.2.2) = true by rw [xk_e38]; rfl))
theorem xk_p39_0 : xn_okP xm_m39 40 0 = true := by decide +kernel
theorem xk_e39 : xm_drop 40 xm_m39.2.2.2.2.2.2.2.2 = [] := by decide +kernel
theorem xk_ok39 : xn_okM xm_m39 = true := xn_lM (by decide +kernel) (by decide +kernel) (xn_lP (r := xm_m39) 40 0 xk_p39_0 (show xn_okC xm_m39.1 (decide (xm_m39.2.1.name = "<init>")) xm_m39.2.2.1 xm_m39.2.2.2.2.2.2.2.2 (xm_drop 40 xm_m39.2.2.2.2.2.2.2.2) = true by rw [xk_e39]; rfl))
theorem xk_p40_0 : xn_okP xm_m40 40 0 = true := by decide +kernel
theorem xk_e40 : xm_drop 40 xm_m40.2.2.2.2.2.2.2.2 = [] := by decide +kernel
theorem xk_ok40 : xn_okM xm_m40 = true := xn_lM (by decide +kernel) (by decide +kernel) (xn_lP (r := xm_m40) 40 0 xk_p40_0 (show xn_okC xm_m40.1 (decide (xm_m40.2.1.name = "<init>")) xm_m40.2.2.1 xm_m40.2.2.2.2.2.2.2.2 (xm_drop 40 xm_m40.2.2.2.2.2.2.2.2) = true by rw [xk_e40]; rfl))
theorem xk_p41_0 : xn_okP xm_m41 40 0 = true := by decide +kernel
theorem xk_e41 : xm_drop 40 xm_m41.2.2.2.2.2.2.2.2 = [] := by decide +kernel
theorem xk_ok41 : xn_okM xm_m41 = true := xn_lM (by decide +kernel) (by decide +kernel) (xn_lP (r := xm_m41) 40 0 xk_p41_0 (show xn_okC xm_m41.1 (decide (xm_m41.2.1.name = "<init>")) xm_m41.2.2.1 xm_m41.2.2.2.2.2.2.2.2 (xm_drop 40 xm_m41.2.2.2.2.2.2.2.2) = true by rw [xk_e41]; rfl))
theorem xk_p42_0 : xn_okP xm_m42 40 0 = true := by decide +kernel
theorem xk_e42 : xm_drop 40 xm_m42.2.2.2.2.2.2.2.2 = [] := by decide +kernel
theorem xk_ok42 : xn_okM xm_m42 = true := xn_lM (by decide +kernel) (by decide +kernel) (xn_lP (r := xm_m42) 40 0 xk_p42_0 (show xn_okC xm_m42.1 (decide (xm_m42.2.1.name = "<init>")) xm_m42.2.2.1 xm_m42.2.2.2.2.2.2.2.2 (xm_drop 40 xm_m42.2.2.2.2.2.2.2.2) = true by rw [xk_e42]; rfl))
theorem xk_p43_0 : xn_okP xm_m43 40 0 = true := by decide +kernel
theorem xk_e43 : xm_drop 40 xm_m43.2.2.2.2.2.2.2.2 = [] := by decide +kernel
theorem xk_ok43 : xn_okM xm_m43 = true := xn_lM (by decide +kernel) (by decide +kernel) (xn_lP (r := xm_m43) 40 0 xk_p43_0 (show xn_okC xm_m43.1 (decide (xm_m43.2.1.name = "<init>")) xm_m43.2.2.1 xm_m43.2.2.2.2.2.2.2.2 (xm_drop 40 xm_m43.2.2.2.2.2.2.2.2) = true by rw [xk_e43]; rfl))
theorem xk_p44_0 : xn_okP xm_m44 40 0 = true := by decide +kernel
theorem xk_e44 : xm_drop 40 xm_m44.2.2.2.2.2.2.2.2 = [] := by decide +kernel
theorem xk_ok44 : xn_okM xm_m44 = true := xn_lM (by decide +kernel) (by decide +kernel) (xn_lP (r := xm_m44) 40 0 xk_p44_0 (show xn_okC xm_m44.1 (decide (xm_m44.2.1.name = "<init>")) xm_m44.2.2.1 xm_m44.2.2.2.2.2.2.2.2 (xm_drop 40 xm_m44.2.2.2.2.2.2.2.2) = true by rw [xk_e44]; rfl))
theorem xk_p45_0 : xn_okP xm_m45 40 0 = true := by decide +kernel
theorem xk_e45 : xm_drop 40 xm_m45.2.2.2.2.2.2.2.2 = [] := by decide +kernel
theorem xk_ok45 : xn_okM xm_m45 = true := xn_lM (by decide +kernel) (by decide +kernel) (xn_lP (r := xm_m45) 40 0 xk_p45_0 (show xn_okC xm_m45.1 (decide (xm_m45.2.1.name = "<init>")) xm_m45.2.2.1 xm_m45.2.2.2.2.2.2.2.2 (xm_drop 40 xm_m45.2.2.2.2.2.2.2.2) = true by rw [xk_e45]; rfl))
theorem xk_p46_0 : xn_okP xm_m46 40 0 = true := by decide +kernel
theorem xk_p46_40 : xn_okP xm_m46 40 40 = true := by decide +kernel
theorem xk_p46_80 : xn_okP xm_m46 40 80 = true := by decide +kernel
theorem xk_e46 : xm_drop 120 xm_m46.2.2.2.2.2.2.2.2 = [] := by decide +kernel
theorem xk_ok46 : xn_okM xm_m46 = true := xn_lM (by decide +kernel) (by decide +kernel) (xn_lP (r := xm_m46) 40 0 xk_p46_0 (xn_lP (r := xm_m46) 40 40 xk_p46_40 (xn_lP (r := xm_m46) 40 80 xk_p46_80 (show xn_okC xm_m46.1 (decide (xm_m46.2.1.name = "<init>")) xm_m46.2.2.1 xm_m46.2.2.2.2.2.2.2.2 (xm_drop 120 xm_m46.2.2.2.2.2.2.2.2) = true by rw [xk_e46]; rfl))))
theorem xk_p47_0 : xn_okP xm_m47 40 0 = true := by decide +kernel
theorem xk_p47_40 : xn_okP xm_m47 40 40 = true := by decide +kernel
theorem xk_e47 : xm_drop 80 xm_m47.2.2.2.2.2.2.2.2 = [] := by decide +kernel
theorem xk_ok47 : xn_okM xm_m47 = true := xn_lM (by decide +kernel) (by decide +kernel) (xn_lP (r := xm_m47) 40 0 xk_p47_0 (xn_lP (r := xm_m47) 40 40 xk_p47_40 (show xn_okC xm_m47.1 (decide (xm_m47.2.1.name = "<init>")) xm_m47.2.2.1 xm_m47.2.2.2.2.2.2.2.2 (xm_drop 80 xm_m47.2.2.2.2.2.2.2.2) = true by rw [xk_e47]; rfl)))
theorem xk_p48_0 : xn_okP xm_m48 40 0 = true := by decide +kernel
theorem xk_e48 : xm_drop 40 xm_m48.2.2.2.2.2.2.2.2 = [] := by decide +kernel
theorem xk_ok48 : xn_okM xm_m48 = true := xn_lM (by decide +kernel) (by decide +kernel) (xn_lP (r := xm_m48) 40 0 xk_p48_0 (show xn_okC xm_m48.1 (decide (xm_m48.2.1.name = "<init>")) xm_m48.2.2.1 xm_m48.2.2.2.2.2.2.2.2 (xm_drop 40 xm_m48.2.2.2.2.2.2.2.2) = true by rw [xk_e48]; rfl))
theorem xk_p49_0 : xn_okP xm_m49 40 0 = true := by decide +kernel
theorem xk_e49 : xm_drop 40 xm_m49.2.2.2.2.2.2.2.2 = [] := by decide +kernel
theorem xk_ok49 : xn_okM xm_m49 = true := xn_lM (by decide +kernel) (by decide +kernel) (xn_lP (r := xm_m49) 40 0 xk_p49_0 (show xn_okC xm_m49.1 (decide (xm_m49.2.1.name = "<init>")) xm_m49.2.2.1 xm_m49.2.2.2.2.2.2.2.2 (xm_drop 40 xm_m49.2.2.2.2.2.2.2.2) = true by rw [xk_e49]; rfl))
theorem xk_p50_0 : xn_okP xm_m50 40 0 = true := by decide +kernel
theorem xk_p50_40 : xn_okP xm_m50 40 40 = true := by decide +kernel
theorem xk_e50 : xm_drop 80 xm_m50.2.2.2.2.2.2.2.2 = [] := by decide +kernel
theorem xk_ok50 : xn_okM xm_m50 = true := xn_lM (by decide +kernel) (by decide +kernel) (xn_lP (r := xm_m50) 40 0 xk_p50_0 (xn_lP (r := xm_m50) 40 40 xk_p50_40 (show xn_okC xm_m50.1 (decide (xm_m50.2.1.name = "<init>")) xm_m50.2.2.1 xm_m50.2.2.2.2.2.2.2.2 (xm_drop 80 xm_m50.2.2.2.2.2.2.2.2) = true by rw [xk_e50]; rfl)))
