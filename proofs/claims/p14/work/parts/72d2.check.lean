theorem xk_p112_0 : xn_okP xm_m112 40 0 = true := by decide +kernel
theorem xk_p112_40 : xn_okP xm_m112 40 40 = true := by decide +kernel
theorem xk_e112 : xm_drop 80 xm_m112.2.2.2.2.2.2.2.2 = [] := by decide +kernel
theorem xk_ok112 : xn_okM xm_m112 = true := xn_lM (by decide +kernel) (by decide +kernel) (xn_lP (r := xm_m112) 40 0 xk_p112_0 (xn_lP (r := xm_m112) 40 40 xk_p112_40 (show xn_okC xm_m112.1 (decide (xm_m112.2.1.name = "<init>")) xm_m112.2.2.1 xm_m112.2.2.2.2.2.2.2.2 (xm_drop 80 xm_m112.2.2.2.2.2.2.2.2) = true by rw [xk_e112]; rfl)))
theorem xk_p113_0 : xn_okP xm_m113 40 0 = true := by decide +kernel
theorem xk_e113 : xm_drop 40 xm_m113.2.2.2.2.2.2.2.2 = [] := by decide +kernel
theorem xk_ok113 : xn_okM xm_m113 = true := xn_lM (by decide +kernel) (by decide +kernel) (xn_lP (r := xm_m113) 40 0 xk_p113_0 (show xn_okC xm_m113.1 (decide (xm_m113.2.1.name = "<init>")) xm_m113.2.2.1 xm_m113.2.2.2.2.2.2.2.2 (xm_drop 40 xm_m113.2.2.2.2.2.2.2.2) = true by rw [xk_e113]; rfl))
theorem xk_p114_0 : xn_okP xm_m114 40 0 = true := by decide +kernel
theorem xk_p114_40 : xn_okP xm_m114 40 40 = true := by decide +kernel
theorem xk_e114 : xm_drop 80 xm_m114.2.2.2.2.2.2.2.2 = [] := by decide +kernel
theorem xk_ok114 : xn_okM xm_m114 = true := xn_lM (by decide +kernel) (by decide +kernel) (xn_lP (r := xm_m114) 40 0 xk_p114_0 (xn_lP (r := xm_m114) 40 40 xk_p114_40 (show xn_okC xm_m114.1 (decide (xm_m114.2.1.name = "<init>")) xm_m114.2.2.1 xm_m114.2.2.2.2.2.2.2.2 (xm_drop 80 xm_m114.2.2.2.2.2.2.2.2) = true by rw [xk_e114]; rfl)))
theorem xk_p115_0 : xn_okP xm_m115 40 0 = true := by decide +kernel
theorem xk_p115_40 : xn_okP xm_m115 40 40 = true := by decide +kernel
theorem xk_e115 : xm_drop 80 xm_m115.2.2.2.2.2.2.2.2 = [] := by decide +kernel
theorem xk_ok115 : xn_okM xm_m115 = true := xn_lM (by decide +kernel) (by decide +kernel) (xn_lP (r := xm_m115) 40 0 xk_p115_0 (xn_lP (r := xm_m115) 40 40 xk_p115_40 (show xn_okC xm_m115.1 (decide (xm_m115.2.1.name = "<init>")) xm_m115.2.2.1 xm_m115.2.2.2.2.2.2.2.2 (xm_drop 80 xm_m115.2.2.2.2.2.2.2.2) = true by rw [xk_e115]; rfl)))
theorem xk_p116_0 : xn_okP xm_m116 40 0 = true := by decide +kernel
theorem xk_e116 : xm_drop 40 xm_m116.2.2.2.2.2.2.2.2 = [] := by decide +kernel
theorem xk_ok116 : xn_okM xm_m116 = true := xn_lM (by decide +kernel) (by decide +kernel) (xn_lP (r := xm_m116) 40 0 xk_p116_0 (show xn_okC xm_m116.1 (decide (xm_m116.2.1.name = "<init>")) xm_m116.2.2.1 xm_m116.2.2.2.2.2.2.2.2 (xm_drop 40 xm_m116.2.2.2.2.2.2.2.2) = true by rw [xk_e116]; rfl))
theorem xk_p117_0 : xn_okP xm_m117 40 0 = true := by decide +kernel
theorem xk_e117 : xm_drop 40 xm_m117.2.2.2.2.2.2.2.2 = [] := by decide +kernel
theorem xk_ok117 : xn_okM xm_m117 = true := xn_lM (by decide +kernel) (by decide +kernel) (xn_lP (r := xm_m117) 40 0 xk_p117_0 (show xn_okC xm_m117.1 (decide (xm_m117.2.1.name = "<init>")) xm_m117.2.2.1 xm_m117.2.2.2.2.2.2.2.2 (xm_drop 40 xm_m117.2.2.2.2.2.2.2.2) = true by rw [xk_e117]; rfl))
theorem xk_p118_0 : xn_okP xm_m118 40 0 = true := by decide +kernel
theorem xk_e118 : xm_drop 40 xm_m118.2.2.2.2.2.2.2.2 = [] := by decide +kernel
theorem xk_ok118 : xn_okM xm_m118 = true := xn_lM (by decide +kernel) (by decide +kernel) (xn_lP (r := xm_m118) 40 0 xk_p118_0 (show xn_okC xm_m118.1 (decide (xm_m118.2.1.name = "<init>")) xm_m118.2.2.1 xm_m118.2.2.2.2.2.2.2.2 (xm_drop 40 xm_m118.2.2.2.2.2.2.2.2) = true by rw [xk_e118]; rfl))
theorem xk_p119_0 : xn_okP xm_m119 40 0 = true := by decide +kernel
theorem xk_e119 : xm_drop 40 xm_m119.2.2.2.2.2.2.2.2 = [] := by decide +kernel
theorem xk_ok119 : xn_okM xm_m119 = true := xn_lM (by decide +kernel) (by decide +kernel) (xn_lP (r := xm_m119) 40 0 xk_p119_0 (show xn_okC xm_m119.1 (decide (xm_m119.2.1.name = "<init>")) xm_m119.2.2.1 xm_m119.2.2.2.2.2.2.2.2 (xm_drop 40 xm_m119.2.2.2.2.2.2.2.2) = true by rw [xk_e119]; rfl))
theorem xk_p120_0 : xn_okP xm_m120 40 0 = true := by decide +kernel
theorem xk_e120 : xm_drop 40 xm_m120.2.2.2.2.2.2.2.2 = [] := by decide +kernel
theorem xk_ok120 : xn_okM xm_m120 = true := xn_lM (by decide +kernel) (by decide +kernel) (xn_lP (r := xm_m120) 40 0 xk_p120_0 (show xn_okC xm_m120.1 (decide (xm_m120.2.1.name = "<init>")) xm_m120.2.2.1 xm_m120.2.2.2.2.2.2.2.2 (xm_drop 40 xm_m120.2.2.2.2.2.2.2.2) = true by rw [xk_e120]; rfl))
theorem xk_p121_0 : xn_okP xm_m121 40 0 = true := by decide +kernel
theorem xk_e121 : xm_drop 40 xm_m121.2.2.2.2.2.2.2.2 = [] := by decide +kernel
theorem xk_ok121 : xn_okM xm_m121 = true := xn_lM (by decide +kernel) (by decide +kernel) (xn_lP (r := xm_m121) 40 0 xk_p121_0 (show xn_okC xm_m121.1 (decide (xm_m121.2.1.name = "<init>")) xm_m121.2.2.1 xm_m121.2.2.2.2.2.2.2.2 (xm_drop 40 xm_m121.2.2.2.2.2.2.2.2) = true by rw [xk_e121]; rfl))
theorem xk_p122_0 : xn_okP xm_m122 40 0 = true := by decide +kernel
theorem xk_e122 : xm_drop 40 xm_m122.2.2.2.2.2.2.2.2 = [] := by decide +kernel
theorem xk_ok122 : xn_okM xm_m122 = true := xn_lM (by decide +kernel) (by decide +kernel) (xn_lP (r := xm_m122) 40 0 xk_p122_0 (show xn_okC xm_m122.1 (decide (xm_m122.2.1.name = "<init>")) xm_m122.2.2.1 xm_m122.2.2.2.2.2.2.2.2 (xm_drop 40 xm_m122.2.2.2.2.2.2.2.2) = true by rw [xk_e122]; rfl))
theorem xk_p123_0 : xn_okP xm_m123 40 0 = true := by decide +kernel
theorem xk_e123 : xm_drop 40 xm_m123.2.2.2.2.2.2.2.2 = [] := by decide +kernel
theorem xk_ok123 : xn_okM xm_m123 = true := xn_lM (by decide +kernel) (by decide +kernel) (xn_lP (r := xm_m123) 40 0 xk_p123_0 (show xn_okC xm_m123.1 (decide (xm_m123.2.1.name = "<init>")) xm_m123.2.2.1 xm_m123.2.2.2.2.2.2.2.2 (xm_drop 40 xm_m123.2.2.2.2.2.2.2.2) = true by rw [xk_e123]; rfl))
theorem xk_p124_0 : xn_okP xm_m124 40 0 = true := by decide +kernel
theorem xk_p124_40 : xn_okP xm_m124 40 40 = true := by decide +kernel
theorem xk_p124_80 : xn_okP xm_m124 40 80 = true := by decide +kernel
theorem xk_e124 : xm_drop 120 xm_m124.2.2.2.2.2.2.2.2 = [] := by decide +kernel
theorem xk_ok124 : xn_okM xm_m124 = true := xn_lM (by decide +kernel) (by decide +kernel) (xn_lP (r := xm_m124) 40 0 xk_p124_0 (xn_lP (r := xm_m124) 40 40 xk_p124_40 (xn_lP (r := xm_m124) 40 80 xk_p124_80 (show xn_okC xm_m124.1 (decide (xm_m124.2.1.name = "<init>")) xm_m124.2.2.1 xm_m124.2.2.2.2.2.2.2.2 (xm_drop 120 xm_m124.2.2.2.2.2.2.2.2) = true by rw [xk_e124]; rfl))))
theorem xk_p125_0 : xn_okP xm_m125 40 0 = true := by decide +kernel
theorem xk_e125 : xm_drop 40 xm_m125.2.2.2.2.2.2.2.2 = [] := by decide +kernel
theorem xk_ok125 : xn_okM xm_m125 = true := xn_lM (by decide +kernel) (by decide +kernel) (xn_lP (r := xm_m125) 40 0 xk_p125_0 (show xn_okC xm_m125.1 (decide (xm_m125.2.1.name = "<init>")) xm_m125.2.2.1 xm_m125.2.2.2.2.2.2.2.2 (xm_drop 40 xm_m125.2.2.2.2.2.2.2.2) = true by rw [xk_e125]; rfl))
theorem xk_p126_0 : xn_okP xm_m126 40 0 = true := by decide +kernel
theorem xk_e126 : xm_drop 40 xm_m126.2.2.2.2.2.2.2.2 = [] := by decide +kernel
theorem xk_ok126 : xn_okM xm_m126 = true := xn_lM (by decide +kernel) (by decide +kernel) (xn_lP (r := xm_m126) 40 0 xk_p126_0 (show xn_okC xm_m126.1 (decide (xm_m126.2.1.name = "<init>")) xm_m126.2.2.1 xm_m126.2.2.2.2.2.2.2.2 (xm_drop 40 xm_m126.2.2.2.2.2.2.2.2) = true by rw [xk_e126]; rfl))
theorem xk_p127_0 : xn_okP xm_m127 40 0 = true := by decide +kernel
theorem xk_e127 : xm_drop 40 xm_m127.2.2.2.2.2.2.2.2 = [] := by decide +kernel
theorem xk_ok127 : xn_okM xm_m127 = true := xn_lM (by decide +kernel) (by decide +kernel) (xn_lP (r := xm_m127) 40 0 xk_p127_0 (show xn_okC xm_m127.1 (decide (xm_m127.2.1.name = "<init>")) xm_m127.2.2.1 xm_m127.2.2.2.2.2.2.2.2 (xm_drop 40 xm_m127.2.2.2.2.2.2.2.2) = true by rw [xk_e127]; rfl))
theorem xk_p128_0 : xn_okP xm_m128 40 0 = true := by decide +kernel
theorem xk_e128 : xm_drop 40 xm_m128.2.2.2.2.2.2.2.2 = [] := by decide +kernel
theorem xk_ok128 : xn_okM xm_m128 = true := xn_lM (by decide +kernel) (by decide +kernel) (xn_lP (r := xm_m128) 40 0 xk_p128_0 (show xn_okC xm_m128.1 (decide (xm_m128.2.1.name = "<init>")) xm_m128.2.2.1 xm_m128.2.2.2.2.2.2.2.2 (xm_drop 40 xm_m128.2.2.2.2.2.2.2.2) = true by rw [xk_e128]; rfl))
theorem xk_p129_0 : xn_okP xm_m129 40 0 = true := by decide +kernel
theorem xk_e129 : xm_drop 40 xm_m129.2.2.2.2.2.2.2.2 = [] := by decide +kernel
theorem xk_ok129 : xn_okM xm_m129 = true := xn_lM (by decide +kernel) (by decide +kernel) (xn_lP (r := xm_m129) 40 0 xk_p129_0 (show xn_okC xm_m129.1 (decide (xm_m129.2.1.name = "<init>")) xm_m129.2.2.1 xm_m129.2.2.2.2.2.2.2.2 (xm_drop 40 xm_m129.2.2.2.2.2.2.2.2) = true by rw [xk_e129]; rfl))
theorem xk_p130_0 : xn_okP xm_m130 40 0 = true := by decide +kernel
theorem xk_e130 : xm_drop 40 xm_m130.2.2.2.2.2.2.2.2 = [] := by decide +kernel
theorem xk_ok130 : xn_okM xm_m130 = true := xn_lM (by decide +kernel) (by decide +kernel) (xn_lP (r := xm_m130) 40 0 xk_p130_0 (show xn_okC xm_m130.1 (decide (xm_m130.2.1.name = "<init>")) xm_m130.2.2.1 xm_m130.2.2.2.2.2.2.2.2 (xm_drop 40 xm_m130.2.2.2.2.2.2.2.2) = true by rw [xk_e130]; rfl))
theorem xk_p131_0 : xn_okP xm_m131 40 0 = true := by decide +kernel
theorem xk_e131 : xm_drop 40 xm_m131.2.2.2.2.2.2.2.2 = [] := by decide +kernel
theorem xk_ok131 : xn_okM xm_m131 = true := xn_lM (by decide +kernel) (by decide +kernel) (xn_lP (r := xm_m131) 40 0 xk_p131_0 (show xn_okC xm_m131.1 (decide (xm_m131.2.1.name = "<init>")) xm_m131.2.2.1 xm_m131.2.2.2.2.2.2.2.2 (xm_drop 40 xm_m131.2.2.2.2.2.2.2.2) = true by rw [xk_e131]; rfl))
theorem xk_p132_0 : xn_okP xm_m132 40 0 = true := by decide +kernel
theorem xk_e132 : xm_drop 40 xm_m132.2.2.2.2.2.2.2.2 = [] := by decide +kernel
theorem xk_ok132 : xn_okM xm_m132 = true := xn_lM (by decide +kernel) (by decide +kernel) (xn_lP (r := xm_m132) 40 0 xk_p132_0 (show xn_okC xm_m132.1 (decide (xm_m132.2.1.name = "<init>")) xm_m132.2.2.1 xm_m132.2.2.2.2.2.2.2.2 (xm_drop 40 xm_m132.2.2.2.2.2.2.2.2) = true by rw [xk_e132]; rfl))
theorem xk_p133_0 : xn_okP xm_m133 40 0 = true := by decide +kernel
theorem xk_e133 : xm_drop 40 xm_m133.2.2.2.2.2.2.2.2 = [] := by decide +kernel
theorem xk_ok133 : xn_okM xm_m133 = true := xn_lM (by decide +kernel) (by decide +kernel) (xn_lP (r := xm_m133) 40 0 xk_p133_0 (show xn_okC xm_m133.1 (decide (xm_m133.2.1.name = "<init>")) xm_m133.2.2.1 xm_m133.2.2.2.2.2.2.2.2 (xm_drop 40 xm_m133.2.2.2.2.2.2.2.2) = true by rw [xk_e133]; rfl))
theorem xk_p134_0 : xn_okP xm_m134 40 0 = true := by decide +kernel
theorem xk_e134 : xm_drop 40 xm_m134.2.2.2.2.2.2.2.2 = [] := by decide +kernel
theorem xk_ok134 : xn_okM xm_m134 = true := xn_lM (by decide +kernel) (by decide +kernel) (xn_lP (r := xm_m134) 40 0 xk_p134_0 (show xn_okC xm_m134.1 (decide (xm_m134.2.1.name = "<init>")) xm_m134.2.2.1 xm_m134.2.2.2.2.2.2.2.2 (xm_drop 40 xm_m134.2.2.2.2.2.2.2.2) = true by rw [xk_e134]; rfl))
theorem xk_p135_0 : xn_okP xm_m135 40 0 = true := by decide +kernel
theorem xk_p135_40 : xn_okP xm_m135 40 40 = true := by decide +kernel
theorem xk_e135 : xm_drop 80 xm_m135.2.2.2.2.2.2.2.2 = [] := by decide +kernel
theorem xk_ok135 : xn_okM xm_m135 = true := xn_lM (by decide +kernel) (by decide +kernel) (xn_lP (r := xm_m135) 40 0 xk_p135_0 (xn_lP (r := xm_m135) 40 40 xk_p135_40 (show xn_okC xm_m135.1 (decide (xm_m135.2.1.name = "<init>")) xm_m135.2.2.1 xm_m135.2.2.2.2.2.2.2.2 (xm_drop 80 xm_m135.2.2.2.2.2.2.2.2) = true by rw [xk_e135]; rfl)))
theorem xk_p136_0 : xn_okP xm_m136 40 0 = true := by decide +kernel
theorem xk_e136 : xm_drop 40 xm_m136.2.2.2.2.2.2.2.2 = [] := by decide +kernel
theorem xk_ok136 : xn_okM xm_m136 = true := xn_lM (by decide +kernel) (by decide +kernel) (xn_lP (r := xm_m136) 40 0 xk_p136_0 (show xn_okC xm_m136.1 (decide (xm_m136.2.1.name = "<init>")) xm_m136.2.2.1 xm_m136.2.2.2.2.2.2.2.2 (xm_drop 40 xm_m136.2.2.2.2.2.2.2.2) = true by rw [xk_e136]; rfl))
theorem xk_p137_0 : xn_okP xm_m137 40 0 = true := by decide +kernel
theorem xk_e137 : xm_drop 40 xm_m137.2.2.2.2.2.2.2.2 = [] := by decide +kernel
theorem xk_ok137 : xn_okM xm_m137 = true := xn_lM (by decide +kernel) (by decide +kernel) (xn_lP (r := xm_m137) 40 0 xk_p137_0 (show xn_okC xm_m137.1 (decide (xm_m137.2.1.name = "<init>")) xm_m137.2.2.1 xm_m137.2.2.2.2.2.2.2.2 (xm_drop 40 xm_m137.2.2.2.2.2.2.2.2) = true by rw [xk_e137]; rfl))
theorem xk_p138_0 : xn_okP xm_m138 40 0 = true := by decide +kernel
theorem xk_p138_40 : xn_okP xm_m138 40 40 = true := by decide +kernel
theorem xk_e138 : xm_drop 80 xm_m138.2.2.2.2.2.2.2.2 = [] := by decide +kernel
theorem xk_ok138 : xn_okM xm_m138 = true := xn_lM (by decide +kernel) (by decide +kernel) (xn_lP (r := xm_m138) 40 0 xk_p138_0 (xn_lP (r := xm_m138) 40 40 xk_p138_40 (show xn_okC xm_m138.1 (decide (xm_m138.2.1.name = "<init>")) xm_m138.2.2.1 xm_m138.2.2.2.2.2.2.2.2 (xm_drop 80 xm_m138.2.2.2.2.2.2.2.2) = true by rw [xk_e138]; rfl)))
theorem xk_p139_0 : xn_okP xm_m139 40 0 = true := by decide +kernel
theorem xk_p139_40 : xn_okP xm_m139 40 40 = true := by decide +kernel
theorem xk_e139 : xm_drop 80 xm_m139.2.2.2.2.2.2.2.2 = [] := by decide +kernel
theorem xk_ok139 : xn_okM xm_m139 = true := xn_lM (by decide +kernel) (by decide +kernel) (xn_lP (r := xm_m139) 40 0 xk_p139_0 (xn_lP (r := xm_m139) 40 40 xk_p139_40 (show xn_okC xm_m139.1 (decide (xm_m139.2.1.name = "<init>")) xm_m139.2.2.1 xm_m139.2.2.2.2.2.2.2.2 (xm_drop 80 xm_m139.2.2.2.2.2.2.2.2) = true by rw [xk_e139]; rfl)))
theorem xk_p140_0 : xn_okP xm_m140 40 0 = true := by decide +kernel
theorem xk_e140 : xm_drop 40 xm_m140.2.2.2.2.2.2.2.2 = [] := by decide +kernel
theorem xk_ok140 : xn_okM xm_m140 = true := xn_lM (by decide +kernel) (by decide +kernel) (xn_lP (r := xm_m140) 40 0 xk_p140_0 (show xn_okC xm_m140.1 (decide (xm_m140.2.1.name = "<init>")) xm_m140.2.2.1 xm_m140.2.2.2.2.2.2.2.2 (xm_drop 40 xm_m140.2.2.2.2.2.2.2.2) = true by rw [xk_e140]; rfl))
theorem xk_p141_0 : xn_okP xm_m141 40 0 = true := by decide +kernel
theorem xk_e141 : xm_drop 40 xm_m141.2.2.2.2.2.2.2.2 = [] := by decide +kernel
theorem xk_ok141 : xn_okM xm_m141 = true := xn_lM (by decide +kernel) (by decide +kernel) (xn_lP (r := xm_m141) 40 0 xk_p141_0 (show xn_okC xm_m141.1 (decide (xm_m141.2.1.name = "<init>")) xm_m141.2.2.1 xm_m141.2.2.2.2.2.2.2.2 (xm_drop 40 xm_m141.2.2.2.2.2.2.2.2) = true by rw [xk_e141]; rfl))
theorem xk_p142_0 : xn_okP xm_m142 40 0 = true := by decide +kernel
theorem xk_e142 : xm_drop 40 xm_m142.2.2.2.2.2.2.2.2 = [] := by decide +kernel
theorem xk_ok142 : xn_okM xm_m142 = true := xn_lM (by decide +kernel) (by decide +kernel) (xn_lP (r := xm_m142) 40 0 xk_p142_0 (show xn_okC xm_m142.1 (decide (xm_m142.2.1.name = "<init>")) xm_m142.2.2.1 xm_m142.2.2.2.2.2.2.2.2 (xm_drop 40 xm_m142.2.2.2.2.2.2.2.2) = true by rw [xk_e142]; rfl))
theorem xk_p143_0 : xn_okP xm_m143 40 0 = true := by decide +kernel
theorem xk_e143 : xm_drop 40 xm_m143.2.2.2.2.2.2.2.2 = [] := by decide +kernel
theorem xk_ok143 : xn_okM xm_m143 = true := xn_lM (by decide +kernel) (by decide +kernel) (xn_lP (r := xm_m143) 40 0 xk_p143_0 (show xn_okC xm_m143.1 (decide (xm_m143.2.1.name = "<init>")) xm_m143.2.2.1 xm_m143.2.2.2.2.2.2.2.2 (xm_drop 40 xm_m143.2.2.2.2.2.2.2.2) = true by rw [xk_e143]; rfl))
theorem xk_p144_0 : xn_okP xm_m144 40 0 = true := by decide +kernel
theorem xk_p144_40 : xn_okP xm_m144 40 40 = true := by decide +kernel
theorem xk_e144 : xm_drop 80 xm_m144.2.2.2.2.2.2.2.2 = [] := by decide +kernel
theorem xk_ok144 : xn_okM xm_m144 = true := xn_lM (by decide +kernel) (by decide +kernel) (xn_lP (r := xm_m144) 40 0 xk_p144_0 (xn_lP (r := xm_m144) 40 40 xk_p144_40 (show xn_okC xm_m144.1 (decide (xm_m144.2.1.name = "<init>")) xm_m144.2.2.1 xm_m144.2.2.2.2.2.2.2.2 (xm_drop 80 xm_m144.2.2.2.2.2.2.2.2) = true by rw [xk_e144]; rfl)))
theorem xk_p145_0 : xn_okP xm_m145 40 0 = true := by decide +kernel
theorem xk_p145_40 : xn_okP xm_m145 40 40 = true := by decide +kernel
theorem xk_e145 : xm_drop 80 xm_m145.2.2.2.2.2.2.2.2 = [] := by decide +kernel
theorem xk_ok145 : xn_okM xm_m145 = true := xn_lM (by decide +kernel) (by decide +kernel) (xn_lP (r := xm_m145) 40 0 xk_p145_0 (xn_lP (r := xm_m145) 40 40 xk_p145_40 (show xn_okC xm_m145.1 (decide (xm_m145.2.1.name = "<init>")) xm_m145.2.2.1 xm_m145.2.2.2.2.2.2.2.2 (xm_drop 80 xm_m145.2.2.2.2.2.2.2.2) = true by rw [xk_e145]; rfl)))
theorem xk_p146_0 : xn_okP xm_m146 40 0 = true := by decide +kernel
theorem xk_p146_40 : xn_okP xm_m146 40 40 = true := by decide +kernel
theorem xk_e146 : xm_drop 80 xm_m146.2.2.2.2.2.2.2.2 = [] := by decide +kernel
theorem xk_ok146 : xn_okM xm_m146 = true := xn_lM (by decide +kernel) (by decide +kernel) (xn_lP (r := xm_m146) 40 0 xk_p146_0 (xn_lP (r := xm_m146) 40 40 xk_p146_40 (show xn_okC xm_m146.1 (decide (xm_m146.2.1.name = "<init>")) xm_m146.2.2.1 xm_m146.2.2.2.2.2.2.2.2 (xm_drop 80 xm_m146.2.2.2.2.2.2.2.2) = true by rw [xk_e146]; rfl)))
theorem xk_p147_0 : xn_okP xm_m147 40 0 = true := by decide +kernel
theorem xk_p147_40 : xn_okP xm_m147 40 40 = true := by decide +kernel
theorem xk_e147 : xm_drop 80 xm_m147.2.2.2.2.2.2.2.2 = [] := by decide +kernel
theorem xk_ok147 : xn_okM xm_m147 = true := xn_lM (by decide +kernel) (by decide +kernel) (xn_lP (r := xm_m147) 40 0 xk_p147_0 (xn_lP (r := xm_m147) 40 40 xk_p147_40 (show xn_okC xm_m147.1 (decide (xm_m147.2.1.name = "<init>")) xm_m147.2.2.1 xm_m147.2.2.2.2.2.2.2.2 (xm_drop 80 xm_m147.2.2.2.2.2.2.2.2) = true by rw [xk_e147]; rfl)))
theorem xk_p148_0 : xn_okP xm_m148 40 0 = true := by decide +kernel
theorem xk_p148_40 : xn_okP xm_m148 40 40 = true := by decide +kernel
theorem xk_p148_80 : xn_okP xm_m148 40 80 = true := by decide +kernel
theorem xk_e148 : xm_drop 120 xm_m148.2.2.2.2.2.2.2.2 = [] := by decide +kernel
theorem xk_ok148 : xn_okM xm_m148 = true := xn_lM (by decide +kernel) (by decide +kernel) (xn_lP (r := xm_m148) 40 0 xk_p148_0 (xn_lP (r := xm_m148) 40 40 xk_p148_40 (xn_lP (r := xm_m148) 40 80 xk_p148_80 (show xn_okC xm_m148.1 (decide (xm_m148.2.1.name = "<init>")) xm_m148.2.2.1 xm_m148.2.2.2.2.2.2.2.2 (xm_drop 120 xm_m148.2.2.2.2.2.2.2.2) = true by rw [xk_e148]; rfl))))
theorem xk_p149_0 : xn_okP xm_m149 40 0 = true := by decide +kernel
theorem xk_p149_40 : xn_okP xm_m149 40 40 = true := by decide +kernel
theorem xk_e149 : xm_drop 80 xm_m149.2.2.2.2.2.2.2.2 = [] := by decide +kernel
theorem xk_ok149 : xn_okM xm_m149 = true := xn_lM (by decide +kernel) (by decide +kernel) (xn_lP (r := xm_m149) 40 0 xk_p149_0 (xn_lP (r := xm_m149) 40 40 xk_p149_40 (show xn_okC xm_m149.1 (decide (xm_m149.2.1.name = "<init>")) xm_m149.2.2.1 xm_m149.2.2.2.2.2.2.2.2 (xm_drop 80 xm_m149.2.2.2.2.2.2.2.2) = true by rw [xk_e149]; rfl)))
theorem xk_p150_0 : xn_okP xm_m150 40 0 = true := by decide +kernel
theorem xk_e150 : xm_drop 40 xm_m150.2.2.2.2.2.2.2.2 = [] := by decide +kernel
theorem xk_ok150 : xn_okM xm_m150 = true := xn_lM (by decide +kernel) (by decide +kernel) (xn_lP (r := xm_m150) 40 0 xk_p150_0 (show xn_okC xm_m150.1 (decide (xm_m150.2.1.name = "<init>")) xm_m150.2.2.1 xm_m150.2.2.2.2.2.2.2.2 (xm_drop 40 xm_m150.2.2.2.2.2.2.2.2) = true by rw [xk_e150]; rfl))
theorem xk_p151_0 : xn_okP xm_m151 40 0 = true := by decide +kernel
theorem xk_e151 : xm_drop 40 xm_m151.2.2.2.2.2.2.2.2 = [] := by decide +kernel
theorem xk_ok151 : xn_okM xm_m151 = true := xn_lM (by decide +kernel) (by decide +kernel) (xn_lP (r := xm_m151) 40 0 xk_p151_0 (show xn_okC xm_m151.1 (decide (xm_m151.2.1.name = "<init>")) xm_m151.2.2.1 xm_m151.2.2.2.2.2.2.2.2 (xm_drop 40 xm_m151.2.2.2.2.2.2.2.2) = true by rw [xk_e151]; rfl))
theorem xk_p152_0 : xn_okP xm_m152 40 0 = true := by decide +kernel
theorem xk_p152_40 : xn_okP xm_m152 40 40 = true := by decide +kernel
theorem xk_e152 : xm_drop 80 xm_m152.2.2.2.2.2.2.2.2 = [] := by decide +kernel
theorem xk_ok152 : xn_okM xm_m152 = true := xn_lM (by decide +kernel) (by decide +kernel) (xn_lP (r := xm_m152) 40 0 xk_p152_0 (xn_lP (r := xm_m152) 40 40 xk_p152_40 (show xn_okC xm_m152.1 (decide (xm_m152.2.1.name = "<init>")) xm_m152.2.2.1 xm_m152.2.2.2.2.2.2.2.2 (xm_drop 80 xm_m152.2.2.2.2.2.2.2.2) = true by rw [xk_e152]; rfl)))
theorem xk_p153_0 : xn_okP xm_m153 40 0 = true := by decide +kernel
theorem xk_p153_40 : xn_okP xm_m153 40 40 = true := by decide +kernel
theorem xk_p153_80 : xn_okP xm_m153 40 80 = true := by decide +kernel
theorem xk_e153 : xm_drop 120 xm_m153.2.2.2.2.2.2.2.2 = [] := by decide +kernel
theorem xk_ok153 : xn_okM xm_m153 = true := xn_lM (by decide +kernel) (by decide +kernel) (xn_lP (r := xm_m153) 40 0 xk_p153_0 (xn_lP (r := xm_m153) 40 40 xk_p153_40 (xn_lP (r := xm_m153) 40 80 xk_p153_80 (show xn_okC xm_m153.1 (decide (xm_m153.2.1.name = "<init>")) xm_m153.2.2.1 xm_m153.2.2.2.2.2.2.2.2 (xm_drop 120 xm_m153.2.2.2.2.2.2.2.2) = true by rw [xk_e153]; rfl))))
theorem xk_p154_0 : xn_okP xm_m154 40 0 = true := by decide +kernel
theorem xk_e154 : xm_drop 40 xm_m154.2.2.2.2.2.2.2.2 = [] := by decide +kernel
theorem xk_ok154 : xn_okM xm_m154 = true := xn_lM (by decide +kernel) (by decide +kernel) (xn_lP (r := xm_m154) 40 0 xk_p154_0 (show xn_okC xm_m154.1 (decide (xm_m154.2.1.name = "<init>")) xm_m154.2.2.1 xm_m154.2.2.2.2.2.2.2.2 (xm_drop 40 xm_m154.2.2.2.2.2.2.2.2) = true by rw [xk_e154]; rfl))
theorem xk_p155_0 : xn_okP xm_m155 40 0 = true := by decide +kernel
theorem xk_e155 : xm_drop 40 xm_m155.2.2.2.2.2.2.2.2 = [] := by decide +kernel
theorem xk_ok155 : xn_okM xm_m155 = true := xn_lM (by decide +kernel) (by decide +kernel) (xn_lP (r := xm_m155) 40 0 xk_p155_0 (show xn_okC xm_m155.1 (decide (xm_m155.2.1.name = "<init>")) xm_m155.2.2.1 xm_m155.2.2.2.2.2.2.2.2 (xm_drop 40 xm_m155.2.2.2.2.2.2.2.2) = true by rw [xk_e155]; rfl))
theorem xk_p156_0 : xn_okP xm_m156 40 0 = true := by decide +kernel
theorem xk_p156_40 : xn_okP xm_m156 40 40 = true := by decide +kernel
theorem xk_p156_80 : xn_okP xm_m156 40 80 = true := by decide +kernel
theorem xk_e156 : xm_drop 120 xm_m156.2.2.2.2.2.2.2.2 = [] := by decide +kernel
theorem xk_ok156 : xn_okM xm_m156 = true := xn_lM (by decide +kernel) (by decide +kernel) (xn_lP (r := xm_m156) 40 0 xk_p156_0 (xn_lP (r := xm_m156) 40 40 xk_p156_40 (xn_lP (r := xm_m156) 40 80 xk_p156_80 (show xn_okC xm_m156.1 (decide (xm_m156.2.1.name = "<init>")) xm_m156.2.2.1 xm_m156.2.2.2.2.2.2.2.2 (xm_drop 120 xm_m156.2.2.2.2.2.2.2.2) = true by rw [xk_e156]; rfl))))
theorem xk_p157_0 : xn_okP xm_m157 40 0 = true := by decide +kernel
theorem xk_p157_40 : xn_okP xm_m157 40 40 = true := by decide +kernel
theorem xk_e157 : xm_drop 80 xm_m157.2.2.2.2.2.2.2.2 = [] := by decide +kernel
theorem xk_ok157 : xn_okM xm_m157 = true := xn_lM (by decide +kernel) (by decide +kernel) (xn_lP (r := xm_m157) 40 0 xk_p157_0 (xn_lP (r := xm_m157) 40 40 xk_p157_40 (show xn_okC xm_m157.1 (decide (xm_m157.2.1.name = "<init>")) xm_m157.2.2.1 xm_m157.2.2.2.2.2.2.2.2 (xm_drop 80 xm_m157.2.2.2.2.2.2.2.2) = true by rw [xk_e157]; rfl)))
theorem xk_p158_0 : xn_okP xm_m158 40 0 = true := by decide +kernel
theorem xk_p158_40 : xn_okP xm_m158 40 40 = true := by decide +kernel
theorem xk_p158_80 : xn_okP xm_m158 40 80 = true := by decide +kernel
theorem xk_e158 : xm_drop 120 xm_m158.2.2.2.2.2.2.2.2 = [] := by decide +kernel
theorem xk_ok158 : xn_okM xm_m158 = true := xn_lM (by decide +kernel) (by decide +kernel) (xn_lP (r := xm_m158) 40 0 xk_p158_0 (xn_lP (r := xm_m158) 40 40 xk_p158_40 (xn_lP (r := xm_m158) 40 80 xk_p158_80 (show xn_okC xm_m158.1 (decide (xm_m158.2.1.name = "<init>")) xm_m158.2.2.1 xm_m158.2.2.2.2.2.2.2.2 (xm_drop 120 xm_m158.2.2.2.2.2.2.2.2) = true by rw [xk_e158]; rfl))))
theorem xk_p159_0 : xn_okP xm_m159 40 0 = true := by decide +kernel
theorem xk_e159 : xm_drop 40 xm_m159.2.2.2.2.2.2.2.2 = [] := by decide +kernel
theorem xk_ok159 : xn_okM xm_m159 = true := xn_lM (by decide +kernel) (by decide +kernel) (xn_lP (r := xm_m159) 40 0 xk_p159_0 (show xn_okC xm_m159.1 (decide (xm_m159.2.1.name = "<init>")) xm_m159.2.2.1 xm_m159.2.2.2.2.2.2.2.2 (xm_drop 40 xm_m159.2.2.2.2.2.2.2.2) = true by rw [xk_e159]; rfl))
theorem xk_p160_0 : xn_okP xm_m160 40 0 = true := by decide +kernel
theorem xk_e160 : xm_drop 40 xm_m160.2.2.2.2.2.2.2.2 = [] := by decide +kernel
theorem xk_ok160 : xn_okM xm_m160 = true := xn_lM (by decide +kernel) (by decide +kernel) (xn_lP (r := xm_m160) 40 0 xk_p160_0 (show xn_okC xm_m160.1 (decide (xm_m160.2.1.name = "<init>")) xm_m160.2.2.1 xm_m160.2.2.2.2.2.2.2.2 (xm_drop 40 xm_m160.2.2.2.2.2.2.2.2) = true by rw [xk_e160]; rfl))
theorem xk_p161_0 : xn_okP xm_m161 40 0 = true := by decide +kernel
theorem xk_e161 : xm_drop 40 xm_m161.2.2.2.2.2.2.2.2 = [] := by decide +kernel
theorem xk_ok161 : xn_okM xm_m161 = true := xn_lM (by decide +kernel) (by decide +kernel) (xn_lP (r := xm_m161) 40 0 xk_p161_0 (show xn_okC xm_m161.1 (decide (xm_m161.2.1.name = "<init>")) xm_m161.2.2.1 xm_m161.2.2.2.2.2.2.2.2 (xm_drop 40 xm_m161.2.2.2.2.2.2.2.2) = true by rw [xk_e161]; rfl))
theorem xk_p162_0 : xn_okP xm_m162 40 0 = true := by decide +kernel
theorem xk_e162 : xm_drop 40 xm_m162.2.2.2.2.2.2.2.2 = [] := by decide +kernel
theorem xk_ok162 : xn_okM xm_m162 = true := xn_lM (by decide +kernel) (by decide +kernel) (xn_lP (r := xm_m162) 40 0 xk_p162_0 (show xn_okC xm_m162.1 (decide (xm_m162.2.1.name = "<init>")) xm_m162.2.2.1 xm_m162.2.2.2.2.2.2.2.2 (xm_drop 40 xm_m162.2.2.2.2.2.2.2.2) = true by rw [xk_e162]; rfl))
theorem xk_p163_0 : xn_okP xm_m163 40 0 = true := by decide +kernel
theorem xk_p163_40 : xn_okP xm_m163 40 40 = true := by decide +kernel
theorem xk_e163 : xm_drop 80 xm_m163.2.2.2.2.2.2.2.2 = [] := by decide +kernel
theorem xk_ok163 : xn_okM xm_m163 = true := xn_lM (by decide +kernel) (by decide +kernel) (xn_lP (r := xm_m163) 40 0 xk_p163_0 (xn_lP (r := xm_m163) 40 40 xk_p163_40 (show xn_okC xm_m163.1 (decide (xm_m163.2.1.name = "<init>")) xm_m163.2.2.1 xm_m163.2.2.2.2.2.2.2.2 (xm_drop 80 xm_m163.2.2.2.2.2.2.2.2) = true by rw [xk_e163]; rfl)))
theorem xk_p164_0 : xn_okP xm_m164 40 0 = true := by decide +kernel
theorem xk_p164_40 : xn_okP xm_m164 40 40 = true := by decide +kernel
theorem xk_p164_80 : xn_okP xm_m164 40 80 = true := by decide +kernel
theorem xk_e164 : xm_drop 120 xm_m164.2.2.2.2.2.2.2.2 = [] := by decide +kernel
theorem xk_ok164 : xn_okM xm_m164 = true := xn_lM (by decide +kernel) (by decide +kernel) (xn_lP (r := xm_m164) 40 0 xk_p164_0 (xn_lP (r := xm_m164) 40 40 xk_p164_40 (xn_lP (r := xm_m164) 40 80 xk_p164_80 (show xn_okC xm_m164.1 (decide (xm_m164.2.1.name = "<init>")) xm_m164.2.2.1 xm_m164.2.2.2.2.2.2.2.2 (xm_drop 120 xm_m164.2.2.2.2.2.2.2.2) = true by rw [xk_e164]; rfl))))
theorem xk_p165_0 : xn_okP xm_m165 40 0 = true := by decide +kernel
theorem xk_p165_40 : xn_okP xm_m165 40 40 = true := by decide +kernel
theorem xk_e165 : xm_drop 80 xm_m165.2.2.2.2.2.2.2.2 = [] := by decide +kernel
theorem xk_ok165 : xn_okM xm_m165 = true := xn_lM (by decide +kernel) (by decide +kernel) (xn_lP (r := xm_m165) 40 0 xk_p165_0 (xn_lP (r := xm_m165) 40 40 xk_p165_40 (show xn_okC xm_m165.1 (decide (xm_m165.2.1.name = "<init>")) xm_m165.2.2.1 xm_m165.2.2.2.2.2.2.2.2 (xm_drop 80 xm_m165.2.2.2.2.2.2.2.2) = true by rw [xk_e165]; rfl)))
theorem xk_p166_0 : xn_okP xm_m166 40 0 = true := by decide +kernel
theorem xk_p166_40 : xn_okP xm_m166 40 40 = true := by decide +kernel
theorem xk_e166 : xm_drop 80 xm_m166.2.2.2.2.2.2.2.2 = [] := by decide +kernel
theorem xk_ok166 : xn_okM xm_m166 = true := xn_lM (by decide +kernel) (by decide +kernel) (xn_lP (r := xm_m166) 40 0 xk_p166_0 (xn_lP (r := xm_m166) 40 40 xk_p166_40 (show xn_okC xm_m166.1 (decide (xm_m166.2.1.name = "<init>")) xm_m166.2.2.1 xm_m166.2.2.2.2.2.2.2.2 (xm_drop 80 xm_m166.2.2.2.2.2.2.2.2) = true by rw [xk_e166]; rfl)))
theorem xk_p167_0 : xn_okP xm_m167 40 0 = true := by decide +kernel
theorem xk_p167_40 : xn_okP xm_m167 40 40 = true := by decide +kernel
theorem xk_e167 : xm_drop 80 xm_m167.2.2.2.2.2.2.2.2 = [] := by decide +kernel
theorem xk_ok167 : xn_okM xm_m167 = true := xn_lM (by decide +kernel) (by decide +kernel) (xn_lP (r := xm_m167) 40 0 xk_p167_0 (xn_lP (r := xm_m167) 40 40 xk_p167_40 (show xn_okC xm_m167.1 (decide (xm_m167.2.1.name = "<init>")) xm_m167.2.2.1 xm_m167.2.2.2.2.2.2.2.2 (xm_drop 80 xm_m167.2.2.2.2.2.2.2.2) = true by rw [xk_e167]; rfl)))
theorem xk_p168_0 : xn_okP xm_m168 40 0 = true := by decide +kernel
theorem xk_e168 : xm_drop 40 xm_m168.2.2.2.2.2.2.2.2 = [] := by decide +kernel
theorem xk_ok168 : xn_okM xm_m168 = true := xn_lM (by decide +kernel) (by decide +kernel) (xn_lP (r := xm_m168) 40 0 xk_p168_0 (show xn_okC xm_m168.1 (decide (xm_m168.2.1.name = "<init>")) xm_m168.2.2.1 xm_m168.2.2.2.2.2.2.2.2 (xm_drop 40 xm_m168.2.2.2.2.2.2.2.2) = true by rw [xk_e168]; rfl))
theorem xk_p169_0 : xn_okP xm_m169 40 0 = true := by decide +kernel
theorem xk_p169_40 : xn_okP xm_m169 40 40 = true := by decide +kernel
theorem xk_p169_80 : xn_okP xm_m169 40 80 = true := by decide +kernel
theorem xk_e169 : xm_drop 120 xm_m169.2.2.2.2.2.2.2.2 = [] := by decide +kernel
theorem xk_ok169 : xn_okM xm_m169 = true := xn_lM (by decide +kernel) (by decide +kernel) (xn_lP (r := xm_m169) 40 0 xk_p169_0 (xn_lP (r := xm_m169) 40 40 xk_p169_40 (xn_lP (r := xm_m169) 40 80 xk_p169_80 (show xn_okC xm_m169.1 (decide (xm_m169.2.1.name = "<init>")) xm_m169.2.2.1 xm_m169.2.2.2.2.2.2.2.2 (xm_drop 120 xm_m169.2.2.2.2.2.2.2.2) = true by rw [xk_e169]; rfl))))
theorem xk_p170_0 : xn_okP xm_m170 40 0 = true := by decide +kernel
theorem xk_e170 : xm_drop 40 xm_m170.2.2.2.2.2.2.2.2 = [] := by decide +kernel
theorem xk_ok170 : xn_okM xm_m170 = true := xn_lM (by decide +kernel) (by decide +kernel) (xn_lP (r := xm_m170) 40 0 xk_p170_0 (show xn_okC xm_m170.1 (decide (xm_m170.2.1.name = "<init>")) xm_m170.2.2.1 xm_m170.2.2.2.2.2.2.2.2 (xm_drop 40 xm_m170.2.2.2.2.2.2.2.2) = true by rw [xk_e170]; rfl))
theorem xk_p171_0 : xn_okP xm_m171 40 0 = true := by decide +kernel
theorem xk_e171 : xm_drop 40 xm_m171.2.2.2.2.2.2.2.2 = [] := by decide +kernel
theorem xk_ok171 : xn_okM xm_m171 = true := xn_lM (by decide +kernel) (by decide +kernel) (xn_lP (r := xm_m171) 40 0 xk_p171_0 (show xn_okC xm_m171.1 (decide (xm_m171.2.1.name = "<init>")) xm_m171.2.2.1 xm_m171.2.2.2.2.2.2.2.2 (xm_drop 40 xm_m171.2.2.2.2.2.2.2.2) = true by rw [xk_e171]; rfl))
theorem xk_p172_0 : xn_okP xm_m172 40 0 = true := by decide +kernel
theorem xk_e172 : xm_drop 40 xm_m172.2.2.2.2.2.2.2.2 = [] := by decide +kernel
theorem xk_ok172 : xn_okM xm_m172 = true := xn_lM (by decide +kernel) (by decide +kernel) (xn_lP (r := xm_m172) 40 0 xk_p172_0 (show xn_okC xm_m172.1 (decide (xm_m172.2.1.name = "<init>")) xm_m172.2.2.1 xm_m172.2.2.2.2.2.2.2.2 (xm_drop 40 xm_m172.2.2.2.2.2.2.2.2) = true by rw [xk_e172]; rfl))
theorem xk_p173_0 : xn_okP xm_m173 40 0 = true := by decide +kernel
theorem xk_p173_40 : xn_okP xm_m173 40 40 = true := by decide +kernel
theorem xk_p173_80 : xn_okP xm_m173 40 80 = true := by decide +kernel
theorem xk_e173 : xm_drop 120 xm_m173.2.2.2.2.2.2.2.2 = [] := by decide +kernel
theorem xk_ok173 : xn_okM xm_m173 = true := xn_lM (by decide +kernel) (by decide +kernel) (xn_lP (r := xm_m173) 40 0 xk_p173_0 (xn_lP (r := xm_m173) 40 40 xk_p173_40 (xn_lP (r := xm_m173) 40 80 xk_p173_80 (show xn_okC xm_m173.1 (decide (xm_m173.2.1.name = "<init>")) xm_m173.2.2.1 xm_m173.2.2.2.2.2.2.2.2 (xm_drop 120 xm_m173.2.2.2.2.2.2.2.2) = true by rw [xk_e173]; rfl))))
theorem xk_p174_0 : xn_okP xm_m174 40 0 = true := by decide +kernel
theorem xk_p174_40 : xn_okP xm_m174 40 40 = true := by decide +kernel
theorem xk_e174 : xm_drop 80 xm_m174.2.2.2.2.2.2.2.2 = [] := by decide +kernel
theorem xk_ok174 : xn_okM xm_m174 = true := xn_lM (by decide +kernel) (by decide +kernel) (xn_lP (r := xm_m174) 40 0 xk_p174_0 (xn_lP (r := xm_m174) 40 40 xk_p174_40 (show xn_okC xm_m174.1 (decide (xm_m174.2.1.name = "<init>")) xm_m174.2.2.1 xm_m174.2.2.2.2.2.2.2.2 (xm_drop 80 xm_m174.2.2.2.2.2.2.2.2) = true by rw [xk_e174]; rfl)))
theorem xk_p175_0 : xn_okP xm_m175 40 0 = true := by decide +kernel
theorem xk_e175 : xm_drop 40 xm_m175.2.2.2.2.2.2.2.2 = [] := by decide +kernel
theorem xk_ok175 : xn_okM xm_m175 = true := xn_lM (by decide +kernel) (by decide +kernel) (xn_lP (r := xm_m175) 40 0 xk_p175_0 (show xn_okC xm_m175.1 (decide (xm_m175.2.1.name = "<init>")) xm_m175.2.2.1 xm_m175.2.2.2.2.2.2.2.2 (xm_drop 40 xm_m175.2.2.2.2.2.2.2.2) = true by rw [xk_e175]; rfl))
theorem xk_p176_0 : xn_okP xm_m176 40 0 = true := by decide +kernel
theorem xk_e176 : xm_drop 40 xm_m176.2.2.2.2.2.2.2.2 = [] := by decide +kernel
theorem xk_ok176 : xn_okM xm_m176 = true := xn_lM (by decide +kernel) (by decide +kernel) (xn_lP (r := xm_m176) 40 0 xk_p176_0 (show xn_okC xm_m176.1 (decide (xm_m176.2.1.name = "<init>")) xm_m176.2.2.1 xm_m176.2.2.2.2.2.2.2.2 (xm_drop 40 xm_m176.2.2.2.2.2.2.2.2) = true by rw [xk_e176]; rfl))
theorem xk_p177_0 : xn_okP xm_m177 40 0 = true := by decide +kernel
theorem xk_e177 : xm_drop 40 xm_m177.2.2.2.2.2.2.2.2 = [] := by decide +kernel
theorem xk_ok177 : xn_okM xm_m177 = true := xn_lM (by decide +kernel) (by decide +kernel) (xn_lP (r := xm_m177) 40 0 xk_p177_0 (show xn_okC xm_m177.1 (decide (xm_m177.2.1.name = "<init>")) xm_m177.2.2.1 xm_m177.2.2.2.2.2.2.2.2 (xm_drop 40 xm_m177.2.2.2.2.2.2.2.2) = true by rw [xk_e177]; rfl))
theorem xk_p178_0 : xn_okP xm_m178 40 0 = true := by decide +kernel
theorem xk_e178 : xm_drop 40 xm_m178.2.2.2.2.2.2.2.2 = [] := by decide +kernel
theorem xk_ok178 : xn_okM xm_m178 = true := xn_lM (by decide +kernel) (by decide +kernel) (xn_lP (r := xm_m178) 40 0 xk_p178_0 (show xn_okC xm_m178.1 (decide (xm_m178.2.1.name = "<init>")) xm_m178.2.2.1 xm_m178.2.2.2.2.2.2.2.2 (xm_drop 40 xm_m178.2.2.2.2.2.2.2.2) = true by rw [xk_e178]; rfl))
theorem xk_p179_0 : xn_okP xm_m179 40 0 = true := by decide +kernel
theorem xk_e179 : xm_drop 40 xm_m179.2.2.2.2.2.2.2.2 = [] := by decide +kernel
theorem xk_ok179 : xn_okM xm_m179 = true := xn_lM (by decide +kernel) (by decide +kernel) (xn_lP (r := xm_m179) 40 0 xk_p179_0 (show xn_okC xm_m179.1 (decide (xm_m179.2.1.name = "<init>")) xm_m179.2.2.1 xm_m179.2.2.2.2.2.2.2.2 (xm_drop 40 xm_m179.2.2.2.2.2.2.2.2) = true by rw [xk_e179]; rfl))
theorem xk_p180_0 : xn_okP xm_m180 40 0 = true := by decide +kernel
theorem xk_e180 : xm_drop 40 xm_m180.2.2.2.2.2.2.2.2 = [] := by decide +kernel
theorem xk_ok180 : xn_okM xm_m180 = true := xn_lM (by decide +kernel) (by decide +kernel) (xn_lP (r := xm_m180) 40 0 xk_p180_0 (show xn_okC xm_m180.1 (decide (xm_m180.2.1.name = "<init>")) xm_m180.2.2.1 xm_m180.2.2.2.2.2.2.2.2 (xm_drop 40 xm_m180.2.2.2.2.2.2.2.2) = true by rw [xk_e180]; rfl))
