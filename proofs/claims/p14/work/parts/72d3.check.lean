theorem xk_p181_0 : xn_okP xm_m181 40 0 = true := by decide +kernel
theorem xk_e181 : xm_drop 40 xm_m181.2.2.2.2.2.2.2.2 = [] := by decide +kernel
theorem xk_ok181 : xn_okM xm_m181 = true := xn_lM (by decide +kernel) (by decide +kernel) (xn_lP (r := xm_m181) 40 0 xk_p181_0 (show xn_okC xm_m181.1 (decide (xm_m181.2.1.name = "<init>")) xm_m181.2.2.1 xm_m181.2.2.2.2.2.2.2.2 (xm_drop 40 xm_m181.2.2.2.2.2.2.2.2) = true by rw [xk_e181]; rfl))
theorem xk_p182_0 : xn_okP xm_m182 40 0 = true := by decide +kernel
theorem xk_e182 : xm_drop 40 xm_m182.2.2.2.2.2.2.2.2 = [] := by decide +kernel
theorem xk_ok182 : xn_okM xm_m182 = true := xn_lM (by decide +kernel) (by decide +kernel) (xn_lP (r := xm_m182) 40 0 xk_p182_0 (show xn_okC xm_m182.1 (decide (xm_m182.2.1.name = "<init>")) xm_m182.2.2.1 xm_m182.2.2.2.2.2.2.2.2 (xm_drop 40 xm_m182.2.2.2.2.2.2.2.2) = true by rw [xk_e182]; rfl))
theorem xk_p183_0 : xn_okP xm_m183 40 0 = true := by decide +kernel
theorem xk_e183 : xm_drop 40 xm_m183.2.2.2.2.2.2.2.2 = [] := by decide +kernel
theorem xk_ok183 : xn_okM xm_m183 = true := xn_lM (by decide +kernel) (by decide +kernel) (xn_lP (r := xm_m183) 40 0 xk_p183_0 (show xn_okC xm_m183.1 (decide (xm_m183.2.1.name = "<init>")) xm_m183.2.2.1 xm_m183.2.2.2.2.2.2.2.2 (xm_drop 40 xm_m183.2.2.2.2.2.2.2.2) = true by rw [xk_e183]; rfl))
theorem xk_p184_0 : xn_okP xm_m184 40 0 = true := by decide +kernel
theorem xk_e184 : xm_drop 40 xm_m184.2.2.2.2.2.2.2.2 = [] := by decide +kernel
theorem xk_ok184 : xn_okM xm_m184 = true := xn_lM (by decide +kernel) (by decide +kernel) (xn_lP (r := xm_m184) 40 0 xk_p184_0 (show xn_okC xm_m184.1 (decide (xm_m184.2.1.name = "<init>")) xm_m184.2.2.1 xm_m184.2.2.2.2.2.2.2.2 (xm_drop 40 xm_m184.2.2.2.2.2.2.2.2) = true by rw [xk_e184]; rfl))
theorem xk_p185_0 : xn_okP xm_m185 40 0 = true := by decide +kernel
theorem xk_e185 : xm_drop 40 xm_m185.2.2.2.2.2.2.2.2 = [] := by decide +kernel
theorem xk_ok185 : xn_okM xm_m185 = true := xn_lM (by decide +kernel) (by decide +kernel) (xn_lP (r := xm_m185) 40 0 xk_p185_0 (show xn_okC xm_m185.1 (decide (xm_m185.2.1.name = "<init>")) xm_m185.2.2.1 xm_m185.2.2.2.2.2.2.2.2 (xm_drop 40 xm_m185.2.2.2.2.2.2.2.2) = true by rw [xk_e185]; rfl))
theorem xk_p186_0 : xn_okP xm_m186 40 0 = true := by decide +kernel
theorem xk_p186_40 : xn_okP xm_m186 40 40 = true := by decide +kernel
theorem xk_e186 : xm_drop 80 xm_m186.2.2.2.2.2.2.2.2 = [] := by decide +kernel
theorem xk_ok186 : xn_okM xm_m186 = true := xn_lM (by decide +kernel) (by decide +kernel) (xn_lP (r := xm_m186) 40 0 xk_p186_0 (xn_lP (r := xm_m186) 40 40 xk_p186_40 (show xn_okC xm_m186.1 (decide (xm_m186.2.1.name = "<init>")) xm_m186.2.2.1 xm_m186.2.2.2.2.2.2.2.2 (xm_drop 80 xm_m186.2.2.2.2.2.2.2.2) = true by rw [xk_e186]; rfl)))
theorem xk_p187_0 : xn_okP xm_m187 40 0 = true := by decide +kernel
theorem xk_e187 : xm_drop 40 xm_m187.2.2.2.2.2.2.2.2 = [] := by decide +kernel
theorem xk_ok187 : xn_okM xm_m187 = true := xn_lM (by decide +kernel) (by decide +kernel) (xn_lP (r := xm_m187) 40 0 xk_p187_0 (show xn_okC xm_m187.1 (decide (xm_m187.2.1.name = "<init>")) xm_m187.2.2.1 xm_m187.2.2.2.2.2.2.2.2 (xm_drop 40 xm_m187.2.2.2.2.2.2.2.2) = true by rw [xk_e187]; rfl))
theorem xk_p188_0 : xn_okP xm_m188 40 0 = true := by decide +kernel
theorem xk_p188_40 : xn_okP xm_m188 40 40 = true := by decide +kernel
theorem xk_e188 : xm_drop 80 xm_m188.2.2.2.2.2.2.2.2 = [] := by decide +kernel
theorem xk_ok188 : xn_okM xm_m188 = true := xn_lM (by decide +kernel) (by decide +kernel) (xn_lP (r := xm_m188) 40 0 xk_p188_0 (xn_lP (r := xm_m188) 40 40 xk_p188_40 (show xn_okC xm_m188.1 (decide (xm_m188.2.1.name = "<init>")) xm_m188.2.2.1 xm_m188.2.2.2.2.2.2.2.2 (xm_drop 80 xm_m188.2.2.2.2.2.2.2.2) = true by rw [xk_e188]; rfl)))
theorem xk_p189_0 : xn_okP xm_m189 40 0 = true := by decide +kernel
theorem xk_p189_40 : xn_okP xm_m189 40 40 = true := by decide +kernel
theorem xk_e189 : xm_drop 80 xm_m189.2.2.2.2.2.2.2.2 = [] := by decide +kernel
theorem xk_ok189 : xn_okM xm_m189 = true := xn_lM (by decide +kernel) (by decide +kernel) (xn_lP (r := xm_m189) 40 0 xk_p189_0 (xn_lP (r := xm_m189) 40 40 xk_p189_40 (show xn_okC xm_m189.1 (decide (xm_m189.2.1.name = "<init>")) xm_m189.2.2.1 xm_m189.2.2.2.2.2.2.2.2 (xm_drop 80 xm_m189.2.2.2.2.2.2.2.2) = true by rw [xk_e189]; rfl)))
theorem xk_p190_0 : xn_okP xm_m190 40 0 = true := by decide +kernel
theorem xk_e190 : xm_drop 40 xm_m190.2.2.2.2.2.2.2.2 = [] := by decide +kernel
theorem xk_ok190 : xn_okM xm_m190 = true := xn_lM (by decide +kernel) (by decide +kernel) (xn_lP (r := xm_m190) 40 0 xk_p190_0 (show xn_okC xm_m190.1 (decide (xm_m190.2.1.name = "<init>")) xm_m190.2.2.1 xm_m190.2.2.2.2.2.2.2.2 (xm_drop 40 xm_m190.2.2.2.2.2.2.2.2) = true by rw [xk_e190]; rfl))
theorem xk_p191_0 : xn_okP xm_m191 40 0 = true := by decide +kernel
theorem xk_e191 : xm_drop 40 xm_m191.2.2.2.2.2.2.2.2 = [] := by decide +kernel
theorem xk_ok191 : xn_okM xm_m191 = true := xn_lM (by decide +kernel) (by decide +kernel) (xn_lP (r := xm_m191) 40 0 xk_p191_0 (show xn_okC xm_m191.1 (decide (xm_m191.2.1.name = "<init>")) xm_m191.2.2.1 xm_m191.2.2.2.2.2.2.2.2 (xm_drop 40 xm_m191.2.2.2.2.2.2.2.2) = true by rw [xk_e191]; rfl))
theorem xk_p192_0 : xn_okP xm_m192 40 0 = true := by decide +kernel
theorem xk_p192_40 : xn_okP xm_m192 40 40 = true := by decide +kernel
theorem xk_p192_80 : xn_okP xm_m192 40 80 = true := by decide +kernel
theorem xk_e192 : xm_drop 120 xm_m192.2.2.2.2.2.2.2.2 = [] := by decide +kernel
theorem xk_ok192 : xn_okM xm_m192 = true := xn_lM (by decide +kernel) (by decide +kernel) (xn_lP (r := xm_m192) 40 0 xk_p192_0 (xn_lP (r := xm_m192) 40 40 xk_p192_40 (xn_lP (r := xm_m192) 40 80 xk_p192_80 (show xn_okC xm_m192.1 (decide (xm_m192.2.1.name = "<init>")) xm_m192.2.2.1 xm_m192.2.2.2.2.2.2.2.2 (xm_drop 120 xm_m192.2.2.2.2.2.2.2.2) = true by rw [xk_e192]; rfl))))
theorem xk_p193_0 : xn_okP xm_m193 40 0 = true := by decide +kernel
theorem xk_p193_40 : xn_okP xm_m193 40 40 = true := by decide +kernel
theorem xk_e193 : xm_drop 80 xm_m193.2.2.2.2.2.2.2.2 = [] := by decide +kernel
theorem xk_ok193 : xn_okM xm_m193 = true := xn_lM (by decide +kernel) (by decide +kernel) (xn_lP (r := xm_m193) 40 0 xk_p193_0 (xn_lP (r := xm_m193) 40 40 xk_p193_40 (show xn_okC xm_m193.1 (decide (xm_m193.2.1.name = "<init>")) xm_m193.2.2.1 xm_m193.2.2.2.2.2.2.2.2 (xm_drop 80 xm_m193.2.2.2.2.2.2.2.2) = true by rw [xk_e193]; rfl)))
theorem xk_p194_0 : xn_okP xm_m194 40 0 = true := by decide +kernel
theorem xk_p194_40 : xn_okP xm_m194 40 40 = true := by decide +kernel
theorem xk_e194 : xm_drop 80 xm_m194.2.2.2.2.2.2.2.2 = [] := by decide +kernel
theorem xk_ok194 : xn_okM xm_m194 = true := xn_lM (by decide +kernel) (by decide +kernel) (xn_lP (r := xm_m194) 40 0 xk_p194_0 (xn_lP (r := xm_m194) 40 40 xk_p194_40 (show xn_okC xm_m194.1 (decide (xm_m194.2.1.name = "<init>")) xm_m194.2.2.1 xm_m194.2.2.2.2.2.2.2.2 (xm_drop 80 xm_m194.2.2.2.2.2.2.2.2) = true by rw [xk_e194]; rfl)))
theorem xk_p195_0 : xn_okP xm_m195 40 0 = true := by decide +kernel
theorem xk_p195_40 : xn_okP xm_m195 40 40 = true := by decide +kernel
theorem xk_e195 : xm_drop 80 xm_m195.2.2.2.2.2.2.2.2 = [] := by decide +kernel
theorem xk_ok195 : xn_okM xm_m195 = true := xn_lM (by decide +kernel) (by decide +kernel) (xn_lP (r := xm_m195) 40 0 xk_p195_0 (xn_lP (r := xm_m195) 40 40 xk_p195_40 (show xn_okC xm_m195.1 (decide (xm_m195.2.1.name = "<init>")) xm_m195.2.2.1 xm_m195.2.2.2.2.2.2.2.2 (xm_drop 80 xm_m195.2.2.2.2.2.2.2.2) = true by rw [xk_e195]; rfl)))
theorem xk_p196_0 : xn_okP xm_m196 40 0 = true := by decide +kernel
theorem xk_p196_40 : xn_okP xm_m196 40 40 = true := by decide +kernel
theorem xk_p196_80 : xn_okP xm_m196 40 80 = true := by decide +kernel
theorem xk_e196 : xm_drop 120 xm_m196.2.2.2.2.2.2.2.2 = [] := by decide +kernel
theorem xk_ok196 : xn_okM xm_m196 = true := xn_lM (by decide +kernel) (by decide +kernel) (xn_lP (r := xm_m196) 40 0 xk_p196_0 (xn_lP (r := xm_m196) 40 40 xk_p196_40 (xn_lP (r := xm_m196) 40 80 xk_p196_80 (show xn_okC xm_m196.1 (decide (xm_m196.2.1.name = "<init>")) xm_m196.2.2.1 xm_m196.2.2.2.2.2.2.2.2 (xm_drop 120 xm_m196.2.2.2.2.2.2.2.2) = true by rw [xk_e196]; rfl))))
theorem xk_p197_0 : xn_okP xm_m197 40 0 = true := by decide +kernel
theorem xk_p197_40 : xn_okP xm_m197 40 40 = true := by decide +kernel
theorem xk_e197 : xm_drop 80 xm_m197.2.2.2.2.2.2.2.2 = [] := by decide +kernel
theorem xk_ok197 : xn_okM xm_m197 = true := xn_lM (by decide +kernel) (by decide +kernel) (xn_lP (r := xm_m197) 40 0 xk_p197_0 (xn_lP (r := xm_m197) 40 40 xk_p197_40 (show xn_okC xm_m197.1 (decide (xm_m197.2.1.name = "<init>")) xm_m197.2.2.1 xm_m197.2.2.2.2.2.2.2.2 (xm_drop 80 xm_m197.2.2.2.2.2.2.2.2) = true by rw [xk_e197]; rfl)))
theorem xk_p198_0 : xn_okP xm_m198 40 0 = true := by decide +kernel
theorem xk_p198_40 : xn_okP xm_m198 40 40 = true := by decide +kernel
theorem xk_e198 : xm_drop 80 xm_m198.2.2.2.2.2.2.2.2 = [] := by decide +kernel
theorem xk_ok198 : xn_okM xm_m198 = true := xn_lM (by decide +kernel) (by decide +kernel) (xn_lP (r := xm_m198) 40 0 xk_p198_0 (xn_lP (r := xm_m198) 40 40 xk_p198_40 (show xn_okC xm_m198.1 (decide (xm_m198.2.1.name = "<init>")) xm_m198.2.2.1 xm_m198.2.2.2.2.2.2.2.2 (xm_drop 80 xm_m198.2.2.2.2.2.2.2.2) = true by rw [xk_e198]; rfl)))
theorem xk_p199_0 : xn_okP xm_m199 40 0 = true := by decide +kernel
theorem xk_e199 : xm_drop 40 xm_m199.2.2.2.2.2.2.2.2 = [] := by decide +kernel
theorem xk_ok199 : xn_okM xm_m199 = true := xn_lM (by decide +kernel) (by decide +kernel) (xn_lP (r := xm_m199) 40 0 xk_p199_0 (show xn_okC xm_m199.1 (decide (xm_m199.2.1.name = "<init>")) xm_m199.2.2.1 xm_m199.2.2.2.2.2.2.2.2 (xm_drop 40 xm_m199.2.2.2.2.2.2.2.2) = true by rw [xk_e199]; rfl))
theorem xk_p200_0 : xn_okP xm_m200 40 0 = true := by decide +kernel
theorem xk_e200 : xm_drop 40 xm_m200.2.2.2.2.2.2.2.2 = [] := by decide +kernel
theorem xk_ok200 : xn_okM xm_m200 = true := xn_lM (by decide +kernel) (by decide +kernel) (xn_lP (r := xm_m200) 40 0 xk_p200_0 (show xn_okC xm_m200.1 (decide (xm_m200.2.1.name = "<init>")) xm_m200.2.2.1 xm_m200.2.2.2.2.2.2.2.2 (xm_drop 40 xm_m200.2.2.2.2.2.2.2.2) = true by rw [xk_e200]; rfl))
theorem xk_p201_0 : xn_okP xm_m201 40 0 = true := by decide +kernel
theorem xk_e201 : xm_drop 40 xm_m201.2.2.2.2.2.2.2.2 = [] := by decide +kernel
theorem xk_ok201 : xn_okM xm_m201 = true := xn_lM (by decide +kernel) (by decide +kernel) (xn_lP (r := xm_m201) 40 0 xk_p201_0 (show xn_okC xm_m201.1 (decide (xm_m201.2.1.name = "<init>")) xm_m201.2.2.1 xm_m201.2.2.2.2.2.2.2.2 (xm_drop 40 xm_m201.2.2.2.2.2.2.2.2) = true by rw [xk_e201]; rfl))
theorem xk_p202_0 : xn_okP xm_m202 40 0 = true := by decide +kernel
theorem xk_e202 : xm_drop 40 xm_m202.2.2.2.2.2.2.2.2 = [] := by decide +kernel
theorem xk_ok202 : xn_okM xm_m202 = true := xn_lM (by decide +kernel) (by decide +kernel) (xn_lP (r := xm_m202) 40 0 xk_p202_0 (show xn_okC xm_m202.1 (decide (xm_m202.2.1.name = "<init>")) xm_m202.2.2.1 xm_m202.2.2.2.2.2.2.2.2 (xm_drop 40 xm_m202.2.2.2.2.2.2.2.2) = true by rw [xk_e202]; rfl))
theorem xk_p203_0 : xn_okP xm_m203 40 0 = true := by decide +kernel
theorem xk_e203 : xm_drop 40 xm_m203.2.2.2.2.2.2.2.2 = [] := by decide +kernel
theorem xk_ok203 : xn_okM xm_m203 = true := xn_lM (by decide +kernel) (by decide +kernel) (xn_lP (r := xm_m203) 40 0 xk_p203_0 (show xn_okC xm_m203.1 (decide (xm_m203.2.1.name = "<init>")) xm_m203.2.2.1 xm_m203.2.2.2.2.2.2.2.2 (xm_drop 40 xm_m203.2.2.2.2.2.2.2.2) = true by rw [xk_e203]; rfl))
theorem xk_p204_0 : xn_okP xm_m204 40 0 = true := by decide +kernel
theorem xk_e204 : xm_drop 40 xm_m204.2.2.2.2.2.2.2.2 = [] := by decide +kernel
theorem xk_ok204 : xn_okM xm_m204 = true := xn_lM (by decide +kernel) (by decide +kernel) (xn_lP (r := xm_m204) 40 0 xk_p204_0 (show xn_okC xm_m204.1 (decide (xm_m204.2.1.name = "<init>")) xm_m204.2.2.1 xm_m204.2.2.2.2.2.2.2.2 (xm_drop 40 xm_m204.2.2.2.2.2.2.2.2) = true by rw [xk_e204]; rfl))
theorem xk_p205_0 : xn_okP xm_m205 40 0 = true := by decide +kernel
theorem xk_e205 : xm_drop 40 xm_m205.2.2.2.2.2.2.2.2 = [] := by decide +kernel
theorem xk_ok205 : xn_okM xm_m205 = true := xn_lM (by decide +kernel) (by decide +kernel) (xn_lP (r := xm_m205) 40 0 xk_p205_0 (show xn_okC xm_m205.1 (decide (xm_m205.2.1.name = "<init>")) xm_m205.2.2.1 xm_m205.2.2.2.2.2.2.2.2 (xm_drop 40 xm_m205.2.2.2.2.2.2.2.2) = true by rw [xk_e205]; rfl))
theorem xk_p206_0 : xn_okP xm_m206 40 0 = true := by decide +kernel
theorem xk_e206 : xm_drop 40 xm_m206.2.2.2.2.2.2.2.2 = [] := by decide +kernel
theorem xk_ok206 : xn_okM xm_m206 = true := xn_lM (by decide +kernel) (by decide +kernel) (xn_lP (r := xm_m206) 40 0 xk_p206_0 (show xn_okC xm_m206.1 (decide (xm_m206.2.1.name = "<init>")) xm_m206.2.2.1 xm_m206.2.2.2.2.2.2.2.2 (xm_drop 40 xm_m206.2.2.2.2.2.2.2.2) = true by rw [xk_e206]; rfl))
theorem xk_p207_0 : xn_okP xm_m207 40 0 = true := by decide +kernel
theorem xk_e207 : xm_drop 40 xm_m207.2.2.2.2.2.2.2.2 = [] := by decide +kernel
theorem xk_ok207 : xn_okM xm_m207 = true := xn_lM (by decide +kernel) (by decide +kernel) (xn_lP (r := xm_m207) 40 0 xk_p207_0 (show xn_okC xm_m207.1 (decide (xm_m207.2.1.name = "<init>")) xm_m207.2.2.1 xm_m207.2.2.2.2.2.2.2.2 (xm_drop 40 xm_m207.2.2.2.2.2.2.2.2) = true by rw [xk_e207]; rfl))
theorem xk_p208_0 : xn_okP xm_m208 40 0 = true := by decide +kernel
theorem xk_e208 : xm_drop 40 xm_m208.2.2.2.2.2.2.2.2 = [] := by decide +kernel
theorem xk_ok208 : xn_okM xm_m208 = true := xn_lM (by decide +kernel) (by decide +kernel) (xn_lP (r := xm_m208) 40 0 xk_p208_0 (show xn_okC xm_m208.1 (decide (xm_m208.2.1.name = "<init>")) xm_m208.2.2.1 xm_m208.2.2.2.2.2.2.2.2 (xm_drop 40 xm_m208.2.2.2.2.2.2.2.2) = true by rw [xk_e208]; rfl))
theorem xk_p209_0 : xn_okP xm_m209 40 0 = true := by decide +kernel
theorem xk_e209 : xm_drop 40 xm_m209.2.2.2.2.2.2.2.2 = [] := by decide +kernel
theorem xk_ok209 : xn_okM xm_m209 = true := xn_lM (by decide +kernel) (by decide +kernel) (xn_lP (r := xm_m209) 40 0 xk_p209_0 (show xn_okC xm_m209.1 (decide (xm_m209.2.1.name = "<init>")) xm_m209.2.2.1 xm_m209.2.2.2.2.2.2.2.2 (xm_drop 40 xm_m209.2.2.2.2.2.2.2.2) = true by rw [xk_e209]; rfl))
theorem xk_p210_0 : xn_okP xm_m210 40 0 = true := by decide +kernel
theorem xk_e210 : xm_drop 40 xm_m210.2.2.2.2.2.2.2.2 = [] := by decide +kernel
theorem xk_ok210 : xn_okM xm_m210 = true := xn_lM (by decide +kernel) (by decide +kernel) (xn_lP (r := xm_m210) 40 0 xk_p210_0 (show xn_okC xm_m210.1 (decide (xm_m210.2.1.name = "<init>")) xm_m210.2.2.1 xm_m210.2.2.2.2.2.2.2.2 (xm_drop 40 xm_m210.2.2.2.2.2.2.2.2) = true by rw [xk_e210]; rfl))
theorem xk_p211_0 : xn_okP xm_m211 40 0 = true := by decide +kernel
theorem xk_e211 : xm_drop 40 xm_m211.2.2.2.2.2.2.2.2 = [] := by decide +kernel
theorem xk_ok211 : xn_okM xm_m211 = true := xn_lM (by decide +kernel) (by decide +kernel) (xn_lP (r := xm_m211) 40 0 xk_p211_0 (show xn_okC xm_m211.1 (decide (xm_m211.2.1.name = "<init>")) xm_m211.2.2.1 xm_m211.2.2.2.2.2.2.2.2 (xm_drop 40 xm_m211.2.2.2.2.2.2.2.2) = true by rw [xk_e211]; rfl))
theorem xk_p212_0 : xn_okP xm_m212 40 0 = true := by decide +kernel
theorem xk_e212 : xm_drop 40 xm_m212.2.2.2.2.2.2.2.2 = [] := by decide +kernel
theorem xk_ok212 : xn_okM xm_m212 = true := xn_lM (by decide +kernel) (by decide +kernel) (xn_lP (r := xm_m212) 40 0 xk_p212_0 (show xn_okC xm_m212.1 (decide (xm_m212.2.1.name = "<init>")) xm_m212.2.2.1 xm_m212.2.2.2.2.2.2.2.2 (xm_drop 40 xm_m212.2.2.2.2.2.2.2.2) = true by rw [xk_e212]; rfl))
theorem xk_p213_0 : xn_okP xm_m213 40 0 = true := by decide +kernel
theorem xk_e213 : xm_drop 40 xm_m213.2.2.2.2.2.2.2.2 = [] := by decide +kernel
theorem xk_ok213 : xn_okM xm_m213 = true := xn_lM (by decide +kernel) (by decide +kernel) (xn_lP (r := xm_m213) 40 0 xk_p213_0 (show xn_okC xm_m213.1 (decide (xm_m213.2.1.name = "<init>")) xm_m213.2.2.1 xm_m213.2.2.2.2.2.2.2.2 (xm_drop 40 xm_m213.2.2.2.2.2.2.2.2) = true by rw [xk_e213]; rfl))
theorem xk_p214_0 : xn_okP xm_m214 40 0 = true := by decide +kernel
theorem xk_e214 : xm_drop 40 xm_m214.2.2.2.2.2.2.2.2 = [] := by decide +kernel
theorem xk_ok214 : xn_okM xm_m214 = true := xn_lM (by decide +kernel) (by decide +kernel) (xn_lP (r := xm_m214) 40 0 xk_p214_0 (show xn_okC xm_m214.1 (decide (xm_m214.2.1.name = "<init>")) xm_m214.2.2.1 xm_m214.2.2.2.2.2.2.2.2 (xm_drop 40 xm_m214.2.2.2.2.2.2.2.2) = true by rw [xk_e214]; rfl))
theorem xk_p215_0 : xn_okP xm_m215 40 0 = true := by decide +kernel
theorem xk_p215_40 : xn_okP xm_m215 40 40 = true := by decide +kernel
theorem xk_p215_80 : xn_okP xm_m215 40 80 = true := by decide +kernel
theorem xk_e215 : xm_drop 120 xm_m215.2.2.2.2.2.2.2.2 = [] := by decide +kernel
theorem xk_ok215 : xn_okM xm_m215 = true := xn_lM (by decide +kernel) (by decide +kernel) (xn_lP (r := xm_m215) 40 0 xk_p215_0 (xn_lP (r := xm_m215) 40 40 xk_p215_40 (xn_lP (r := xm_m215) 40 80 xk_p215_80 (show xn_okC xm_m215.1 (decide (xm_m215.2.1.name = "<init>")) xm_m215.2.2.1 xm_m215.2.2.2.2.2.2.2.2 (xm_drop 120 xm_m215.2.2.2.2.2.2.2.2) = true by rw [xk_e215]; rfl))))
theorem xk_p216_0 : xn_okP xm_m216 40 0 = true := by decide +kernel
theorem xk_p216_40 : xn_okP xm_m216 40 40 = true := by decide +kernel
theorem xk_e216 : xm_drop 80 xm_m216.2.2.2.2.2.2.2.2 = [] := by decide +kernel
theorem xk_ok216 : xn_okM xm_m216 = true := xn_lM (by decide +kernel) (by decide +kernel) (xn_lP (r := xm_m216) 40 0 xk_p216_0 (xn_lP (r := xm_m216) 40 40 xk_p216_40 (show xn_okC xm_m216.1 (decide (xm_m216.2.1.name = "<init>")) xm_m216.2.2.1 xm_m216.2.2.2.2.2.2.2.2 (xm_drop 80 xm_m216.2.2.2.2.2.2.2.2) = true by rw [xk_e216]; rfl)))
theorem xk_p217_0 : xn_okP xm_m217 40 0 = true := by decide +kernel
theorem xk_e217 : xm_drop 40 xm_m217.2.2.2.2.2.2.2.2 = [] := by decide +kernel
theorem xk_ok217 : xn_okM xm_m217 = true := xn_lM (by decide +kernel) (by decide +kernel) (xn_lP (r := xm_m217) 40 0 xk_p217_0 (show xn_okC xm_m217.1 (decide (xm_m217.2.1.name = "<init>")) xm_m217.2.2.1 xm_m217.2.2.2.2.2.2.2.2 (xm_drop 40 xm_m217.2.2.2.2.2.2.2.2) = true by rw [xk_e217]; rfl))
theorem xk_p218_0 : xn_okP xm_m218 40 0 = true := by decide +kernel
theorem xk_e218 : xm_drop 40 xm_m218.2.2.2.2.2.2.2.2 = [] := by decide +kernel
theorem xk_ok218 : xn_okM xm_m218 = true := xn_lM (by decide +kernel) (by decide +kernel) (xn_lP (r := xm_m218) 40 0 xk_p218_0 (show xn_okC xm_m218.1 (decide (xm_m218.2.1.name = "<init>")) xm_m218.2.2.1 xm_m218.2.2.2.2.2.2.2.2 (xm_drop 40 xm_m218.2.2.2.2.2.2.2.2) = true by rw [xk_e218]; rfl))
theorem xk_p219_0 : xn_okP xm_m219 40 0 = true := by decide +kernel
theorem xk_p219_40 : xn_okP xm_m219 40 40 = true := by decide +kernel
theorem xk_p219_80 : xn_okP xm_m219 40 80 = true := by decide +kernel
theorem xk_e219 : xm_drop 120 xm_m219.2.2.2.2.2.2.2.2 = [] := by decide +kernel
theorem xk_ok219 : xn_okM xm_m219 = true := xn_lM (by decide +kernel) (by decide +kernel) (xn_lP (r := xm_m219) 40 0 xk_p219_0 (xn_lP (r := xm_m219) 40 40 xk_p219_40 (xn_lP (r := xm_m219) 40 80 xk_p219_80 (show xn_okC xm_m219.1 (decide (xm_m219.2.1.name = "<init>")) xm_m219.2.2.1 xm_m219.2.2.2.2.2.2.2.2 (xm_drop 120 xm_m219.2.2.2.2.2.2.2.2) = true by rw [xk_e219]; rfl))))
theorem xk_p220_0 : xn_okP xm_m220 40 0 = true := by decide +kernel
theorem xk_p220_40 : xn_okP xm_m220 40 40 = true := by decide +kernel
theorem xk_e220 : xm_drop 80 xm_m220.2.2.2.2.2.2.2.2 = [] := by decide +kernel
theorem xk_ok220 : xn_okM xm_m220 = true := xn_lM (by decide +kernel) (by decide +kernel) (xn_lP (r := xm_m220) 40 0 xk_p220_0 (xn_lP (r := xm_m220) 40 40 xk_p220_40 (show xn_okC xm_m220.1 (decide (xm_m220.2.1.name = "<init>")) xm_m220.2.2.1 xm_m220.2.2.2.2.2.2.2.2 (xm_drop 80 xm_m220.2.2.2.2.2.2.2.2) = true by rw [xk_e220]; rfl)))
theorem xk_p221_0 : xn_okP xm_m221 40 0 = true := by decide +kernel
theorem xk_p221_40 : xn_okP xm_m221 40 40 = true := by decide +kernel
theorem xk_e221 : xm_drop 80 xm_m221.2.2.2.2.2.2.2.2 = [] := by decide +kernel
theorem xk_ok221 : xn_okM xm_m221 = true := xn_lM (by decide +kernel) (by decide +kernel) (xn_lP (r := xm_m221) 40 0 xk_p221_0 (xn_lP (r := xm_m221) 40 40 xk_p221_40 (show xn_okC xm_m221.1 (decide (xm_m221.2.1.name = "<init>")) xm_m221.2.2.1 xm_m221.2.2.2.2.2.2.2.2 (xm_drop 80 xm_m221.2.2.2.2.2.2.2.2) = true by rw [xk_e221]; rfl)))
theorem xk_p222_0 : xn_okP xm_m222 40 0 = true := by decide +kernel
theorem xk_e222 : xm_drop 40 xm_m222.2.2.2.2.2.2.2.2 = [] := by decide +kernel
theorem xk_ok222 : xn_okM xm_m222 = true := xn_lM (by decide +kernel) (by decide +kernel) (xn_lP (r := xm_m222) 40 0 xk_p222_0 (show xn_okC xm_m222.1 (decide (xm_m222.2.1.name = "<init>")) xm_m222.2.2.1 xm_m222.2.2.2.2.2.2.2.2 (xm_drop 40 xm_m222.2.2.2.2.2.2.2.2) = true by rw [xk_e222]; rfl))
theorem xk_p223_0 : xn_okP xm_m223 40 0 = true := by decide +kernel
theorem xk_p223_40 : xn_okP xm_m223 40 40 = true := by decide +kernel
theorem xk_e223 : xm_drop 80 xm_m223.2.2.2.2.2.2.2.2 = [] := by decide +kernel
theorem xk_ok223 : xn_okM xm_m223 = true := xn_lM (by decide +kernel) (by decide +kernel) (xn_lP (r := xm_m223) 40 0 xk_p223_0 (xn_lP (r := xm_m223) 40 40 xk_p223_40 (show xn_okC xm_m223.1 (decide (xm_m223.2.1.name = "<init>")) xm_m223.2.2.1 xm_m223.2.2.2.2.2.2.2.2 (xm_drop 80 xm_m223.2.2.2.2.2.2.2.2) = true by rw [xk_e223]; rfl)))
theorem xk_p224_0 : xn_okP xm_m224 40 0 = true := by decide +kernel
theorem xk_p224_40 : xn_okP xm_m224 40 40 = true := by decide +kernel
theorem xk_e224 : xm_drop 80 xm_m224.2.2.2.2.2.2.2.2 = [] := by decide +kernel
theorem xk_ok224 : xn_okM xm_m224 = true := xn_lM (by decide +kernel) (by decide +kernel) (xn_lP (r := xm_m224) 40 0 xk_p224_0 (xn_lP (r := xm_m224) 40 40 xk_p224_40 (show xn_okC xm_m224.1 (decide (xm_m224.2.1.name = "<init>")) xm_m224.2.2.1 xm_m224.2.2.2.2.2.2.2.2 (xm_drop 80 xm_m224.2.2.2.2.2.2.2.2) = true by rw [xk_e224]; rfl)))
theorem xk_p225_0 : xn_okP xm_m225 40 0 = true := by decide +kernel
theorem xk_p225_40 : xn_okP xm_m225 40 40 = true := by decide +kernel
theorem xk_e225 : xm_drop 80 xm_m225.2.2.2.2.2.2.2.2 = [] := by decide +kernel
theorem xk_ok225 : xn_okM xm_m225 = true := xn_lM (by decide +kernel) (by decide +kernel) (xn_lP (r := xm_m225) 40 0 xk_p225_0 (xn_lP (r := xm_m225) 40 40 xk_p225_40 (show xn_okC xm_m225.1 (decide (xm_m225.2.1.name = "<init>")) xm_m225.2.2.1 xm_m225.2.2.2.2.2.2.2.2 (xm_drop 80 xm_m225.2.2.2.2.2.2.2.2) = true by rw [xk_e225]; rfl)))
theorem xk_p226_0 : xn_okP xm_m226 40 0 = true := by decide +kernel
theorem xk_p226_40 : xn_okP xm_m226 40 40 = true := by decide +kernel
theorem xk_p226_80 : xn_okP xm_m226 40 80 = true := by decide +kernel
theorem xk_e226 : xm_drop 120 xm_m226.2.2.2.2.2.2.2.2 = [] := by decide +kernel
theorem xk_ok226 : xn_okM xm_m226 = true := xn_lM (by decide +kernel) (by decide +kernel) (xn_lP (r := xm_m226) 40 0 xk_p226_0 (xn_lP (r := xm_m226) 40 40 xk_p226_40 (xn_lP (r := xm_m226) 40 80 xk_p226_80 (show xn_okC xm_m226.1 (decide (xm_m226.2.1.name = "<init>")) xm_m226.2.2.1 xm_m226.2.2.2.2.2.2.2.2 (xm_drop 120 xm_m226.2.2.2.2.2.2.2.2) = true by rw [xk_e226]; rfl))))
theorem xk_p227_0 : xn_okP xm_m227 40 0 = true := by decide +kernel
theorem xk_e227 : xm_drop 40 xm_m227.2.2.2.2.2.2.2.2 = [] := by decide +kernel
theorem xk_ok227 : xn_okM xm_m227 = true := xn_lM (by decide +kernel) (by decide +kernel) (xn_lP (r := xm_m227) 40 0 xk_p227_0 (show xn_okC xm_m227.1 (decide (xm_m227.2.1.name = "<init>")) xm_m227.2.2.1 xm_m227.2.2.2.2.2.2.2.2 (xm_drop 40 xm_m227.2.2.2.2.2.2.2.2) = true by rw [xk_e227]; rfl))
theorem xk_p228_0 : xn_okP xm_m228 40 0 = true := by decide +kernel
theorem xk_e228 : xm_drop 40 xm_m228.2.2.2.2.2.2.2.2 = [] := by decide +kernel
theorem xk_ok228 : xn_okM xm_m228 = true := xn_lM (by decide +kernel) (by decide +kernel) (xn_lP (r := xm_m228) 40 0 xk_p228_0 (show xn_okC xm_m228.1 (decide (xm_m228.2.1.name = "<init>")) xm_m228.2.2.1 xm_m228.2.2.2.2.2.2.2.2 (xm_drop 40 xm_m228.2.2.2.2.2.2.2.2) = true by rw [xk_e228]; rfl))
theorem xk_p229_0 : xn_okP xm_m229 40 0 = true := by decide +kernel
theorem xk_e229 : xm_drop 40 xm_m229.2.2.2.2.2.2.2.2 = [] := by decide +kernel
theorem xk_ok229 : xn_okM xm_m229 = true := xn_lM (by decide +kernel) (by decide +kernel) (xn_lP (r := xm_m229) 40 0 xk_p229_0 (show xn_okC xm_m229.1 (decide (xm_m229.2.1.name = "<init>")) xm_m229.2.2.1 xm_m229.2.2.2.2.2.2.2.2 (xm_drop 40 xm_m229.2.2.2.2.2.2.2.2) = true by rw [xk_e229]; rfl))
theorem xk_p230_0 : xn_okP xm_m230 40 0 = true := by decide +kernel
theorem xk_p230_40 : xn_okP xm_m230 40 40 = true := by decide +kernel
theorem xk_e230 : xm_drop 80 xm_m230.2.2.2.2.2.2.2.2 = [] := by decide +kernel
theorem xk_ok230 : xn_okM xm_m230 = true := xn_lM (by decide +kernel) (by decide +kernel) (xn_lP (r := xm_m230) 40 0 xk_p230_0 (xn_lP (r := xm_m230) 40 40 xk_p230_40 (show xn_okC xm_m230.1 (decide (xm_m230.2.1.name = "<init>")) xm_m230.2.2.1 xm_m230.2.2.2.2.2.2.2.2 (xm_drop 80 xm_m230.2.2.2.2.2.2.2.2) = true by rw [xk_e230]; rfl)))
theorem xk_p231_0 : xn_okP xm_m231 40 0 = true := by decide +kernel
theorem xk_e231 : xm_drop 40 xm_m231.2.2.2.2.2.2.2.2 = [] := by decide +kernel
theorem xk_ok231 : xn_okM xm_m231 = true := xn_lM (by decide +kernel) (by decide +kernel) (xn_lP (r := xm_m231) 40 0 xk_p231_0 (show xn_okC xm_m231.1 (decide (xm_m231.2.1.name = "<init>")) xm_m231.2.2.1 xm_m231.2.2.2.2.2.2.2.2 (xm_drop 40 xm_m231.2.2.2.2.2.2.2.2) = true by rw [xk_e231]; rfl))
theorem xk_p232_0 : xn_okP xm_m232 40 0 = true := by decide +kernel
theorem xk_e232 : xm_drop 40 xm_m232.2.2.2.2.2.2.2.2 = [] := by decide +kernel
theorem xk_ok232 : xn_okM xm_m232 = true := xn_lM (by decide +kernel) (by decide +kernel) (xn_lP (r := xm_m232) 40 0 xk_p232_0 (show xn_okC xm_m232.1 (decide (xm_m232.2.1.name = "<init>")) xm_m232.2.2.1 xm_m232.2.2.2.2.2.2.2.2 (xm_drop 40 xm_m232.2.2.2.2.2.2.2.2) = true by rw [xk_e232]; rfl))
theorem xk_p233_0 : xn_okP xm_m233 40 0 = true := by decide +kernel
theorem xk_e233 : xm_drop 40 xm_m233.2.2.2.2.2.2.2.2 = [] := by decide +kernel
theorem xk_ok233 : xn_okM xm_m233 = true := xn_lM (by decide +kernel) (by decide +kernel) (xn_lP (r := xm_m233) 40 0 xk_p233_0 (show xn_okC xm_m233.1 (decide (xm_m233.2.1.name = "<init>")) xm_m233.2.2.1 xm_m233.2.2.2.2.2.2.2.2 (xm_drop 40 xm_m233.2.2.2.2.2.2.2.2) = true by rw [xk_e233]; rfl))
theorem xk_p234_0 : xn_okP xm_m234 40 0 = true := by decide +kernel
theorem xk_p234_40 : xn_okP xm_m234 40 40 = true := by decide +kernel
theorem xk_p234_80 : xn_okP xm_m234 40 80 = true := by decide +kernel
theorem xk_e234 : xm_drop 120 xm_m234.2.2.2.2.2.2.2.2 = [] := by decide +kernel
theorem xk_ok234 : xn_okM xm_m234 = true := xn_lM (by decide +kernel) (by decide +kernel) (xn_lP (r := xm_m234) 40 0 xk_p234_0 (xn_lP (r := xm_m234) 40 40 xk_p234_40 (xn_lP (r := xm_m234) 40 80 xk_p234_80 (show xn_okC xm_m234.1 (decide (xm_m234.2.1.name = "<init>")) xm_m234.2.2.1 xm_m234.2.2.2.2.2.2.2.2 (xm_drop 120 xm_m234.2.2.2.2.2.2.2.2) = true by rw [xk_e234]; rfl))))
theorem xk_p235_0 : xn_okP xm_m235 40 0 = true := by decide +kernel
theorem xk_p235_40 : xn_okP xm_m235 40 40 = true := by decide +kernel
theorem xk_e235 : xm_drop 80 xm_m235.2.2.2.2.2.2.2.2 = [] := by decide +kernel
theorem xk_ok235 : xn_okM xm_m235 = true := xn_lM (by decide +kernel) (by decide +kernel) (xn_lP (r := xm_m235) 40 0 xk_p235_0 (xn_lP (r := xm_m235) 40 40 xk_p235_40 (show xn_okC xm_m235.1 (decide (xm_m235.2.1.name = "<init>")) xm_m235.2.2.1 xm_m235.2.2.2.2.2.2.2.2 (xm_drop 80 xm_m235.2.2.2.2.2.2.2.2) = true by rw [xk_e235]; rfl)))
theorem xk_p236_0 : xn_okP xm_m236 40 0 = true := by decide +kernel
theorem xk_p236_40 : xn_okP xm_m236 40 40 = true := by decide +kernel
theorem xk_e236 : xm_drop 80 xm_m236.2.2.2.2.2.2.2.2 = [] := by decide +kernel
theorem xk_ok236 : xn_okM xm_m236 = true := xn_lM (by decide +kernel) (by decide +kernel) (xn_lP (r := xm_m236) 40 0 xk_p236_0 (xn_lP (r := xm_m236) 40 40 xk_p236_40 (show xn_okC xm_m236.1 (decide (xm_m236.2.1.name = "<init>")) xm_m236.2.2.1 xm_m236.2.2.2.2.2.2.2.2 (xm_drop 80 xm_m236.2.2.2.2.2.2.2.2) = true by rw [xk_e236]; rfl)))
theorem xk_p237_0 : xn_okP xm_m237 40 0 = true := by decide +kernel
theorem xk_p237_40 : xn_okP xm_m237 40 40 = true := by decide +kernel
theorem xk_e237 : xm_drop 80 xm_m237.2.2.2.2.2.2.2.2 = [] := by decide +kernel
theorem xk_ok237 : xn_okM xm_m237 = true := xn_lM (by decide +kernel) (by decide +kernel) (xn_lP (r := xm_m237) 40 0 xk_p237_0 (xn_lP (r := xm_m237) 40 40 xk_p237_40 (show xn_okC xm_m237.1 (decide (xm_m237.2.1.name = "<init>")) xm_m237.2.2.1 xm_m237.2.2.2.2.2.2.2.2 (xm_drop 80 xm_m237.2.2.2.2.2.2.2.2) = true by rw [xk_e237]; rfl)))
theorem xk_p238_0 : xn_okP xm_m238 40 0 = true := by decide +kernel
theorem xk_p238_40 : xn_okP xm_m238 40 40 = true := by decide +kernel
theorem xk_e238 : xm_drop 80 xm_m238.2.2.2.2.2.2.2.2 = [] := by decide +kernel
theorem xk_ok238 : xn_okM xm_m238 = true := xn_lM (by decide +kernel) (by decide +kernel) (xn_lP (r := xm_m238) 40 0 xk_p238_0 (xn_lP (r := xm_m238) 40 40 xk_p238_40 (show xn_okC xm_m238.1 (decide (xm_m238.2.1.name = "<init>")) xm_m238.2.2.1 xm_m238.2.2.2.2.2.2.2.2 (xm_drop 80 xm_m238.2.2.2.2.2.2.2.2) = true by rw [xk_e238]; rfl)))
theorem xk_p239_0 : xn_okP xm_m239 40 0 = true := by decide +kernel
theorem xk_p239_40 : xn_okP xm_m239 40 40 = true := by decide +kernel
theorem xk_e239 : xm_drop 80 xm_m239.2.2.2.2.2.2.2.2 = [] := by decide +kernel
theorem xk_ok239 : xn_okM xm_m239 = true := xn_lM (by decide +kernel) (by decide +kernel) (xn_lP (r := xm_m239) 40 0 xk_p239_0 (xn_lP (r := xm_m239) 40 40 xk_p239_40 (show xn_okC xm_m239.1 (decide (xm_m239.2.1.name = "<init>")) xm_m239.2.2.1 xm_m239.2.2.2.2.2.2.2.2 (xm_drop 80 xm_m239.2.2.2.2.2.2.2.2) = true by rw [xk_e239]; rfl)))
theorem xk_p240_0 : xn_okP xm_m240 40 0 = true := by decide +kernel
theorem xk_e240 : xm_drop 40 xm_m240.2.2.2.2.2.2.2.2 = [] := by decide +kernel
theorem xk_ok240 : xn_okM xm_m240 = true := xn_lM (by decide +kernel) (by decide +kernel) (xn_lP (r := xm_m240) 40 0 xk_p240_0 (show xn_okC xm_m240.1 (decide (xm_m240.2.1.name = "<init>")) xm_m240.2.2.1 xm_m240.2.2.2.2.2.2.2.2 (xm_drop 40 xm_m240.2.2.2.2.2.2.2.2) = true by rw [xk_e240]; rfl))
