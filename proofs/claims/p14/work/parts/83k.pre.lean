/-! the law's first ten instructions, run by the kernel -/
theorem xk_pre : xn_run xn_K (xm_exec 120) xm_c0 4 600000 7302250 (some .boolean) (fun r _ _ => decide (r = some (.int 1))) 10 xm_c0 (lv_args 0 [.ref 0]) [] xn_G0 [] 0 0 = true := by decide +kernel
