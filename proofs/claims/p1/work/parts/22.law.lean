/-! the law's run, by the machine: every script of at most six numbers -/
theorem xk_law : xm_run (xm_exec 12) xm_c0 4 600000 7302250 (some .boolean) (fun r _ _ => decide (r = some (.int 1))) 1000000 xm_c0 (lv_args 0 [.ref 0]) [] xm_G0 xm_E0 0 0 = true := by decide +kernel
