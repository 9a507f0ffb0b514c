theorem xm_t1 : xm_exec 12 0 [.ref 0] xm_G0 xm_E0 (fun r _ _ => decide (r = some (.int 1))) = true := by decide +kernel
