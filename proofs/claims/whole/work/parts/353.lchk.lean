/-! checks of the law -/
set_option maxRecDepth 100000 in
theorem sm_kl0 : (List.range' 0 400).all (sm_ckb 531) = true := by decide +kernel
set_option maxRecDepth 100000 in
theorem sm_kl1 : (List.range' 400 400).all (sm_ckb 531) = true := by decide +kernel
set_option maxRecDepth 100000 in
theorem sm_kl2 : (List.range' 800 400).all (sm_ckb 531) = true := by decide +kernel
set_option maxRecDepth 100000 in
theorem sm_kl3 : (List.range' 1200 400).all (sm_ckb 531) = true := by decide +kernel
set_option maxRecDepth 100000 in
theorem sm_kl4 : (List.range' 1600 400).all (sm_ckb 531) = true := by decide +kernel
set_option maxRecDepth 100000 in
theorem sm_kl5 : (List.range' 2000 400).all (sm_ckb 531) = true := by decide +kernel
set_option maxRecDepth 100000 in
theorem sm_kl6 : (List.range' 2400 400).all (sm_ckb 531) = true := by decide +kernel
set_option maxRecDepth 100000 in
theorem sm_kl7 : (List.range' 2800 277).all (sm_ckb 531) = true := by decide +kernel
