/-! checks of the law -/
set_option maxRecDepth 100000 in
theorem sm_klaw : sm_fwk (sm_own 531) (sm_ml 531) 531 (sm_ini 531) true code (sm_T 531) 0 code.data.toList = true := by decide +kernel
set_option maxRecDepth 100000 in
theorem sm_klawl : Nat.blt (sm_la 531) code.data.toList.length = true := by decide +kernel
