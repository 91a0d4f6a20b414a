/-! checks done -/
set_option maxRecDepth 100000 in
theorem sm_kc24 : (List.range' 528 3).all sm_cka = true := by decide +kernel
