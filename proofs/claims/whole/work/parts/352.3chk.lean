/-! checks done -/
set_option maxRecDepth 100000 in
theorem sm_kc18 : (List.range' 284 14).all sm_cka = true := by decide +kernel
set_option maxRecDepth 100000 in
theorem sm_kc19 : (List.range' 298 6).all sm_cka = true := by decide +kernel
set_option maxRecDepth 100000 in
theorem sm_kc20 : (List.range' 304 9).all sm_cka = true := by decide +kernel
set_option maxRecDepth 100000 in
theorem sm_kc21 : (List.range' 313 11).all sm_cka = true := by decide +kernel
set_option maxRecDepth 100000 in
theorem sm_kc22 : (List.range' 324 10).all sm_cka = true := by decide +kernel
set_option maxRecDepth 100000 in
theorem sm_kc23 : (List.range' 512 16).all sm_cka = true := by decide +kernel
