/-! checks done -/
set_option maxRecDepth 100000 in
theorem sm_kc0 : (List.range' 6 26).all sm_cka = true := by decide +kernel
set_option maxRecDepth 100000 in
theorem sm_kc1 : (List.range' 32 23).all sm_cka = true := by decide +kernel
set_option maxRecDepth 100000 in
theorem sm_kc2 : (List.range' 55 11).all sm_cka = true := by decide +kernel
set_option maxRecDepth 100000 in
theorem sm_kc3 : (List.range' 66 15).all sm_cka = true := by decide +kernel
set_option maxRecDepth 100000 in
theorem sm_kc4 : (List.range' 81 12).all sm_cka = true := by decide +kernel
set_option maxRecDepth 100000 in
theorem sm_kc5 : (List.range' 93 13).all sm_cka = true := by decide +kernel
