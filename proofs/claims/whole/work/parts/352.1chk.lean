/-! checks done -/
set_option maxRecDepth 100000 in
theorem sm_kc6 : (List.range' 106 14).all sm_cka = true := by decide +kernel
set_option maxRecDepth 100000 in
theorem sm_kc7 : (List.range' 120 13).all sm_cka = true := by decide +kernel
set_option maxRecDepth 100000 in
theorem sm_kc8 : (List.range' 133 18).all sm_cka = true := by decide +kernel
set_option maxRecDepth 100000 in
theorem sm_kc9 : (List.range' 151 17).all sm_cka = true := by decide +kernel
set_option maxRecDepth 100000 in
theorem sm_kc10 : (List.range' 168 20).all sm_cka = true := by decide +kernel
set_option maxRecDepth 100000 in
theorem sm_kc11 : (List.range' 188 29).all sm_cka = true := by decide +kernel
