/-! checks done -/
set_option maxRecDepth 100000 in
theorem sm_kc12 : (List.range' 217 11).all sm_cka = true := by decide +kernel
set_option maxRecDepth 100000 in
theorem sm_kc13 : (List.range' 228 12).all sm_cka = true := by decide +kernel
set_option maxRecDepth 100000 in
theorem sm_kc14 : (List.range' 240 9).all sm_cka = true := by decide +kernel
set_option maxRecDepth 100000 in
theorem sm_kc15 : (List.range' 249 15).all sm_cka = true := by decide +kernel
set_option maxRecDepth 100000 in
theorem sm_kc16 : (List.range' 264 5).all sm_cka = true := by decide +kernel
set_option maxRecDepth 100000 in
theorem sm_kc17 : (List.range' 269 15).all sm_cka = true := by decide +kernel
