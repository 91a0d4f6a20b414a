/-! checks done -/
set_option maxRecDepth 100000 in
theorem sm_kc0 : (List.range' 6 26).all sm_cka = true := by decide +kernel
set_option maxRecDepth 100000 in
theorem sm_kc1 : (List.range' 32 23).all sm_cka = true := by decide +kernel
set_option maxRecDepth 100000 in
theorem sm_kc2 : (List.range' 55 11).all sm_cka = true := by decide +kernel
set_option maxRecDepth 100000 in
theorem sm_kc3 : (List.range' 66 15).all sm_cka = true := by decide +kernel
set_option maxRecDepth 100000 in
theorem sm_kc4 : (List.range' 81 12).all sm_cka = true := by decide +kernel
set_option maxRecDepth 100000 in
theorem sm_kc5 : (List.range' 93 13).all sm_cka = true := by decide +kernel
set_option maxRecDepth 100000 in
theorem sm_kc6 : (List.range' 106 14).all sm_cka = true := by decide +kernel
set_option maxRecDepth 100000 in
theorem sm_kc7 : (List.range' 120 13).all sm_cka = true := by decide +kernel
set_option maxRecDepth 100000 in
theorem sm_kc8 : (List.range' 133 18).all sm_cka = true := by decide +kernel
set_option maxRecDepth 100000 in
theorem sm_kc9 : (List.range' 151 17).all sm_cka = true := by decide +kernel
set_option maxRecDepth 100000 in
theorem sm_kc10 : (List.range' 168 20).all sm_cka = true := by decide +kernel
set_option maxRecDepth 100000 in
theorem sm_kc11 : (List.range' 188 29).all sm_cka = true := by decide +kernel
set_option maxRecDepth 100000 in
theorem sm_kc12 : (List.range' 217 11).all sm_cka = true := by decide +kernel
set_option maxRecDepth 100000 in
theorem sm_kc13 : (List.range' 228 12).all sm_cka = true := by decide +kernel
set_option maxRecDepth 100000 in
theorem sm_kc14 : (List.range' 240 9).all sm_cka = true := by decide +kernel
set_option maxRecDepth 100000 in
theorem sm_kc15 : (List.range' 249 15).all sm_cka = true := by decide +kernel
set_option maxRecDepth 100000 in
theorem sm_kc16 : (List.range' 264 5).all sm_cka = true := by decide +kernel
set_option maxRecDepth 100000 in
theorem sm_kc17 : (List.range' 269 15).all sm_cka = true := by decide +kernel
set_option maxRecDepth 100000 in
theorem sm_kc18 : (List.range' 284 14).all sm_cka = true := by decide +kernel
set_option maxRecDepth 100000 in
theorem sm_kc19 : (List.range' 298 6).all sm_cka = true := by decide +kernel
set_option maxRecDepth 100000 in
theorem sm_kc20 : (List.range' 304 9).all sm_cka = true := by decide +kernel
set_option maxRecDepth 100000 in
theorem sm_kc21 : (List.range' 313 11).all sm_cka = true := by decide +kernel
set_option maxRecDepth 100000 in
theorem sm_kc22 : (List.range' 324 10).all sm_cka = true := by decide +kernel
set_option maxRecDepth 100000 in
theorem sm_kc23 : (List.range' 512 16).all sm_cka = true := by decide +kernel
set_option maxRecDepth 100000 in
theorem sm_kc24 : (List.range' 528 3).all sm_cka = true := by decide +kernel
