/-! the checks, done -/
set_option maxRecDepth 100000 in
theorem sm_k4 : sm_ckm 4 = true := by decide +kernel
set_option maxRecDepth 100000 in
theorem sm_k5 : sm_ckm 5 = true := by decide +kernel
set_option maxRecDepth 100000 in
theorem sm_k6 : sm_ckm 6 = true := by decide +kernel
set_option maxRecDepth 100000 in
theorem sm_k7 : sm_ckm 7 = true := by decide +kernel
set_option maxRecDepth 100000 in
theorem sm_k8 : sm_ckm 8 = true := by decide +kernel
set_option maxRecDepth 100000 in
theorem sm_k9 : sm_ckm 9 = true := by decide +kernel
set_option maxRecDepth 100000 in
theorem sm_k10 : sm_ckm 10 = true := by decide +kernel
set_option maxRecDepth 100000 in
theorem sm_k11 : sm_ckm 11 = true := by decide +kernel
set_option maxRecDepth 100000 in
theorem sm_k12 : sm_ckm 12 = true := by decide +kernel
set_option maxRecDepth 100000 in
theorem sm_k13 : sm_ckm 13 = true := by decide +kernel
set_option maxRecDepth 100000 in
theorem sm_k14 : sm_ckm 14 = true := by decide +kernel
set_option maxRecDepth 100000 in
theorem sm_k15 : sm_ckm 15 = true := by decide +kernel
set_option maxRecDepth 100000 in
theorem sm_k16 : sm_ckm 16 = true := by decide +kernel
set_option maxRecDepth 100000 in
theorem sm_k17 : sm_ckm 17 = true := by decide +kernel
set_option maxRecDepth 100000 in
theorem sm_k18 : sm_ckm 18 = true := by decide +kernel
set_option maxRecDepth 100000 in
theorem sm_k19 : sm_ckm 19 = true := by decide +kernel
set_option maxRecDepth 100000 in
theorem sm_k20 : sm_ckm 20 = true := by decide +kernel
set_option maxRecDepth 100000 in
theorem sm_k21 : sm_ckm 21 = true := by decide +kernel
set_option maxRecDepth 100000 in
theorem sm_k22 : sm_ckm 22 = true := by decide +kernel
set_option maxRecDepth 100000 in
theorem sm_k23 : sm_ckm 23 = true := by decide +kernel
set_option maxRecDepth 100000 in
theorem sm_k24 : sm_ckm 24 = true := by decide +kernel
set_option maxRecDepth 100000 in
theorem sm_k25 : sm_ckm 25 = true := by decide +kernel
set_option maxRecDepth 100000 in
theorem sm_k26 : sm_ckm 26 = true := by decide +kernel
set_option maxRecDepth 100000 in
theorem sm_k27 : sm_ckm 27 = true := by decide +kernel
set_option maxRecDepth 100000 in
theorem sm_k28 : sm_ckm 28 = true := by decide +kernel
set_option maxRecDepth 100000 in
theorem sm_k29 : sm_ckm 29 = true := by decide +kernel
set_option maxRecDepth 100000 in
theorem sm_k30 : sm_ckm 30 = true := by decide +kernel
set_option maxRecDepth 100000 in
theorem sm_k31 : sm_ckm 31 = true := by decide +kernel
set_option maxRecDepth 100000 in
theorem sm_k32 : sm_ckm 32 = true := by decide +kernel
set_option maxRecDepth 100000 in
theorem sm_k33 : sm_ckm 33 = true := by decide +kernel
set_option maxRecDepth 100000 in
theorem sm_k34 : sm_ckm 34 = true := by decide +kernel
set_option maxRecDepth 100000 in
theorem sm_k35 : sm_ckm 35 = true := by decide +kernel
set_option maxRecDepth 100000 in
theorem sm_k36 : sm_ckm 36 = true := by decide +kernel
set_option maxRecDepth 100000 in
theorem sm_k37 : sm_ckm 37 = true := by decide +kernel
set_option maxRecDepth 100000 in
theorem sm_k38 : sm_ckm 38 = true := by decide +kernel
set_option maxRecDepth 100000 in
theorem sm_k39 : sm_ckm 39 = true := by decide +kernel
set_option maxRecDepth 100000 in
theorem sm_k40 : sm_ckm 40 = true := by decide +kernel
set_option maxRecDepth 100000 in
theorem sm_k41 : sm_ckm 41 = true := by decide +kernel
set_option maxRecDepth 100000 in
theorem sm_k42 : sm_ckm 42 = true := by decide +kernel
set_option maxRecDepth 100000 in
theorem sm_k43 : sm_ckm 43 = true := by decide +kernel
set_option maxRecDepth 100000 in
theorem sm_k44 : sm_ckm 44 = true := by decide +kernel
set_option maxRecDepth 100000 in
theorem sm_k45 : sm_ckm 45 = true := by decide +kernel
set_option maxRecDepth 100000 in
theorem sm_k46 : sm_ckm 46 = true := by decide +kernel
set_option maxRecDepth 100000 in
theorem sm_k47 : sm_ckm 47 = true := by decide +kernel
set_option maxRecDepth 100000 in
theorem sm_k48 : sm_ckm 48 = true := by decide +kernel
set_option maxRecDepth 100000 in
theorem sm_k49 : sm_ckm 49 = true := by decide +kernel
set_option maxRecDepth 100000 in
theorem sm_k50 : sm_ckm 50 = true := by decide +kernel
set_option maxRecDepth 100000 in
theorem sm_k51 : sm_ckm 51 = true := by decide +kernel
set_option maxRecDepth 100000 in
theorem sm_k52 : sm_ckm 52 = true := by decide +kernel
set_option maxRecDepth 100000 in
theorem sm_k53 : sm_ckm 53 = true := by decide +kernel
set_option maxRecDepth 100000 in
theorem sm_k54 : sm_ckm 54 = true := by decide +kernel
set_option maxRecDepth 100000 in
theorem sm_k55 : sm_ckm 55 = true := by decide +kernel
set_option maxRecDepth 100000 in
theorem sm_k56 : sm_ckm 56 = true := by decide +kernel
set_option maxRecDepth 100000 in
theorem sm_k57 : sm_ckm 57 = true := by decide +kernel
set_option maxRecDepth 100000 in
theorem sm_k58 : sm_ckm 58 = true := by decide +kernel
set_option maxRecDepth 100000 in
theorem sm_k59 : sm_ckm 59 = true := by decide +kernel
set_option maxRecDepth 100000 in
theorem sm_k60 : sm_ckm 60 = true := by decide +kernel
set_option maxRecDepth 100000 in
theorem sm_k61 : sm_ckm 61 = true := by decide +kernel
set_option maxRecDepth 100000 in
theorem sm_k62 : sm_ckm 62 = true := by decide +kernel
set_option maxRecDepth 100000 in
theorem sm_k63 : sm_ckm 63 = true := by decide +kernel
