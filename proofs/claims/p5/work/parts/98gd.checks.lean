set_option maxRecDepth 100000 in
theorem mkR_18 : mchkR 72 4 = true := by decide +kernel
set_option maxRecDepth 100000 in
theorem mkR_19 : mchkR 76 4 = true := by decide +kernel
set_option maxRecDepth 100000 in
theorem mkR_20 : mchkR 80 4 = true := by decide +kernel
set_option maxRecDepth 100000 in
theorem mkR_21 : mchkR 84 4 = true := by decide +kernel
set_option maxRecDepth 100000 in
theorem mkR_22 : mchkR 88 4 = true := by decide +kernel
set_option maxRecDepth 100000 in
theorem mkR_23 : mchkR 92 4 = true := by decide +kernel
