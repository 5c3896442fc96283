set_option maxRecDepth 100000 in
theorem mkR_0 : mchkR 0 4 = true := by decide +kernel
set_option maxRecDepth 100000 in
theorem mkR_1 : mchkR 4 4 = true := by decide +kernel
set_option maxRecDepth 100000 in
theorem mkR_2 : mchkR 8 4 = true := by decide +kernel
set_option maxRecDepth 100000 in
theorem mkR_3 : mchkR 12 4 = true := by decide +kernel
set_option maxRecDepth 100000 in
theorem mkR_4 : mchkR 16 4 = true := by decide +kernel
set_option maxRecDepth 100000 in
theorem mkR_5 : mchkR 20 4 = true := by decide +kernel
