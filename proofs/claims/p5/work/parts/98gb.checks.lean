set_option maxRecDepth 100000 in
theorem mkR_6 : mchkR 24 4 = true := by decide +kernel
set_option maxRecDepth 100000 in
theorem mkR_7 : mchkR 28 4 = true := by decide +kernel
set_option maxRecDepth 100000 in
theorem mkR_8 : mchkR 32 4 = true := by decide +kernel
set_option maxRecDepth 100000 in
theorem mkR_9 : mchkR 36 4 = true := by decide +kernel
set_option maxRecDepth 100000 in
theorem mkR_10 : mchkR 40 4 = true := by decide +kernel
set_option maxRecDepth 100000 in
theorem mkR_11 : mchkR 44 4 = true := by decide +kernel
