set_option maxRecDepth 100000 in
theorem mkR_12 : mchkR 48 4 = true := by decide +kernel
set_option maxRecDepth 100000 in
theorem mkR_13 : mchkR 52 4 = true := by decide +kernel
set_option maxRecDepth 100000 in
theorem mkR_14 : mchkR 56 4 = true := by decide +kernel
set_option maxRecDepth 100000 in
theorem mkR_15 : mchkR 60 4 = true := by decide +kernel
set_option maxRecDepth 100000 in
theorem mkR_16 : mchkR 64 4 = true := by decide +kernel
set_option maxRecDepth 100000 in
theorem mkR_17 : mchkR 68 4 = true := by decide +kernel
