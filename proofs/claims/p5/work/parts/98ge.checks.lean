set_option maxRecDepth 100000 in
theorem mkR_24 : mchkR 96 4 = true := by decide +kernel
set_option maxRecDepth 100000 in
theorem mkR_25 : mchkR 100 4 = true := by decide +kernel
set_option maxRecDepth 100000 in
theorem mkR_26 : mchkR 104 4 = true := by decide +kernel
set_option maxRecDepth 100000 in
theorem mkR_27 : mchkR 108 4 = true := by decide +kernel
set_option maxRecDepth 100000 in
theorem mkR_28 : mchkR 112 4 = true := by decide +kernel
set_option maxRecDepth 100000 in
theorem mkR_29 : mchkR 116 4 = true := by decide +kernel
