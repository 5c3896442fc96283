set_option maxRecDepth 100000 in
theorem mkR_30 : mchkR 120 4 = true := by decide +kernel
set_option maxRecDepth 100000 in
theorem mkR_31 : mchkR 124 4 = true := by decide +kernel
set_option maxRecDepth 100000 in
theorem mkR_32 : mchkR 128 4 = true := by decide +kernel
set_option maxRecDepth 100000 in
theorem mkR_33 : mchkR 132 4 = true := by decide +kernel
set_option maxRecDepth 100000 in
theorem mkR_34 : mchkR 136 4 = true := by decide +kernel
set_option maxRecDepth 100000 in
theorem mkR_35 : mchkR 140 4 = true := by decide +kernel
