set_option maxRecDepth 100000 in
theorem mkR_36 : mchkR 144 4 = true := by decide +kernel
set_option maxRecDepth 100000 in
theorem mkR_37 : mchkR 148 4 = true := by decide +kernel
set_option maxRecDepth 100000 in
theorem mkR_38 : mchkR 152 4 = true := by decide +kernel
set_option maxRecDepth 100000 in
theorem mkR_39 : mchkR 156 4 = true := by decide +kernel
set_option maxRecDepth 100000 in
theorem mkR_40 : mchkR 160 4 = true := by decide +kernel
set_option maxRecDepth 100000 in
theorem mkR_41 : mchkR 164 4 = true := by decide +kernel
