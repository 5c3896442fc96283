set_option maxRecDepth 100000 in
theorem mkR_42 : mchkR 168 1 = true := by decide +kernel
