set_option maxRecDepth 100000 in
theorem k_week_37 : mbothB 64 141 [.int (nI 37)] = true := by decide +kernel
set_option maxRecDepth 100000 in
theorem k_week_38 : mbothB 64 141 [.int (nI 38)] = true := by decide +kernel
set_option maxRecDepth 100000 in
theorem k_week_39 : mbothB 64 141 [.int (nI 39)] = true := by decide +kernel
set_option maxRecDepth 100000 in
theorem k_week_40 : mbothB 64 141 [.int (nI 40)] = true := by decide +kernel
