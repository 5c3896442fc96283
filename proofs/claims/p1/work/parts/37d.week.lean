set_option maxRecDepth 100000 in
theorem k_week_32 : mbothB 64 141 [.int (nI 32)] = true := by decide +kernel
set_option maxRecDepth 100000 in
theorem k_week_33 : mbothB 64 141 [.int (nI 33)] = true := by decide +kernel
set_option maxRecDepth 100000 in
theorem k_week_34 : mbothB 64 141 [.int (nI 34)] = true := by decide +kernel
set_option maxRecDepth 100000 in
theorem k_week_35 : mbothB 64 141 [.int (nI 35)] = true := by decide +kernel
set_option maxRecDepth 100000 in
theorem k_week_36 : mbothB 64 141 [.int (nI 36)] = true := by decide +kernel
