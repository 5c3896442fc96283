set_option maxRecDepth 100000 in
theorem k_week_25 : mbothB 64 141 [.int (nI 25)] = true := by decide +kernel
set_option maxRecDepth 100000 in
theorem k_week_26 : mbothB 64 141 [.int (nI 26)] = true := by decide +kernel
set_option maxRecDepth 100000 in
theorem k_week_27 : mbothB 64 141 [.int (nI 27)] = true := by decide +kernel
set_option maxRecDepth 100000 in
theorem k_week_28 : mbothB 64 141 [.int (nI 28)] = true := by decide +kernel
set_option maxRecDepth 100000 in
theorem k_week_29 : mbothB 64 141 [.int (nI 29)] = true := by decide +kernel
set_option maxRecDepth 100000 in
theorem k_week_30 : mbothB 64 141 [.int (nI 30)] = true := by decide +kernel
set_option maxRecDepth 100000 in
theorem k_week_31 : mbothB 64 141 [.int (nI 31)] = true := by decide +kernel
