set_option maxRecDepth 100000 in
theorem k_week_17 : mbothB 64 141 [.int (nI 17)] = true := by decide +kernel
set_option maxRecDepth 100000 in
theorem k_week_18 : mbothB 64 141 [.int (nI 18)] = true := by decide +kernel
set_option maxRecDepth 100000 in
theorem k_week_19 : mbothB 64 141 [.int (nI 19)] = true := by decide +kernel
set_option maxRecDepth 100000 in
theorem k_week_20 : mbothB 64 141 [.int (nI 20)] = true := by decide +kernel
set_option maxRecDepth 100000 in
theorem k_week_21 : mbothB 64 141 [.int (nI 21)] = true := by decide +kernel
set_option maxRecDepth 100000 in
theorem k_week_22 : mbothB 64 141 [.int (nI 22)] = true := by decide +kernel
set_option maxRecDepth 100000 in
theorem k_week_23 : mbothB 64 141 [.int (nI 23)] = true := by decide +kernel
set_option maxRecDepth 100000 in
theorem k_week_24 : mbothB 64 141 [.int (nI 24)] = true := by decide +kernel
