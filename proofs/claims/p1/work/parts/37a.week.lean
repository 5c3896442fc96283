set_option maxRecDepth 100000 in
theorem k_week_1 : mbothB 64 141 [.int (nI 1)] = true := by decide +kernel
set_option maxRecDepth 100000 in
theorem k_week_2 : mbothB 64 141 [.int (nI 2)] = true := by decide +kernel
set_option maxRecDepth 100000 in
theorem k_week_3 : mbothB 64 141 [.int (nI 3)] = true := by decide +kernel
set_option maxRecDepth 100000 in
theorem k_week_4 : mbothB 64 141 [.int (nI 4)] = true := by decide +kernel
set_option maxRecDepth 100000 in
theorem k_week_5 : mbothB 64 141 [.int (nI 5)] = true := by decide +kernel
set_option maxRecDepth 100000 in
theorem k_week_6 : mbothB 64 141 [.int (nI 6)] = true := by decide +kernel
set_option maxRecDepth 100000 in
theorem k_week_7 : mbothB 64 141 [.int (nI 7)] = true := by decide +kernel
set_option maxRecDepth 100000 in
theorem k_week_8 : mbothB 64 141 [.int (nI 8)] = true := by decide +kernel
set_option maxRecDepth 100000 in
theorem k_week_9 : mbothB 64 141 [.int (nI 9)] = true := by decide +kernel
set_option maxRecDepth 100000 in
theorem k_week_10 : mbothB 64 141 [.int (nI 10)] = true := by decide +kernel
set_option maxRecDepth 100000 in
theorem k_week_11 : mbothB 64 141 [.int (nI 11)] = true := by decide +kernel
set_option maxRecDepth 100000 in
theorem k_week_12 : mbothB 64 141 [.int (nI 12)] = true := by decide +kernel
set_option maxRecDepth 100000 in
theorem k_week_13 : mbothB 64 141 [.int (nI 13)] = true := by decide +kernel
set_option maxRecDepth 100000 in
theorem k_week_14 : mbothB 64 141 [.int (nI 14)] = true := by decide +kernel
set_option maxRecDepth 100000 in
theorem k_week_15 : mbothB 64 141 [.int (nI 15)] = true := by decide +kernel
set_option maxRecDepth 100000 in
theorem k_week_16 : mbothB 64 141 [.int (nI 16)] = true := by decide +kernel
