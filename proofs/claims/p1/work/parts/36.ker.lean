set_option maxRecDepth 100000 in
theorem k_week : (List.range 40).all (fun j => mbothB 64 141 [.int (nI (j + 1))]) = true := by decide +kernel
set_option maxRecDepth 100000 in
theorem k_fewest : (List.range 3).all (fun j => mbothB 79 159 [.int (nI j)]) = true := by decide +kernel
set_option maxRecDepth 100000 in
theorem k_count : (List.range 8).all (fun j => mbothB 80 160 [.int (nI j)]) = true := by decide +kernel
set_option maxRecDepth 100000 in
theorem k_rain : (List.range 200).all (fun j => mbothB 60 130 [.int (nI (j / 10)), .int (nI (j % 10))]) = true := by decide +kernel
set_option maxRecDepth 100000 in
theorem k_text : (List.range 3).all (fun j => mbothB 72 127 [.int (nI j), .int 0]) = true := by decide +kernel
set_option maxRecDepth 100000 in
theorem k_clear : mbothB 70 125 [] = true := by decide +kernel
set_option maxRecDepth 100000 in
theorem k_court : mbothB 76 151 [] = true := by decide +kernel
set_option maxRecDepth 100000 in
theorem k_better : mbothB 78 157 [] = true := by decide +kernel
