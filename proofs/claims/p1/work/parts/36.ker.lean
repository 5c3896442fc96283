set_option maxRecDepth 100000 in
theorem k_fewest : (List.range 3).all (fun j => mbothB 79 159 [.int (nI j)]) = true := by decide +kernel
set_option maxRecDepth 100000 in
theorem k_count : (List.range 8).all (fun j => mbothB 80 160 [.int (nI j)]) = true := by decide +kernel
set_option maxRecDepth 100000 in
theorem k_rain_0 : (List.range 20).all (fun j => mbothB 60 130 [.int (nI ((j + 0) / 10)), .int (nI ((j + 0) % 10))]) = true := by decide +kernel
set_option maxRecDepth 100000 in
theorem k_rain_1 : (List.range 20).all (fun j => mbothB 60 130 [.int (nI ((j + 20) / 10)), .int (nI ((j + 20) % 10))]) = true := by decide +kernel
set_option maxRecDepth 100000 in
theorem k_rain_2 : (List.range 20).all (fun j => mbothB 60 130 [.int (nI ((j + 40) / 10)), .int (nI ((j + 40) % 10))]) = true := by decide +kernel
set_option maxRecDepth 100000 in
theorem k_rain_3 : (List.range 20).all (fun j => mbothB 60 130 [.int (nI ((j + 60) / 10)), .int (nI ((j + 60) % 10))]) = true := by decide +kernel
set_option maxRecDepth 100000 in
theorem k_rain_4 : (List.range 20).all (fun j => mbothB 60 130 [.int (nI ((j + 80) / 10)), .int (nI ((j + 80) % 10))]) = true := by decide +kernel
set_option maxRecDepth 100000 in
theorem k_rain_5 : (List.range 20).all (fun j => mbothB 60 130 [.int (nI ((j + 100) / 10)), .int (nI ((j + 100) % 10))]) = true := by decide +kernel
set_option maxRecDepth 100000 in
theorem k_rain_6 : (List.range 20).all (fun j => mbothB 60 130 [.int (nI ((j + 120) / 10)), .int (nI ((j + 120) % 10))]) = true := by decide +kernel
set_option maxRecDepth 100000 in
theorem k_rain_7 : (List.range 20).all (fun j => mbothB 60 130 [.int (nI ((j + 140) / 10)), .int (nI ((j + 140) % 10))]) = true := by decide +kernel
set_option maxRecDepth 100000 in
theorem k_rain_8 : (List.range 20).all (fun j => mbothB 60 130 [.int (nI ((j + 160) / 10)), .int (nI ((j + 160) % 10))]) = true := by decide +kernel
set_option maxRecDepth 100000 in
theorem k_rain_9 : (List.range 20).all (fun j => mbothB 60 130 [.int (nI ((j + 180) / 10)), .int (nI ((j + 180) % 10))]) = true := by decide +kernel
set_option maxRecDepth 100000 in
theorem k_text : (List.range 3).all (fun j => mbothB 72 127 [.int (nI j), .int 0]) = true := by decide +kernel
set_option maxRecDepth 100000 in
theorem k_clear : mbothB 70 125 [] = true := by decide +kernel
set_option maxRecDepth 100000 in
theorem k_court : mbothB 76 151 [] = true := by decide +kernel
set_option maxRecDepth 100000 in
theorem k_better : mbothB 78 157 [] = true := by decide +kernel
