def an_37 : List (Nat × aAn) := [(0, [(0, (3, 0, 0)), (1, a32), (2, a32)], [], (81, [])),
  (30, [(0, (3, 0, 0)), (1, (0, 1, 4)), (2, a32), (3, (0, 0, 4))], [], (67, [(3, -15)]))]
set_option maxRecDepth 100000 in
theorem k_37 : acheck aBl rI0 (ctU 37) c_37 an_37 [(3, 3), (49, 36)] 39 = true := by decide +kernel
def an_38 : List (Nat × aAn) := [(0, [(0, (3, 8, 0))], [], (23, []))]
set_option maxRecDepth 100000 in
theorem k_38 : acheck aBl rI0 (ctU 38) c_38 an_38 [] 25 = true := by decide +kernel
def an_39 : List (Nat × aAn) := [(0, [(0, a32)], [], (9, [])),
  (16, [(0, a32)], [], (2, [])),
  (17, [(0, a32)], [((0, 0, 1), 0, a32)], (1, []))]
set_option maxRecDepth 100000 in
theorem k_39 : acheck aBl rI0 (ctU 39) c_39 an_39 [] 12 = true := by decide +kernel
def an_40 : List (Nat × aAn) := [(0, [(0, (3, 10, 0)), (1, a32), (1003, (0, 0, 60))], [], (17, [])),
  (29, [(0, (3, 10, 0)), (1, a32), (1003, (0, 1, 60))], [], (1, []))]
set_option maxRecDepth 100000 in
theorem k_40 : acheck aBl rI0 (ctU 40) c_40 an_40 [] 19 = true := by decide +kernel
def an_41 : List (Nat × aAn) := [(0, [(0, (6, 0, 0))], [], (8, [])),
  (18, [(0, (6, 0, 0))], [((0, 1, 1), 0, a32)], (1, []))]
set_option maxRecDepth 100000 in
theorem k_41 : acheck aBl rI0 (ctU 41) c_41 an_41 [] 11 = true := by decide +kernel
def an_42 : List (Nat × aAn) := [(0, [(0, (6, 0, 0))], [], (6, [])),
  (14, [(0, (6, 0, 0))], [((0, 0, 0), 0, a32)], (1, []))]
set_option maxRecDepth 100000 in
theorem k_42 : acheck aBl rI0 (ctU 42) c_42 an_42 [] 9 = true := by decide +kernel
def an_43 : List (Nat × aAn) := [(0, [(0, (6, 0, 0))], [], (7, []))]
set_option maxRecDepth 100000 in
theorem k_43 : acheck aBl rI0 (ctU 43) c_43 an_43 [(6, 42)] 9 = true := by decide +kernel
def an_44 : List (Nat × aAn) := [(0, [(0, a32)], [], (8, [])),
  (15, [(0, a32)], [], (2, [])),
  (16, [(0, a32)], [((0, 0, 1), 0, a32)], (1, []))]
set_option maxRecDepth 100000 in
theorem k_44 : acheck aBl rI0 (ctU 44) c_44 an_44 [] 11 = true := by decide +kernel
def an_45 : List (Nat × aAn) := [(0, [(0, (6, 2, 0)), (1, a32), (2, (0, 0, 9)), (3, (0, 1, 10))], [], (110, [])),
  (7, [(0, (6, 2, 0)), (1, a32), (2, (0, 0, 9)), (3, (0, 1, 10)), (4, a32), (5, (0, 0, 10))], [], (105, [(5, -10)]))]
set_option maxRecDepth 100000 in
theorem k_45 : acheck aBl rI0 (ctU 45) c_45 an_45 [] 21 = true := by decide +kernel
def an_46 : List (Nat × aAn) := [(0, [(0, (6, 2, 0)), (1, a32), (2, a32), (3, a32)], [], (21, []))]
set_option maxRecDepth 100000 in
theorem k_46 : acheck aBl rI0 (ctU 46) c_46 an_46 [(1, 44), (33, 45)] 27 = true := by decide +kernel
def an_47 : List (Nat × aAn) := [(0, [(0, (6, 0, 0)), (1, a32), (2, a32)], [], (12, [])),
  (36, [(0, (6, 0, 0)), (1, a32), (2, a32)], [((0, -1, 9), 0, a32)], (1, []))]
set_option maxRecDepth 100000 in
theorem k_47 : acheck aBl rI0 (ctU 47) c_47 an_47 [(1, 41), (14, 43), (17, 46)] 21 = true := by decide +kernel
def an_48 : List (Nat × aAn) := [(0, [(0, (6, 0, 0)), (1, a32)], [], (5, []))]
set_option maxRecDepth 100000 in
theorem k_48 : acheck aBl rI0 (ctU 48) c_48 an_48 [(3, 47)] 7 = true := by decide +kernel
def an_49 : List (Nat × aAn) := [(0, [(0, (3, 8, 0)), (1, a32), (1001, (0, 0, 60))], [], (17, [])),
  (29, [(0, (3, 8, 0)), (1, a32), (1001, (0, 1, 60))], [], (1, []))]
set_option maxRecDepth 100000 in
theorem k_49 : acheck aBl rI0 (ctU 49) c_49 an_49 [] 19 = true := by decide +kernel
def an_50 : List (Nat × aAn) := [(0, [(0, (3, 8, 0)), (1002, a32)], [], (29, []))]
set_option maxRecDepth 100000 in
theorem k_50 : acheck aBl rI0 (ctU 50) c_50 an_50 [(46, 49)] 33 = true := by decide +kernel
def an_51 : List (Nat × aAn) := [(0, [(0, (3, 8, 0)), (1, a32)], [], (25, [])),
  (86, [(0, (3, 8, 0)), (1, a32), (2, (0, -1, -1))], [], (9, [])),
  (103, [(0, (3, 8, 0)), (1, a32), (2, (0, -1, -1))], [], (2, [])),
  (104, [(0, (3, 8, 0)), (1, a32), (2, (0, -1, -1))], [((0, 0, 1), 0, a32)], (1, []))]
set_option maxRecDepth 100000 in
theorem k_51 : acheck aBl rI0 (ctU 51) c_51 an_51 [(1, 39), (25, 40), (34, 48), (61, 40), (81, 49), (93, 50)] 61 = true := by decide +kernel
def an_52 : List (Nat × aAn) := [(0, [(0, (3, 10, 0)), (1, a32)], [], (22, [])),
  (34, [(0, (3, 10, 0)), (1, a32), (1003, (0, 0, 60))], [], (1, []))]
set_option maxRecDepth 100000 in
theorem k_52 : acheck aBl rI0 (ctU 52) c_52 an_52 [] 24 = true := by decide +kernel
def an_53 : List (Nat × aAn) := [(0, [(0, a32)], [], (4, [])),
  (90, [(0, a32)], [], (2, [])),
  (92, [(0, a32)], [], (2, []))]
set_option maxRecDepth 100000 in
theorem k_53 : acheck aBl rI0 (ctU 53) c_53 an_53 [] 18 = true := by decide +kernel
def an_54 : List (Nat × aAn) := [(0, [(0, (3, 8, 0)), (1, a32), (1001, (0, 0, 60))], [], (4, [(1001, 30)])),
  (58, [(0, (3, 8, 0)), (1, a32), (1001, (0, 0, 60))], [], (1, []))]
set_option maxRecDepth 100000 in
theorem k_54 : acheck aBl rI0 (ctU 54) c_54 an_54 [(18, 53), (52, 40)] 33 = true := by decide +kernel
def an_55 : List (Nat × aAn) := [(0, [(0, (3, 8, 0)), (1002, a32)], [], (25, []))]
set_option maxRecDepth 100000 in
theorem k_55 : acheck aBl rI0 (ctU 55) c_55 an_55 [(11, 54)] 29 = true := by decide +kernel
def an_56 : List (Nat × aAn) := [(0, [(0, (3, 8, 0)), (1, a32)], [], (33, [])),
  (19, [(0, (3, 8, 0)), (1, (0, 38, 124)), (2, a32)], [], (11, [])),
  (52, [(0, (3, 8, 0)), (1, (0, 60, 62)), (2, a32)], [], (13, [])),
  (73, [(0, (3, 8, 0)), (1, a32), (2, a32)], [], (2, []))]
set_option maxRecDepth 100000 in
theorem k_56 : acheck aBl rI0 (ctU 56) c_56 an_56 [] 46 = true := by decide +kernel
