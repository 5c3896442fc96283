def an_77 : List (Nat × aAn) := [(0, [(0, (3, 25, 0)), (1, (3, 26, 0)), (1007, a32)], [], (14, []))]
set_option maxRecDepth 100000 in
theorem k_77 : acheck aBl rI0 (ctU 77) c_77 an_77 [(16, 74)] 16 = true := by decide +kernel
def an_78 : List (Nat × aAn) := [(0, [(0, (3, 25, 0)), (1, (3, 26, 0)), (1007, a32)], [], (14, []))]
set_option maxRecDepth 100000 in
theorem k_78 : acheck aBl rI0 (ctU 78) c_78 an_78 [(16, 74)] 16 = true := by decide +kernel
def an_79 : List (Nat × aAn) := [(0, [(0, (3, 26, 0)), (1, (3, 25, 0))], [], (11, []))]
set_option maxRecDepth 100000 in
theorem k_79 : acheck aBl rI0 (ctU 79) c_79 an_79 [(5, 77), (15, 78)] 13 = true := by decide +kernel
def an_80 : List (Nat × aAn) := [(0, [(0, (3, 26, 0)), (1, (3, 26, 0))], [], (11, []))]
set_option maxRecDepth 100000 in
theorem k_80 : acheck aBl rI0 (ctU 80) c_80 an_80 [(10, 79), (15, 79)] 13 = true := by decide +kernel
def an_81 : List (Nat × aAn) := [(0, [(0, (3, 0, 0))], [], (790, [])),
  (4, [(0, (3, 0, 0)), (1, a32), (2, (0, 0, 60))], [], (786, [(2, -13)])),
  (27, [(0, (3, 0, 0)), (1, a32), (2, (2, 1, -1)), (1011, (1, 1, 0))], [], (775, [(2, -13)]))]
set_option maxRecDepth 100000 in
theorem k_81 : acheck aBl rI0 (ctU 81) c_81 an_81 [(18, 33)] 21 = true := by decide +kernel
def an_82 : List (Nat × aAn) := [(0, [(0, (3, 0, 0)), (1, a32), (2, a32)], [], (42, [])),
  (37, [(0, (3, 0, 0)), (1, a32), (2, a32)], [], (2, []))]
set_option maxRecDepth 100000 in
theorem k_82 : acheck aBl rI0 (ctU 82) c_82 an_82 [(2, 2), (10, 2), (52, 76), (73, 80), (77, 81)] 48 = true := by decide +kernel
def an_83 : List (Nat × aAn) := [(0, [(0, (3, 26, 0)), (1, (3, 25, 0)), (2, (3, 26, 0))], [], (30, [])),
  (31, [(0, (3, 26, 0)), (1, (3, 25, 0)), (2, (3, 26, 0)), (3, (0, 0, 1)), (1003, (4, 26, 0))], [], (15, [])),
  (60, [(0, (3, 26, 0)), (1, (3, 25, 0)), (2, (3, 26, 0)), (3, (0, 0, 2)), (1003, (4, 26, 0)), (1004, (4, 26, 0))], [], (2, []))]
set_option maxRecDepth 100000 in
theorem k_83 : acheck aBl rI0 (ctU 83) c_83 an_83 [] 32 = true := by decide +kernel
def an_84 : List (Nat × aAn) := [(0, [(0, (3, 0, 0)), (1, (3, 26, 0)), (2, (3, 26, 0))], [], (40, [])),
  (20, [(0, (3, 0, 0)), (1, (3, 26, 0)), (2, (3, 26, 0))], [], (2, [])),
  (74, [(0, (3, 0, 0)), (1, (3, 26, 0)), (2, (3, 26, 0)), (3, (0, 0, 4)), (4, (0, 0, 4))], [((0, 0, 1), 0, a32)], (1, []))]
set_option maxRecDepth 100000 in
theorem k_84 : acheck aBl rI0 (ctU 84) c_84 an_84 [(14, 76), (28, 83), (37, 83), (48, 83), (57, 83)] 45 = true := by decide +kernel
def an_85 : List (Nat × aAn) := [(0, [(0, (3, 0, 0))], [], (62048, [])),
  (2, [(0, (3, 0, 0)), (1, (0, 0, 60))], [], (62046, [(1, -1034)])),
  (14, [(0, (3, 0, 0)), (1, (2, 1, -1)), (2, (2, 1, 0)), (1011, (1, 1, 0))], [], (62038, [(2, -17), (1, -1034)]))]
set_option maxRecDepth 100000 in
theorem k_85 : acheck aBl rI0 (ctU 85) c_85 an_85 [(35, 84), (53, 80)] 44 = true := by decide +kernel
def an_86 : List (Nat × aAn) := [(0, [(0, (3, 0, 0))], [], (487, [])),
  (2, [(0, (3, 0, 0)), (1, (0, 0, 60))], [], (485, [(1, -8)])),
  (21, [(0, (3, 0, 0)), (1, (0, 0, 60))], [], (2, []))]
set_option maxRecDepth 100000 in
theorem k_86 : acheck aBl rI0 (ctU 86) c_86 an_86 [(9, 85)] 14 = true := by decide +kernel
def an_87 : List (Nat × aAn) := [(0, [(0, (3, 0, 0))], [], (178, [])),
  (4, [(0, (3, 0, 0)), (1, a32), (2, (0, 0, 12))], [], (174, [(2, -14)]))]
set_option maxRecDepth 100000 in
theorem k_87 : acheck aBl rI0 (ctU 87) c_87 an_87 [] 22 = true := by decide +kernel
def an_88 : List (Nat × aAn) := [(0, [(0, (3, 0, 0)), (1, a32)], [], (6, []))]
set_option maxRecDepth 100000 in
theorem k_88 : acheck aBl rI0 (ctU 88) c_88 an_88 [(85, 81), (90, 87)] 32 = true := by decide +kernel
def an_89 : List (Nat × aAn) := [(0, [(0, (3, 0, 0)), (1, a32), (2, a32)], [], (22, [])),
  (20, [(0, (3, 0, 0)), (1, a32), (2, a32)], [], (2, []))]
set_option maxRecDepth 100000 in
theorem k_89 : acheck aBl rI0 (ctU 89) c_89 an_89 [(4, 9), (14, 1)] 26 = true := by decide +kernel
def an_90 : List (Nat × aAn) := [(0, [(0, (3, 30, 0)), (1, (0, 1, 1))], [], (1970, [])),
  (46, [(0, (3, 30, 0)), (1, (0, 1, 1)), (2, (0, 0, 60)), (1000, (1, 12, 0))], [], (1938, [(2, -32)])),
  (103, [(0, (3, 30, 0)), (1, (0, 1, 1))], [], (1, []))]
set_option maxRecDepth 100000 in
theorem k_90 : acheck aBl rI0 (ctU 90) ((120, [(3, 30, 0), (0, 1, 1)], [], none, [51, 52, 53])) an_90 [] 76 = true := by decide +kernel
def an_91 : List (Nat × aAn) := [(0, [(0, (3, 30, 0)), (1, (2, 11, -1))], [], (12, []))]
set_option maxRecDepth 100000 in
theorem k_91 : acheck aBl rI0 (ctU 91) c_91 an_91 [] 14 = true := by decide +kernel
def an_92 : List (Nat × aAn) := [(0, [(0, (3, 30, 0)), (1, a32)], [], (108, [])),
  (33, [(0, (3, 30, 0)), (1, (2, 11, -1)), (2, (0, 0, 19))], [((0, 2, 7), 0, a32)], (92, [])),
  (82, [(0, (3, 30, 0)), (1, (2, 11, -1)), (2, (0, 0, 19)), (3, (0, 2, 7))], [], (2, [])),
  (85, [(0, (3, 30, 0)), (1, (2, 11, -1)), (2, (0, 0, 19)), (3, (0, 2, 7))], [], (64, [])),
  (171, [(0, (3, 30, 0)), (1, (2, 11, -1)), (2, (0, 0, 19)), (3, (0, 2, 7))], [((0, -4, 17), 0, a32), ((2, 11, -1), 3, (0, 0, 0)), ((3, 48, 0), 2039, (0, 0, 0))], (11, []))]
set_option maxRecDepth 100000 in
theorem k_92 : acheck aBl rI0 (ctU 92) c_92 an_92 [(2, 12), (20, 91), (61, 91), (70, 91)] 118 = true := by decide +kernel
def an_93 : List (Nat × aAn) := [(0, [(0, (3, 30, 0)), (1, (2, 11, -1))], [], (43, [])),
  (36, [(0, (3, 30, 0)), (1, (2, 11, -1))], [(a32, 0, a32), ((0, 2, 2), 0, a32), (a32, 0, a32)], (20, [])),
  (65, [(0, (3, 30, 0)), (1, (2, 11, -1)), (2, a32)], [((0, 0, 2147483647), 0, a32)], (1, []))]
set_option maxRecDepth 100000 in
theorem k_93 : acheck aBl rI0 (ctU 93) c_93 an_93 [] 47 = true := by decide +kernel
def an_94 : List (Nat × aAn) := [(0, [(0, (3, 30, 0)), (1, a32)], [], (71, [])),
  (35, [(0, (3, 30, 0)), (1, (2, 11, -1))], [], (2, []))]
set_option maxRecDepth 100000 in
theorem k_94 : acheck aBl rI0 (ctU 94) c_94 an_94 [(2, 12), (40, 93)] 77 = true := by decide +kernel
def an_95 : List (Nat × aAn) := [(0, [(0, (3, 30, 0)), (1, (0, 0, 0))], [], (1970, [])),
  (46, [(0, (3, 30, 0)), (1, (0, 0, 0)), (2, (0, 0, 60)), (1000, (1, 12, 0))], [], (1938, [(2, -32)])),
  (103, [(0, (3, 30, 0)), (1, (0, 0, 0))], [], (1, []))]
set_option maxRecDepth 100000 in
theorem k_95 : acheck aBl rI0 (ctU 95) ((120, [(3, 30, 0), (0, 0, 0)], [], none, [51, 52, 53])) an_95 [] 76 = true := by decide +kernel
def an_96 : List (Nat × aAn) := [(0, [(0, (3, 30, 0)), (1, a32)], [], (1030, [])),
  (4, [(0, (3, 30, 0)), (1, a32), (2, a32), (3, (0, 0, 60))], [], (1026, [(3, -17)])),
  (28, [(0, (3, 30, 0)), (1, a32), (2, a32), (3, (2, 11, -1)), (1021, (1, 11, 0))], [((0, 0, 1), 0, a32), (a32, 5, (0, 0, 0))], (1013, [(3, -17)]))]
set_option maxRecDepth 100000 in
theorem k_96 : acheck aBl rI0 (ctU 96) c_96 an_96 [] 26 = true := by decide +kernel
