set_option maxHeartbeats 4000000 in
set_option maxRecDepth 100000 in
theorem g_0 (xs : Nat → Int32) (hk : xs 0 &&& 31 = 0) (hb : mBoth 58 128 [.int (xs 1), .int (xs 2)]) : mE (mcall 12) (some (4, xs)) 4 (mgd mLlaw mtL_law) 1000000 (18, [(3, .int 0), (2, .ref 47), (1, .ref 0), (0, .retAddr 1)], [], mh0) (fun r h' => r = some (.int 1) ∧ h'.1.length ≤ 600000 ∧ h'.2 ≤ 7302250) := by
  refine mE_ildn 19 rfl rfl rfl rfl ?_
  refine mE_aldn 20 rfl rfl rfl rfl ?_
  refine mE_lsc 21 4 rfl rfl rfl rfl ?_
  refine mE_ico 22 4 rfl rfl rfl ?_
  refine mE_isub 23 0 rfl rfl rfl ?_
  refine mE_ic_gt_f 26 rfl (by decide) rfl ?_
  refine mE_aldn 27 rfl rfl rfl rfl ?_
  refine mE_ildn 28 rfl rfl rfl rfl ?_
  refine mE_isc 29 (xs 0) rfl rfl (show ¬ ((0 : Int32) < 0 ∨ 4 ≤ (0 : Int32).toNatClampNeg) by decide) rfl rfl ?_
  refine mE_bip 31 31 rfl rfl rfl ?_
  refine mE_iand 32 0 rfl hk rfl ?_
  refine mE_tsw 140 rfl (by decide) rfl (by decide) rfl ?_
  obtain ⟨v, h1, h2, fs, e1, e0, e2, s1, s2⟩ := hb
  refine mE_aldn 141 rfl rfl rfl rfl ?_
  refine mE_aldn 142 rfl rfl rfl rfl ?_
  refine mE_ildn 143 rfl rfl rfl rfl ?_
  refine mE_ico 144 1 rfl rfl rfl ?_
  refine mE_iadd 145 1 rfl rfl rfl ?_
  refine mE_isc 146 (xs 1) rfl rfl (show ¬ ((1 : Int32) < 0 ∨ 4 ≤ (1 : Int32).toNatClampNeg) by decide) rfl rfl ?_
  refine mE_aldn 147 rfl rfl rfl rfl ?_
  refine mE_ildn 148 rfl rfl rfl rfl ?_
  refine mE_ico 149 2 rfl rfl rfl ?_
  refine mE_iadd 150 2 rfl rfl rfl ?_
  refine mE_isc 151 (xs 2) rfl rfl (show ¬ ((2 : Int32) < 0 ∨ 4 ≤ (2 : Int32).toNatClampNeg) by decide) rfl rfl ?_
  refine mE_cv [.int (xs 1), .int (xs 2)] [] rfl rfl rfl rfl rfl rfl ?_
  refine ⟨_, _, e1, ?_⟩
  refine mE_aldn 155 rfl rfl rfl rfl ?_
  refine mE_aldn 156 rfl rfl rfl rfl ?_
  refine mE_ildn 157 rfl rfl rfl rfl ?_
  refine mE_ico 158 1 rfl rfl rfl ?_
  refine mE_iadd 159 1 rfl rfl rfl ?_
  refine mE_isc 160 (xs 1) rfl rfl (show ¬ ((1 : Int32) < 0 ∨ 4 ≤ (1 : Int32).toNatClampNeg) by decide) rfl rfl ?_
  refine mE_aldn 161 rfl rfl rfl rfl ?_
  refine mE_ildn 162 rfl rfl rfl rfl ?_
  refine mE_ico 163 2 rfl rfl rfl ?_
  refine mE_iadd 164 2 rfl rfl rfl ?_
  refine mE_isc 165 (xs 2) rfl rfl (show ¬ ((2 : Int32) < 0 ∨ 4 ≤ (2 : Int32).toNatClampNeg) by decide) rfl rfl ?_
  refine mE_cv [.int (xs 1), .int (xs 2)] [.int v] rfl rfl rfl rfl e0 rfl ?_
  refine ⟨_, _, e2, ?_⟩
  refine mE_ic_eq_t 789 rfl rfl rfl ?_
  refine mE_iinc 792 4 [(3, .int 4), (2, .ref 47), (1, .ref 0), (0, .retAddr 1)] rfl rfl rfl rfl rfl rfl ?_
  refine mE_goto 18 rfl rfl ?_
  refine mE_ildn 19 rfl rfl rfl rfl ?_
  refine mE_aldn 20 rfl rfl rfl rfl ?_
  refine mE_lsc 21 4 rfl rfl rfl rfl ?_
  refine mE_ico 22 4 rfl rfl rfl ?_
  refine mE_isub 23 0 rfl rfl rfl ?_
  refine mE_ic_gt_t 795 rfl (by decide) rfl ?_
  refine mE_ico 796 1 rfl rfl rfl ?_
  exact mE_iret rfl ⟨rfl, s1, s2⟩
set_option maxHeartbeats 4000000 in
set_option maxRecDepth 100000 in
theorem g_1 (xs : Nat → Int32) (hk : xs 0 &&& 31 = 1) (hb : mBoth 59 129 [.int (xs 1), .int (xs 2), .int (xs 3)]) : mE (mcall 12) (some (4, xs)) 4 (mgd mLlaw mtL_law) 1000000 (18, [(3, .int 0), (2, .ref 47), (1, .ref 0), (0, .retAddr 1)], [], mh0) (fun r h' => r = some (.int 1) ∧ h'.1.length ≤ 600000 ∧ h'.2 ≤ 7302250) := by
  refine mE_ildn 19 rfl rfl rfl rfl ?_
  refine mE_aldn 20 rfl rfl rfl rfl ?_
  refine mE_lsc 21 4 rfl rfl rfl rfl ?_
  refine mE_ico 22 4 rfl rfl rfl ?_
  refine mE_isub 23 0 rfl rfl rfl ?_
  refine mE_ic_gt_f 26 rfl (by decide) rfl ?_
  refine mE_aldn 27 rfl rfl rfl rfl ?_
  refine mE_ildn 28 rfl rfl rfl rfl ?_
  refine mE_isc 29 (xs 0) rfl rfl (show ¬ ((0 : Int32) < 0 ∨ 4 ≤ (0 : Int32).toNatClampNeg) by decide) rfl rfl ?_
  refine mE_bip 31 31 rfl rfl rfl ?_
  refine mE_iand 32 1 rfl hk rfl ?_
  refine mE_tsw 173 rfl (by decide) rfl (by decide) rfl ?_
  obtain ⟨v, h1, h2, fs, e1, e0, e2, s1, s2⟩ := hb
  refine mE_aldn 174 rfl rfl rfl rfl ?_
  refine mE_aldn 175 rfl rfl rfl rfl ?_
  refine mE_ildn 176 rfl rfl rfl rfl ?_
  refine mE_ico 177 1 rfl rfl rfl ?_
  refine mE_iadd 178 1 rfl rfl rfl ?_
  refine mE_isc 179 (xs 1) rfl rfl (show ¬ ((1 : Int32) < 0 ∨ 4 ≤ (1 : Int32).toNatClampNeg) by decide) rfl rfl ?_
  refine mE_aldn 180 rfl rfl rfl rfl ?_
  refine mE_ildn 181 rfl rfl rfl rfl ?_
  refine mE_ico 182 2 rfl rfl rfl ?_
  refine mE_iadd 183 2 rfl rfl rfl ?_
  refine mE_isc 184 (xs 2) rfl rfl (show ¬ ((2 : Int32) < 0 ∨ 4 ≤ (2 : Int32).toNatClampNeg) by decide) rfl rfl ?_
  refine mE_aldn 185 rfl rfl rfl rfl ?_
  refine mE_ildn 186 rfl rfl rfl rfl ?_
  refine mE_ico 187 3 rfl rfl rfl ?_
  refine mE_iadd 188 3 rfl rfl rfl ?_
  refine mE_isc 189 (xs 3) rfl rfl (show ¬ ((3 : Int32) < 0 ∨ 4 ≤ (3 : Int32).toNatClampNeg) by decide) rfl rfl ?_
  refine mE_cv [.int (xs 1), .int (xs 2), .int (xs 3)] [] rfl rfl rfl rfl rfl rfl ?_
  refine ⟨_, _, e1, ?_⟩
  refine mE_aldn 193 rfl rfl rfl rfl ?_
  refine mE_aldn 194 rfl rfl rfl rfl ?_
  refine mE_ildn 195 rfl rfl rfl rfl ?_
  refine mE_ico 196 1 rfl rfl rfl ?_
  refine mE_iadd 197 1 rfl rfl rfl ?_
  refine mE_isc 198 (xs 1) rfl rfl (show ¬ ((1 : Int32) < 0 ∨ 4 ≤ (1 : Int32).toNatClampNeg) by decide) rfl rfl ?_
  refine mE_aldn 199 rfl rfl rfl rfl ?_
  refine mE_ildn 200 rfl rfl rfl rfl ?_
  refine mE_ico 201 2 rfl rfl rfl ?_
  refine mE_iadd 202 2 rfl rfl rfl ?_
  refine mE_isc 203 (xs 2) rfl rfl (show ¬ ((2 : Int32) < 0 ∨ 4 ≤ (2 : Int32).toNatClampNeg) by decide) rfl rfl ?_
  refine mE_aldn 204 rfl rfl rfl rfl ?_
  refine mE_ildn 205 rfl rfl rfl rfl ?_
  refine mE_ico 206 3 rfl rfl rfl ?_
  refine mE_iadd 207 3 rfl rfl rfl ?_
  refine mE_isc 208 (xs 3) rfl rfl (show ¬ ((3 : Int32) < 0 ∨ 4 ≤ (3 : Int32).toNatClampNeg) by decide) rfl rfl ?_
  refine mE_cv [.int (xs 1), .int (xs 2), .int (xs 3)] [.int v] rfl rfl rfl rfl e0 rfl ?_
  refine ⟨_, _, e2, ?_⟩
  refine mE_ic_eq_t 789 rfl rfl rfl ?_
  refine mE_iinc 792 4 [(3, .int 4), (2, .ref 47), (1, .ref 0), (0, .retAddr 1)] rfl rfl rfl rfl rfl rfl ?_
  refine mE_goto 18 rfl rfl ?_
  refine mE_ildn 19 rfl rfl rfl rfl ?_
  refine mE_aldn 20 rfl rfl rfl rfl ?_
  refine mE_lsc 21 4 rfl rfl rfl rfl ?_
  refine mE_ico 22 4 rfl rfl rfl ?_
  refine mE_isub 23 0 rfl rfl rfl ?_
  refine mE_ic_gt_t 795 rfl (by decide) rfl ?_
  refine mE_ico 796 1 rfl rfl rfl ?_
  exact mE_iret rfl ⟨rfl, s1, s2⟩
set_option maxHeartbeats 4000000 in
set_option maxRecDepth 100000 in
theorem g_2 (xs : Nat → Int32) (hk : xs 0 &&& 31 = 2) (hb : mBoth 60 130 [.int (xs 1), .int (xs 2)]) : mE (mcall 12) (some (4, xs)) 4 (mgd mLlaw mtL_law) 1000000 (18, [(3, .int 0), (2, .ref 47), (1, .ref 0), (0, .retAddr 1)], [], mh0) (fun r h' => r = some (.int 1) ∧ h'.1.length ≤ 600000 ∧ h'.2 ≤ 7302250) := by
  refine mE_ildn 19 rfl rfl rfl rfl ?_
  refine mE_aldn 20 rfl rfl rfl rfl ?_
  refine mE_lsc 21 4 rfl rfl rfl rfl ?_
  refine mE_ico 22 4 rfl rfl rfl ?_
  refine mE_isub 23 0 rfl rfl rfl ?_
  refine mE_ic_gt_f 26 rfl (by decide) rfl ?_
  refine mE_aldn 27 rfl rfl rfl rfl ?_
  refine mE_ildn 28 rfl rfl rfl rfl ?_
  refine mE_isc 29 (xs 0) rfl rfl (show ¬ ((0 : Int32) < 0 ∨ 4 ≤ (0 : Int32).toNatClampNeg) by decide) rfl rfl ?_
  refine mE_bip 31 31 rfl rfl rfl ?_
  refine mE_iand 32 2 rfl hk rfl ?_
  refine mE_tsw 216 rfl (by decide) rfl (by decide) rfl ?_
  obtain ⟨v, h1, h2, fs, e1, e0, e2, s1, s2⟩ := hb
  refine mE_aldn 217 rfl rfl rfl rfl ?_
  refine mE_aldn 218 rfl rfl rfl rfl ?_
  refine mE_ildn 219 rfl rfl rfl rfl ?_
  refine mE_ico 220 1 rfl rfl rfl ?_
  refine mE_iadd 221 1 rfl rfl rfl ?_
  refine mE_isc 222 (xs 1) rfl rfl (show ¬ ((1 : Int32) < 0 ∨ 4 ≤ (1 : Int32).toNatClampNeg) by decide) rfl rfl ?_
  refine mE_aldn 223 rfl rfl rfl rfl ?_
  refine mE_ildn 224 rfl rfl rfl rfl ?_
  refine mE_ico 225 2 rfl rfl rfl ?_
  refine mE_iadd 226 2 rfl rfl rfl ?_
  refine mE_isc 227 (xs 2) rfl rfl (show ¬ ((2 : Int32) < 0 ∨ 4 ≤ (2 : Int32).toNatClampNeg) by decide) rfl rfl ?_
  refine mE_cv [.int (xs 1), .int (xs 2)] [] rfl rfl rfl rfl rfl rfl ?_
  refine ⟨_, _, e1, ?_⟩
  refine mE_aldn 231 rfl rfl rfl rfl ?_
  refine mE_aldn 232 rfl rfl rfl rfl ?_
  refine mE_ildn 233 rfl rfl rfl rfl ?_
  refine mE_ico 234 1 rfl rfl rfl ?_
  refine mE_iadd 235 1 rfl rfl rfl ?_
  refine mE_isc 236 (xs 1) rfl rfl (show ¬ ((1 : Int32) < 0 ∨ 4 ≤ (1 : Int32).toNatClampNeg) by decide) rfl rfl ?_
  refine mE_aldn 237 rfl rfl rfl rfl ?_
  refine mE_ildn 238 rfl rfl rfl rfl ?_
  refine mE_ico 239 2 rfl rfl rfl ?_
  refine mE_iadd 240 2 rfl rfl rfl ?_
  refine mE_isc 241 (xs 2) rfl rfl (show ¬ ((2 : Int32) < 0 ∨ 4 ≤ (2 : Int32).toNatClampNeg) by decide) rfl rfl ?_
  refine mE_cv [.int (xs 1), .int (xs 2)] [.int v] rfl rfl rfl rfl e0 rfl ?_
  refine ⟨_, _, e2, ?_⟩
  refine mE_ic_eq_t 789 rfl rfl rfl ?_
  refine mE_iinc 792 4 [(3, .int 4), (2, .ref 47), (1, .ref 0), (0, .retAddr 1)] rfl rfl rfl rfl rfl rfl ?_
  refine mE_goto 18 rfl rfl ?_
  refine mE_ildn 19 rfl rfl rfl rfl ?_
  refine mE_aldn 20 rfl rfl rfl rfl ?_
  refine mE_lsc 21 4 rfl rfl rfl rfl ?_
  refine mE_ico 22 4 rfl rfl rfl ?_
  refine mE_isub 23 0 rfl rfl rfl ?_
  refine mE_ic_gt_t 795 rfl (by decide) rfl ?_
  refine mE_ico 796 1 rfl rfl rfl ?_
  exact mE_iret rfl ⟨rfl, s1, s2⟩
set_option maxHeartbeats 4000000 in
set_option maxRecDepth 100000 in
theorem g_3 (xs : Nat → Int32) (hk : xs 0 &&& 31 = 3) (hb : mBoth 61 131 [.int (xs 1), .int (xs 2)]) : mE (mcall 12) (some (4, xs)) 4 (mgd mLlaw mtL_law) 1000000 (18, [(3, .int 0), (2, .ref 47), (1, .ref 0), (0, .retAddr 1)], [], mh0) (fun r h' => r = some (.int 1) ∧ h'.1.length ≤ 600000 ∧ h'.2 ≤ 7302250) := by
  refine mE_ildn 19 rfl rfl rfl rfl ?_
  refine mE_aldn 20 rfl rfl rfl rfl ?_
  refine mE_lsc 21 4 rfl rfl rfl rfl ?_
  refine mE_ico 22 4 rfl rfl rfl ?_
  refine mE_isub 23 0 rfl rfl rfl ?_
  refine mE_ic_gt_f 26 rfl (by decide) rfl ?_
  refine mE_aldn 27 rfl rfl rfl rfl ?_
  refine mE_ildn 28 rfl rfl rfl rfl ?_
  refine mE_isc 29 (xs 0) rfl rfl (show ¬ ((0 : Int32) < 0 ∨ 4 ≤ (0 : Int32).toNatClampNeg) by decide) rfl rfl ?_
  refine mE_bip 31 31 rfl rfl rfl ?_
  refine mE_iand 32 3 rfl hk rfl ?_
  refine mE_tsw 249 rfl (by decide) rfl (by decide) rfl ?_
  obtain ⟨v, h1, h2, fs, e1, e0, e2, s1, s2⟩ := hb
  refine mE_aldn 250 rfl rfl rfl rfl ?_
  refine mE_aldn 251 rfl rfl rfl rfl ?_
  refine mE_ildn 252 rfl rfl rfl rfl ?_
  refine mE_ico 253 1 rfl rfl rfl ?_
  refine mE_iadd 254 1 rfl rfl rfl ?_
  refine mE_isc 255 (xs 1) rfl rfl (show ¬ ((1 : Int32) < 0 ∨ 4 ≤ (1 : Int32).toNatClampNeg) by decide) rfl rfl ?_
  refine mE_aldn 256 rfl rfl rfl rfl ?_
  refine mE_ildn 257 rfl rfl rfl rfl ?_
  refine mE_ico 258 2 rfl rfl rfl ?_
  refine mE_iadd 259 2 rfl rfl rfl ?_
  refine mE_isc 260 (xs 2) rfl rfl (show ¬ ((2 : Int32) < 0 ∨ 4 ≤ (2 : Int32).toNatClampNeg) by decide) rfl rfl ?_
  refine mE_cv [.int (xs 1), .int (xs 2)] [] rfl rfl rfl rfl rfl rfl ?_
  refine ⟨_, _, e1, ?_⟩
  refine mE_aldn 264 rfl rfl rfl rfl ?_
  refine mE_aldn 265 rfl rfl rfl rfl ?_
  refine mE_ildn 266 rfl rfl rfl rfl ?_
  refine mE_ico 267 1 rfl rfl rfl ?_
  refine mE_iadd 268 1 rfl rfl rfl ?_
  refine mE_isc 269 (xs 1) rfl rfl (show ¬ ((1 : Int32) < 0 ∨ 4 ≤ (1 : Int32).toNatClampNeg) by decide) rfl rfl ?_
  refine mE_aldn 270 rfl rfl rfl rfl ?_
  refine mE_ildn 271 rfl rfl rfl rfl ?_
  refine mE_ico 272 2 rfl rfl rfl ?_
  refine mE_iadd 273 2 rfl rfl rfl ?_
  refine mE_isc 274 (xs 2) rfl rfl (show ¬ ((2 : Int32) < 0 ∨ 4 ≤ (2 : Int32).toNatClampNeg) by decide) rfl rfl ?_
  refine mE_cv [.int (xs 1), .int (xs 2)] [.int v] rfl rfl rfl rfl e0 rfl ?_
  refine ⟨_, _, e2, ?_⟩
  refine mE_ic_eq_t 789 rfl rfl rfl ?_
  refine mE_iinc 792 4 [(3, .int 4), (2, .ref 47), (1, .ref 0), (0, .retAddr 1)] rfl rfl rfl rfl rfl rfl ?_
  refine mE_goto 18 rfl rfl ?_
  refine mE_ildn 19 rfl rfl rfl rfl ?_
  refine mE_aldn 20 rfl rfl rfl rfl ?_
  refine mE_lsc 21 4 rfl rfl rfl rfl ?_
  refine mE_ico 22 4 rfl rfl rfl ?_
  refine mE_isub 23 0 rfl rfl rfl ?_
  refine mE_ic_gt_t 795 rfl (by decide) rfl ?_
  refine mE_ico 796 1 rfl rfl rfl ?_
  exact mE_iret rfl ⟨rfl, s1, s2⟩
set_option maxHeartbeats 4000000 in
set_option maxRecDepth 100000 in
theorem g_4 (xs : Nat → Int32) (hk : xs 0 &&& 31 = 4) (hb : mBoth 62 133 [.int (xs 1)]) : mE (mcall 12) (some (4, xs)) 4 (mgd mLlaw mtL_law) 1000000 (18, [(3, .int 0), (2, .ref 47), (1, .ref 0), (0, .retAddr 1)], [], mh0) (fun r h' => r = some (.int 1) ∧ h'.1.length ≤ 600000 ∧ h'.2 ≤ 7302250) := by
  refine mE_ildn 19 rfl rfl rfl rfl ?_
  refine mE_aldn 20 rfl rfl rfl rfl ?_
  refine mE_lsc 21 4 rfl rfl rfl rfl ?_
  refine mE_ico 22 4 rfl rfl rfl ?_
  refine mE_isub 23 0 rfl rfl rfl ?_
  refine mE_ic_gt_f 26 rfl (by decide) rfl ?_
  refine mE_aldn 27 rfl rfl rfl rfl ?_
  refine mE_ildn 28 rfl rfl rfl rfl ?_
  refine mE_isc 29 (xs 0) rfl rfl (show ¬ ((0 : Int32) < 0 ∨ 4 ≤ (0 : Int32).toNatClampNeg) by decide) rfl rfl ?_
  refine mE_bip 31 31 rfl rfl rfl ?_
  refine mE_iand 32 4 rfl hk rfl ?_
  refine mE_tsw 282 rfl (by decide) rfl (by decide) rfl ?_
  obtain ⟨v, h1, h2, fs, e1, e0, e2, s1, s2⟩ := hb
  refine mE_aldn 283 rfl rfl rfl rfl ?_
  refine mE_aldn 284 rfl rfl rfl rfl ?_
  refine mE_ildn 285 rfl rfl rfl rfl ?_
  refine mE_ico 286 1 rfl rfl rfl ?_
  refine mE_iadd 287 1 rfl rfl rfl ?_
  refine mE_isc 288 (xs 1) rfl rfl (show ¬ ((1 : Int32) < 0 ∨ 4 ≤ (1 : Int32).toNatClampNeg) by decide) rfl rfl ?_
  refine mE_cv [.int (xs 1)] [] rfl rfl rfl rfl rfl rfl ?_
  refine ⟨_, _, e1, ?_⟩
  refine mE_aldn 292 rfl rfl rfl rfl ?_
  refine mE_aldn 293 rfl rfl rfl rfl ?_
  refine mE_ildn 294 rfl rfl rfl rfl ?_
  refine mE_ico 295 1 rfl rfl rfl ?_
  refine mE_iadd 296 1 rfl rfl rfl ?_
  refine mE_isc 297 (xs 1) rfl rfl (show ¬ ((1 : Int32) < 0 ∨ 4 ≤ (1 : Int32).toNatClampNeg) by decide) rfl rfl ?_
  refine mE_cv [.int (xs 1)] [.int v] rfl rfl rfl rfl e0 rfl ?_
  refine ⟨_, _, e2, ?_⟩
  refine mE_ic_eq_t 789 rfl rfl rfl ?_
  refine mE_iinc 792 4 [(3, .int 4), (2, .ref 47), (1, .ref 0), (0, .retAddr 1)] rfl rfl rfl rfl rfl rfl ?_
  refine mE_goto 18 rfl rfl ?_
  refine mE_ildn 19 rfl rfl rfl rfl ?_
  refine mE_aldn 20 rfl rfl rfl rfl ?_
  refine mE_lsc 21 4 rfl rfl rfl rfl ?_
  refine mE_ico 22 4 rfl rfl rfl ?_
  refine mE_isub 23 0 rfl rfl rfl ?_
  refine mE_ic_gt_t 795 rfl (by decide) rfl ?_
  refine mE_ico 796 1 rfl rfl rfl ?_
  exact mE_iret rfl ⟨rfl, s1, s2⟩
set_option maxHeartbeats 4000000 in
set_option maxRecDepth 100000 in
theorem g_5 (xs : Nat → Int32) (hk : xs 0 &&& 31 = 5) (hb : mBoth 63 135 [.int (xs 1)]) : mE (mcall 12) (some (4, xs)) 4 (mgd mLlaw mtL_law) 1000000 (18, [(3, .int 0), (2, .ref 47), (1, .ref 0), (0, .retAddr 1)], [], mh0) (fun r h' => r = some (.int 1) ∧ h'.1.length ≤ 600000 ∧ h'.2 ≤ 7302250) := by
  refine mE_ildn 19 rfl rfl rfl rfl ?_
  refine mE_aldn 20 rfl rfl rfl rfl ?_
  refine mE_lsc 21 4 rfl rfl rfl rfl ?_
  refine mE_ico 22 4 rfl rfl rfl ?_
  refine mE_isub 23 0 rfl rfl rfl ?_
  refine mE_ic_gt_f 26 rfl (by decide) rfl ?_
  refine mE_aldn 27 rfl rfl rfl rfl ?_
  refine mE_ildn 28 rfl rfl rfl rfl ?_
  refine mE_isc 29 (xs 0) rfl rfl (show ¬ ((0 : Int32) < 0 ∨ 4 ≤ (0 : Int32).toNatClampNeg) by decide) rfl rfl ?_
  refine mE_bip 31 31 rfl rfl rfl ?_
  refine mE_iand 32 5 rfl hk rfl ?_
  refine mE_tsw 305 rfl (by decide) rfl (by decide) rfl ?_
  obtain ⟨v, h1, h2, fs, e1, e0, e2, s1, s2⟩ := hb
  refine mE_aldn 306 rfl rfl rfl rfl ?_
  refine mE_aldn 307 rfl rfl rfl rfl ?_
  refine mE_ildn 308 rfl rfl rfl rfl ?_
  refine mE_ico 309 1 rfl rfl rfl ?_
  refine mE_iadd 310 1 rfl rfl rfl ?_
  refine mE_isc 311 (xs 1) rfl rfl (show ¬ ((1 : Int32) < 0 ∨ 4 ≤ (1 : Int32).toNatClampNeg) by decide) rfl rfl ?_
  refine mE_cv [.int (xs 1)] [] rfl rfl rfl rfl rfl rfl ?_
  refine ⟨_, _, e1, ?_⟩
  refine mE_aldn 315 rfl rfl rfl rfl ?_
  refine mE_aldn 316 rfl rfl rfl rfl ?_
  refine mE_ildn 317 rfl rfl rfl rfl ?_
  refine mE_ico 318 1 rfl rfl rfl ?_
  refine mE_iadd 319 1 rfl rfl rfl ?_
  refine mE_isc 320 (xs 1) rfl rfl (show ¬ ((1 : Int32) < 0 ∨ 4 ≤ (1 : Int32).toNatClampNeg) by decide) rfl rfl ?_
  refine mE_cv [.int (xs 1)] [.int v] rfl rfl rfl rfl e0 rfl ?_
  refine ⟨_, _, e2, ?_⟩
  refine mE_ic_eq_t 789 rfl rfl rfl ?_
  refine mE_iinc 792 4 [(3, .int 4), (2, .ref 47), (1, .ref 0), (0, .retAddr 1)] rfl rfl rfl rfl rfl rfl ?_
  refine mE_goto 18 rfl rfl ?_
  refine mE_ildn 19 rfl rfl rfl rfl ?_
  refine mE_aldn 20 rfl rfl rfl rfl ?_
  refine mE_lsc 21 4 rfl rfl rfl rfl ?_
  refine mE_ico 22 4 rfl rfl rfl ?_
  refine mE_isub 23 0 rfl rfl rfl ?_
  refine mE_ic_gt_t 795 rfl (by decide) rfl ?_
  refine mE_ico 796 1 rfl rfl rfl ?_
  exact mE_iret rfl ⟨rfl, s1, s2⟩
set_option maxHeartbeats 4000000 in
set_option maxRecDepth 100000 in
theorem g_6 (xs : Nat → Int32) (hk : xs 0 &&& 31 = 6) (hb : mBoth 64 141 [.int (xs 1)]) : mE (mcall 12) (some (4, xs)) 4 (mgd mLlaw mtL_law) 1000000 (18, [(3, .int 0), (2, .ref 47), (1, .ref 0), (0, .retAddr 1)], [], mh0) (fun r h' => r = some (.int 1) ∧ h'.1.length ≤ 600000 ∧ h'.2 ≤ 7302250) := by
  refine mE_ildn 19 rfl rfl rfl rfl ?_
  refine mE_aldn 20 rfl rfl rfl rfl ?_
  refine mE_lsc 21 4 rfl rfl rfl rfl ?_
  refine mE_ico 22 4 rfl rfl rfl ?_
  refine mE_isub 23 0 rfl rfl rfl ?_
  refine mE_ic_gt_f 26 rfl (by decide) rfl ?_
  refine mE_aldn 27 rfl rfl rfl rfl ?_
  refine mE_ildn 28 rfl rfl rfl rfl ?_
  refine mE_isc 29 (xs 0) rfl rfl (show ¬ ((0 : Int32) < 0 ∨ 4 ≤ (0 : Int32).toNatClampNeg) by decide) rfl rfl ?_
  refine mE_bip 31 31 rfl rfl rfl ?_
  refine mE_iand 32 6 rfl hk rfl ?_
  refine mE_tsw 328 rfl (by decide) rfl (by decide) rfl ?_
  obtain ⟨v, h1, h2, fs, e1, e0, e2, s1, s2⟩ := hb
  refine mE_aldn 329 rfl rfl rfl rfl ?_
  refine mE_aldn 330 rfl rfl rfl rfl ?_
  refine mE_ildn 331 rfl rfl rfl rfl ?_
  refine mE_ico 332 1 rfl rfl rfl ?_
  refine mE_iadd 333 1 rfl rfl rfl ?_
  refine mE_isc 334 (xs 1) rfl rfl (show ¬ ((1 : Int32) < 0 ∨ 4 ≤ (1 : Int32).toNatClampNeg) by decide) rfl rfl ?_
  refine mE_cv [.int (xs 1)] [] rfl rfl rfl rfl rfl rfl ?_
  refine ⟨_, _, e1, ?_⟩
  refine mE_aldn 338 rfl rfl rfl rfl ?_
  refine mE_aldn 339 rfl rfl rfl rfl ?_
  refine mE_ildn 340 rfl rfl rfl rfl ?_
  refine mE_ico 341 1 rfl rfl rfl ?_
  refine mE_iadd 342 1 rfl rfl rfl ?_
  refine mE_isc 343 (xs 1) rfl rfl (show ¬ ((1 : Int32) < 0 ∨ 4 ≤ (1 : Int32).toNatClampNeg) by decide) rfl rfl ?_
  refine mE_cv [.int (xs 1)] [.int v] rfl rfl rfl rfl e0 rfl ?_
  refine ⟨_, _, e2, ?_⟩
  refine mE_ic_eq_t 789 rfl rfl rfl ?_
  refine mE_iinc 792 4 [(3, .int 4), (2, .ref 47), (1, .ref 0), (0, .retAddr 1)] rfl rfl rfl rfl rfl rfl ?_
  refine mE_goto 18 rfl rfl ?_
  refine mE_ildn 19 rfl rfl rfl rfl ?_
  refine mE_aldn 20 rfl rfl rfl rfl ?_
  refine mE_lsc 21 4 rfl rfl rfl rfl ?_
  refine mE_ico 22 4 rfl rfl rfl ?_
  refine mE_isub 23 0 rfl rfl rfl ?_
  refine mE_ic_gt_t 795 rfl (by decide) rfl ?_
  refine mE_ico 796 1 rfl rfl rfl ?_
  exact mE_iret rfl ⟨rfl, s1, s2⟩
set_option maxHeartbeats 4000000 in
set_option maxRecDepth 100000 in
theorem g_7 (xs : Nat → Int32) (hk : xs 0 &&& 31 = 7) (hb : mBoth 65 142 [.int (xs 1), .int (xs 2)]) : mE (mcall 12) (some (4, xs)) 4 (mgd mLlaw mtL_law) 1000000 (18, [(3, .int 0), (2, .ref 47), (1, .ref 0), (0, .retAddr 1)], [], mh0) (fun r h' => r = some (.int 1) ∧ h'.1.length ≤ 600000 ∧ h'.2 ≤ 7302250) := by
  refine mE_ildn 19 rfl rfl rfl rfl ?_
  refine mE_aldn 20 rfl rfl rfl rfl ?_
  refine mE_lsc 21 4 rfl rfl rfl rfl ?_
  refine mE_ico 22 4 rfl rfl rfl ?_
  refine mE_isub 23 0 rfl rfl rfl ?_
  refine mE_ic_gt_f 26 rfl (by decide) rfl ?_
  refine mE_aldn 27 rfl rfl rfl rfl ?_
  refine mE_ildn 28 rfl rfl rfl rfl ?_
  refine mE_isc 29 (xs 0) rfl rfl (show ¬ ((0 : Int32) < 0 ∨ 4 ≤ (0 : Int32).toNatClampNeg) by decide) rfl rfl ?_
  refine mE_bip 31 31 rfl rfl rfl ?_
  refine mE_iand 32 7 rfl hk rfl ?_
  refine mE_tsw 351 rfl (by decide) rfl (by decide) rfl ?_
  obtain ⟨v, h1, h2, fs, e1, e0, e2, s1, s2⟩ := hb
  refine mE_aldn 352 rfl rfl rfl rfl ?_
  refine mE_aldn 353 rfl rfl rfl rfl ?_
  refine mE_ildn 354 rfl rfl rfl rfl ?_
  refine mE_ico 355 1 rfl rfl rfl ?_
  refine mE_iadd 356 1 rfl rfl rfl ?_
  refine mE_isc 357 (xs 1) rfl rfl (show ¬ ((1 : Int32) < 0 ∨ 4 ≤ (1 : Int32).toNatClampNeg) by decide) rfl rfl ?_
  refine mE_aldn 358 rfl rfl rfl rfl ?_
  refine mE_ildn 359 rfl rfl rfl rfl ?_
  refine mE_ico 360 2 rfl rfl rfl ?_
  refine mE_iadd 361 2 rfl rfl rfl ?_
  refine mE_isc 362 (xs 2) rfl rfl (show ¬ ((2 : Int32) < 0 ∨ 4 ≤ (2 : Int32).toNatClampNeg) by decide) rfl rfl ?_
  refine mE_cv [.int (xs 1), .int (xs 2)] [] rfl rfl rfl rfl rfl rfl ?_
  refine ⟨_, _, e1, ?_⟩
  refine mE_aldn 366 rfl rfl rfl rfl ?_
  refine mE_aldn 367 rfl rfl rfl rfl ?_
  refine mE_ildn 368 rfl rfl rfl rfl ?_
  refine mE_ico 369 1 rfl rfl rfl ?_
  refine mE_iadd 370 1 rfl rfl rfl ?_
  refine mE_isc 371 (xs 1) rfl rfl (show ¬ ((1 : Int32) < 0 ∨ 4 ≤ (1 : Int32).toNatClampNeg) by decide) rfl rfl ?_
  refine mE_aldn 372 rfl rfl rfl rfl ?_
  refine mE_ildn 373 rfl rfl rfl rfl ?_
  refine mE_ico 374 2 rfl rfl rfl ?_
  refine mE_iadd 375 2 rfl rfl rfl ?_
  refine mE_isc 376 (xs 2) rfl rfl (show ¬ ((2 : Int32) < 0 ∨ 4 ≤ (2 : Int32).toNatClampNeg) by decide) rfl rfl ?_
  refine mE_cv [.int (xs 1), .int (xs 2)] [.int v] rfl rfl rfl rfl e0 rfl ?_
  refine ⟨_, _, e2, ?_⟩
  refine mE_ic_eq_t 789 rfl rfl rfl ?_
  refine mE_iinc 792 4 [(3, .int 4), (2, .ref 47), (1, .ref 0), (0, .retAddr 1)] rfl rfl rfl rfl rfl rfl ?_
  refine mE_goto 18 rfl rfl ?_
  refine mE_ildn 19 rfl rfl rfl rfl ?_
  refine mE_aldn 20 rfl rfl rfl rfl ?_
  refine mE_lsc 21 4 rfl rfl rfl rfl ?_
  refine mE_ico 22 4 rfl rfl rfl ?_
  refine mE_isub 23 0 rfl rfl rfl ?_
  refine mE_ic_gt_t 795 rfl (by decide) rfl ?_
  refine mE_ico 796 1 rfl rfl rfl ?_
  exact mE_iret rfl ⟨rfl, s1, s2⟩
set_option maxHeartbeats 4000000 in
set_option maxRecDepth 100000 in
theorem g_8 (xs : Nat → Int32) (hk : xs 0 &&& 31 = 8) (hb : mBoth 66 146 [.int (xs 1), .int (xs 2)]) : mE (mcall 12) (some (4, xs)) 4 (mgd mLlaw mtL_law) 1000000 (18, [(3, .int 0), (2, .ref 47), (1, .ref 0), (0, .retAddr 1)], [], mh0) (fun r h' => r = some (.int 1) ∧ h'.1.length ≤ 600000 ∧ h'.2 ≤ 7302250) := by
  refine mE_ildn 19 rfl rfl rfl rfl ?_
  refine mE_aldn 20 rfl rfl rfl rfl ?_
  refine mE_lsc 21 4 rfl rfl rfl rfl ?_
  refine mE_ico 22 4 rfl rfl rfl ?_
  refine mE_isub 23 0 rfl rfl rfl ?_
  refine mE_ic_gt_f 26 rfl (by decide) rfl ?_
  refine mE_aldn 27 rfl rfl rfl rfl ?_
  refine mE_ildn 28 rfl rfl rfl rfl ?_
  refine mE_isc 29 (xs 0) rfl rfl (show ¬ ((0 : Int32) < 0 ∨ 4 ≤ (0 : Int32).toNatClampNeg) by decide) rfl rfl ?_
  refine mE_bip 31 31 rfl rfl rfl ?_
  refine mE_iand 32 8 rfl hk rfl ?_
  refine mE_tsw 384 rfl (by decide) rfl (by decide) rfl ?_
  obtain ⟨v, h1, h2, fs, e1, e0, e2, s1, s2⟩ := hb
  refine mE_aldn 385 rfl rfl rfl rfl ?_
  refine mE_aldn 386 rfl rfl rfl rfl ?_
  refine mE_ildn 387 rfl rfl rfl rfl ?_
  refine mE_ico 388 1 rfl rfl rfl ?_
  refine mE_iadd 389 1 rfl rfl rfl ?_
  refine mE_isc 390 (xs 1) rfl rfl (show ¬ ((1 : Int32) < 0 ∨ 4 ≤ (1 : Int32).toNatClampNeg) by decide) rfl rfl ?_
  refine mE_aldn 391 rfl rfl rfl rfl ?_
  refine mE_ildn 392 rfl rfl rfl rfl ?_
  refine mE_ico 393 2 rfl rfl rfl ?_
  refine mE_iadd 394 2 rfl rfl rfl ?_
  refine mE_isc 395 (xs 2) rfl rfl (show ¬ ((2 : Int32) < 0 ∨ 4 ≤ (2 : Int32).toNatClampNeg) by decide) rfl rfl ?_
  refine mE_cv [.int (xs 1), .int (xs 2)] [] rfl rfl rfl rfl rfl rfl ?_
  refine ⟨_, _, e1, ?_⟩
  refine mE_aldn 399 rfl rfl rfl rfl ?_
  refine mE_aldn 400 rfl rfl rfl rfl ?_
  refine mE_ildn 401 rfl rfl rfl rfl ?_
  refine mE_ico 402 1 rfl rfl rfl ?_
  refine mE_iadd 403 1 rfl rfl rfl ?_
  refine mE_isc 404 (xs 1) rfl rfl (show ¬ ((1 : Int32) < 0 ∨ 4 ≤ (1 : Int32).toNatClampNeg) by decide) rfl rfl ?_
  refine mE_aldn 405 rfl rfl rfl rfl ?_
  refine mE_ildn 406 rfl rfl rfl rfl ?_
  refine mE_ico 407 2 rfl rfl rfl ?_
  refine mE_iadd 408 2 rfl rfl rfl ?_
  refine mE_isc 409 (xs 2) rfl rfl (show ¬ ((2 : Int32) < 0 ∨ 4 ≤ (2 : Int32).toNatClampNeg) by decide) rfl rfl ?_
  refine mE_cv [.int (xs 1), .int (xs 2)] [.int v] rfl rfl rfl rfl e0 rfl ?_
  refine ⟨_, _, e2, ?_⟩
  refine mE_ic_eq_t 789 rfl rfl rfl ?_
  refine mE_iinc 792 4 [(3, .int 4), (2, .ref 47), (1, .ref 0), (0, .retAddr 1)] rfl rfl rfl rfl rfl rfl ?_
  refine mE_goto 18 rfl rfl ?_
  refine mE_ildn 19 rfl rfl rfl rfl ?_
  refine mE_aldn 20 rfl rfl rfl rfl ?_
  refine mE_lsc 21 4 rfl rfl rfl rfl ?_
  refine mE_ico 22 4 rfl rfl rfl ?_
  refine mE_isub 23 0 rfl rfl rfl ?_
  refine mE_ic_gt_t 795 rfl (by decide) rfl ?_
  refine mE_ico 796 1 rfl rfl rfl ?_
  exact mE_iret rfl ⟨rfl, s1, s2⟩
set_option maxHeartbeats 4000000 in
set_option maxRecDepth 100000 in
theorem g_9 (xs : Nat → Int32) (hk : xs 0 &&& 31 = 9) (hb : mBoth 67 147 [.int (xs 1)]) : mE (mcall 12) (some (4, xs)) 4 (mgd mLlaw mtL_law) 1000000 (18, [(3, .int 0), (2, .ref 47), (1, .ref 0), (0, .retAddr 1)], [], mh0) (fun r h' => r = some (.int 1) ∧ h'.1.length ≤ 600000 ∧ h'.2 ≤ 7302250) := by
  refine mE_ildn 19 rfl rfl rfl rfl ?_
  refine mE_aldn 20 rfl rfl rfl rfl ?_
  refine mE_lsc 21 4 rfl rfl rfl rfl ?_
  refine mE_ico 22 4 rfl rfl rfl ?_
  refine mE_isub 23 0 rfl rfl rfl ?_
  refine mE_ic_gt_f 26 rfl (by decide) rfl ?_
  refine mE_aldn 27 rfl rfl rfl rfl ?_
  refine mE_ildn 28 rfl rfl rfl rfl ?_
  refine mE_isc 29 (xs 0) rfl rfl (show ¬ ((0 : Int32) < 0 ∨ 4 ≤ (0 : Int32).toNatClampNeg) by decide) rfl rfl ?_
  refine mE_bip 31 31 rfl rfl rfl ?_
  refine mE_iand 32 9 rfl hk rfl ?_
  refine mE_tsw 417 rfl (by decide) rfl (by decide) rfl ?_
  obtain ⟨v, h1, h2, fs, e1, e0, e2, s1, s2⟩ := hb
  refine mE_aldn 418 rfl rfl rfl rfl ?_
  refine mE_aldn 419 rfl rfl rfl rfl ?_
  refine mE_ildn 420 rfl rfl rfl rfl ?_
  refine mE_ico 421 1 rfl rfl rfl ?_
  refine mE_iadd 422 1 rfl rfl rfl ?_
  refine mE_isc 423 (xs 1) rfl rfl (show ¬ ((1 : Int32) < 0 ∨ 4 ≤ (1 : Int32).toNatClampNeg) by decide) rfl rfl ?_
  refine mE_cv [.int (xs 1)] [] rfl rfl rfl rfl rfl rfl ?_
  refine ⟨_, _, e1, ?_⟩
  refine mE_aldn 427 rfl rfl rfl rfl ?_
  refine mE_aldn 428 rfl rfl rfl rfl ?_
  refine mE_ildn 429 rfl rfl rfl rfl ?_
  refine mE_ico 430 1 rfl rfl rfl ?_
  refine mE_iadd 431 1 rfl rfl rfl ?_
  refine mE_isc 432 (xs 1) rfl rfl (show ¬ ((1 : Int32) < 0 ∨ 4 ≤ (1 : Int32).toNatClampNeg) by decide) rfl rfl ?_
  refine mE_cv [.int (xs 1)] [.int v] rfl rfl rfl rfl e0 rfl ?_
  refine ⟨_, _, e2, ?_⟩
  refine mE_ic_eq_t 789 rfl rfl rfl ?_
  refine mE_iinc 792 4 [(3, .int 4), (2, .ref 47), (1, .ref 0), (0, .retAddr 1)] rfl rfl rfl rfl rfl rfl ?_
  refine mE_goto 18 rfl rfl ?_
  refine mE_ildn 19 rfl rfl rfl rfl ?_
  refine mE_aldn 20 rfl rfl rfl rfl ?_
  refine mE_lsc 21 4 rfl rfl rfl rfl ?_
  refine mE_ico 22 4 rfl rfl rfl ?_
  refine mE_isub 23 0 rfl rfl rfl ?_
  refine mE_ic_gt_t 795 rfl (by decide) rfl ?_
  refine mE_ico 796 1 rfl rfl rfl ?_
  exact mE_iret rfl ⟨rfl, s1, s2⟩
set_option maxHeartbeats 4000000 in
set_option maxRecDepth 100000 in
theorem g_10 (xs : Nat → Int32) (hk : xs 0 &&& 31 = 10) (hb : mBoth 68 123 [.int (xs 1), .int (xs 2)]) : mE (mcall 12) (some (4, xs)) 4 (mgd mLlaw mtL_law) 1000000 (18, [(3, .int 0), (2, .ref 47), (1, .ref 0), (0, .retAddr 1)], [], mh0) (fun r h' => r = some (.int 1) ∧ h'.1.length ≤ 600000 ∧ h'.2 ≤ 7302250) := by
  refine mE_ildn 19 rfl rfl rfl rfl ?_
  refine mE_aldn 20 rfl rfl rfl rfl ?_
  refine mE_lsc 21 4 rfl rfl rfl rfl ?_
  refine mE_ico 22 4 rfl rfl rfl ?_
  refine mE_isub 23 0 rfl rfl rfl ?_
  refine mE_ic_gt_f 26 rfl (by decide) rfl ?_
  refine mE_aldn 27 rfl rfl rfl rfl ?_
  refine mE_ildn 28 rfl rfl rfl rfl ?_
  refine mE_isc 29 (xs 0) rfl rfl (show ¬ ((0 : Int32) < 0 ∨ 4 ≤ (0 : Int32).toNatClampNeg) by decide) rfl rfl ?_
  refine mE_bip 31 31 rfl rfl rfl ?_
  refine mE_iand 32 10 rfl hk rfl ?_
  refine mE_tsw 440 rfl (by decide) rfl (by decide) rfl ?_
  obtain ⟨v, h1, h2, fs, e1, e0, e2, s1, s2⟩ := hb
  refine mE_aldn 441 rfl rfl rfl rfl ?_
  refine mE_aldn 442 rfl rfl rfl rfl ?_
  refine mE_ildn 443 rfl rfl rfl rfl ?_
  refine mE_ico 444 1 rfl rfl rfl ?_
  refine mE_iadd 445 1 rfl rfl rfl ?_
  refine mE_isc 446 (xs 1) rfl rfl (show ¬ ((1 : Int32) < 0 ∨ 4 ≤ (1 : Int32).toNatClampNeg) by decide) rfl rfl ?_
  refine mE_aldn 447 rfl rfl rfl rfl ?_
  refine mE_ildn 448 rfl rfl rfl rfl ?_
  refine mE_ico 449 2 rfl rfl rfl ?_
  refine mE_iadd 450 2 rfl rfl rfl ?_
  refine mE_isc 451 (xs 2) rfl rfl (show ¬ ((2 : Int32) < 0 ∨ 4 ≤ (2 : Int32).toNatClampNeg) by decide) rfl rfl ?_
  refine mE_cv [.int (xs 1), .int (xs 2)] [] rfl rfl rfl rfl rfl rfl ?_
  refine ⟨_, _, e1, ?_⟩
  refine mE_aldn 455 rfl rfl rfl rfl ?_
  refine mE_aldn 456 rfl rfl rfl rfl ?_
  refine mE_ildn 457 rfl rfl rfl rfl ?_
  refine mE_ico 458 1 rfl rfl rfl ?_
  refine mE_iadd 459 1 rfl rfl rfl ?_
  refine mE_isc 460 (xs 1) rfl rfl (show ¬ ((1 : Int32) < 0 ∨ 4 ≤ (1 : Int32).toNatClampNeg) by decide) rfl rfl ?_
  refine mE_aldn 461 rfl rfl rfl rfl ?_
  refine mE_ildn 462 rfl rfl rfl rfl ?_
  refine mE_ico 463 2 rfl rfl rfl ?_
  refine mE_iadd 464 2 rfl rfl rfl ?_
  refine mE_isc 465 (xs 2) rfl rfl (show ¬ ((2 : Int32) < 0 ∨ 4 ≤ (2 : Int32).toNatClampNeg) by decide) rfl rfl ?_
  refine mE_cv [.int (xs 1), .int (xs 2)] [.int v] rfl rfl rfl rfl e0 rfl ?_
  refine ⟨_, _, e2, ?_⟩
  refine mE_ic_eq_t 789 rfl rfl rfl ?_
  refine mE_iinc 792 4 [(3, .int 4), (2, .ref 47), (1, .ref 0), (0, .retAddr 1)] rfl rfl rfl rfl rfl rfl ?_
  refine mE_goto 18 rfl rfl ?_
  refine mE_ildn 19 rfl rfl rfl rfl ?_
  refine mE_aldn 20 rfl rfl rfl rfl ?_
  refine mE_lsc 21 4 rfl rfl rfl rfl ?_
  refine mE_ico 22 4 rfl rfl rfl ?_
  refine mE_isub 23 0 rfl rfl rfl ?_
  refine mE_ic_gt_t 795 rfl (by decide) rfl ?_
  refine mE_ico 796 1 rfl rfl rfl ?_
  exact mE_iret rfl ⟨rfl, s1, s2⟩
set_option maxHeartbeats 4000000 in
set_option maxRecDepth 100000 in
theorem g_11 (xs : Nat → Int32) (hk : xs 0 &&& 31 = 11) (hb : mBoth 69 124 [.int (xs 1), .int (xs 2)]) : mE (mcall 12) (some (4, xs)) 4 (mgd mLlaw mtL_law) 1000000 (18, [(3, .int 0), (2, .ref 47), (1, .ref 0), (0, .retAddr 1)], [], mh0) (fun r h' => r = some (.int 1) ∧ h'.1.length ≤ 600000 ∧ h'.2 ≤ 7302250) := by
  refine mE_ildn 19 rfl rfl rfl rfl ?_
  refine mE_aldn 20 rfl rfl rfl rfl ?_
  refine mE_lsc 21 4 rfl rfl rfl rfl ?_
  refine mE_ico 22 4 rfl rfl rfl ?_
  refine mE_isub 23 0 rfl rfl rfl ?_
  refine mE_ic_gt_f 26 rfl (by decide) rfl ?_
  refine mE_aldn 27 rfl rfl rfl rfl ?_
  refine mE_ildn 28 rfl rfl rfl rfl ?_
  refine mE_isc 29 (xs 0) rfl rfl (show ¬ ((0 : Int32) < 0 ∨ 4 ≤ (0 : Int32).toNatClampNeg) by decide) rfl rfl ?_
  refine mE_bip 31 31 rfl rfl rfl ?_
  refine mE_iand 32 11 rfl hk rfl ?_
  refine mE_tsw 473 rfl (by decide) rfl (by decide) rfl ?_
  obtain ⟨v, h1, h2, fs, e1, e0, e2, s1, s2⟩ := hb
  refine mE_aldn 474 rfl rfl rfl rfl ?_
  refine mE_aldn 475 rfl rfl rfl rfl ?_
  refine mE_ildn 476 rfl rfl rfl rfl ?_
  refine mE_ico 477 1 rfl rfl rfl ?_
  refine mE_iadd 478 1 rfl rfl rfl ?_
  refine mE_isc 479 (xs 1) rfl rfl (show ¬ ((1 : Int32) < 0 ∨ 4 ≤ (1 : Int32).toNatClampNeg) by decide) rfl rfl ?_
  refine mE_aldn 480 rfl rfl rfl rfl ?_
  refine mE_ildn 481 rfl rfl rfl rfl ?_
  refine mE_ico 482 2 rfl rfl rfl ?_
  refine mE_iadd 483 2 rfl rfl rfl ?_
  refine mE_isc 484 (xs 2) rfl rfl (show ¬ ((2 : Int32) < 0 ∨ 4 ≤ (2 : Int32).toNatClampNeg) by decide) rfl rfl ?_
  refine mE_cv [.int (xs 1), .int (xs 2)] [] rfl rfl rfl rfl rfl rfl ?_
  refine ⟨_, _, e1, ?_⟩
  refine mE_aldn 488 rfl rfl rfl rfl ?_
  refine mE_aldn 489 rfl rfl rfl rfl ?_
  refine mE_ildn 490 rfl rfl rfl rfl ?_
  refine mE_ico 491 1 rfl rfl rfl ?_
  refine mE_iadd 492 1 rfl rfl rfl ?_
  refine mE_isc 493 (xs 1) rfl rfl (show ¬ ((1 : Int32) < 0 ∨ 4 ≤ (1 : Int32).toNatClampNeg) by decide) rfl rfl ?_
  refine mE_aldn 494 rfl rfl rfl rfl ?_
  refine mE_ildn 495 rfl rfl rfl rfl ?_
  refine mE_ico 496 2 rfl rfl rfl ?_
  refine mE_iadd 497 2 rfl rfl rfl ?_
  refine mE_isc 498 (xs 2) rfl rfl (show ¬ ((2 : Int32) < 0 ∨ 4 ≤ (2 : Int32).toNatClampNeg) by decide) rfl rfl ?_
  refine mE_cv [.int (xs 1), .int (xs 2)] [.int v] rfl rfl rfl rfl e0 rfl ?_
  refine ⟨_, _, e2, ?_⟩
  refine mE_ic_eq_t 789 rfl rfl rfl ?_
  refine mE_iinc 792 4 [(3, .int 4), (2, .ref 47), (1, .ref 0), (0, .retAddr 1)] rfl rfl rfl rfl rfl rfl ?_
  refine mE_goto 18 rfl rfl ?_
  refine mE_ildn 19 rfl rfl rfl rfl ?_
  refine mE_aldn 20 rfl rfl rfl rfl ?_
  refine mE_lsc 21 4 rfl rfl rfl rfl ?_
  refine mE_ico 22 4 rfl rfl rfl ?_
  refine mE_isub 23 0 rfl rfl rfl ?_
  refine mE_ic_gt_t 795 rfl (by decide) rfl ?_
  refine mE_ico 796 1 rfl rfl rfl ?_
  exact mE_iret rfl ⟨rfl, s1, s2⟩
set_option maxHeartbeats 4000000 in
set_option maxRecDepth 100000 in
theorem g_12 (xs : Nat → Int32) (hk : xs 0 &&& 31 = 12) (hb : mBoth 70 125 []) : mE (mcall 12) (some (4, xs)) 4 (mgd mLlaw mtL_law) 1000000 (18, [(3, .int 0), (2, .ref 47), (1, .ref 0), (0, .retAddr 1)], [], mh0) (fun r h' => r = some (.int 1) ∧ h'.1.length ≤ 600000 ∧ h'.2 ≤ 7302250) := by
  refine mE_ildn 19 rfl rfl rfl rfl ?_
  refine mE_aldn 20 rfl rfl rfl rfl ?_
  refine mE_lsc 21 4 rfl rfl rfl rfl ?_
  refine mE_ico 22 4 rfl rfl rfl ?_
  refine mE_isub 23 0 rfl rfl rfl ?_
  refine mE_ic_gt_f 26 rfl (by decide) rfl ?_
  refine mE_aldn 27 rfl rfl rfl rfl ?_
  refine mE_ildn 28 rfl rfl rfl rfl ?_
  refine mE_isc 29 (xs 0) rfl rfl (show ¬ ((0 : Int32) < 0 ∨ 4 ≤ (0 : Int32).toNatClampNeg) by decide) rfl rfl ?_
  refine mE_bip 31 31 rfl rfl rfl ?_
  refine mE_iand 32 12 rfl hk rfl ?_
  refine mE_tsw 506 rfl (by decide) rfl (by decide) rfl ?_
  obtain ⟨v, h1, h2, fs, e1, e0, e2, s1, s2⟩ := hb
  refine mE_aldn 507 rfl rfl rfl rfl ?_
  refine mE_cv [] [] rfl rfl rfl rfl rfl rfl ?_
  refine ⟨_, _, e1, ?_⟩
  refine mE_aldn 511 rfl rfl rfl rfl ?_
  refine mE_cv [] [.int v] rfl rfl rfl rfl e0 rfl ?_
  refine ⟨_, _, e2, ?_⟩
  refine mE_ic_eq_t 789 rfl rfl rfl ?_
  refine mE_iinc 792 4 [(3, .int 4), (2, .ref 47), (1, .ref 0), (0, .retAddr 1)] rfl rfl rfl rfl rfl rfl ?_
  refine mE_goto 18 rfl rfl ?_
  refine mE_ildn 19 rfl rfl rfl rfl ?_
  refine mE_aldn 20 rfl rfl rfl rfl ?_
  refine mE_lsc 21 4 rfl rfl rfl rfl ?_
  refine mE_ico 22 4 rfl rfl rfl ?_
  refine mE_isub 23 0 rfl rfl rfl ?_
  refine mE_ic_gt_t 795 rfl (by decide) rfl ?_
  refine mE_ico 796 1 rfl rfl rfl ?_
  exact mE_iret rfl ⟨rfl, s1, s2⟩
set_option maxHeartbeats 4000000 in
set_option maxRecDepth 100000 in
theorem g_13 (xs : Nat → Int32) (hk : xs 0 &&& 31 = 13) (hb : mBoth 71 126 [.int (xs 1), .int (xs 2), .int (xs 3)]) : mE (mcall 12) (some (4, xs)) 4 (mgd mLlaw mtL_law) 1000000 (18, [(3, .int 0), (2, .ref 47), (1, .ref 0), (0, .retAddr 1)], [], mh0) (fun r h' => r = some (.int 1) ∧ h'.1.length ≤ 600000 ∧ h'.2 ≤ 7302250) := by
  refine mE_ildn 19 rfl rfl rfl rfl ?_
  refine mE_aldn 20 rfl rfl rfl rfl ?_
  refine mE_lsc 21 4 rfl rfl rfl rfl ?_
  refine mE_ico 22 4 rfl rfl rfl ?_
  refine mE_isub 23 0 rfl rfl rfl ?_
  refine mE_ic_gt_f 26 rfl (by decide) rfl ?_
  refine mE_aldn 27 rfl rfl rfl rfl ?_
  refine mE_ildn 28 rfl rfl rfl rfl ?_
  refine mE_isc 29 (xs 0) rfl rfl (show ¬ ((0 : Int32) < 0 ∨ 4 ≤ (0 : Int32).toNatClampNeg) by decide) rfl rfl ?_
  refine mE_bip 31 31 rfl rfl rfl ?_
  refine mE_iand 32 13 rfl hk rfl ?_
  refine mE_tsw 519 rfl (by decide) rfl (by decide) rfl ?_
  obtain ⟨v, h1, h2, fs, e1, e0, e2, s1, s2⟩ := hb
  refine mE_aldn 520 rfl rfl rfl rfl ?_
  refine mE_aldn 521 rfl rfl rfl rfl ?_
  refine mE_ildn 522 rfl rfl rfl rfl ?_
  refine mE_ico 523 1 rfl rfl rfl ?_
  refine mE_iadd 524 1 rfl rfl rfl ?_
  refine mE_isc 525 (xs 1) rfl rfl (show ¬ ((1 : Int32) < 0 ∨ 4 ≤ (1 : Int32).toNatClampNeg) by decide) rfl rfl ?_
  refine mE_aldn 526 rfl rfl rfl rfl ?_
  refine mE_ildn 527 rfl rfl rfl rfl ?_
  refine mE_ico 528 2 rfl rfl rfl ?_
  refine mE_iadd 529 2 rfl rfl rfl ?_
  refine mE_isc 530 (xs 2) rfl rfl (show ¬ ((2 : Int32) < 0 ∨ 4 ≤ (2 : Int32).toNatClampNeg) by decide) rfl rfl ?_
  refine mE_aldn 531 rfl rfl rfl rfl ?_
  refine mE_ildn 532 rfl rfl rfl rfl ?_
  refine mE_ico 533 3 rfl rfl rfl ?_
  refine mE_iadd 534 3 rfl rfl rfl ?_
  refine mE_isc 535 (xs 3) rfl rfl (show ¬ ((3 : Int32) < 0 ∨ 4 ≤ (3 : Int32).toNatClampNeg) by decide) rfl rfl ?_
  refine mE_cv [.int (xs 1), .int (xs 2), .int (xs 3)] [] rfl rfl rfl rfl rfl rfl ?_
  refine ⟨_, _, e1, ?_⟩
  refine mE_aldn 539 rfl rfl rfl rfl ?_
  refine mE_aldn 540 rfl rfl rfl rfl ?_
  refine mE_ildn 541 rfl rfl rfl rfl ?_
  refine mE_ico 542 1 rfl rfl rfl ?_
  refine mE_iadd 543 1 rfl rfl rfl ?_
  refine mE_isc 544 (xs 1) rfl rfl (show ¬ ((1 : Int32) < 0 ∨ 4 ≤ (1 : Int32).toNatClampNeg) by decide) rfl rfl ?_
  refine mE_aldn 545 rfl rfl rfl rfl ?_
  refine mE_ildn 546 rfl rfl rfl rfl ?_
  refine mE_ico 547 2 rfl rfl rfl ?_
  refine mE_iadd 548 2 rfl rfl rfl ?_
  refine mE_isc 549 (xs 2) rfl rfl (show ¬ ((2 : Int32) < 0 ∨ 4 ≤ (2 : Int32).toNatClampNeg) by decide) rfl rfl ?_
  refine mE_aldn 550 rfl rfl rfl rfl ?_
  refine mE_ildn 551 rfl rfl rfl rfl ?_
  refine mE_ico 552 3 rfl rfl rfl ?_
  refine mE_iadd 553 3 rfl rfl rfl ?_
  refine mE_isc 554 (xs 3) rfl rfl (show ¬ ((3 : Int32) < 0 ∨ 4 ≤ (3 : Int32).toNatClampNeg) by decide) rfl rfl ?_
  refine mE_cv [.int (xs 1), .int (xs 2), .int (xs 3)] [.int v] rfl rfl rfl rfl e0 rfl ?_
  refine ⟨_, _, e2, ?_⟩
  refine mE_ic_eq_t 789 rfl rfl rfl ?_
  refine mE_iinc 792 4 [(3, .int 4), (2, .ref 47), (1, .ref 0), (0, .retAddr 1)] rfl rfl rfl rfl rfl rfl ?_
  refine mE_goto 18 rfl rfl ?_
  refine mE_ildn 19 rfl rfl rfl rfl ?_
  refine mE_aldn 20 rfl rfl rfl rfl ?_
  refine mE_lsc 21 4 rfl rfl rfl rfl ?_
  refine mE_ico 22 4 rfl rfl rfl ?_
  refine mE_isub 23 0 rfl rfl rfl ?_
  refine mE_ic_gt_t 795 rfl (by decide) rfl ?_
  refine mE_ico 796 1 rfl rfl rfl ?_
  exact mE_iret rfl ⟨rfl, s1, s2⟩
set_option maxHeartbeats 4000000 in
set_option maxRecDepth 100000 in
theorem g_14 (xs : Nat → Int32) (hk : xs 0 &&& 31 = 14) (hb : mBoth 72 127 [.int (xs 1), .int (xs 2)]) : mE (mcall 12) (some (4, xs)) 4 (mgd mLlaw mtL_law) 1000000 (18, [(3, .int 0), (2, .ref 47), (1, .ref 0), (0, .retAddr 1)], [], mh0) (fun r h' => r = some (.int 1) ∧ h'.1.length ≤ 600000 ∧ h'.2 ≤ 7302250) := by
  refine mE_ildn 19 rfl rfl rfl rfl ?_
  refine mE_aldn 20 rfl rfl rfl rfl ?_
  refine mE_lsc 21 4 rfl rfl rfl rfl ?_
  refine mE_ico 22 4 rfl rfl rfl ?_
  refine mE_isub 23 0 rfl rfl rfl ?_
  refine mE_ic_gt_f 26 rfl (by decide) rfl ?_
  refine mE_aldn 27 rfl rfl rfl rfl ?_
  refine mE_ildn 28 rfl rfl rfl rfl ?_
  refine mE_isc 29 (xs 0) rfl rfl (show ¬ ((0 : Int32) < 0 ∨ 4 ≤ (0 : Int32).toNatClampNeg) by decide) rfl rfl ?_
  refine mE_bip 31 31 rfl rfl rfl ?_
  refine mE_iand 32 14 rfl hk rfl ?_
  refine mE_tsw 562 rfl (by decide) rfl (by decide) rfl ?_
  obtain ⟨v, h1, h2, fs, e1, e0, e2, s1, s2⟩ := hb
  refine mE_aldn 563 rfl rfl rfl rfl ?_
  refine mE_aldn 564 rfl rfl rfl rfl ?_
  refine mE_ildn 565 rfl rfl rfl rfl ?_
  refine mE_ico 566 1 rfl rfl rfl ?_
  refine mE_iadd 567 1 rfl rfl rfl ?_
  refine mE_isc 568 (xs 1) rfl rfl (show ¬ ((1 : Int32) < 0 ∨ 4 ≤ (1 : Int32).toNatClampNeg) by decide) rfl rfl ?_
  refine mE_aldn 569 rfl rfl rfl rfl ?_
  refine mE_ildn 570 rfl rfl rfl rfl ?_
  refine mE_ico 571 2 rfl rfl rfl ?_
  refine mE_iadd 572 2 rfl rfl rfl ?_
  refine mE_isc 573 (xs 2) rfl rfl (show ¬ ((2 : Int32) < 0 ∨ 4 ≤ (2 : Int32).toNatClampNeg) by decide) rfl rfl ?_
  refine mE_cv [.int (xs 1), .int (xs 2)] [] rfl rfl rfl rfl rfl rfl ?_
  refine ⟨_, _, e1, ?_⟩
  refine mE_aldn 577 rfl rfl rfl rfl ?_
  refine mE_aldn 578 rfl rfl rfl rfl ?_
  refine mE_ildn 579 rfl rfl rfl rfl ?_
  refine mE_ico 580 1 rfl rfl rfl ?_
  refine mE_iadd 581 1 rfl rfl rfl ?_
  refine mE_isc 582 (xs 1) rfl rfl (show ¬ ((1 : Int32) < 0 ∨ 4 ≤ (1 : Int32).toNatClampNeg) by decide) rfl rfl ?_
  refine mE_aldn 583 rfl rfl rfl rfl ?_
  refine mE_ildn 584 rfl rfl rfl rfl ?_
  refine mE_ico 585 2 rfl rfl rfl ?_
  refine mE_iadd 586 2 rfl rfl rfl ?_
  refine mE_isc 587 (xs 2) rfl rfl (show ¬ ((2 : Int32) < 0 ∨ 4 ≤ (2 : Int32).toNatClampNeg) by decide) rfl rfl ?_
  refine mE_cv [.int (xs 1), .int (xs 2)] [.int v] rfl rfl rfl rfl e0 rfl ?_
  refine ⟨_, _, e2, ?_⟩
  refine mE_ic_eq_t 789 rfl rfl rfl ?_
  refine mE_iinc 792 4 [(3, .int 4), (2, .ref 47), (1, .ref 0), (0, .retAddr 1)] rfl rfl rfl rfl rfl rfl ?_
  refine mE_goto 18 rfl rfl ?_
  refine mE_ildn 19 rfl rfl rfl rfl ?_
  refine mE_aldn 20 rfl rfl rfl rfl ?_
  refine mE_lsc 21 4 rfl rfl rfl rfl ?_
  refine mE_ico 22 4 rfl rfl rfl ?_
  refine mE_isub 23 0 rfl rfl rfl ?_
  refine mE_ic_gt_t 795 rfl (by decide) rfl ?_
  refine mE_ico 796 1 rfl rfl rfl ?_
  exact mE_iret rfl ⟨rfl, s1, s2⟩
set_option maxHeartbeats 4000000 in
set_option maxRecDepth 100000 in
theorem g_15 (xs : Nat → Int32) (hk : xs 0 &&& 31 = 15) (hb : mBoth 73 148 [.int (xs 1), .int (xs 2)]) : mE (mcall 12) (some (4, xs)) 4 (mgd mLlaw mtL_law) 1000000 (18, [(3, .int 0), (2, .ref 47), (1, .ref 0), (0, .retAddr 1)], [], mh0) (fun r h' => r = some (.int 1) ∧ h'.1.length ≤ 600000 ∧ h'.2 ≤ 7302250) := by
  refine mE_ildn 19 rfl rfl rfl rfl ?_
  refine mE_aldn 20 rfl rfl rfl rfl ?_
  refine mE_lsc 21 4 rfl rfl rfl rfl ?_
  refine mE_ico 22 4 rfl rfl rfl ?_
  refine mE_isub 23 0 rfl rfl rfl ?_
  refine mE_ic_gt_f 26 rfl (by decide) rfl ?_
  refine mE_aldn 27 rfl rfl rfl rfl ?_
  refine mE_ildn 28 rfl rfl rfl rfl ?_
  refine mE_isc 29 (xs 0) rfl rfl (show ¬ ((0 : Int32) < 0 ∨ 4 ≤ (0 : Int32).toNatClampNeg) by decide) rfl rfl ?_
  refine mE_bip 31 31 rfl rfl rfl ?_
  refine mE_iand 32 15 rfl hk rfl ?_
  refine mE_tsw 595 rfl (by decide) rfl (by decide) rfl ?_
  obtain ⟨v, h1, h2, fs, e1, e0, e2, s1, s2⟩ := hb
  refine mE_aldn 596 rfl rfl rfl rfl ?_
  refine mE_aldn 597 rfl rfl rfl rfl ?_
  refine mE_ildn 598 rfl rfl rfl rfl ?_
  refine mE_ico 599 1 rfl rfl rfl ?_
  refine mE_iadd 600 1 rfl rfl rfl ?_
  refine mE_isc 601 (xs 1) rfl rfl (show ¬ ((1 : Int32) < 0 ∨ 4 ≤ (1 : Int32).toNatClampNeg) by decide) rfl rfl ?_
  refine mE_aldn 602 rfl rfl rfl rfl ?_
  refine mE_ildn 603 rfl rfl rfl rfl ?_
  refine mE_ico 604 2 rfl rfl rfl ?_
  refine mE_iadd 605 2 rfl rfl rfl ?_
  refine mE_isc 606 (xs 2) rfl rfl (show ¬ ((2 : Int32) < 0 ∨ 4 ≤ (2 : Int32).toNatClampNeg) by decide) rfl rfl ?_
  refine mE_cv [.int (xs 1), .int (xs 2)] [] rfl rfl rfl rfl rfl rfl ?_
  refine ⟨_, _, e1, ?_⟩
  refine mE_aldn 610 rfl rfl rfl rfl ?_
  refine mE_aldn 611 rfl rfl rfl rfl ?_
  refine mE_ildn 612 rfl rfl rfl rfl ?_
  refine mE_ico 613 1 rfl rfl rfl ?_
  refine mE_iadd 614 1 rfl rfl rfl ?_
  refine mE_isc 615 (xs 1) rfl rfl (show ¬ ((1 : Int32) < 0 ∨ 4 ≤ (1 : Int32).toNatClampNeg) by decide) rfl rfl ?_
  refine mE_aldn 616 rfl rfl rfl rfl ?_
  refine mE_ildn 617 rfl rfl rfl rfl ?_
  refine mE_ico 618 2 rfl rfl rfl ?_
  refine mE_iadd 619 2 rfl rfl rfl ?_
  refine mE_isc 620 (xs 2) rfl rfl (show ¬ ((2 : Int32) < 0 ∨ 4 ≤ (2 : Int32).toNatClampNeg) by decide) rfl rfl ?_
  refine mE_cv [.int (xs 1), .int (xs 2)] [.int v] rfl rfl rfl rfl e0 rfl ?_
  refine ⟨_, _, e2, ?_⟩
  refine mE_ic_eq_t 789 rfl rfl rfl ?_
  refine mE_iinc 792 4 [(3, .int 4), (2, .ref 47), (1, .ref 0), (0, .retAddr 1)] rfl rfl rfl rfl rfl rfl ?_
  refine mE_goto 18 rfl rfl ?_
  refine mE_ildn 19 rfl rfl rfl rfl ?_
  refine mE_aldn 20 rfl rfl rfl rfl ?_
  refine mE_lsc 21 4 rfl rfl rfl rfl ?_
  refine mE_ico 22 4 rfl rfl rfl ?_
  refine mE_isub 23 0 rfl rfl rfl ?_
  refine mE_ic_gt_t 795 rfl (by decide) rfl ?_
  refine mE_ico 796 1 rfl rfl rfl ?_
  exact mE_iret rfl ⟨rfl, s1, s2⟩
set_option maxHeartbeats 4000000 in
set_option maxRecDepth 100000 in
theorem g_16 (xs : Nat → Int32) (hk : xs 0 &&& 31 = 16) (hb : mBoth 74 149 [.int (xs 1), .int (xs 2)]) : mE (mcall 12) (some (4, xs)) 4 (mgd mLlaw mtL_law) 1000000 (18, [(3, .int 0), (2, .ref 47), (1, .ref 0), (0, .retAddr 1)], [], mh0) (fun r h' => r = some (.int 1) ∧ h'.1.length ≤ 600000 ∧ h'.2 ≤ 7302250) := by
  refine mE_ildn 19 rfl rfl rfl rfl ?_
  refine mE_aldn 20 rfl rfl rfl rfl ?_
  refine mE_lsc 21 4 rfl rfl rfl rfl ?_
  refine mE_ico 22 4 rfl rfl rfl ?_
  refine mE_isub 23 0 rfl rfl rfl ?_
  refine mE_ic_gt_f 26 rfl (by decide) rfl ?_
  refine mE_aldn 27 rfl rfl rfl rfl ?_
  refine mE_ildn 28 rfl rfl rfl rfl ?_
  refine mE_isc 29 (xs 0) rfl rfl (show ¬ ((0 : Int32) < 0 ∨ 4 ≤ (0 : Int32).toNatClampNeg) by decide) rfl rfl ?_
  refine mE_bip 31 31 rfl rfl rfl ?_
  refine mE_iand 32 16 rfl hk rfl ?_
  refine mE_tsw 628 rfl (by decide) rfl (by decide) rfl ?_
  obtain ⟨v, h1, h2, fs, e1, e0, e2, s1, s2⟩ := hb
  refine mE_aldn 629 rfl rfl rfl rfl ?_
  refine mE_aldn 630 rfl rfl rfl rfl ?_
  refine mE_ildn 631 rfl rfl rfl rfl ?_
  refine mE_ico 632 1 rfl rfl rfl ?_
  refine mE_iadd 633 1 rfl rfl rfl ?_
  refine mE_isc 634 (xs 1) rfl rfl (show ¬ ((1 : Int32) < 0 ∨ 4 ≤ (1 : Int32).toNatClampNeg) by decide) rfl rfl ?_
  refine mE_aldn 635 rfl rfl rfl rfl ?_
  refine mE_ildn 636 rfl rfl rfl rfl ?_
  refine mE_ico 637 2 rfl rfl rfl ?_
  refine mE_iadd 638 2 rfl rfl rfl ?_
  refine mE_isc 639 (xs 2) rfl rfl (show ¬ ((2 : Int32) < 0 ∨ 4 ≤ (2 : Int32).toNatClampNeg) by decide) rfl rfl ?_
  refine mE_cv [.int (xs 1), .int (xs 2)] [] rfl rfl rfl rfl rfl rfl ?_
  refine ⟨_, _, e1, ?_⟩
  refine mE_aldn 643 rfl rfl rfl rfl ?_
  refine mE_aldn 644 rfl rfl rfl rfl ?_
  refine mE_ildn 645 rfl rfl rfl rfl ?_
  refine mE_ico 646 1 rfl rfl rfl ?_
  refine mE_iadd 647 1 rfl rfl rfl ?_
  refine mE_isc 648 (xs 1) rfl rfl (show ¬ ((1 : Int32) < 0 ∨ 4 ≤ (1 : Int32).toNatClampNeg) by decide) rfl rfl ?_
  refine mE_aldn 649 rfl rfl rfl rfl ?_
  refine mE_ildn 650 rfl rfl rfl rfl ?_
  refine mE_ico 651 2 rfl rfl rfl ?_
  refine mE_iadd 652 2 rfl rfl rfl ?_
  refine mE_isc 653 (xs 2) rfl rfl (show ¬ ((2 : Int32) < 0 ∨ 4 ≤ (2 : Int32).toNatClampNeg) by decide) rfl rfl ?_
  refine mE_cv [.int (xs 1), .int (xs 2)] [.int v] rfl rfl rfl rfl e0 rfl ?_
  refine ⟨_, _, e2, ?_⟩
  refine mE_ic_eq_t 789 rfl rfl rfl ?_
  refine mE_iinc 792 4 [(3, .int 4), (2, .ref 47), (1, .ref 0), (0, .retAddr 1)] rfl rfl rfl rfl rfl rfl ?_
  refine mE_goto 18 rfl rfl ?_
  refine mE_ildn 19 rfl rfl rfl rfl ?_
  refine mE_aldn 20 rfl rfl rfl rfl ?_
  refine mE_lsc 21 4 rfl rfl rfl rfl ?_
  refine mE_ico 22 4 rfl rfl rfl ?_
  refine mE_isub 23 0 rfl rfl rfl ?_
  refine mE_ic_gt_t 795 rfl (by decide) rfl ?_
  refine mE_ico 796 1 rfl rfl rfl ?_
  exact mE_iret rfl ⟨rfl, s1, s2⟩
set_option maxHeartbeats 4000000 in
set_option maxRecDepth 100000 in
theorem g_17 (xs : Nat → Int32) (hk : xs 0 &&& 31 = 17) (hb : mBoth 75 150 [.int (xs 1)]) : mE (mcall 12) (some (4, xs)) 4 (mgd mLlaw mtL_law) 1000000 (18, [(3, .int 0), (2, .ref 47), (1, .ref 0), (0, .retAddr 1)], [], mh0) (fun r h' => r = some (.int 1) ∧ h'.1.length ≤ 600000 ∧ h'.2 ≤ 7302250) := by
  refine mE_ildn 19 rfl rfl rfl rfl ?_
  refine mE_aldn 20 rfl rfl rfl rfl ?_
  refine mE_lsc 21 4 rfl rfl rfl rfl ?_
  refine mE_ico 22 4 rfl rfl rfl ?_
  refine mE_isub 23 0 rfl rfl rfl ?_
  refine mE_ic_gt_f 26 rfl (by decide) rfl ?_
  refine mE_aldn 27 rfl rfl rfl rfl ?_
  refine mE_ildn 28 rfl rfl rfl rfl ?_
  refine mE_isc 29 (xs 0) rfl rfl (show ¬ ((0 : Int32) < 0 ∨ 4 ≤ (0 : Int32).toNatClampNeg) by decide) rfl rfl ?_
  refine mE_bip 31 31 rfl rfl rfl ?_
  refine mE_iand 32 17 rfl hk rfl ?_
  refine mE_tsw 661 rfl (by decide) rfl (by decide) rfl ?_
  obtain ⟨v, h1, h2, fs, e1, e0, e2, s1, s2⟩ := hb
  refine mE_aldn 662 rfl rfl rfl rfl ?_
  refine mE_aldn 663 rfl rfl rfl rfl ?_
  refine mE_ildn 664 rfl rfl rfl rfl ?_
  refine mE_ico 665 1 rfl rfl rfl ?_
  refine mE_iadd 666 1 rfl rfl rfl ?_
  refine mE_isc 667 (xs 1) rfl rfl (show ¬ ((1 : Int32) < 0 ∨ 4 ≤ (1 : Int32).toNatClampNeg) by decide) rfl rfl ?_
  refine mE_cv [.int (xs 1)] [] rfl rfl rfl rfl rfl rfl ?_
  refine ⟨_, _, e1, ?_⟩
  refine mE_aldn 671 rfl rfl rfl rfl ?_
  refine mE_aldn 672 rfl rfl rfl rfl ?_
  refine mE_ildn 673 rfl rfl rfl rfl ?_
  refine mE_ico 674 1 rfl rfl rfl ?_
  refine mE_iadd 675 1 rfl rfl rfl ?_
  refine mE_isc 676 (xs 1) rfl rfl (show ¬ ((1 : Int32) < 0 ∨ 4 ≤ (1 : Int32).toNatClampNeg) by decide) rfl rfl ?_
  refine mE_cv [.int (xs 1)] [.int v] rfl rfl rfl rfl e0 rfl ?_
  refine ⟨_, _, e2, ?_⟩
  refine mE_ic_eq_t 789 rfl rfl rfl ?_
  refine mE_iinc 792 4 [(3, .int 4), (2, .ref 47), (1, .ref 0), (0, .retAddr 1)] rfl rfl rfl rfl rfl rfl ?_
  refine mE_goto 18 rfl rfl ?_
  refine mE_ildn 19 rfl rfl rfl rfl ?_
  refine mE_aldn 20 rfl rfl rfl rfl ?_
  refine mE_lsc 21 4 rfl rfl rfl rfl ?_
  refine mE_ico 22 4 rfl rfl rfl ?_
  refine mE_isub 23 0 rfl rfl rfl ?_
  refine mE_ic_gt_t 795 rfl (by decide) rfl ?_
  refine mE_ico 796 1 rfl rfl rfl ?_
  exact mE_iret rfl ⟨rfl, s1, s2⟩
set_option maxHeartbeats 4000000 in
set_option maxRecDepth 100000 in
theorem g_18 (xs : Nat → Int32) (hk : xs 0 &&& 31 = 18) (hb : mBoth 76 151 []) : mE (mcall 12) (some (4, xs)) 4 (mgd mLlaw mtL_law) 1000000 (18, [(3, .int 0), (2, .ref 47), (1, .ref 0), (0, .retAddr 1)], [], mh0) (fun r h' => r = some (.int 1) ∧ h'.1.length ≤ 600000 ∧ h'.2 ≤ 7302250) := by
  refine mE_ildn 19 rfl rfl rfl rfl ?_
  refine mE_aldn 20 rfl rfl rfl rfl ?_
  refine mE_lsc 21 4 rfl rfl rfl rfl ?_
  refine mE_ico 22 4 rfl rfl rfl ?_
  refine mE_isub 23 0 rfl rfl rfl ?_
  refine mE_ic_gt_f 26 rfl (by decide) rfl ?_
  refine mE_aldn 27 rfl rfl rfl rfl ?_
  refine mE_ildn 28 rfl rfl rfl rfl ?_
  refine mE_isc 29 (xs 0) rfl rfl (show ¬ ((0 : Int32) < 0 ∨ 4 ≤ (0 : Int32).toNatClampNeg) by decide) rfl rfl ?_
  refine mE_bip 31 31 rfl rfl rfl ?_
  refine mE_iand 32 18 rfl hk rfl ?_
  refine mE_tsw 684 rfl (by decide) rfl (by decide) rfl ?_
  obtain ⟨v, h1, h2, fs, e1, e0, e2, s1, s2⟩ := hb
  refine mE_aldn 685 rfl rfl rfl rfl ?_
  refine mE_cv [] [] rfl rfl rfl rfl rfl rfl ?_
  refine ⟨_, _, e1, ?_⟩
  refine mE_aldn 689 rfl rfl rfl rfl ?_
  refine mE_cv [] [.int v] rfl rfl rfl rfl e0 rfl ?_
  refine ⟨_, _, e2, ?_⟩
  refine mE_ic_eq_t 789 rfl rfl rfl ?_
  refine mE_iinc 792 4 [(3, .int 4), (2, .ref 47), (1, .ref 0), (0, .retAddr 1)] rfl rfl rfl rfl rfl rfl ?_
  refine mE_goto 18 rfl rfl ?_
  refine mE_ildn 19 rfl rfl rfl rfl ?_
  refine mE_aldn 20 rfl rfl rfl rfl ?_
  refine mE_lsc 21 4 rfl rfl rfl rfl ?_
  refine mE_ico 22 4 rfl rfl rfl ?_
  refine mE_isub 23 0 rfl rfl rfl ?_
  refine mE_ic_gt_t 795 rfl (by decide) rfl ?_
  refine mE_ico 796 1 rfl rfl rfl ?_
  exact mE_iret rfl ⟨rfl, s1, s2⟩
set_option maxHeartbeats 4000000 in
set_option maxRecDepth 100000 in
theorem g_19 (xs : Nat → Int32) (hk : xs 0 &&& 31 = 19) (hb : mBoth 77 155 [.int (xs 1), .int (xs 2)]) : mE (mcall 12) (some (4, xs)) 4 (mgd mLlaw mtL_law) 1000000 (18, [(3, .int 0), (2, .ref 47), (1, .ref 0), (0, .retAddr 1)], [], mh0) (fun r h' => r = some (.int 1) ∧ h'.1.length ≤ 600000 ∧ h'.2 ≤ 7302250) := by
  refine mE_ildn 19 rfl rfl rfl rfl ?_
  refine mE_aldn 20 rfl rfl rfl rfl ?_
  refine mE_lsc 21 4 rfl rfl rfl rfl ?_
  refine mE_ico 22 4 rfl rfl rfl ?_
  refine mE_isub 23 0 rfl rfl rfl ?_
  refine mE_ic_gt_f 26 rfl (by decide) rfl ?_
  refine mE_aldn 27 rfl rfl rfl rfl ?_
  refine mE_ildn 28 rfl rfl rfl rfl ?_
  refine mE_isc 29 (xs 0) rfl rfl (show ¬ ((0 : Int32) < 0 ∨ 4 ≤ (0 : Int32).toNatClampNeg) by decide) rfl rfl ?_
  refine mE_bip 31 31 rfl rfl rfl ?_
  refine mE_iand 32 19 rfl hk rfl ?_
  refine mE_tsw 697 rfl (by decide) rfl (by decide) rfl ?_
  obtain ⟨v, h1, h2, fs, e1, e0, e2, s1, s2⟩ := hb
  refine mE_aldn 698 rfl rfl rfl rfl ?_
  refine mE_aldn 699 rfl rfl rfl rfl ?_
  refine mE_ildn 700 rfl rfl rfl rfl ?_
  refine mE_ico 701 1 rfl rfl rfl ?_
  refine mE_iadd 702 1 rfl rfl rfl ?_
  refine mE_isc 703 (xs 1) rfl rfl (show ¬ ((1 : Int32) < 0 ∨ 4 ≤ (1 : Int32).toNatClampNeg) by decide) rfl rfl ?_
  refine mE_aldn 704 rfl rfl rfl rfl ?_
  refine mE_ildn 705 rfl rfl rfl rfl ?_
  refine mE_ico 706 2 rfl rfl rfl ?_
  refine mE_iadd 707 2 rfl rfl rfl ?_
  refine mE_isc 708 (xs 2) rfl rfl (show ¬ ((2 : Int32) < 0 ∨ 4 ≤ (2 : Int32).toNatClampNeg) by decide) rfl rfl ?_
  refine mE_cv [.int (xs 1), .int (xs 2)] [] rfl rfl rfl rfl rfl rfl ?_
  refine ⟨_, _, e1, ?_⟩
  refine mE_aldn 712 rfl rfl rfl rfl ?_
  refine mE_aldn 713 rfl rfl rfl rfl ?_
  refine mE_ildn 714 rfl rfl rfl rfl ?_
  refine mE_ico 715 1 rfl rfl rfl ?_
  refine mE_iadd 716 1 rfl rfl rfl ?_
  refine mE_isc 717 (xs 1) rfl rfl (show ¬ ((1 : Int32) < 0 ∨ 4 ≤ (1 : Int32).toNatClampNeg) by decide) rfl rfl ?_
  refine mE_aldn 718 rfl rfl rfl rfl ?_
  refine mE_ildn 719 rfl rfl rfl rfl ?_
  refine mE_ico 720 2 rfl rfl rfl ?_
  refine mE_iadd 721 2 rfl rfl rfl ?_
  refine mE_isc 722 (xs 2) rfl rfl (show ¬ ((2 : Int32) < 0 ∨ 4 ≤ (2 : Int32).toNatClampNeg) by decide) rfl rfl ?_
  refine mE_cv [.int (xs 1), .int (xs 2)] [.int v] rfl rfl rfl rfl e0 rfl ?_
  refine ⟨_, _, e2, ?_⟩
  refine mE_ic_eq_t 789 rfl rfl rfl ?_
  refine mE_iinc 792 4 [(3, .int 4), (2, .ref 47), (1, .ref 0), (0, .retAddr 1)] rfl rfl rfl rfl rfl rfl ?_
  refine mE_goto 18 rfl rfl ?_
  refine mE_ildn 19 rfl rfl rfl rfl ?_
  refine mE_aldn 20 rfl rfl rfl rfl ?_
  refine mE_lsc 21 4 rfl rfl rfl rfl ?_
  refine mE_ico 22 4 rfl rfl rfl ?_
  refine mE_isub 23 0 rfl rfl rfl ?_
  refine mE_ic_gt_t 795 rfl (by decide) rfl ?_
  refine mE_ico 796 1 rfl rfl rfl ?_
  exact mE_iret rfl ⟨rfl, s1, s2⟩
set_option maxHeartbeats 4000000 in
set_option maxRecDepth 100000 in
theorem g_20 (xs : Nat → Int32) (hk : xs 0 &&& 31 = 20) (hb : mBoth 78 157 []) : mE (mcall 12) (some (4, xs)) 4 (mgd mLlaw mtL_law) 1000000 (18, [(3, .int 0), (2, .ref 47), (1, .ref 0), (0, .retAddr 1)], [], mh0) (fun r h' => r = some (.int 1) ∧ h'.1.length ≤ 600000 ∧ h'.2 ≤ 7302250) := by
  refine mE_ildn 19 rfl rfl rfl rfl ?_
  refine mE_aldn 20 rfl rfl rfl rfl ?_
  refine mE_lsc 21 4 rfl rfl rfl rfl ?_
  refine mE_ico 22 4 rfl rfl rfl ?_
  refine mE_isub 23 0 rfl rfl rfl ?_
  refine mE_ic_gt_f 26 rfl (by decide) rfl ?_
  refine mE_aldn 27 rfl rfl rfl rfl ?_
  refine mE_ildn 28 rfl rfl rfl rfl ?_
  refine mE_isc 29 (xs 0) rfl rfl (show ¬ ((0 : Int32) < 0 ∨ 4 ≤ (0 : Int32).toNatClampNeg) by decide) rfl rfl ?_
  refine mE_bip 31 31 rfl rfl rfl ?_
  refine mE_iand 32 20 rfl hk rfl ?_
  refine mE_tsw 730 rfl (by decide) rfl (by decide) rfl ?_
  obtain ⟨v, h1, h2, fs, e1, e0, e2, s1, s2⟩ := hb
  refine mE_aldn 731 rfl rfl rfl rfl ?_
  refine mE_cv [] [] rfl rfl rfl rfl rfl rfl ?_
  refine ⟨_, _, e1, ?_⟩
  refine mE_aldn 735 rfl rfl rfl rfl ?_
  refine mE_cv [] [.int v] rfl rfl rfl rfl e0 rfl ?_
  refine ⟨_, _, e2, ?_⟩
  refine mE_ic_eq_t 789 rfl rfl rfl ?_
  refine mE_iinc 792 4 [(3, .int 4), (2, .ref 47), (1, .ref 0), (0, .retAddr 1)] rfl rfl rfl rfl rfl rfl ?_
  refine mE_goto 18 rfl rfl ?_
  refine mE_ildn 19 rfl rfl rfl rfl ?_
  refine mE_aldn 20 rfl rfl rfl rfl ?_
  refine mE_lsc 21 4 rfl rfl rfl rfl ?_
  refine mE_ico 22 4 rfl rfl rfl ?_
  refine mE_isub 23 0 rfl rfl rfl ?_
  refine mE_ic_gt_t 795 rfl (by decide) rfl ?_
  refine mE_ico 796 1 rfl rfl rfl ?_
  exact mE_iret rfl ⟨rfl, s1, s2⟩
set_option maxHeartbeats 4000000 in
set_option maxRecDepth 100000 in
theorem g_21 (xs : Nat → Int32) (hk : xs 0 &&& 31 = 21) (hb : mBoth 79 159 [.int (xs 1)]) : mE (mcall 12) (some (4, xs)) 4 (mgd mLlaw mtL_law) 1000000 (18, [(3, .int 0), (2, .ref 47), (1, .ref 0), (0, .retAddr 1)], [], mh0) (fun r h' => r = some (.int 1) ∧ h'.1.length ≤ 600000 ∧ h'.2 ≤ 7302250) := by
  refine mE_ildn 19 rfl rfl rfl rfl ?_
  refine mE_aldn 20 rfl rfl rfl rfl ?_
  refine mE_lsc 21 4 rfl rfl rfl rfl ?_
  refine mE_ico 22 4 rfl rfl rfl ?_
  refine mE_isub 23 0 rfl rfl rfl ?_
  refine mE_ic_gt_f 26 rfl (by decide) rfl ?_
  refine mE_aldn 27 rfl rfl rfl rfl ?_
  refine mE_ildn 28 rfl rfl rfl rfl ?_
  refine mE_isc 29 (xs 0) rfl rfl (show ¬ ((0 : Int32) < 0 ∨ 4 ≤ (0 : Int32).toNatClampNeg) by decide) rfl rfl ?_
  refine mE_bip 31 31 rfl rfl rfl ?_
  refine mE_iand 32 21 rfl hk rfl ?_
  refine mE_tsw 743 rfl (by decide) rfl (by decide) rfl ?_
  obtain ⟨v, h1, h2, fs, e1, e0, e2, s1, s2⟩ := hb
  refine mE_aldn 744 rfl rfl rfl rfl ?_
  refine mE_aldn 745 rfl rfl rfl rfl ?_
  refine mE_ildn 746 rfl rfl rfl rfl ?_
  refine mE_ico 747 1 rfl rfl rfl ?_
  refine mE_iadd 748 1 rfl rfl rfl ?_
  refine mE_isc 749 (xs 1) rfl rfl (show ¬ ((1 : Int32) < 0 ∨ 4 ≤ (1 : Int32).toNatClampNeg) by decide) rfl rfl ?_
  refine mE_cv [.int (xs 1)] [] rfl rfl rfl rfl rfl rfl ?_
  refine ⟨_, _, e1, ?_⟩
  refine mE_aldn 753 rfl rfl rfl rfl ?_
  refine mE_aldn 754 rfl rfl rfl rfl ?_
  refine mE_ildn 755 rfl rfl rfl rfl ?_
  refine mE_ico 756 1 rfl rfl rfl ?_
  refine mE_iadd 757 1 rfl rfl rfl ?_
  refine mE_isc 758 (xs 1) rfl rfl (show ¬ ((1 : Int32) < 0 ∨ 4 ≤ (1 : Int32).toNatClampNeg) by decide) rfl rfl ?_
  refine mE_cv [.int (xs 1)] [.int v] rfl rfl rfl rfl e0 rfl ?_
  refine ⟨_, _, e2, ?_⟩
  refine mE_ic_eq_t 789 rfl rfl rfl ?_
  refine mE_iinc 792 4 [(3, .int 4), (2, .ref 47), (1, .ref 0), (0, .retAddr 1)] rfl rfl rfl rfl rfl rfl ?_
  refine mE_goto 18 rfl rfl ?_
  refine mE_ildn 19 rfl rfl rfl rfl ?_
  refine mE_aldn 20 rfl rfl rfl rfl ?_
  refine mE_lsc 21 4 rfl rfl rfl rfl ?_
  refine mE_ico 22 4 rfl rfl rfl ?_
  refine mE_isub 23 0 rfl rfl rfl ?_
  refine mE_ic_gt_t 795 rfl (by decide) rfl ?_
  refine mE_ico 796 1 rfl rfl rfl ?_
  exact mE_iret rfl ⟨rfl, s1, s2⟩
set_option maxHeartbeats 4000000 in
set_option maxRecDepth 100000 in
theorem g_22 (xs : Nat → Int32) (hk : xs 0 &&& 31 = 22) (hb : mBoth 80 160 [.int (xs 1)]) : mE (mcall 12) (some (4, xs)) 4 (mgd mLlaw mtL_law) 1000000 (18, [(3, .int 0), (2, .ref 47), (1, .ref 0), (0, .retAddr 1)], [], mh0) (fun r h' => r = some (.int 1) ∧ h'.1.length ≤ 600000 ∧ h'.2 ≤ 7302250) := by
  refine mE_ildn 19 rfl rfl rfl rfl ?_
  refine mE_aldn 20 rfl rfl rfl rfl ?_
  refine mE_lsc 21 4 rfl rfl rfl rfl ?_
  refine mE_ico 22 4 rfl rfl rfl ?_
  refine mE_isub 23 0 rfl rfl rfl ?_
  refine mE_ic_gt_f 26 rfl (by decide) rfl ?_
  refine mE_aldn 27 rfl rfl rfl rfl ?_
  refine mE_ildn 28 rfl rfl rfl rfl ?_
  refine mE_isc 29 (xs 0) rfl rfl (show ¬ ((0 : Int32) < 0 ∨ 4 ≤ (0 : Int32).toNatClampNeg) by decide) rfl rfl ?_
  refine mE_bip 31 31 rfl rfl rfl ?_
  refine mE_iand 32 22 rfl hk rfl ?_
  refine mE_tsw 766 rfl (by decide) rfl (by decide) rfl ?_
  obtain ⟨v, h1, h2, fs, e1, e0, e2, s1, s2⟩ := hb
  refine mE_aldn 767 rfl rfl rfl rfl ?_
  refine mE_aldn 768 rfl rfl rfl rfl ?_
  refine mE_ildn 769 rfl rfl rfl rfl ?_
  refine mE_ico 770 1 rfl rfl rfl ?_
  refine mE_iadd 771 1 rfl rfl rfl ?_
  refine mE_isc 772 (xs 1) rfl rfl (show ¬ ((1 : Int32) < 0 ∨ 4 ≤ (1 : Int32).toNatClampNeg) by decide) rfl rfl ?_
  refine mE_cv [.int (xs 1)] [] rfl rfl rfl rfl rfl rfl ?_
  refine ⟨_, _, e1, ?_⟩
  refine mE_aldn 776 rfl rfl rfl rfl ?_
  refine mE_aldn 777 rfl rfl rfl rfl ?_
  refine mE_ildn 778 rfl rfl rfl rfl ?_
  refine mE_ico 779 1 rfl rfl rfl ?_
  refine mE_iadd 780 1 rfl rfl rfl ?_
  refine mE_isc 781 (xs 1) rfl rfl (show ¬ ((1 : Int32) < 0 ∨ 4 ≤ (1 : Int32).toNatClampNeg) by decide) rfl rfl ?_
  refine mE_cv [.int (xs 1)] [.int v] rfl rfl rfl rfl e0 rfl ?_
  refine ⟨_, _, e2, ?_⟩
  refine mE_ic_eq_t 789 rfl rfl rfl ?_
  refine mE_iinc 792 4 [(3, .int 4), (2, .ref 47), (1, .ref 0), (0, .retAddr 1)] rfl rfl rfl rfl rfl rfl ?_
  refine mE_goto 18 rfl rfl ?_
  refine mE_ildn 19 rfl rfl rfl rfl ?_
  refine mE_aldn 20 rfl rfl rfl rfl ?_
  refine mE_lsc 21 4 rfl rfl rfl rfl ?_
  refine mE_ico 22 4 rfl rfl rfl ?_
  refine mE_isub 23 0 rfl rfl rfl ?_
  refine mE_ic_gt_t 795 rfl (by decide) rfl ?_
  refine mE_ico 796 1 rfl rfl rfl ?_
  exact mE_iret rfl ⟨rfl, s1, s2⟩
set_option maxHeartbeats 4000000 in
set_option maxRecDepth 100000 in
theorem g_23 (xs : Nat → Int32) (v : Int32) (hk : xs 0 &&& 31 = v) (hv : v.toInt < 0 ∨ 22 < v.toInt) : mE (mcall 12) (some (4, xs)) 4 (mgd mLlaw mtL_law) 1000000 (18, [(3, .int 0), (2, .ref 47), (1, .ref 0), (0, .retAddr 1)], [], mh0) (fun r h' => r = some (.int 1) ∧ h'.1.length ≤ 600000 ∧ h'.2 ≤ 7302250) := by
  refine mE_ildn 19 rfl rfl rfl rfl ?_
  refine mE_aldn 20 rfl rfl rfl rfl ?_
  refine mE_lsc 21 4 rfl rfl rfl rfl ?_
  refine mE_ico 22 4 rfl rfl rfl ?_
  refine mE_isub 23 0 rfl rfl rfl ?_
  refine mE_ic_gt_f 26 rfl (by decide) rfl ?_
  refine mE_aldn 27 rfl rfl rfl rfl ?_
  refine mE_ildn 28 rfl rfl rfl rfl ?_
  refine mE_isc 29 (xs 0) rfl rfl (show ¬ ((0 : Int32) < 0 ∨ 4 ≤ (0 : Int32).toNatClampNeg) by decide) rfl rfl ?_
  refine mE_bip 31 31 rfl rfl rfl ?_
  refine mE_iand 32 v rfl hk rfl ?_
  refine mE_tsw0 789 rfl hv (by decide) rfl ?_
  refine mE_iinc 792 4 [(3, .int 4), (2, .ref 47), (1, .ref 0), (0, .retAddr 1)] rfl rfl rfl rfl rfl rfl ?_
  refine mE_goto 18 rfl rfl ?_
  refine mE_ildn 19 rfl rfl rfl rfl ?_
  refine mE_aldn 20 rfl rfl rfl rfl ?_
  refine mE_lsc 21 4 rfl rfl rfl rfl ?_
  refine mE_ico 22 4 rfl rfl rfl ?_
  refine mE_isub 23 0 rfl rfl rfl ?_
  refine mE_ic_gt_t 795 rfl (by decide) rfl ?_
  refine mE_ico 796 1 rfl rfl rfl ?_
  exact mE_iret rfl ⟨rfl, Nat.le_of_ble_eq_true rfl, Nat.le_of_ble_eq_true rfl⟩
set_option maxHeartbeats 4000000 in
theorem g_L0 (xs : Nat → Int32) : mE (mcall 12) (some (0, xs)) 4 (mgd mLlaw mtL_law) 1000000 (18, [(3, .int 0), (2, .ref 47), (1, .ref 0), (0, .retAddr 1)], [], mh0) (fun r h' => r = some (.int 1) ∧ h'.1.length ≤ 600000 ∧ h'.2 ≤ 7302250) := by
  refine mE_ildn 19 rfl rfl rfl rfl ?_
  refine mE_aldn 20 rfl rfl rfl rfl ?_
  refine mE_lsc 21 0 rfl rfl rfl rfl ?_
  refine mE_ico 22 4 rfl rfl rfl ?_
  refine mE_isub 23 (-4) rfl rfl rfl ?_
  refine mE_ic_gt_t 795 rfl (by decide) rfl ?_
  refine mE_ico 796 1 rfl rfl rfl ?_
  exact mE_iret rfl ⟨rfl, Nat.le_of_ble_eq_true rfl, Nat.le_of_ble_eq_true rfl⟩
set_option maxHeartbeats 4000000 in
theorem g_L1 (xs : Nat → Int32) : mE (mcall 12) (some (1, xs)) 4 (mgd mLlaw mtL_law) 1000000 (18, [(3, .int 0), (2, .ref 47), (1, .ref 0), (0, .retAddr 1)], [], mh0) (fun r h' => r = some (.int 1) ∧ h'.1.length ≤ 600000 ∧ h'.2 ≤ 7302250) := by
  refine mE_ildn 19 rfl rfl rfl rfl ?_
  refine mE_aldn 20 rfl rfl rfl rfl ?_
  refine mE_lsc 21 1 rfl rfl rfl rfl ?_
  refine mE_ico 22 4 rfl rfl rfl ?_
  refine mE_isub 23 (-3) rfl rfl rfl ?_
  refine mE_ic_gt_t 795 rfl (by decide) rfl ?_
  refine mE_ico 796 1 rfl rfl rfl ?_
  exact mE_iret rfl ⟨rfl, Nat.le_of_ble_eq_true rfl, Nat.le_of_ble_eq_true rfl⟩
set_option maxHeartbeats 4000000 in
theorem g_L2 (xs : Nat → Int32) : mE (mcall 12) (some (2, xs)) 4 (mgd mLlaw mtL_law) 1000000 (18, [(3, .int 0), (2, .ref 47), (1, .ref 0), (0, .retAddr 1)], [], mh0) (fun r h' => r = some (.int 1) ∧ h'.1.length ≤ 600000 ∧ h'.2 ≤ 7302250) := by
  refine mE_ildn 19 rfl rfl rfl rfl ?_
  refine mE_aldn 20 rfl rfl rfl rfl ?_
  refine mE_lsc 21 2 rfl rfl rfl rfl ?_
  refine mE_ico 22 4 rfl rfl rfl ?_
  refine mE_isub 23 (-2) rfl rfl rfl ?_
  refine mE_ic_gt_t 795 rfl (by decide) rfl ?_
  refine mE_ico 796 1 rfl rfl rfl ?_
  exact mE_iret rfl ⟨rfl, Nat.le_of_ble_eq_true rfl, Nat.le_of_ble_eq_true rfl⟩
set_option maxHeartbeats 4000000 in
theorem g_L3 (xs : Nat → Int32) : mE (mcall 12) (some (3, xs)) 4 (mgd mLlaw mtL_law) 1000000 (18, [(3, .int 0), (2, .ref 47), (1, .ref 0), (0, .retAddr 1)], [], mh0) (fun r h' => r = some (.int 1) ∧ h'.1.length ≤ 600000 ∧ h'.2 ≤ 7302250) := by
  refine mE_ildn 19 rfl rfl rfl rfl ?_
  refine mE_aldn 20 rfl rfl rfl rfl ?_
  refine mE_lsc 21 3 rfl rfl rfl rfl ?_
  refine mE_ico 22 4 rfl rfl rfl ?_
  refine mE_isub 23 (-1) rfl rfl rfl ?_
  refine mE_ic_gt_t 795 rfl (by decide) rfl ?_
  refine mE_ico 796 1 rfl rfl rfl ?_
  exact mE_iret rfl ⟨rfl, Nat.le_of_ble_eq_true rfl, Nat.le_of_ble_eq_true rfl⟩
