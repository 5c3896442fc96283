/-! the law: a case each, and the loop -/
theorem law_at {L : Nat} {xs : Nat → Int32} {j : Int32} {i a : Nat} (hL : L ≤ 2048) (hj : j.toInt = 4 * (i : Int)) (hlt : 4 * i + 4 ≤ L) (ha : a < 4) (e : Int32) (he : e.toInt = a) : ¬ ((j + e) < 0 ∨ L ≤ (j + e).toNatClampNeg) ∧ xs (j + e).toNatClampNeg = xs (4 * i + a) := by
  have e0 : (0 : Int32).toInt = 0 := by decide
  have h1 : (j + e).toInt = j.toInt + e.toInt := add_id (by omega) (by omega)
  have h2 : (j + e).toNatClampNeg = 4 * i + a := by
    show (j + e).toInt.toNat = _
    omega
  rw [h2]
  refine ⟨?_, rfl⟩
  rintro (q | q)
  · have := Int32.lt_iff_toInt_lt.mp q; omega
  · omega
set_option maxRecDepth 10000 in
theorem lc_0 {L : Nat} {xs : Nat → Int32} {j : Int32} {i b : Nat} {g : Nat → Int} {ρ : List Nat} {h : mS} (hL : L ≤ 2048) (hj : j.toInt = 4 * (i : Int)) (hlt : 4 * i + 4 ≤ L) (hI : (Inv i g ρ h ∧ JP h.1)) (kk : ∀ g2 ρ2 h2, (Inv (i + 1) g2 ρ2 h2 ∧ JP h2.1) → mE (mcall 720) (some (L, xs)) 4 (mgd mLlaw mtL_law) b (789, [(3, .int j), (2, .ref 47), (1, .ref 0), (0, .retAddr 1)], [], h2) (fun r h' => r = some (.int 1) ∧ h'.1.length ≤ 600000 ∧ h'.2 ≤ 7302250)) : mE (mcall 720) (some (L, xs)) 4 (mgd mLlaw mtL_law) (b + 27) (140, [(3, .int j), (2, .ref 47), (1, .ref 0), (0, .retAddr 1)], [], h) (fun r h' => r = some (.int 1) ∧ h'.1.length ≤ 600000 ∧ h'.2 ≤ 7302250) := by
  obtain ⟨fs0, c0, -, -⟩ := fld hI.1.1 hI.1.2.1 rO_eq
  obtain ⟨v1, v2, h1, h2, g2, ρ2, fs, e1, e2, e3, e4, e5⟩ := jp_house (xs (4 * i + 1)) (xs (4 * i + 2)) i g ρ h (by omega) hI
  refine mE_aldn 141 rfl rfl rfl rfl ?_
  refine mE_aldn 142 rfl rfl rfl rfl ?_
  refine mE_ildn 143 rfl rfl rfl rfl ?_
  refine mE_ico 144 1 rfl rfl rfl ?_
  refine mE_iadd 145 (j + 1) rfl rfl rfl ?_
  refine mE_isc 146 (xs (4 * i + 1)) rfl rfl (law_at (xs := xs) (a := 1) hL hj hlt (by omega) 1 (by decide)).1 (law_at (a := 1) hL hj hlt (by omega) 1 (by decide)).2 rfl ?_
  refine mE_aldn 147 rfl rfl rfl rfl ?_
  refine mE_ildn 148 rfl rfl rfl rfl ?_
  refine mE_ico 149 2 rfl rfl rfl ?_
  refine mE_iadd 150 (j + 2) rfl rfl rfl ?_
  refine mE_isc 151 (xs (4 * i + 2)) rfl rfl (law_at (xs := xs) (a := 2) hL hj hlt (by omega) 2 (by decide)).1 (law_at (a := 2) hL hj hlt (by omega) 2 (by decide)).2 rfl ?_
  refine mE_cv [.int (xs (4 * i + 1)), .int (xs (4 * i + 2))] [] rfl rfl rfl rfl c0 rfl ⟨_, _, e1, ?_⟩
  refine mE_pop 155 rfl rfl rfl ?_
  refine mE_aldn 156 rfl rfl rfl rfl ?_
  refine mE_aldn 157 rfl rfl rfl rfl ?_
  refine mE_ildn 158 rfl rfl rfl rfl ?_
  refine mE_ico 159 1 rfl rfl rfl ?_
  refine mE_iadd 160 (j + 1) rfl rfl rfl ?_
  refine mE_isc 161 (xs (4 * i + 1)) rfl rfl (law_at (xs := xs) (a := 1) hL hj hlt (by omega) 1 (by decide)).1 (law_at (a := 1) hL hj hlt (by omega) 1 (by decide)).2 rfl ?_
  refine mE_aldn 162 rfl rfl rfl rfl ?_
  refine mE_ildn 163 rfl rfl rfl rfl ?_
  refine mE_ico 164 2 rfl rfl rfl ?_
  refine mE_iadd 165 (j + 2) rfl rfl rfl ?_
  refine mE_isc 166 (xs (4 * i + 2)) rfl rfl (law_at (xs := xs) (a := 2) hL hj hlt (by omega) 2 (by decide)).1 (law_at (a := 2) hL hj hlt (by omega) 2 (by decide)).2 rfl ?_
  refine mE_cv [.int (xs (4 * i + 1)), .int (xs (4 * i + 2))] [] rfl rfl rfl rfl e2 rfl ⟨_, _, e3, ?_⟩
  refine mE_pop 170 rfl rfl rfl ?_
  refine mE_goto 789 rfl rfl ?_
  exact kk g2 ρ2 h2 e4
set_option maxRecDepth 10000 in
theorem lc_1 {L : Nat} {xs : Nat → Int32} {j : Int32} {i b : Nat} {g : Nat → Int} {ρ : List Nat} {h : mS} (hL : L ≤ 2048) (hj : j.toInt = 4 * (i : Int)) (hlt : 4 * i + 4 ≤ L) (hI : (Inv i g ρ h ∧ JP h.1)) (kk : ∀ g2 ρ2 h2, (Inv (i + 1) g2 ρ2 h2 ∧ JP h2.1) → mE (mcall 720) (some (L, xs)) 4 (mgd mLlaw mtL_law) b (789, [(3, .int j), (2, .ref 47), (1, .ref 0), (0, .retAddr 1)], [], h2) (fun r h' => r = some (.int 1) ∧ h'.1.length ≤ 600000 ∧ h'.2 ≤ 7302250)) : mE (mcall 720) (some (L, xs)) 4 (mgd mLlaw mtL_law) (b + 37) (173, [(3, .int j), (2, .ref 47), (1, .ref 0), (0, .retAddr 1)], [], h) (fun r h' => r = some (.int 1) ∧ h'.1.length ≤ 600000 ∧ h'.2 ≤ 7302250) := by
  obtain ⟨fs0, c0, -, -⟩ := fld hI.1.1 hI.1.2.1 rO_eq
  obtain ⟨v1, v2, h1, h2, g2, ρ2, fs, e1, e2, e3, e4, e5⟩ := jp_strip (xs (4 * i + 1)) (xs (4 * i + 2)) (xs (4 * i + 3)) i g ρ h (by omega) hI
  refine mE_aldn 174 rfl rfl rfl rfl ?_
  refine mE_aldn 175 rfl rfl rfl rfl ?_
  refine mE_ildn 176 rfl rfl rfl rfl ?_
  refine mE_ico 177 1 rfl rfl rfl ?_
  refine mE_iadd 178 (j + 1) rfl rfl rfl ?_
  refine mE_isc 179 (xs (4 * i + 1)) rfl rfl (law_at (xs := xs) (a := 1) hL hj hlt (by omega) 1 (by decide)).1 (law_at (a := 1) hL hj hlt (by omega) 1 (by decide)).2 rfl ?_
  refine mE_aldn 180 rfl rfl rfl rfl ?_
  refine mE_ildn 181 rfl rfl rfl rfl ?_
  refine mE_ico 182 2 rfl rfl rfl ?_
  refine mE_iadd 183 (j + 2) rfl rfl rfl ?_
  refine mE_isc 184 (xs (4 * i + 2)) rfl rfl (law_at (xs := xs) (a := 2) hL hj hlt (by omega) 2 (by decide)).1 (law_at (a := 2) hL hj hlt (by omega) 2 (by decide)).2 rfl ?_
  refine mE_aldn 185 rfl rfl rfl rfl ?_
  refine mE_ildn 186 rfl rfl rfl rfl ?_
  refine mE_ico 187 3 rfl rfl rfl ?_
  refine mE_iadd 188 (j + 3) rfl rfl rfl ?_
  refine mE_isc 189 (xs (4 * i + 3)) rfl rfl (law_at (xs := xs) (a := 3) hL hj hlt (by omega) 3 (by decide)).1 (law_at (a := 3) hL hj hlt (by omega) 3 (by decide)).2 rfl ?_
  refine mE_cv [.int (xs (4 * i + 1)), .int (xs (4 * i + 2)), .int (xs (4 * i + 3))] [] rfl rfl rfl rfl c0 rfl ⟨_, _, e1, ?_⟩
  refine mE_pop 193 rfl rfl rfl ?_
  refine mE_aldn 194 rfl rfl rfl rfl ?_
  refine mE_aldn 195 rfl rfl rfl rfl ?_
  refine mE_ildn 196 rfl rfl rfl rfl ?_
  refine mE_ico 197 1 rfl rfl rfl ?_
  refine mE_iadd 198 (j + 1) rfl rfl rfl ?_
  refine mE_isc 199 (xs (4 * i + 1)) rfl rfl (law_at (xs := xs) (a := 1) hL hj hlt (by omega) 1 (by decide)).1 (law_at (a := 1) hL hj hlt (by omega) 1 (by decide)).2 rfl ?_
  refine mE_aldn 200 rfl rfl rfl rfl ?_
  refine mE_ildn 201 rfl rfl rfl rfl ?_
  refine mE_ico 202 2 rfl rfl rfl ?_
  refine mE_iadd 203 (j + 2) rfl rfl rfl ?_
  refine mE_isc 204 (xs (4 * i + 2)) rfl rfl (law_at (xs := xs) (a := 2) hL hj hlt (by omega) 2 (by decide)).1 (law_at (a := 2) hL hj hlt (by omega) 2 (by decide)).2 rfl ?_
  refine mE_aldn 205 rfl rfl rfl rfl ?_
  refine mE_ildn 206 rfl rfl rfl rfl ?_
  refine mE_ico 207 3 rfl rfl rfl ?_
  refine mE_iadd 208 (j + 3) rfl rfl rfl ?_
  refine mE_isc 209 (xs (4 * i + 3)) rfl rfl (law_at (xs := xs) (a := 3) hL hj hlt (by omega) 3 (by decide)).1 (law_at (a := 3) hL hj hlt (by omega) 3 (by decide)).2 rfl ?_
  refine mE_cv [.int (xs (4 * i + 1)), .int (xs (4 * i + 2)), .int (xs (4 * i + 3))] [] rfl rfl rfl rfl e2 rfl ⟨_, _, e3, ?_⟩
  refine mE_pop 213 rfl rfl rfl ?_
  refine mE_goto 789 rfl rfl ?_
  exact kk g2 ρ2 h2 e4
set_option maxRecDepth 10000 in
theorem lc_2 {L : Nat} {xs : Nat → Int32} {j : Int32} {i b : Nat} {g : Nat → Int} {ρ : List Nat} {h : mS} (hL : L ≤ 2048) (hj : j.toInt = 4 * (i : Int)) (hlt : 4 * i + 4 ≤ L) (hI : (Inv i g ρ h ∧ JP h.1)) (kk : ∀ g2 ρ2 h2, (Inv (i + 1) g2 ρ2 h2 ∧ JP h2.1) → mE (mcall 720) (some (L, xs)) 4 (mgd mLlaw mtL_law) b (789, [(3, .int j), (2, .ref 47), (1, .ref 0), (0, .retAddr 1)], [], h2) (fun r h' => r = some (.int 1) ∧ h'.1.length ≤ 600000 ∧ h'.2 ≤ 7302250)) : mE (mcall 720) (some (L, xs)) 4 (mgd mLlaw mtL_law) (b + 27) (216, [(3, .int j), (2, .ref 47), (1, .ref 0), (0, .retAddr 1)], [], h) (fun r h' => r = some (.int 1) ∧ h'.1.length ≤ 600000 ∧ h'.2 ≤ 7302250) := by
  obtain ⟨fs0, c0, -, -⟩ := fld hI.1.1 hI.1.2.1 rO_eq
  obtain ⟨v1, v2, h1, h2, g2, ρ2, fs, e1, e2, e3, e4, e5⟩ := jp_rain (xs (4 * i + 1)) (xs (4 * i + 2)) i g ρ h (by omega) hI
  refine mE_aldn 217 rfl rfl rfl rfl ?_
  refine mE_aldn 218 rfl rfl rfl rfl ?_
  refine mE_ildn 219 rfl rfl rfl rfl ?_
  refine mE_ico 220 1 rfl rfl rfl ?_
  refine mE_iadd 221 (j + 1) rfl rfl rfl ?_
  refine mE_isc 222 (xs (4 * i + 1)) rfl rfl (law_at (xs := xs) (a := 1) hL hj hlt (by omega) 1 (by decide)).1 (law_at (a := 1) hL hj hlt (by omega) 1 (by decide)).2 rfl ?_
  refine mE_aldn 223 rfl rfl rfl rfl ?_
  refine mE_ildn 224 rfl rfl rfl rfl ?_
  refine mE_ico 225 2 rfl rfl rfl ?_
  refine mE_iadd 226 (j + 2) rfl rfl rfl ?_
  refine mE_isc 227 (xs (4 * i + 2)) rfl rfl (law_at (xs := xs) (a := 2) hL hj hlt (by omega) 2 (by decide)).1 (law_at (a := 2) hL hj hlt (by omega) 2 (by decide)).2 rfl ?_
  refine mE_cv [.int (xs (4 * i + 1)), .int (xs (4 * i + 2))] [] rfl rfl rfl rfl c0 rfl ⟨_, _, e1, ?_⟩
  refine mE_pop 231 rfl rfl rfl ?_
  refine mE_aldn 232 rfl rfl rfl rfl ?_
  refine mE_aldn 233 rfl rfl rfl rfl ?_
  refine mE_ildn 234 rfl rfl rfl rfl ?_
  refine mE_ico 235 1 rfl rfl rfl ?_
  refine mE_iadd 236 (j + 1) rfl rfl rfl ?_
  refine mE_isc 237 (xs (4 * i + 1)) rfl rfl (law_at (xs := xs) (a := 1) hL hj hlt (by omega) 1 (by decide)).1 (law_at (a := 1) hL hj hlt (by omega) 1 (by decide)).2 rfl ?_
  refine mE_aldn 238 rfl rfl rfl rfl ?_
  refine mE_ildn 239 rfl rfl rfl rfl ?_
  refine mE_ico 240 2 rfl rfl rfl ?_
  refine mE_iadd 241 (j + 2) rfl rfl rfl ?_
  refine mE_isc 242 (xs (4 * i + 2)) rfl rfl (law_at (xs := xs) (a := 2) hL hj hlt (by omega) 2 (by decide)).1 (law_at (a := 2) hL hj hlt (by omega) 2 (by decide)).2 rfl ?_
  refine mE_cv [.int (xs (4 * i + 1)), .int (xs (4 * i + 2))] [] rfl rfl rfl rfl e2 rfl ⟨_, _, e3, ?_⟩
  refine mE_pop 246 rfl rfl rfl ?_
  refine mE_goto 789 rfl rfl ?_
  exact kk g2 ρ2 h2 e4
set_option maxRecDepth 10000 in
theorem lc_3 {L : Nat} {xs : Nat → Int32} {j : Int32} {i b : Nat} {g : Nat → Int} {ρ : List Nat} {h : mS} (hL : L ≤ 2048) (hj : j.toInt = 4 * (i : Int)) (hlt : 4 * i + 4 ≤ L) (hI : (Inv i g ρ h ∧ JP h.1)) (kk : ∀ g2 ρ2 h2, (Inv (i + 1) g2 ρ2 h2 ∧ JP h2.1) → mE (mcall 720) (some (L, xs)) 4 (mgd mLlaw mtL_law) b (789, [(3, .int j), (2, .ref 47), (1, .ref 0), (0, .retAddr 1)], [], h2) (fun r h' => r = some (.int 1) ∧ h'.1.length ≤ 600000 ∧ h'.2 ≤ 7302250)) : mE (mcall 720) (some (L, xs)) 4 (mgd mLlaw mtL_law) (b + 25) (249, [(3, .int j), (2, .ref 47), (1, .ref 0), (0, .retAddr 1)], [], h) (fun r h' => r = some (.int 1) ∧ h'.1.length ≤ 600000 ∧ h'.2 ≤ 7302250) := by
  obtain ⟨fs0, c0, -, -⟩ := fld hI.1.1 hI.1.2.1 rO_eq
  obtain ⟨v1, v2, h1, h2, g2, ρ2, fs, e1, e2, e3, e4, e5⟩ := jp_beasts (xs (4 * i + 1)) (xs (4 * i + 2)) i g ρ h (by omega) hI
  refine mE_aldn 250 rfl rfl rfl rfl ?_
  refine mE_aldn 251 rfl rfl rfl rfl ?_
  refine mE_ildn 252 rfl rfl rfl rfl ?_
  refine mE_ico 253 1 rfl rfl rfl ?_
  refine mE_iadd 254 (j + 1) rfl rfl rfl ?_
  refine mE_isc 255 (xs (4 * i + 1)) rfl rfl (law_at (xs := xs) (a := 1) hL hj hlt (by omega) 1 (by decide)).1 (law_at (a := 1) hL hj hlt (by omega) 1 (by decide)).2 rfl ?_
  refine mE_aldn 256 rfl rfl rfl rfl ?_
  refine mE_ildn 257 rfl rfl rfl rfl ?_
  refine mE_ico 258 2 rfl rfl rfl ?_
  refine mE_iadd 259 (j + 2) rfl rfl rfl ?_
  refine mE_isc 260 (xs (4 * i + 2)) rfl rfl (law_at (xs := xs) (a := 2) hL hj hlt (by omega) 2 (by decide)).1 (law_at (a := 2) hL hj hlt (by omega) 2 (by decide)).2 rfl ?_
  refine mE_cv [.int (xs (4 * i + 1)), .int (xs (4 * i + 2))] [] rfl rfl rfl rfl c0 rfl ⟨_, _, e1, ?_⟩
  refine mE_aldn 264 rfl rfl rfl rfl ?_
  refine mE_aldn 265 rfl rfl rfl rfl ?_
  refine mE_ildn 266 rfl rfl rfl rfl ?_
  refine mE_ico 267 1 rfl rfl rfl ?_
  refine mE_iadd 268 (j + 1) rfl rfl rfl ?_
  refine mE_isc 269 (xs (4 * i + 1)) rfl rfl (law_at (xs := xs) (a := 1) hL hj hlt (by omega) 1 (by decide)).1 (law_at (a := 1) hL hj hlt (by omega) 1 (by decide)).2 rfl ?_
  refine mE_aldn 270 rfl rfl rfl rfl ?_
  refine mE_ildn 271 rfl rfl rfl rfl ?_
  refine mE_ico 272 2 rfl rfl rfl ?_
  refine mE_iadd 273 (j + 2) rfl rfl rfl ?_
  refine mE_isc 274 (xs (4 * i + 2)) rfl rfl (law_at (xs := xs) (a := 2) hL hj hlt (by omega) 2 (by decide)).1 (law_at (a := 2) hL hj hlt (by omega) 2 (by decide)).2 rfl ?_
  refine mE_cv [.int (xs (4 * i + 1)), .int (xs (4 * i + 2))] [.int v1] rfl rfl rfl rfl e2 rfl ⟨_, _, e3, ?_⟩
  refine mE_ic_eq_t 789 rfl e5 rfl ?_
  exact kk g2 ρ2 h2 e4
set_option maxRecDepth 10000 in
theorem lc_4 {L : Nat} {xs : Nat → Int32} {j : Int32} {i b : Nat} {g : Nat → Int} {ρ : List Nat} {h : mS} (hL : L ≤ 2048) (hj : j.toInt = 4 * (i : Int)) (hlt : 4 * i + 4 ≤ L) (hI : (Inv i g ρ h ∧ JP h.1)) (kk : ∀ g2 ρ2 h2, (Inv (i + 1) g2 ρ2 h2 ∧ JP h2.1) → mE (mcall 720) (some (L, xs)) 4 (mgd mLlaw mtL_law) b (789, [(3, .int j), (2, .ref 47), (1, .ref 0), (0, .retAddr 1)], [], h2) (fun r h' => r = some (.int 1) ∧ h'.1.length ≤ 600000 ∧ h'.2 ≤ 7302250)) : mE (mcall 720) (some (L, xs)) 4 (mgd mLlaw mtL_law) (b + 17) (282, [(3, .int j), (2, .ref 47), (1, .ref 0), (0, .retAddr 1)], [], h) (fun r h' => r = some (.int 1) ∧ h'.1.length ≤ 600000 ∧ h'.2 ≤ 7302250) := by
  obtain ⟨fs0, c0, -, -⟩ := fld hI.1.1 hI.1.2.1 rO_eq
  obtain ⟨v1, v2, h1, h2, g2, ρ2, fs, e1, e2, e3, e4, e5⟩ := jp_sow (xs (4 * i + 1)) i g ρ h (by omega) hI
  refine mE_aldn 283 rfl rfl rfl rfl ?_
  refine mE_aldn 284 rfl rfl rfl rfl ?_
  refine mE_ildn 285 rfl rfl rfl rfl ?_
  refine mE_ico 286 1 rfl rfl rfl ?_
  refine mE_iadd 287 (j + 1) rfl rfl rfl ?_
  refine mE_isc 288 (xs (4 * i + 1)) rfl rfl (law_at (xs := xs) (a := 1) hL hj hlt (by omega) 1 (by decide)).1 (law_at (a := 1) hL hj hlt (by omega) 1 (by decide)).2 rfl ?_
  refine mE_cv [.int (xs (4 * i + 1))] [] rfl rfl rfl rfl c0 rfl ⟨_, _, e1, ?_⟩
  refine mE_pop 292 rfl rfl rfl ?_
  refine mE_aldn 293 rfl rfl rfl rfl ?_
  refine mE_aldn 294 rfl rfl rfl rfl ?_
  refine mE_ildn 295 rfl rfl rfl rfl ?_
  refine mE_ico 296 1 rfl rfl rfl ?_
  refine mE_iadd 297 (j + 1) rfl rfl rfl ?_
  refine mE_isc 298 (xs (4 * i + 1)) rfl rfl (law_at (xs := xs) (a := 1) hL hj hlt (by omega) 1 (by decide)).1 (law_at (a := 1) hL hj hlt (by omega) 1 (by decide)).2 rfl ?_
  refine mE_cv [.int (xs (4 * i + 1))] [] rfl rfl rfl rfl e2 rfl ⟨_, _, e3, ?_⟩
  refine mE_pop 302 rfl rfl rfl ?_
  refine mE_goto 789 rfl rfl ?_
  exact kk g2 ρ2 h2 e4
set_option maxRecDepth 10000 in
theorem lc_5 {L : Nat} {xs : Nat → Int32} {j : Int32} {i b : Nat} {g : Nat → Int} {ρ : List Nat} {h : mS} (hL : L ≤ 2048) (hj : j.toInt = 4 * (i : Int)) (hlt : 4 * i + 4 ≤ L) (hI : (Inv i g ρ h ∧ JP h.1)) (kk : ∀ g2 ρ2 h2, (Inv (i + 1) g2 ρ2 h2 ∧ JP h2.1) → mE (mcall 720) (some (L, xs)) 4 (mgd mLlaw mtL_law) b (789, [(3, .int j), (2, .ref 47), (1, .ref 0), (0, .retAddr 1)], [], h2) (fun r h' => r = some (.int 1) ∧ h'.1.length ≤ 600000 ∧ h'.2 ≤ 7302250)) : mE (mcall 720) (some (L, xs)) 4 (mgd mLlaw mtL_law) (b + 17) (305, [(3, .int j), (2, .ref 47), (1, .ref 0), (0, .retAddr 1)], [], h) (fun r h' => r = some (.int 1) ∧ h'.1.length ≤ 600000 ∧ h'.2 ≤ 7302250) := by
  obtain ⟨fs0, c0, -, -⟩ := fld hI.1.1 hI.1.2.1 rO_eq
  obtain ⟨v1, v2, h1, h2, g2, ρ2, fs, e1, e2, e3, e4, e5⟩ := jp_reap (xs (4 * i + 1)) i g ρ h (by omega) hI
  refine mE_aldn 306 rfl rfl rfl rfl ?_
  refine mE_aldn 307 rfl rfl rfl rfl ?_
  refine mE_ildn 308 rfl rfl rfl rfl ?_
  refine mE_ico 309 1 rfl rfl rfl ?_
  refine mE_iadd 310 (j + 1) rfl rfl rfl ?_
  refine mE_isc 311 (xs (4 * i + 1)) rfl rfl (law_at (xs := xs) (a := 1) hL hj hlt (by omega) 1 (by decide)).1 (law_at (a := 1) hL hj hlt (by omega) 1 (by decide)).2 rfl ?_
  refine mE_cv [.int (xs (4 * i + 1))] [] rfl rfl rfl rfl c0 rfl ⟨_, _, e1, ?_⟩
  refine mE_pop 315 rfl rfl rfl ?_
  refine mE_aldn 316 rfl rfl rfl rfl ?_
  refine mE_aldn 317 rfl rfl rfl rfl ?_
  refine mE_ildn 318 rfl rfl rfl rfl ?_
  refine mE_ico 319 1 rfl rfl rfl ?_
  refine mE_iadd 320 (j + 1) rfl rfl rfl ?_
  refine mE_isc 321 (xs (4 * i + 1)) rfl rfl (law_at (xs := xs) (a := 1) hL hj hlt (by omega) 1 (by decide)).1 (law_at (a := 1) hL hj hlt (by omega) 1 (by decide)).2 rfl ?_
  refine mE_cv [.int (xs (4 * i + 1))] [] rfl rfl rfl rfl e2 rfl ⟨_, _, e3, ?_⟩
  refine mE_pop 325 rfl rfl rfl ?_
  refine mE_goto 789 rfl rfl ?_
  exact kk g2 ρ2 h2 e4
set_option maxRecDepth 10000 in
theorem lc_6 {L : Nat} {xs : Nat → Int32} {j : Int32} {i b : Nat} {g : Nat → Int} {ρ : List Nat} {h : mS} (hL : L ≤ 2048) (hj : j.toInt = 4 * (i : Int)) (hlt : 4 * i + 4 ≤ L) (hI : (Inv i g ρ h ∧ JP h.1)) (kk : ∀ g2 ρ2 h2, (Inv (i + 1) g2 ρ2 h2 ∧ JP h2.1) → mE (mcall 720) (some (L, xs)) 4 (mgd mLlaw mtL_law) b (789, [(3, .int j), (2, .ref 47), (1, .ref 0), (0, .retAddr 1)], [], h2) (fun r h' => r = some (.int 1) ∧ h'.1.length ≤ 600000 ∧ h'.2 ≤ 7302250)) : mE (mcall 720) (some (L, xs)) 4 (mgd mLlaw mtL_law) (b + 17) (328, [(3, .int j), (2, .ref 47), (1, .ref 0), (0, .retAddr 1)], [], h) (fun r h' => r = some (.int 1) ∧ h'.1.length ≤ 600000 ∧ h'.2 ≤ 7302250) := by
  obtain ⟨fs0, c0, -, -⟩ := fld hI.1.1 hI.1.2.1 rO_eq
  obtain ⟨v1, v2, h1, h2, g2, ρ2, fs, e1, e2, e3, e4, e5⟩ := jp_week (xs (4 * i + 1)) i g ρ h (by omega) hI
  refine mE_aldn 329 rfl rfl rfl rfl ?_
  refine mE_aldn 330 rfl rfl rfl rfl ?_
  refine mE_ildn 331 rfl rfl rfl rfl ?_
  refine mE_ico 332 1 rfl rfl rfl ?_
  refine mE_iadd 333 (j + 1) rfl rfl rfl ?_
  refine mE_isc 334 (xs (4 * i + 1)) rfl rfl (law_at (xs := xs) (a := 1) hL hj hlt (by omega) 1 (by decide)).1 (law_at (a := 1) hL hj hlt (by omega) 1 (by decide)).2 rfl ?_
  refine mE_cv [.int (xs (4 * i + 1))] [] rfl rfl rfl rfl c0 rfl ⟨_, _, e1, ?_⟩
  refine mE_pop 338 rfl rfl rfl ?_
  refine mE_aldn 339 rfl rfl rfl rfl ?_
  refine mE_aldn 340 rfl rfl rfl rfl ?_
  refine mE_ildn 341 rfl rfl rfl rfl ?_
  refine mE_ico 342 1 rfl rfl rfl ?_
  refine mE_iadd 343 (j + 1) rfl rfl rfl ?_
  refine mE_isc 344 (xs (4 * i + 1)) rfl rfl (law_at (xs := xs) (a := 1) hL hj hlt (by omega) 1 (by decide)).1 (law_at (a := 1) hL hj hlt (by omega) 1 (by decide)).2 rfl ?_
  refine mE_cv [.int (xs (4 * i + 1))] [] rfl rfl rfl rfl e2 rfl ⟨_, _, e3, ?_⟩
  refine mE_pop 348 rfl rfl rfl ?_
  refine mE_goto 789 rfl rfl ?_
  exact kk g2 ρ2 h2 e4
set_option maxRecDepth 10000 in
theorem lc_7 {L : Nat} {xs : Nat → Int32} {j : Int32} {i b : Nat} {g : Nat → Int} {ρ : List Nat} {h : mS} (hL : L ≤ 2048) (hj : j.toInt = 4 * (i : Int)) (hlt : 4 * i + 4 ≤ L) (hI : (Inv i g ρ h ∧ JP h.1)) (kk : ∀ g2 ρ2 h2, (Inv (i + 1) g2 ρ2 h2 ∧ JP h2.1) → mE (mcall 720) (some (L, xs)) 4 (mgd mLlaw mtL_law) b (789, [(3, .int j), (2, .ref 47), (1, .ref 0), (0, .retAddr 1)], [], h2) (fun r h' => r = some (.int 1) ∧ h'.1.length ≤ 600000 ∧ h'.2 ≤ 7302250)) : mE (mcall 720) (some (L, xs)) 4 (mgd mLlaw mtL_law) (b + 27) (351, [(3, .int j), (2, .ref 47), (1, .ref 0), (0, .retAddr 1)], [], h) (fun r h' => r = some (.int 1) ∧ h'.1.length ≤ 600000 ∧ h'.2 ≤ 7302250) := by
  obtain ⟨fs0, c0, -, -⟩ := fld hI.1.1 hI.1.2.1 rO_eq
  obtain ⟨v1, v2, h1, h2, g2, ρ2, fs, e1, e2, e3, e4, e5⟩ := jp_land (xs (4 * i + 1)) (xs (4 * i + 2)) i g ρ h (by omega) hI
  refine mE_aldn 352 rfl rfl rfl rfl ?_
  refine mE_aldn 353 rfl rfl rfl rfl ?_
  refine mE_ildn 354 rfl rfl rfl rfl ?_
  refine mE_ico 355 1 rfl rfl rfl ?_
  refine mE_iadd 356 (j + 1) rfl rfl rfl ?_
  refine mE_isc 357 (xs (4 * i + 1)) rfl rfl (law_at (xs := xs) (a := 1) hL hj hlt (by omega) 1 (by decide)).1 (law_at (a := 1) hL hj hlt (by omega) 1 (by decide)).2 rfl ?_
  refine mE_aldn 358 rfl rfl rfl rfl ?_
  refine mE_ildn 359 rfl rfl rfl rfl ?_
  refine mE_ico 360 2 rfl rfl rfl ?_
  refine mE_iadd 361 (j + 2) rfl rfl rfl ?_
  refine mE_isc 362 (xs (4 * i + 2)) rfl rfl (law_at (xs := xs) (a := 2) hL hj hlt (by omega) 2 (by decide)).1 (law_at (a := 2) hL hj hlt (by omega) 2 (by decide)).2 rfl ?_
  refine mE_cv [.int (xs (4 * i + 1)), .int (xs (4 * i + 2))] [] rfl rfl rfl rfl c0 rfl ⟨_, _, e1, ?_⟩
  refine mE_pop 366 rfl rfl rfl ?_
  refine mE_aldn 367 rfl rfl rfl rfl ?_
  refine mE_aldn 368 rfl rfl rfl rfl ?_
  refine mE_ildn 369 rfl rfl rfl rfl ?_
  refine mE_ico 370 1 rfl rfl rfl ?_
  refine mE_iadd 371 (j + 1) rfl rfl rfl ?_
  refine mE_isc 372 (xs (4 * i + 1)) rfl rfl (law_at (xs := xs) (a := 1) hL hj hlt (by omega) 1 (by decide)).1 (law_at (a := 1) hL hj hlt (by omega) 1 (by decide)).2 rfl ?_
  refine mE_aldn 373 rfl rfl rfl rfl ?_
  refine mE_ildn 374 rfl rfl rfl rfl ?_
  refine mE_ico 375 2 rfl rfl rfl ?_
  refine mE_iadd 376 (j + 2) rfl rfl rfl ?_
  refine mE_isc 377 (xs (4 * i + 2)) rfl rfl (law_at (xs := xs) (a := 2) hL hj hlt (by omega) 2 (by decide)).1 (law_at (a := 2) hL hj hlt (by omega) 2 (by decide)).2 rfl ?_
  refine mE_cv [.int (xs (4 * i + 1)), .int (xs (4 * i + 2))] [] rfl rfl rfl rfl e2 rfl ⟨_, _, e3, ?_⟩
  refine mE_pop 381 rfl rfl rfl ?_
  refine mE_goto 789 rfl rfl ?_
  exact kk g2 ρ2 h2 e4
set_option maxRecDepth 10000 in
theorem lc_8 {L : Nat} {xs : Nat → Int32} {j : Int32} {i b : Nat} {g : Nat → Int} {ρ : List Nat} {h : mS} (hL : L ≤ 2048) (hj : j.toInt = 4 * (i : Int)) (hlt : 4 * i + 4 ≤ L) (hI : (Inv i g ρ h ∧ JP h.1)) (kk : ∀ g2 ρ2 h2, (Inv (i + 1) g2 ρ2 h2 ∧ JP h2.1) → mE (mcall 720) (some (L, xs)) 4 (mgd mLlaw mtL_law) b (789, [(3, .int j), (2, .ref 47), (1, .ref 0), (0, .retAddr 1)], [], h2) (fun r h' => r = some (.int 1) ∧ h'.1.length ≤ 600000 ∧ h'.2 ≤ 7302250)) : mE (mcall 720) (some (L, xs)) 4 (mgd mLlaw mtL_law) (b + 27) (384, [(3, .int j), (2, .ref 47), (1, .ref 0), (0, .retAddr 1)], [], h) (fun r h' => r = some (.int 1) ∧ h'.1.length ≤ 600000 ∧ h'.2 ≤ 7302250) := by
  obtain ⟨fs0, c0, -, -⟩ := fld hI.1.1 hI.1.2.1 rO_eq
  obtain ⟨v1, v2, h1, h2, g2, ρ2, fs, e1, e2, e3, e4, e5⟩ := jp_hold (xs (4 * i + 1)) (xs (4 * i + 2)) i g ρ h (by omega) hI
  refine mE_aldn 385 rfl rfl rfl rfl ?_
  refine mE_aldn 386 rfl rfl rfl rfl ?_
  refine mE_ildn 387 rfl rfl rfl rfl ?_
  refine mE_ico 388 1 rfl rfl rfl ?_
  refine mE_iadd 389 (j + 1) rfl rfl rfl ?_
  refine mE_isc 390 (xs (4 * i + 1)) rfl rfl (law_at (xs := xs) (a := 1) hL hj hlt (by omega) 1 (by decide)).1 (law_at (a := 1) hL hj hlt (by omega) 1 (by decide)).2 rfl ?_
  refine mE_aldn 391 rfl rfl rfl rfl ?_
  refine mE_ildn 392 rfl rfl rfl rfl ?_
  refine mE_ico 393 2 rfl rfl rfl ?_
  refine mE_iadd 394 (j + 2) rfl rfl rfl ?_
  refine mE_isc 395 (xs (4 * i + 2)) rfl rfl (law_at (xs := xs) (a := 2) hL hj hlt (by omega) 2 (by decide)).1 (law_at (a := 2) hL hj hlt (by omega) 2 (by decide)).2 rfl ?_
  refine mE_cv [.int (xs (4 * i + 1)), .int (xs (4 * i + 2))] [] rfl rfl rfl rfl c0 rfl ⟨_, _, e1, ?_⟩
  refine mE_pop 399 rfl rfl rfl ?_
  refine mE_aldn 400 rfl rfl rfl rfl ?_
  refine mE_aldn 401 rfl rfl rfl rfl ?_
  refine mE_ildn 402 rfl rfl rfl rfl ?_
  refine mE_ico 403 1 rfl rfl rfl ?_
  refine mE_iadd 404 (j + 1) rfl rfl rfl ?_
  refine mE_isc 405 (xs (4 * i + 1)) rfl rfl (law_at (xs := xs) (a := 1) hL hj hlt (by omega) 1 (by decide)).1 (law_at (a := 1) hL hj hlt (by omega) 1 (by decide)).2 rfl ?_
  refine mE_aldn 406 rfl rfl rfl rfl ?_
  refine mE_ildn 407 rfl rfl rfl rfl ?_
  refine mE_ico 408 2 rfl rfl rfl ?_
  refine mE_iadd 409 (j + 2) rfl rfl rfl ?_
  refine mE_isc 410 (xs (4 * i + 2)) rfl rfl (law_at (xs := xs) (a := 2) hL hj hlt (by omega) 2 (by decide)).1 (law_at (a := 2) hL hj hlt (by omega) 2 (by decide)).2 rfl ?_
  refine mE_cv [.int (xs (4 * i + 1)), .int (xs (4 * i + 2))] [] rfl rfl rfl rfl e2 rfl ⟨_, _, e3, ?_⟩
  refine mE_pop 414 rfl rfl rfl ?_
  refine mE_goto 789 rfl rfl ?_
  exact kk g2 ρ2 h2 e4
set_option maxRecDepth 10000 in
theorem lc_9 {L : Nat} {xs : Nat → Int32} {j : Int32} {i b : Nat} {g : Nat → Int} {ρ : List Nat} {h : mS} (hL : L ≤ 2048) (hj : j.toInt = 4 * (i : Int)) (hlt : 4 * i + 4 ≤ L) (hI : (Inv i g ρ h ∧ JP h.1)) (kk : ∀ g2 ρ2 h2, (Inv (i + 1) g2 ρ2 h2 ∧ JP h2.1) → mE (mcall 720) (some (L, xs)) 4 (mgd mLlaw mtL_law) b (789, [(3, .int j), (2, .ref 47), (1, .ref 0), (0, .retAddr 1)], [], h2) (fun r h' => r = some (.int 1) ∧ h'.1.length ≤ 600000 ∧ h'.2 ≤ 7302250)) : mE (mcall 720) (some (L, xs)) 4 (mgd mLlaw mtL_law) (b + 17) (417, [(3, .int j), (2, .ref 47), (1, .ref 0), (0, .retAddr 1)], [], h) (fun r h' => r = some (.int 1) ∧ h'.1.length ≤ 600000 ∧ h'.2 ≤ 7302250) := by
  obtain ⟨fs0, c0, -, -⟩ := fld hI.1.1 hI.1.2.1 rO_eq
  obtain ⟨v1, v2, h1, h2, g2, ρ2, fs, e1, e2, e3, e4, e5⟩ := jp_hunger (xs (4 * i + 1)) i g ρ h (by omega) hI
  refine mE_aldn 418 rfl rfl rfl rfl ?_
  refine mE_aldn 419 rfl rfl rfl rfl ?_
  refine mE_ildn 420 rfl rfl rfl rfl ?_
  refine mE_ico 421 1 rfl rfl rfl ?_
  refine mE_iadd 422 (j + 1) rfl rfl rfl ?_
  refine mE_isc 423 (xs (4 * i + 1)) rfl rfl (law_at (xs := xs) (a := 1) hL hj hlt (by omega) 1 (by decide)).1 (law_at (a := 1) hL hj hlt (by omega) 1 (by decide)).2 rfl ?_
  refine mE_cv [.int (xs (4 * i + 1))] [] rfl rfl rfl rfl c0 rfl ⟨_, _, e1, ?_⟩
  refine mE_pop 427 rfl rfl rfl ?_
  refine mE_aldn 428 rfl rfl rfl rfl ?_
  refine mE_aldn 429 rfl rfl rfl rfl ?_
  refine mE_ildn 430 rfl rfl rfl rfl ?_
  refine mE_ico 431 1 rfl rfl rfl ?_
  refine mE_iadd 432 (j + 1) rfl rfl rfl ?_
  refine mE_isc 433 (xs (4 * i + 1)) rfl rfl (law_at (xs := xs) (a := 1) hL hj hlt (by omega) 1 (by decide)).1 (law_at (a := 1) hL hj hlt (by omega) 1 (by decide)).2 rfl ?_
  refine mE_cv [.int (xs (4 * i + 1))] [] rfl rfl rfl rfl e2 rfl ⟨_, _, e3, ?_⟩
  refine mE_pop 437 rfl rfl rfl ?_
  refine mE_goto 789 rfl rfl ?_
  exact kk g2 ρ2 h2 e4
set_option maxRecDepth 10000 in
theorem lc_10 {L : Nat} {xs : Nat → Int32} {j : Int32} {i b : Nat} {g : Nat → Int} {ρ : List Nat} {h : mS} (hL : L ≤ 2048) (hj : j.toInt = 4 * (i : Int)) (hlt : 4 * i + 4 ≤ L) (hI : (Inv i g ρ h ∧ JP h.1)) (kk : ∀ g2 ρ2 h2, (Inv (i + 1) g2 ρ2 h2 ∧ JP h2.1) → mE (mcall 720) (some (L, xs)) 4 (mgd mLlaw mtL_law) b (789, [(3, .int j), (2, .ref 47), (1, .ref 0), (0, .retAddr 1)], [], h2) (fun r h' => r = some (.int 1) ∧ h'.1.length ≤ 600000 ∧ h'.2 ≤ 7302250)) : mE (mcall 720) (some (L, xs)) 4 (mgd mLlaw mtL_law) (b + 27) (440, [(3, .int j), (2, .ref 47), (1, .ref 0), (0, .retAddr 1)], [], h) (fun r h' => r = some (.int 1) ∧ h'.1.length ≤ 600000 ∧ h'.2 ≤ 7302250) := by
  obtain ⟨fs0, c0, -, -⟩ := fld hI.1.1 hI.1.2.1 rO_eq
  obtain ⟨v1, v2, h1, h2, g2, ρ2, fs, e1, e2, e3, e4, e5⟩ := jp_feed (xs (4 * i + 1)) (xs (4 * i + 2)) i g ρ h (by omega) hI
  refine mE_aldn 441 rfl rfl rfl rfl ?_
  refine mE_aldn 442 rfl rfl rfl rfl ?_
  refine mE_ildn 443 rfl rfl rfl rfl ?_
  refine mE_ico 444 1 rfl rfl rfl ?_
  refine mE_iadd 445 (j + 1) rfl rfl rfl ?_
  refine mE_isc 446 (xs (4 * i + 1)) rfl rfl (law_at (xs := xs) (a := 1) hL hj hlt (by omega) 1 (by decide)).1 (law_at (a := 1) hL hj hlt (by omega) 1 (by decide)).2 rfl ?_
  refine mE_aldn 447 rfl rfl rfl rfl ?_
  refine mE_ildn 448 rfl rfl rfl rfl ?_
  refine mE_ico 449 2 rfl rfl rfl ?_
  refine mE_iadd 450 (j + 2) rfl rfl rfl ?_
  refine mE_isc 451 (xs (4 * i + 2)) rfl rfl (law_at (xs := xs) (a := 2) hL hj hlt (by omega) 2 (by decide)).1 (law_at (a := 2) hL hj hlt (by omega) 2 (by decide)).2 rfl ?_
  refine mE_cv [.int (xs (4 * i + 1)), .int (xs (4 * i + 2))] [] rfl rfl rfl rfl c0 rfl ⟨_, _, e1, ?_⟩
  refine mE_pop 455 rfl rfl rfl ?_
  refine mE_aldn 456 rfl rfl rfl rfl ?_
  refine mE_aldn 457 rfl rfl rfl rfl ?_
  refine mE_ildn 458 rfl rfl rfl rfl ?_
  refine mE_ico 459 1 rfl rfl rfl ?_
  refine mE_iadd 460 (j + 1) rfl rfl rfl ?_
  refine mE_isc 461 (xs (4 * i + 1)) rfl rfl (law_at (xs := xs) (a := 1) hL hj hlt (by omega) 1 (by decide)).1 (law_at (a := 1) hL hj hlt (by omega) 1 (by decide)).2 rfl ?_
  refine mE_aldn 462 rfl rfl rfl rfl ?_
  refine mE_ildn 463 rfl rfl rfl rfl ?_
  refine mE_ico 464 2 rfl rfl rfl ?_
  refine mE_iadd 465 (j + 2) rfl rfl rfl ?_
  refine mE_isc 466 (xs (4 * i + 2)) rfl rfl (law_at (xs := xs) (a := 2) hL hj hlt (by omega) 2 (by decide)).1 (law_at (a := 2) hL hj hlt (by omega) 2 (by decide)).2 rfl ?_
  refine mE_cv [.int (xs (4 * i + 1)), .int (xs (4 * i + 2))] [] rfl rfl rfl rfl e2 rfl ⟨_, _, e3, ?_⟩
  refine mE_pop 470 rfl rfl rfl ?_
  refine mE_goto 789 rfl rfl ?_
  exact kk g2 ρ2 h2 e4
set_option maxRecDepth 10000 in
theorem lc_11 {L : Nat} {xs : Nat → Int32} {j : Int32} {i b : Nat} {g : Nat → Int} {ρ : List Nat} {h : mS} (hL : L ≤ 2048) (hj : j.toInt = 4 * (i : Int)) (hlt : 4 * i + 4 ≤ L) (hI : (Inv i g ρ h ∧ JP h.1)) (kk : ∀ g2 ρ2 h2, (Inv (i + 1) g2 ρ2 h2 ∧ JP h2.1) → mE (mcall 720) (some (L, xs)) 4 (mgd mLlaw mtL_law) b (789, [(3, .int j), (2, .ref 47), (1, .ref 0), (0, .retAddr 1)], [], h2) (fun r h' => r = some (.int 1) ∧ h'.1.length ≤ 600000 ∧ h'.2 ≤ 7302250)) : mE (mcall 720) (some (L, xs)) 4 (mgd mLlaw mtL_law) (b + 27) (473, [(3, .int j), (2, .ref 47), (1, .ref 0), (0, .retAddr 1)], [], h) (fun r h' => r = some (.int 1) ∧ h'.1.length ≤ 600000 ∧ h'.2 ≤ 7302250) := by
  obtain ⟨fs0, c0, -, -⟩ := fld hI.1.1 hI.1.2.1 rO_eq
  obtain ⟨v1, v2, h1, h2, g2, ρ2, fs, e1, e2, e3, e4, e5⟩ := jp_make (xs (4 * i + 1)) (xs (4 * i + 2)) i g ρ h (by omega) hI
  refine mE_aldn 474 rfl rfl rfl rfl ?_
  refine mE_aldn 475 rfl rfl rfl rfl ?_
  refine mE_ildn 476 rfl rfl rfl rfl ?_
  refine mE_ico 477 1 rfl rfl rfl ?_
  refine mE_iadd 478 (j + 1) rfl rfl rfl ?_
  refine mE_isc 479 (xs (4 * i + 1)) rfl rfl (law_at (xs := xs) (a := 1) hL hj hlt (by omega) 1 (by decide)).1 (law_at (a := 1) hL hj hlt (by omega) 1 (by decide)).2 rfl ?_
  refine mE_aldn 480 rfl rfl rfl rfl ?_
  refine mE_ildn 481 rfl rfl rfl rfl ?_
  refine mE_ico 482 2 rfl rfl rfl ?_
  refine mE_iadd 483 (j + 2) rfl rfl rfl ?_
  refine mE_isc 484 (xs (4 * i + 2)) rfl rfl (law_at (xs := xs) (a := 2) hL hj hlt (by omega) 2 (by decide)).1 (law_at (a := 2) hL hj hlt (by omega) 2 (by decide)).2 rfl ?_
  refine mE_cv [.int (xs (4 * i + 1)), .int (xs (4 * i + 2))] [] rfl rfl rfl rfl c0 rfl ⟨_, _, e1, ?_⟩
  refine mE_pop 488 rfl rfl rfl ?_
  refine mE_aldn 489 rfl rfl rfl rfl ?_
  refine mE_aldn 490 rfl rfl rfl rfl ?_
  refine mE_ildn 491 rfl rfl rfl rfl ?_
  refine mE_ico 492 1 rfl rfl rfl ?_
  refine mE_iadd 493 (j + 1) rfl rfl rfl ?_
  refine mE_isc 494 (xs (4 * i + 1)) rfl rfl (law_at (xs := xs) (a := 1) hL hj hlt (by omega) 1 (by decide)).1 (law_at (a := 1) hL hj hlt (by omega) 1 (by decide)).2 rfl ?_
  refine mE_aldn 495 rfl rfl rfl rfl ?_
  refine mE_ildn 496 rfl rfl rfl rfl ?_
  refine mE_ico 497 2 rfl rfl rfl ?_
  refine mE_iadd 498 (j + 2) rfl rfl rfl ?_
  refine mE_isc 499 (xs (4 * i + 2)) rfl rfl (law_at (xs := xs) (a := 2) hL hj hlt (by omega) 2 (by decide)).1 (law_at (a := 2) hL hj hlt (by omega) 2 (by decide)).2 rfl ?_
  refine mE_cv [.int (xs (4 * i + 1)), .int (xs (4 * i + 2))] [] rfl rfl rfl rfl e2 rfl ⟨_, _, e3, ?_⟩
  refine mE_pop 503 rfl rfl rfl ?_
  refine mE_goto 789 rfl rfl ?_
  exact kk g2 ρ2 h2 e4
set_option maxRecDepth 10000 in
theorem lc_12 {L : Nat} {xs : Nat → Int32} {j : Int32} {i b : Nat} {g : Nat → Int} {ρ : List Nat} {h : mS} (hL : L ≤ 2048) (hj : j.toInt = 4 * (i : Int)) (hlt : 4 * i + 4 ≤ L) (hI : (Inv i g ρ h ∧ JP h.1)) (kk : ∀ g2 ρ2 h2, (Inv (i + 1) g2 ρ2 h2 ∧ JP h2.1) → mE (mcall 720) (some (L, xs)) 4 (mgd mLlaw mtL_law) b (789, [(3, .int j), (2, .ref 47), (1, .ref 0), (0, .retAddr 1)], [], h2) (fun r h' => r = some (.int 1) ∧ h'.1.length ≤ 600000 ∧ h'.2 ≤ 7302250)) : mE (mcall 720) (some (L, xs)) 4 (mgd mLlaw mtL_law) (b + 7) (506, [(3, .int j), (2, .ref 47), (1, .ref 0), (0, .retAddr 1)], [], h) (fun r h' => r = some (.int 1) ∧ h'.1.length ≤ 600000 ∧ h'.2 ≤ 7302250) := by
  obtain ⟨fs0, c0, -, -⟩ := fld hI.1.1 hI.1.2.1 rO_eq
  obtain ⟨v1, v2, h1, h2, g2, ρ2, fs, e1, e2, e3, e4, e5⟩ := jp_clear i g ρ h (by omega) hI
  refine mE_aldn 507 rfl rfl rfl rfl ?_
  refine mE_cv [] [] rfl rfl rfl rfl c0 rfl ⟨_, _, e1, ?_⟩
  refine mE_pop 511 rfl rfl rfl ?_
  refine mE_aldn 512 rfl rfl rfl rfl ?_
  refine mE_cv [] [] rfl rfl rfl rfl e2 rfl ⟨_, _, e3, ?_⟩
  refine mE_pop 516 rfl rfl rfl ?_
  refine mE_goto 789 rfl rfl ?_
  exact kk g2 ρ2 h2 e4
set_option maxRecDepth 10000 in
theorem lc_13 {L : Nat} {xs : Nat → Int32} {j : Int32} {i b : Nat} {g : Nat → Int} {ρ : List Nat} {h : mS} (hL : L ≤ 2048) (hj : j.toInt = 4 * (i : Int)) (hlt : 4 * i + 4 ≤ L) (hI : (Inv i g ρ h ∧ JP h.1)) (kk : ∀ g2 ρ2 h2, (Inv (i + 1) g2 ρ2 h2 ∧ JP h2.1) → mE (mcall 720) (some (L, xs)) 4 (mgd mLlaw mtL_law) b (789, [(3, .int j), (2, .ref 47), (1, .ref 0), (0, .retAddr 1)], [], h2) (fun r h' => r = some (.int 1) ∧ h'.1.length ≤ 600000 ∧ h'.2 ≤ 7302250)) : mE (mcall 720) (some (L, xs)) 4 (mgd mLlaw mtL_law) (b + 37) (519, [(3, .int j), (2, .ref 47), (1, .ref 0), (0, .retAddr 1)], [], h) (fun r h' => r = some (.int 1) ∧ h'.1.length ≤ 600000 ∧ h'.2 ≤ 7302250) := by
  obtain ⟨fs0, c0, -, -⟩ := fld hI.1.1 hI.1.2.1 rO_eq
  obtain ⟨v1, v2, h1, h2, g2, ρ2, fs, e1, e2, e3, e4, e5⟩ := jp_law (xs (4 * i + 1)) (xs (4 * i + 2)) (xs (4 * i + 3)) i g ρ h (by omega) hI
  refine mE_aldn 520 rfl rfl rfl rfl ?_
  refine mE_aldn 521 rfl rfl rfl rfl ?_
  refine mE_ildn 522 rfl rfl rfl rfl ?_
  refine mE_ico 523 1 rfl rfl rfl ?_
  refine mE_iadd 524 (j + 1) rfl rfl rfl ?_
  refine mE_isc 525 (xs (4 * i + 1)) rfl rfl (law_at (xs := xs) (a := 1) hL hj hlt (by omega) 1 (by decide)).1 (law_at (a := 1) hL hj hlt (by omega) 1 (by decide)).2 rfl ?_
  refine mE_aldn 526 rfl rfl rfl rfl ?_
  refine mE_ildn 527 rfl rfl rfl rfl ?_
  refine mE_ico 528 2 rfl rfl rfl ?_
  refine mE_iadd 529 (j + 2) rfl rfl rfl ?_
  refine mE_isc 530 (xs (4 * i + 2)) rfl rfl (law_at (xs := xs) (a := 2) hL hj hlt (by omega) 2 (by decide)).1 (law_at (a := 2) hL hj hlt (by omega) 2 (by decide)).2 rfl ?_
  refine mE_aldn 531 rfl rfl rfl rfl ?_
  refine mE_ildn 532 rfl rfl rfl rfl ?_
  refine mE_ico 533 3 rfl rfl rfl ?_
  refine mE_iadd 534 (j + 3) rfl rfl rfl ?_
  refine mE_isc 535 (xs (4 * i + 3)) rfl rfl (law_at (xs := xs) (a := 3) hL hj hlt (by omega) 3 (by decide)).1 (law_at (a := 3) hL hj hlt (by omega) 3 (by decide)).2 rfl ?_
  refine mE_cv [.int (xs (4 * i + 1)), .int (xs (4 * i + 2)), .int (xs (4 * i + 3))] [] rfl rfl rfl rfl c0 rfl ⟨_, _, e1, ?_⟩
  refine mE_pop 539 rfl rfl rfl ?_
  refine mE_aldn 540 rfl rfl rfl rfl ?_
  refine mE_aldn 541 rfl rfl rfl rfl ?_
  refine mE_ildn 542 rfl rfl rfl rfl ?_
  refine mE_ico 543 1 rfl rfl rfl ?_
  refine mE_iadd 544 (j + 1) rfl rfl rfl ?_
  refine mE_isc 545 (xs (4 * i + 1)) rfl rfl (law_at (xs := xs) (a := 1) hL hj hlt (by omega) 1 (by decide)).1 (law_at (a := 1) hL hj hlt (by omega) 1 (by decide)).2 rfl ?_
  refine mE_aldn 546 rfl rfl rfl rfl ?_
  refine mE_ildn 547 rfl rfl rfl rfl ?_
  refine mE_ico 548 2 rfl rfl rfl ?_
  refine mE_iadd 549 (j + 2) rfl rfl rfl ?_
  refine mE_isc 550 (xs (4 * i + 2)) rfl rfl (law_at (xs := xs) (a := 2) hL hj hlt (by omega) 2 (by decide)).1 (law_at (a := 2) hL hj hlt (by omega) 2 (by decide)).2 rfl ?_
  refine mE_aldn 551 rfl rfl rfl rfl ?_
  refine mE_ildn 552 rfl rfl rfl rfl ?_
  refine mE_ico 553 3 rfl rfl rfl ?_
  refine mE_iadd 554 (j + 3) rfl rfl rfl ?_
  refine mE_isc 555 (xs (4 * i + 3)) rfl rfl (law_at (xs := xs) (a := 3) hL hj hlt (by omega) 3 (by decide)).1 (law_at (a := 3) hL hj hlt (by omega) 3 (by decide)).2 rfl ?_
  refine mE_cv [.int (xs (4 * i + 1)), .int (xs (4 * i + 2)), .int (xs (4 * i + 3))] [] rfl rfl rfl rfl e2 rfl ⟨_, _, e3, ?_⟩
  refine mE_pop 559 rfl rfl rfl ?_
  refine mE_goto 789 rfl rfl ?_
  exact kk g2 ρ2 h2 e4
set_option maxRecDepth 10000 in
theorem lc_14 {L : Nat} {xs : Nat → Int32} {j : Int32} {i b : Nat} {g : Nat → Int} {ρ : List Nat} {h : mS} (hL : L ≤ 2048) (hj : j.toInt = 4 * (i : Int)) (hlt : 4 * i + 4 ≤ L) (hI : (Inv i g ρ h ∧ JP h.1)) (kk : ∀ g2 ρ2 h2, (Inv (i + 1) g2 ρ2 h2 ∧ JP h2.1) → mE (mcall 720) (some (L, xs)) 4 (mgd mLlaw mtL_law) b (789, [(3, .int j), (2, .ref 47), (1, .ref 0), (0, .retAddr 1)], [], h2) (fun r h' => r = some (.int 1) ∧ h'.1.length ≤ 600000 ∧ h'.2 ≤ 7302250)) : mE (mcall 720) (some (L, xs)) 4 (mgd mLlaw mtL_law) (b + 27) (562, [(3, .int j), (2, .ref 47), (1, .ref 0), (0, .retAddr 1)], [], h) (fun r h' => r = some (.int 1) ∧ h'.1.length ≤ 600000 ∧ h'.2 ≤ 7302250) := by
  obtain ⟨fs0, c0, -, -⟩ := fld hI.1.1 hI.1.2.1 rO_eq
  obtain ⟨v1, v2, h1, h2, g2, ρ2, fs, e1, e2, e3, e4, e5⟩ := jp_text (xs (4 * i + 1)) (xs (4 * i + 2)) i g ρ h (by omega) hI
  refine mE_aldn 563 rfl rfl rfl rfl ?_
  refine mE_aldn 564 rfl rfl rfl rfl ?_
  refine mE_ildn 565 rfl rfl rfl rfl ?_
  refine mE_ico 566 1 rfl rfl rfl ?_
  refine mE_iadd 567 (j + 1) rfl rfl rfl ?_
  refine mE_isc 568 (xs (4 * i + 1)) rfl rfl (law_at (xs := xs) (a := 1) hL hj hlt (by omega) 1 (by decide)).1 (law_at (a := 1) hL hj hlt (by omega) 1 (by decide)).2 rfl ?_
  refine mE_aldn 569 rfl rfl rfl rfl ?_
  refine mE_ildn 570 rfl rfl rfl rfl ?_
  refine mE_ico 571 2 rfl rfl rfl ?_
  refine mE_iadd 572 (j + 2) rfl rfl rfl ?_
  refine mE_isc 573 (xs (4 * i + 2)) rfl rfl (law_at (xs := xs) (a := 2) hL hj hlt (by omega) 2 (by decide)).1 (law_at (a := 2) hL hj hlt (by omega) 2 (by decide)).2 rfl ?_
  refine mE_cv [.int (xs (4 * i + 1)), .int (xs (4 * i + 2))] [] rfl rfl rfl rfl c0 rfl ⟨_, _, e1, ?_⟩
  refine mE_pop 577 rfl rfl rfl ?_
  refine mE_aldn 578 rfl rfl rfl rfl ?_
  refine mE_aldn 579 rfl rfl rfl rfl ?_
  refine mE_ildn 580 rfl rfl rfl rfl ?_
  refine mE_ico 581 1 rfl rfl rfl ?_
  refine mE_iadd 582 (j + 1) rfl rfl rfl ?_
  refine mE_isc 583 (xs (4 * i + 1)) rfl rfl (law_at (xs := xs) (a := 1) hL hj hlt (by omega) 1 (by decide)).1 (law_at (a := 1) hL hj hlt (by omega) 1 (by decide)).2 rfl ?_
  refine mE_aldn 584 rfl rfl rfl rfl ?_
  refine mE_ildn 585 rfl rfl rfl rfl ?_
  refine mE_ico 586 2 rfl rfl rfl ?_
  refine mE_iadd 587 (j + 2) rfl rfl rfl ?_
  refine mE_isc 588 (xs (4 * i + 2)) rfl rfl (law_at (xs := xs) (a := 2) hL hj hlt (by omega) 2 (by decide)).1 (law_at (a := 2) hL hj hlt (by omega) 2 (by decide)).2 rfl ?_
  refine mE_cv [.int (xs (4 * i + 1)), .int (xs (4 * i + 2))] [] rfl rfl rfl rfl e2 rfl ⟨_, _, e3, ?_⟩
  refine mE_pop 592 rfl rfl rfl ?_
  refine mE_goto 789 rfl rfl ?_
  exact kk g2 ρ2 h2 e4
set_option maxRecDepth 10000 in
theorem lc_15 {L : Nat} {xs : Nat → Int32} {j : Int32} {i b : Nat} {g : Nat → Int} {ρ : List Nat} {h : mS} (hL : L ≤ 2048) (hj : j.toInt = 4 * (i : Int)) (hlt : 4 * i + 4 ≤ L) (hI : (Inv i g ρ h ∧ JP h.1)) (kk : ∀ g2 ρ2 h2, (Inv (i + 1) g2 ρ2 h2 ∧ JP h2.1) → mE (mcall 720) (some (L, xs)) 4 (mgd mLlaw mtL_law) b (789, [(3, .int j), (2, .ref 47), (1, .ref 0), (0, .retAddr 1)], [], h2) (fun r h' => r = some (.int 1) ∧ h'.1.length ≤ 600000 ∧ h'.2 ≤ 7302250)) : mE (mcall 720) (some (L, xs)) 4 (mgd mLlaw mtL_law) (b + 27) (595, [(3, .int j), (2, .ref 47), (1, .ref 0), (0, .retAddr 1)], [], h) (fun r h' => r = some (.int 1) ∧ h'.1.length ≤ 600000 ∧ h'.2 ≤ 7302250) := by
  obtain ⟨fs0, c0, -, -⟩ := fld hI.1.1 hI.1.2.1 rO_eq
  obtain ⟨v1, v2, h1, h2, g2, ρ2, fs, e1, e2, e3, e4, e5⟩ := jp_stray (xs (4 * i + 1)) (xs (4 * i + 2)) i g ρ h (by omega) hI
  refine mE_aldn 596 rfl rfl rfl rfl ?_
  refine mE_aldn 597 rfl rfl rfl rfl ?_
  refine mE_ildn 598 rfl rfl rfl rfl ?_
  refine mE_ico 599 1 rfl rfl rfl ?_
  refine mE_iadd 600 (j + 1) rfl rfl rfl ?_
  refine mE_isc 601 (xs (4 * i + 1)) rfl rfl (law_at (xs := xs) (a := 1) hL hj hlt (by omega) 1 (by decide)).1 (law_at (a := 1) hL hj hlt (by omega) 1 (by decide)).2 rfl ?_
  refine mE_aldn 602 rfl rfl rfl rfl ?_
  refine mE_ildn 603 rfl rfl rfl rfl ?_
  refine mE_ico 604 2 rfl rfl rfl ?_
  refine mE_iadd 605 (j + 2) rfl rfl rfl ?_
  refine mE_isc 606 (xs (4 * i + 2)) rfl rfl (law_at (xs := xs) (a := 2) hL hj hlt (by omega) 2 (by decide)).1 (law_at (a := 2) hL hj hlt (by omega) 2 (by decide)).2 rfl ?_
  refine mE_cv [.int (xs (4 * i + 1)), .int (xs (4 * i + 2))] [] rfl rfl rfl rfl c0 rfl ⟨_, _, e1, ?_⟩
  refine mE_pop 610 rfl rfl rfl ?_
  refine mE_aldn 611 rfl rfl rfl rfl ?_
  refine mE_aldn 612 rfl rfl rfl rfl ?_
  refine mE_ildn 613 rfl rfl rfl rfl ?_
  refine mE_ico 614 1 rfl rfl rfl ?_
  refine mE_iadd 615 (j + 1) rfl rfl rfl ?_
  refine mE_isc 616 (xs (4 * i + 1)) rfl rfl (law_at (xs := xs) (a := 1) hL hj hlt (by omega) 1 (by decide)).1 (law_at (a := 1) hL hj hlt (by omega) 1 (by decide)).2 rfl ?_
  refine mE_aldn 617 rfl rfl rfl rfl ?_
  refine mE_ildn 618 rfl rfl rfl rfl ?_
  refine mE_ico 619 2 rfl rfl rfl ?_
  refine mE_iadd 620 (j + 2) rfl rfl rfl ?_
  refine mE_isc 621 (xs (4 * i + 2)) rfl rfl (law_at (xs := xs) (a := 2) hL hj hlt (by omega) 2 (by decide)).1 (law_at (a := 2) hL hj hlt (by omega) 2 (by decide)).2 rfl ?_
  refine mE_cv [.int (xs (4 * i + 1)), .int (xs (4 * i + 2))] [] rfl rfl rfl rfl e2 rfl ⟨_, _, e3, ?_⟩
  refine mE_pop 625 rfl rfl rfl ?_
  refine mE_goto 789 rfl rfl ?_
  exact kk g2 ρ2 h2 e4
set_option maxRecDepth 10000 in
theorem lc_16 {L : Nat} {xs : Nat → Int32} {j : Int32} {i b : Nat} {g : Nat → Int} {ρ : List Nat} {h : mS} (hL : L ≤ 2048) (hj : j.toInt = 4 * (i : Int)) (hlt : 4 * i + 4 ≤ L) (hI : (Inv i g ρ h ∧ JP h.1)) (kk : ∀ g2 ρ2 h2, (Inv (i + 1) g2 ρ2 h2 ∧ JP h2.1) → mE (mcall 720) (some (L, xs)) 4 (mgd mLlaw mtL_law) b (789, [(3, .int j), (2, .ref 47), (1, .ref 0), (0, .retAddr 1)], [], h2) (fun r h' => r = some (.int 1) ∧ h'.1.length ≤ 600000 ∧ h'.2 ≤ 7302250)) : mE (mcall 720) (some (L, xs)) 4 (mgd mLlaw mtL_law) (b + 27) (628, [(3, .int j), (2, .ref 47), (1, .ref 0), (0, .retAddr 1)], [], h) (fun r h' => r = some (.int 1) ∧ h'.1.length ≤ 600000 ∧ h'.2 ≤ 7302250) := by
  obtain ⟨fs0, c0, -, -⟩ := fld hI.1.1 hI.1.2.1 rO_eq
  obtain ⟨v1, v2, h1, h2, g2, ρ2, fs, e1, e2, e3, e4, e5⟩ := jp_book (xs (4 * i + 1)) (xs (4 * i + 2)) i g ρ h (by omega) hI
  refine mE_aldn 629 rfl rfl rfl rfl ?_
  refine mE_aldn 630 rfl rfl rfl rfl ?_
  refine mE_ildn 631 rfl rfl rfl rfl ?_
  refine mE_ico 632 1 rfl rfl rfl ?_
  refine mE_iadd 633 (j + 1) rfl rfl rfl ?_
  refine mE_isc 634 (xs (4 * i + 1)) rfl rfl (law_at (xs := xs) (a := 1) hL hj hlt (by omega) 1 (by decide)).1 (law_at (a := 1) hL hj hlt (by omega) 1 (by decide)).2 rfl ?_
  refine mE_aldn 635 rfl rfl rfl rfl ?_
  refine mE_ildn 636 rfl rfl rfl rfl ?_
  refine mE_ico 637 2 rfl rfl rfl ?_
  refine mE_iadd 638 (j + 2) rfl rfl rfl ?_
  refine mE_isc 639 (xs (4 * i + 2)) rfl rfl (law_at (xs := xs) (a := 2) hL hj hlt (by omega) 2 (by decide)).1 (law_at (a := 2) hL hj hlt (by omega) 2 (by decide)).2 rfl ?_
  refine mE_cv [.int (xs (4 * i + 1)), .int (xs (4 * i + 2))] [] rfl rfl rfl rfl c0 rfl ⟨_, _, e1, ?_⟩
  refine mE_pop 643 rfl rfl rfl ?_
  refine mE_aldn 644 rfl rfl rfl rfl ?_
  refine mE_aldn 645 rfl rfl rfl rfl ?_
  refine mE_ildn 646 rfl rfl rfl rfl ?_
  refine mE_ico 647 1 rfl rfl rfl ?_
  refine mE_iadd 648 (j + 1) rfl rfl rfl ?_
  refine mE_isc 649 (xs (4 * i + 1)) rfl rfl (law_at (xs := xs) (a := 1) hL hj hlt (by omega) 1 (by decide)).1 (law_at (a := 1) hL hj hlt (by omega) 1 (by decide)).2 rfl ?_
  refine mE_aldn 650 rfl rfl rfl rfl ?_
  refine mE_ildn 651 rfl rfl rfl rfl ?_
  refine mE_ico 652 2 rfl rfl rfl ?_
  refine mE_iadd 653 (j + 2) rfl rfl rfl ?_
  refine mE_isc 654 (xs (4 * i + 2)) rfl rfl (law_at (xs := xs) (a := 2) hL hj hlt (by omega) 2 (by decide)).1 (law_at (a := 2) hL hj hlt (by omega) 2 (by decide)).2 rfl ?_
  refine mE_cv [.int (xs (4 * i + 1)), .int (xs (4 * i + 2))] [] rfl rfl rfl rfl e2 rfl ⟨_, _, e3, ?_⟩
  refine mE_pop 658 rfl rfl rfl ?_
  refine mE_goto 789 rfl rfl ?_
  exact kk g2 ρ2 h2 e4
set_option maxRecDepth 10000 in
theorem lc_17 {L : Nat} {xs : Nat → Int32} {j : Int32} {i b : Nat} {g : Nat → Int} {ρ : List Nat} {h : mS} (hL : L ≤ 2048) (hj : j.toInt = 4 * (i : Int)) (hlt : 4 * i + 4 ≤ L) (hI : (Inv i g ρ h ∧ JP h.1)) (kk : ∀ g2 ρ2 h2, (Inv (i + 1) g2 ρ2 h2 ∧ JP h2.1) → mE (mcall 720) (some (L, xs)) 4 (mgd mLlaw mtL_law) b (789, [(3, .int j), (2, .ref 47), (1, .ref 0), (0, .retAddr 1)], [], h2) (fun r h' => r = some (.int 1) ∧ h'.1.length ≤ 600000 ∧ h'.2 ≤ 7302250)) : mE (mcall 720) (some (L, xs)) 4 (mgd mLlaw mtL_law) (b + 17) (661, [(3, .int j), (2, .ref 47), (1, .ref 0), (0, .retAddr 1)], [], h) (fun r h' => r = some (.int 1) ∧ h'.1.length ≤ 600000 ∧ h'.2 ≤ 7302250) := by
  obtain ⟨fs0, c0, -, -⟩ := fld hI.1.1 hI.1.2.1 rO_eq
  obtain ⟨v1, v2, h1, h2, g2, ρ2, fs, e1, e2, e3, e4, e5⟩ := jp_apart (xs (4 * i + 1)) i g ρ h (by omega) hI
  refine mE_aldn 662 rfl rfl rfl rfl ?_
  refine mE_aldn 663 rfl rfl rfl rfl ?_
  refine mE_ildn 664 rfl rfl rfl rfl ?_
  refine mE_ico 665 1 rfl rfl rfl ?_
  refine mE_iadd 666 (j + 1) rfl rfl rfl ?_
  refine mE_isc 667 (xs (4 * i + 1)) rfl rfl (law_at (xs := xs) (a := 1) hL hj hlt (by omega) 1 (by decide)).1 (law_at (a := 1) hL hj hlt (by omega) 1 (by decide)).2 rfl ?_
  refine mE_cv [.int (xs (4 * i + 1))] [] rfl rfl rfl rfl c0 rfl ⟨_, _, e1, ?_⟩
  refine mE_pop 671 rfl rfl rfl ?_
  refine mE_aldn 672 rfl rfl rfl rfl ?_
  refine mE_aldn 673 rfl rfl rfl rfl ?_
  refine mE_ildn 674 rfl rfl rfl rfl ?_
  refine mE_ico 675 1 rfl rfl rfl ?_
  refine mE_iadd 676 (j + 1) rfl rfl rfl ?_
  refine mE_isc 677 (xs (4 * i + 1)) rfl rfl (law_at (xs := xs) (a := 1) hL hj hlt (by omega) 1 (by decide)).1 (law_at (a := 1) hL hj hlt (by omega) 1 (by decide)).2 rfl ?_
  refine mE_cv [.int (xs (4 * i + 1))] [] rfl rfl rfl rfl e2 rfl ⟨_, _, e3, ?_⟩
  refine mE_pop 681 rfl rfl rfl ?_
  refine mE_goto 789 rfl rfl ?_
  exact kk g2 ρ2 h2 e4
set_option maxRecDepth 10000 in
theorem lc_18 {L : Nat} {xs : Nat → Int32} {j : Int32} {i b : Nat} {g : Nat → Int} {ρ : List Nat} {h : mS} (hL : L ≤ 2048) (hj : j.toInt = 4 * (i : Int)) (hlt : 4 * i + 4 ≤ L) (hI : (Inv i g ρ h ∧ JP h.1)) (kk : ∀ g2 ρ2 h2, (Inv (i + 1) g2 ρ2 h2 ∧ JP h2.1) → mE (mcall 720) (some (L, xs)) 4 (mgd mLlaw mtL_law) b (789, [(3, .int j), (2, .ref 47), (1, .ref 0), (0, .retAddr 1)], [], h2) (fun r h' => r = some (.int 1) ∧ h'.1.length ≤ 600000 ∧ h'.2 ≤ 7302250)) : mE (mcall 720) (some (L, xs)) 4 (mgd mLlaw mtL_law) (b + 7) (684, [(3, .int j), (2, .ref 47), (1, .ref 0), (0, .retAddr 1)], [], h) (fun r h' => r = some (.int 1) ∧ h'.1.length ≤ 600000 ∧ h'.2 ≤ 7302250) := by
  obtain ⟨fs0, c0, -, -⟩ := fld hI.1.1 hI.1.2.1 rO_eq
  obtain ⟨v1, v2, h1, h2, g2, ρ2, fs, e1, e2, e3, e4, e5⟩ := jp_court i g ρ h (by omega) hI
  refine mE_aldn 685 rfl rfl rfl rfl ?_
  refine mE_cv [] [] rfl rfl rfl rfl c0 rfl ⟨_, _, e1, ?_⟩
  refine mE_pop 689 rfl rfl rfl ?_
  refine mE_aldn 690 rfl rfl rfl rfl ?_
  refine mE_cv [] [] rfl rfl rfl rfl e2 rfl ⟨_, _, e3, ?_⟩
  refine mE_pop 694 rfl rfl rfl ?_
  refine mE_goto 789 rfl rfl ?_
  exact kk g2 ρ2 h2 e4
set_option maxRecDepth 10000 in
theorem lc_19 {L : Nat} {xs : Nat → Int32} {j : Int32} {i b : Nat} {g : Nat → Int} {ρ : List Nat} {h : mS} (hL : L ≤ 2048) (hj : j.toInt = 4 * (i : Int)) (hlt : 4 * i + 4 ≤ L) (hI : (Inv i g ρ h ∧ JP h.1)) (kk : ∀ g2 ρ2 h2, (Inv (i + 1) g2 ρ2 h2 ∧ JP h2.1) → mE (mcall 720) (some (L, xs)) 4 (mgd mLlaw mtL_law) b (789, [(3, .int j), (2, .ref 47), (1, .ref 0), (0, .retAddr 1)], [], h2) (fun r h' => r = some (.int 1) ∧ h'.1.length ≤ 600000 ∧ h'.2 ≤ 7302250)) : mE (mcall 720) (some (L, xs)) 4 (mgd mLlaw mtL_law) (b + 27) (697, [(3, .int j), (2, .ref 47), (1, .ref 0), (0, .retAddr 1)], [], h) (fun r h' => r = some (.int 1) ∧ h'.1.length ≤ 600000 ∧ h'.2 ≤ 7302250) := by
  obtain ⟨fs0, c0, -, -⟩ := fld hI.1.1 hI.1.2.1 rO_eq
  obtain ⟨v1, v2, h1, h2, g2, ρ2, fs, e1, e2, e3, e4, e5⟩ := jp_swap (xs (4 * i + 1)) (xs (4 * i + 2)) i g ρ h (by omega) hI
  refine mE_aldn 698 rfl rfl rfl rfl ?_
  refine mE_aldn 699 rfl rfl rfl rfl ?_
  refine mE_ildn 700 rfl rfl rfl rfl ?_
  refine mE_ico 701 1 rfl rfl rfl ?_
  refine mE_iadd 702 (j + 1) rfl rfl rfl ?_
  refine mE_isc 703 (xs (4 * i + 1)) rfl rfl (law_at (xs := xs) (a := 1) hL hj hlt (by omega) 1 (by decide)).1 (law_at (a := 1) hL hj hlt (by omega) 1 (by decide)).2 rfl ?_
  refine mE_aldn 704 rfl rfl rfl rfl ?_
  refine mE_ildn 705 rfl rfl rfl rfl ?_
  refine mE_ico 706 2 rfl rfl rfl ?_
  refine mE_iadd 707 (j + 2) rfl rfl rfl ?_
  refine mE_isc 708 (xs (4 * i + 2)) rfl rfl (law_at (xs := xs) (a := 2) hL hj hlt (by omega) 2 (by decide)).1 (law_at (a := 2) hL hj hlt (by omega) 2 (by decide)).2 rfl ?_
  refine mE_cv [.int (xs (4 * i + 1)), .int (xs (4 * i + 2))] [] rfl rfl rfl rfl c0 rfl ⟨_, _, e1, ?_⟩
  refine mE_pop 712 rfl rfl rfl ?_
  refine mE_aldn 713 rfl rfl rfl rfl ?_
  refine mE_aldn 714 rfl rfl rfl rfl ?_
  refine mE_ildn 715 rfl rfl rfl rfl ?_
  refine mE_ico 716 1 rfl rfl rfl ?_
  refine mE_iadd 717 (j + 1) rfl rfl rfl ?_
  refine mE_isc 718 (xs (4 * i + 1)) rfl rfl (law_at (xs := xs) (a := 1) hL hj hlt (by omega) 1 (by decide)).1 (law_at (a := 1) hL hj hlt (by omega) 1 (by decide)).2 rfl ?_
  refine mE_aldn 719 rfl rfl rfl rfl ?_
  refine mE_ildn 720 rfl rfl rfl rfl ?_
  refine mE_ico 721 2 rfl rfl rfl ?_
  refine mE_iadd 722 (j + 2) rfl rfl rfl ?_
  refine mE_isc 723 (xs (4 * i + 2)) rfl rfl (law_at (xs := xs) (a := 2) hL hj hlt (by omega) 2 (by decide)).1 (law_at (a := 2) hL hj hlt (by omega) 2 (by decide)).2 rfl ?_
  refine mE_cv [.int (xs (4 * i + 1)), .int (xs (4 * i + 2))] [] rfl rfl rfl rfl e2 rfl ⟨_, _, e3, ?_⟩
  refine mE_pop 727 rfl rfl rfl ?_
  refine mE_goto 789 rfl rfl ?_
  exact kk g2 ρ2 h2 e4
set_option maxRecDepth 10000 in
theorem lc_20 {L : Nat} {xs : Nat → Int32} {j : Int32} {i b : Nat} {g : Nat → Int} {ρ : List Nat} {h : mS} (hL : L ≤ 2048) (hj : j.toInt = 4 * (i : Int)) (hlt : 4 * i + 4 ≤ L) (hI : (Inv i g ρ h ∧ JP h.1)) (kk : ∀ g2 ρ2 h2, (Inv (i + 1) g2 ρ2 h2 ∧ JP h2.1) → mE (mcall 720) (some (L, xs)) 4 (mgd mLlaw mtL_law) b (789, [(3, .int j), (2, .ref 47), (1, .ref 0), (0, .retAddr 1)], [], h2) (fun r h' => r = some (.int 1) ∧ h'.1.length ≤ 600000 ∧ h'.2 ≤ 7302250)) : mE (mcall 720) (some (L, xs)) 4 (mgd mLlaw mtL_law) (b + 7) (730, [(3, .int j), (2, .ref 47), (1, .ref 0), (0, .retAddr 1)], [], h) (fun r h' => r = some (.int 1) ∧ h'.1.length ≤ 600000 ∧ h'.2 ≤ 7302250) := by
  obtain ⟨fs0, c0, -, -⟩ := fld hI.1.1 hI.1.2.1 rO_eq
  obtain ⟨v1, v2, h1, h2, g2, ρ2, fs, e1, e2, e3, e4, e5⟩ := jp_better i g ρ h (by omega) hI
  refine mE_aldn 731 rfl rfl rfl rfl ?_
  refine mE_cv [] [] rfl rfl rfl rfl c0 rfl ⟨_, _, e1, ?_⟩
  refine mE_pop 735 rfl rfl rfl ?_
  refine mE_aldn 736 rfl rfl rfl rfl ?_
  refine mE_cv [] [] rfl rfl rfl rfl e2 rfl ⟨_, _, e3, ?_⟩
  refine mE_pop 740 rfl rfl rfl ?_
  refine mE_goto 789 rfl rfl ?_
  exact kk g2 ρ2 h2 e4
set_option maxRecDepth 10000 in
theorem lc_21 {L : Nat} {xs : Nat → Int32} {j : Int32} {i b : Nat} {g : Nat → Int} {ρ : List Nat} {h : mS} (hL : L ≤ 2048) (hj : j.toInt = 4 * (i : Int)) (hlt : 4 * i + 4 ≤ L) (hI : (Inv i g ρ h ∧ JP h.1)) (kk : ∀ g2 ρ2 h2, (Inv (i + 1) g2 ρ2 h2 ∧ JP h2.1) → mE (mcall 720) (some (L, xs)) 4 (mgd mLlaw mtL_law) b (789, [(3, .int j), (2, .ref 47), (1, .ref 0), (0, .retAddr 1)], [], h2) (fun r h' => r = some (.int 1) ∧ h'.1.length ≤ 600000 ∧ h'.2 ≤ 7302250)) : mE (mcall 720) (some (L, xs)) 4 (mgd mLlaw mtL_law) (b + 17) (743, [(3, .int j), (2, .ref 47), (1, .ref 0), (0, .retAddr 1)], [], h) (fun r h' => r = some (.int 1) ∧ h'.1.length ≤ 600000 ∧ h'.2 ≤ 7302250) := by
  obtain ⟨fs0, c0, -, -⟩ := fld hI.1.1 hI.1.2.1 rO_eq
  obtain ⟨v1, v2, h1, h2, g2, ρ2, fs, e1, e2, e3, e4, e5⟩ := jp_fewest (xs (4 * i + 1)) i g ρ h (by omega) hI
  refine mE_aldn 744 rfl rfl rfl rfl ?_
  refine mE_aldn 745 rfl rfl rfl rfl ?_
  refine mE_ildn 746 rfl rfl rfl rfl ?_
  refine mE_ico 747 1 rfl rfl rfl ?_
  refine mE_iadd 748 (j + 1) rfl rfl rfl ?_
  refine mE_isc 749 (xs (4 * i + 1)) rfl rfl (law_at (xs := xs) (a := 1) hL hj hlt (by omega) 1 (by decide)).1 (law_at (a := 1) hL hj hlt (by omega) 1 (by decide)).2 rfl ?_
  refine mE_cv [.int (xs (4 * i + 1))] [] rfl rfl rfl rfl c0 rfl ⟨_, _, e1, ?_⟩
  refine mE_pop 753 rfl rfl rfl ?_
  refine mE_aldn 754 rfl rfl rfl rfl ?_
  refine mE_aldn 755 rfl rfl rfl rfl ?_
  refine mE_ildn 756 rfl rfl rfl rfl ?_
  refine mE_ico 757 1 rfl rfl rfl ?_
  refine mE_iadd 758 (j + 1) rfl rfl rfl ?_
  refine mE_isc 759 (xs (4 * i + 1)) rfl rfl (law_at (xs := xs) (a := 1) hL hj hlt (by omega) 1 (by decide)).1 (law_at (a := 1) hL hj hlt (by omega) 1 (by decide)).2 rfl ?_
  refine mE_cv [.int (xs (4 * i + 1))] [] rfl rfl rfl rfl e2 rfl ⟨_, _, e3, ?_⟩
  refine mE_pop 763 rfl rfl rfl ?_
  refine mE_goto 789 rfl rfl ?_
  exact kk g2 ρ2 h2 e4
set_option maxRecDepth 10000 in
theorem lc_22 {L : Nat} {xs : Nat → Int32} {j : Int32} {i b : Nat} {g : Nat → Int} {ρ : List Nat} {h : mS} (hL : L ≤ 2048) (hj : j.toInt = 4 * (i : Int)) (hlt : 4 * i + 4 ≤ L) (hI : (Inv i g ρ h ∧ JP h.1)) (kk : ∀ g2 ρ2 h2, (Inv (i + 1) g2 ρ2 h2 ∧ JP h2.1) → mE (mcall 720) (some (L, xs)) 4 (mgd mLlaw mtL_law) b (789, [(3, .int j), (2, .ref 47), (1, .ref 0), (0, .retAddr 1)], [], h2) (fun r h' => r = some (.int 1) ∧ h'.1.length ≤ 600000 ∧ h'.2 ≤ 7302250)) : mE (mcall 720) (some (L, xs)) 4 (mgd mLlaw mtL_law) (b + 17) (766, [(3, .int j), (2, .ref 47), (1, .ref 0), (0, .retAddr 1)], [], h) (fun r h' => r = some (.int 1) ∧ h'.1.length ≤ 600000 ∧ h'.2 ≤ 7302250) := by
  obtain ⟨fs0, c0, -, -⟩ := fld hI.1.1 hI.1.2.1 rO_eq
  obtain ⟨v1, v2, h1, h2, g2, ρ2, fs, e1, e2, e3, e4, e5⟩ := jp_count (xs (4 * i + 1)) i g ρ h (by omega) hI
  refine mE_aldn 767 rfl rfl rfl rfl ?_
  refine mE_aldn 768 rfl rfl rfl rfl ?_
  refine mE_ildn 769 rfl rfl rfl rfl ?_
  refine mE_ico 770 1 rfl rfl rfl ?_
  refine mE_iadd 771 (j + 1) rfl rfl rfl ?_
  refine mE_isc 772 (xs (4 * i + 1)) rfl rfl (law_at (xs := xs) (a := 1) hL hj hlt (by omega) 1 (by decide)).1 (law_at (a := 1) hL hj hlt (by omega) 1 (by decide)).2 rfl ?_
  refine mE_cv [.int (xs (4 * i + 1))] [] rfl rfl rfl rfl c0 rfl ⟨_, _, e1, ?_⟩
  refine mE_pop 776 rfl rfl rfl ?_
  refine mE_aldn 777 rfl rfl rfl rfl ?_
  refine mE_aldn 778 rfl rfl rfl rfl ?_
  refine mE_ildn 779 rfl rfl rfl rfl ?_
  refine mE_ico 780 1 rfl rfl rfl ?_
  refine mE_iadd 781 (j + 1) rfl rfl rfl ?_
  refine mE_isc 782 (xs (4 * i + 1)) rfl rfl (law_at (xs := xs) (a := 1) hL hj hlt (by omega) 1 (by decide)).1 (law_at (a := 1) hL hj hlt (by omega) 1 (by decide)).2 rfl ?_
  refine mE_cv [.int (xs (4 * i + 1))] [] rfl rfl rfl rfl e2 rfl ⟨_, _, e3, ?_⟩
  refine mE_pop 786 rfl rfl rfl ?_
  refine mE_goto 789 rfl rfl ?_
  exact kk g2 ρ2 h2 e4
set_option maxRecDepth 10000 in
set_option maxHeartbeats 1000000 in
theorem law_loop {L : Nat} {xs : Nat → Int32} (hL : L ≤ 2048) : ∀ (k i : Nat) (j : Int32) (g : Nat → Int) (ρ : List Nat) (h : mS), j.toInt = 4 * (i : Int) → L ≤ 4 * i + 4 * k + 3 → 4 * i ≤ L → (Inv i g ρ h ∧ JP h.1) → mE (mcall 720) (some (L, xs)) 4 (mgd mLlaw mtL_law) (100 * k + 20) (18, [(3, .int j), (2, .ref 47), (1, .ref 0), (0, .retAddr 1)], [], h) (fun r h' => r = some (.int 1) ∧ h'.1.length ≤ 600000 ∧ h'.2 ≤ 7302250) := by
  have e4 : (4 : Int32).toInt = 4 := by decide
  intro k
  have head : ∀ (i b : Nat) (j : Int32) (g : Nat → Int) (ρ : List Nat) (h : mS), j.toInt = 4 * (i : Int) → 4 * i ≤ L → (Inv i g ρ h ∧ JP h.1) → (4 * i + 4 ≤ L → mE (mcall 720) (some (L, xs)) 4 (mgd mLlaw mtL_law) b (26, [(3, .int j), (2, .ref 47), (1, .ref 0), (0, .retAddr 1)], [], h) (fun r h' => r = some (.int 1) ∧ h'.1.length ≤ 600000 ∧ h'.2 ≤ 7302250)) → mE (mcall 720) (some (L, xs)) 4 (mgd mLlaw mtL_law) (b + 8) (18, [(3, .int j), (2, .ref 47), (1, .ref 0), (0, .retAddr 1)], [], h) (fun r h' => r = some (.int 1) ∧ h'.1.length ≤ 600000 ∧ h'.2 ≤ 7302250) := by
    intro i b j g ρ h hj hi hI kk
    have g0 := hI.1.2.2.2.1 0 (0, 12) rfl
    have g0 : 0 ≤ g 0 ∧ g 0 ≤ 12 := g0
    have g1 := hI.1.2.2.2.1 1 (0, 60) rfl
    have g1 : 0 ≤ g 1 ∧ g 1 ≤ 60 := g1
    have hlen := hI.1.2.2.2.2.2.1
    have l1 : (Int32.ofNat L).toInt = L := by
      rw [Int32.toInt_ofNat']
      exact bmod_id (by omega) (by omega)
    have l2 : (Int32.ofNat L - 4).toInt = (L : Int) - 4 := by rw [sub_id (by omega) (by omega), l1, e4]
    refine mE_ildn 19 rfl rfl rfl rfl ?_
    refine mE_aldn 20 rfl rfl rfl rfl ?_
    refine mE_lsc 21 (Int32.ofNat L) rfl rfl rfl rfl ?_
    refine mE_ico 22 4 rfl rfl rfl ?_
    refine mE_isub 23 (Int32.ofNat L - 4) rfl rfl rfl ?_
    refine mE_ic_gt rfl (fun hgt => ?_) (fun hle => ?_)
    · refine mE_ico 796 1 rfl rfl rfl ?_
      exact mE_iret rfl ⟨rfl, by omega, by omega⟩
    · have hle := Int32.le_iff_toInt_le.mp (Int32.not_lt.mp hle)
      exact mE_le (kk (by omega)) (by omega)
  induction k with
  | zero =>
    intro i j g ρ h hj hk hi hI
    exact mE_le (head i 0 j g ρ h hj hi hI (fun q => by omega)) (by omega)
  | succ k ih =>
    intro i j g ρ h hj hk hi hI
    refine mE_le (head i (100 * k + 20 + 70) j g ρ h hj hi hI (fun hlt => ?_)) (by omega)
    have hnx : ∀ g2 ρ2 h2, (Inv (i + 1) g2 ρ2 h2 ∧ JP h2.1) → mE (mcall 720) (some (L, xs)) 4 (mgd mLlaw mtL_law) (100 * k + 20 + 2) (789, [(3, .int j), (2, .ref 47), (1, .ref 0), (0, .retAddr 1)], [], h2) (fun r h' => r = some (.int 1) ∧ h'.1.length ≤ 600000 ∧ h'.2 ≤ 7302250) := by
      intro g2 ρ2 h2 hI2
      refine mE_iinc 792 (j + 4) [(3, .int (j + 4)), (2, .ref 47), (1, .ref 0), (0, .retAddr 1)] rfl rfl rfl rfl rfl rfl ?_
      refine mE_goto 18 rfl rfl ?_
      have j4 : (j + 4).toInt = 4 * ((i + 1 : Nat) : Int) := by
        rw [add_id (by omega) (by omega), e4]
        omega
      exact ih (i + 1) (j + 4) g2 ρ2 h2 j4 (by omega) (by omega) hI2
    have z := law_at (xs := xs) (a := 0) hL hj hlt (by omega) 0 (by decide)
    rw [Int32.add_zero] at z
    refine mE_aldn 27 rfl rfl rfl rfl ?_
    refine mE_ildn 28 rfl rfl rfl rfl ?_
    refine mE_isc 29 (xs (4 * i)) rfl rfl z.1 z.2 rfl ?_
    refine mE_bip 31 31 rfl rfl rfl ?_
    have hr : 0 ≤ (xs (4 * i) &&& 31).toInt ∧ (xs (4 * i) &&& 31).toInt ≤ 31 := and_rng (by decide) (by decide)
    refine mE_iand 32 _ rfl rfl rfl ?_
    generalize xs (4 * i) &&& 31 = v at hr
    by_cases hv : v.toInt < 0 ∨ 22 < v.toInt
    · refine mE_tsw0 789 rfl hv (by decide) rfl ?_
      exact mE_le (hnx g ρ h ⟨⟨hI.1.1, hI.1.2.1, hI.1.2.2.1, hI.1.2.2.2.1, ⟨by have := hI.1.2.2.2.2.1.1; omega, by have := hI.1.2.2.2.2.1.2; omega⟩, hI.1.2.2.2.2.2⟩, hI.2⟩) (by omega)
    · obtain ⟨n, hn, rfl⟩ : ∃ n : Nat, n < 23 ∧ v = Int32.ofNat n := ⟨v.toInt.toNat, by omega, Int32.toInt_inj.mp (by
        rw [Int32.toInt_ofNat', bmod_id (by omega) (by omega)]
        omega)⟩
      match n, hn with
      | 0, _ => exact mE_le (mE_tsw 140 rfl (by decide) rfl (by decide) rfl (lc_0 hL hj hlt hI hnx)) (by omega)
      | 1, _ => exact mE_le (mE_tsw 173 rfl (by decide) rfl (by decide) rfl (lc_1 hL hj hlt hI hnx)) (by omega)
      | 2, _ => exact mE_le (mE_tsw 216 rfl (by decide) rfl (by decide) rfl (lc_2 hL hj hlt hI hnx)) (by omega)
      | 3, _ => exact mE_le (mE_tsw 249 rfl (by decide) rfl (by decide) rfl (lc_3 hL hj hlt hI hnx)) (by omega)
      | 4, _ => exact mE_le (mE_tsw 282 rfl (by decide) rfl (by decide) rfl (lc_4 hL hj hlt hI hnx)) (by omega)
      | 5, _ => exact mE_le (mE_tsw 305 rfl (by decide) rfl (by decide) rfl (lc_5 hL hj hlt hI hnx)) (by omega)
      | 6, _ => exact mE_le (mE_tsw 328 rfl (by decide) rfl (by decide) rfl (lc_6 hL hj hlt hI hnx)) (by omega)
      | 7, _ => exact mE_le (mE_tsw 351 rfl (by decide) rfl (by decide) rfl (lc_7 hL hj hlt hI hnx)) (by omega)
      | 8, _ => exact mE_le (mE_tsw 384 rfl (by decide) rfl (by decide) rfl (lc_8 hL hj hlt hI hnx)) (by omega)
      | 9, _ => exact mE_le (mE_tsw 417 rfl (by decide) rfl (by decide) rfl (lc_9 hL hj hlt hI hnx)) (by omega)
      | 10, _ => exact mE_le (mE_tsw 440 rfl (by decide) rfl (by decide) rfl (lc_10 hL hj hlt hI hnx)) (by omega)
      | 11, _ => exact mE_le (mE_tsw 473 rfl (by decide) rfl (by decide) rfl (lc_11 hL hj hlt hI hnx)) (by omega)
      | 12, _ => exact mE_le (mE_tsw 506 rfl (by decide) rfl (by decide) rfl (lc_12 hL hj hlt hI hnx)) (by omega)
      | 13, _ => exact mE_le (mE_tsw 519 rfl (by decide) rfl (by decide) rfl (lc_13 hL hj hlt hI hnx)) (by omega)
      | 14, _ => exact mE_le (mE_tsw 562 rfl (by decide) rfl (by decide) rfl (lc_14 hL hj hlt hI hnx)) (by omega)
      | 15, _ => exact mE_le (mE_tsw 595 rfl (by decide) rfl (by decide) rfl (lc_15 hL hj hlt hI hnx)) (by omega)
      | 16, _ => exact mE_le (mE_tsw 628 rfl (by decide) rfl (by decide) rfl (lc_16 hL hj hlt hI hnx)) (by omega)
      | 17, _ => exact mE_le (mE_tsw 661 rfl (by decide) rfl (by decide) rfl (lc_17 hL hj hlt hI hnx)) (by omega)
      | 18, _ => exact mE_le (mE_tsw 684 rfl (by decide) rfl (by decide) rfl (lc_18 hL hj hlt hI hnx)) (by omega)
      | 19, _ => exact mE_le (mE_tsw 697 rfl (by decide) rfl (by decide) rfl (lc_19 hL hj hlt hI hnx)) (by omega)
      | 20, _ => exact mE_le (mE_tsw 730 rfl (by decide) rfl (by decide) rfl (lc_20 hL hj hlt hI hnx)) (by omega)
      | 21, _ => exact mE_le (mE_tsw 743 rfl (by decide) rfl (by decide) rfl (lc_21 hL hj hlt hI hnx)) (by omega)
      | 22, _ => exact mE_le (mE_tsw 766 rfl (by decide) rfl (by decide) rfl (lc_22 hL hj hlt hI hnx)) (by omega)
      | n + 23, h => exact absurd (show n + 23 < 23 from h) (by omega)
