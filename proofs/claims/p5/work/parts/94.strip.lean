def aBl11 : aB := aBl.set 11 (0, 59)
def sMs_41 : aAn := ([(0, (3, 30, 0)), (1, a32), (2, a32), (3, (2, 10, -1))], [], (436, []))
def sMs_101 : aAn := ([(0, (3, 30, 0)), (1, a32), (2, a32), (3, (2, 10, -1))], [], (400, []))
def sMs : List (Nat × aAn) := [(41, sMs_41),
  (101, sMs_101)]
set_option maxRecDepth 100000 in
theorem sMs_k : sMs.all (fun q => ([101] : List Nat).elem q.1 || ahead aBl11 rI0 (ctU ci_early) (alook []) [39, 40, 41, 42, 44, 49] (some (7, 0, 0)) 5 (mgd 124 mtX11_strip) (anaf sMs) 74 q.1) = true := by decide +kernel
theorem sMs_e41 : anaf sMs 41 = some sMs_41 := rfl
theorem sMs_e101 : anaf sMs 101 = some sMs_101 := rfl
def sC_71 : aAn := ([(0, (3, 0, 0)), (1, (0, 0, 2)), (2, a32), (3, (2, 0, -1)), (4, (3, 26, 0))], [], (412, []))
def sC_93 : aAn := ([(0, (3, 0, 0)), (1, (0, 0, 2)), (2, a32), (3, (2, 0, -1)), (4, (3, 26, 0))], [], (400, []))
def sC : List (Nat × aAn) := [(71, sC_71),
  (93, sC_93)]
set_option maxRecDepth 100000 in
theorem sC_k : sC.all (fun q => ([93] : List Nat).elem q.1 || ahead aBl rI0 (ctU ci_early) (alook [(79, 78), (90, 124)]) [23, 25, 26] (some (7, 0, 0)) 5 (mgd 125 mtX10_strip) (anaf sC) 71 q.1) = true := by decide +kernel
theorem sC_e71 : anaf sC 71 = some sC_71 := rfl
theorem sC_e93 : anaf sC 93 = some sC_93 := rfl
/-! strip of both -/
theorem p_put {cal : Nat → List Value → mS → Option (Option Value × mS)} {scr : Option (Nat × (Nat → Int32))} {nL : Nat} {tab : Nat → Option mI} {P : Option Value → mS → Prop} {pc b n ci j q3 q4 k : Nat} {lv : mL} {st : List Value} {l : List mC} {s : Nat} {fs : List Value} {v : Value} (fs' : List Value) (ht : tab pc = some (.putfield n, 3, ci, j, q3, q4)) (hf : mfit (mtyOf ci j) v = true) (hj : Nat.blt j fs.length = true) (hfs : fs.set j v = fs') (hk : k < l.length) (kk : mE cal scr nL tab b (pc + 3, lv, st, (l.set k (.inr (ci, fs')), s)) P) : mE cal scr nL tab (b + 1) (pc, lv, v :: .ref k :: st, (l.set k (.inr (ci, fs)), s)) P := by
  subst hfs
  refine mE_pf (h := (l.set k (.inr (ci, fs)), s)) (pc + 3) ht (List.getElem?_set_self hk) (by rw [hf, hj]; rfl) rfl ?_
  show mE cal scr nL tab b (pc + 3, lv, st, ((l.set k (.inr (ci, fs))).set k (.inr (ci, fs.set j v)), s)) P
  rw [List.set_set]
  exact kk
set_option maxRecDepth 10000 in
theorem r_stripInit {d : Nat} {l : List mC} {s k hh : Nat} {a b c : Int32} {w : Value} (hL : k < l.length) (hw1 : misref w = true) (hw2 : mfit (mtyOf 7 3) w = true) (hw3 : mone w = true) : mR (d + 1) 38 [.ref k, .int a, .int b, .ref hh, .int c, w] (l.set k (.inr (7, [.int 0, .int 0, .int 0, .null, .null, .null, .int 0, .int 0, .int 0, .int 0, .int 0, .int 0, .int 0, .int 0])), s) (fun r h' => r = none ∧ h' = (l.set k (.inr (7, [.int a, .int b, .int c, w, .null, .ref hh, .int 3, .int 0, .int 1, .int 0, .int 0, .int 0, .int 0, .int 0])), s)) := by
  refine mR_ix [(0, .ref k), (1, .int a), (2, .int b), (3, .ref hh), (4, .int c), (5, w)] rfl (by simp only [List.all_cons, List.all_nil, hw3]; rfl) (by
    have hcat : ¬ w.category = 2 := mone_cat2 hw3
    simp only [lv_args, if_neg hcat]
    rfl) ?_
  refine mE_aldn 1 rfl rfl rfl rfl ?_
  refine mE_oi 4 rfl rfl rfl rfl ?_
  refine mE_aldn 5 rfl rfl rfl rfl ?_
  refine mE_anull 6 rfl rfl ?_
  refine p_put [.int 0, .int 0, .int 0, .null, .null, .null, .int 0, .int 0, .int 0, .int 0, .int 0, .int 0, .int 0, .int 0] rfl rfl rfl rfl hL ?_
  refine mE_aldn 10 rfl rfl rfl rfl ?_
  refine mE_ico 11 3 rfl rfl rfl ?_
  refine p_put [.int 0, .int 0, .int 0, .null, .null, .null, .int 3, .int 0, .int 0, .int 0, .int 0, .int 0, .int 0, .int 0] rfl rfl rfl rfl hL ?_
  refine mE_aldn 15 rfl rfl rfl rfl ?_
  refine mE_ico 16 0 rfl rfl rfl ?_
  refine p_put [.int 0, .int 0, .int 0, .null, .null, .null, .int 3, .int 0, .int 0, .int 0, .int 0, .int 0, .int 0, .int 0] rfl rfl rfl rfl hL ?_
  refine mE_aldn 20 rfl rfl rfl rfl ?_
  refine mE_ico 21 1 rfl rfl rfl ?_
  refine p_put [.int 0, .int 0, .int 0, .null, .null, .null, .int 3, .int 0, .int 1, .int 0, .int 0, .int 0, .int 0, .int 0] rfl rfl rfl rfl hL ?_
  refine mE_aldn 25 rfl rfl rfl rfl ?_
  refine mE_ico 26 0 rfl rfl rfl ?_
  refine p_put [.int 0, .int 0, .int 0, .null, .null, .null, .int 3, .int 0, .int 1, .int 0, .int 0, .int 0, .int 0, .int 0] rfl rfl rfl rfl hL ?_
  refine mE_aldn 30 rfl rfl rfl rfl ?_
  refine mE_ico 31 0 rfl rfl rfl ?_
  refine p_put [.int 0, .int 0, .int 0, .null, .null, .null, .int 3, .int 0, .int 1, .int 0, .int 0, .int 0, .int 0, .int 0] rfl rfl rfl rfl hL ?_
  refine mE_aldn 35 rfl rfl rfl rfl ?_
  refine mE_ico 36 0 rfl rfl rfl ?_
  refine p_put [.int 0, .int 0, .int 0, .null, .null, .null, .int 3, .int 0, .int 1, .int 0, .int 0, .int 0, .int 0, .int 0] rfl rfl rfl rfl hL ?_
  refine mE_aldn 40 rfl rfl rfl rfl ?_
  refine mE_ico 41 0 rfl rfl rfl ?_
  refine p_put [.int 0, .int 0, .int 0, .null, .null, .null, .int 3, .int 0, .int 1, .int 0, .int 0, .int 0, .int 0, .int 0] rfl rfl rfl rfl hL ?_
  refine mE_aldn 45 rfl rfl rfl rfl ?_
  refine mE_ico 46 0 rfl rfl rfl ?_
  refine p_put [.int 0, .int 0, .int 0, .null, .null, .null, .int 3, .int 0, .int 1, .int 0, .int 0, .int 0, .int 0, .int 0] rfl rfl rfl rfl hL ?_
  refine mE_aldn 50 rfl rfl rfl rfl ?_
  refine mE_ildn 51 rfl rfl rfl rfl ?_
  refine p_put [.int a, .int 0, .int 0, .null, .null, .null, .int 3, .int 0, .int 1, .int 0, .int 0, .int 0, .int 0, .int 0] rfl rfl rfl rfl hL ?_
  refine mE_aldn 55 rfl rfl rfl rfl ?_
  refine mE_ildn 56 rfl rfl rfl rfl ?_
  refine p_put [.int a, .int b, .int 0, .null, .null, .null, .int 3, .int 0, .int 1, .int 0, .int 0, .int 0, .int 0, .int 0] rfl rfl rfl rfl hL ?_
  refine mE_aldn 60 rfl rfl rfl rfl ?_
  refine mE_aldn 61 rfl rfl rfl rfl ?_
  refine p_put [.int a, .int b, .int 0, .null, .null, .ref hh, .int 3, .int 0, .int 1, .int 0, .int 0, .int 0, .int 0, .int 0] rfl rfl rfl rfl hL ?_
  refine mE_aldn 65 rfl rfl rfl rfl ?_
  refine mE_ild 67 rfl rfl rfl rfl ?_
  refine p_put [.int a, .int b, .int c, .null, .null, .ref hh, .int 3, .int 0, .int 1, .int 0, .int 0, .int 0, .int 0, .int 0] rfl rfl rfl rfl hL ?_
  refine mE_aldn 71 rfl rfl rfl rfl ?_
  refine mE_ald 73 rfl rfl hw1 rfl ?_
  refine p_put [.int a, .int b, .int c, w, .null, .ref hh, .int 3, .int 0, .int 1, .int 0, .int 0, .int 0, .int 0, .int 0] rfl hw2 rfl rfl hL ?_
  exact mE_vret rfl ⟨rfl, rfl, rfl⟩
def sOk (c : Int) (f e z : Int32) : Prop := (0 ≤ f.toInt ∧ f.toInt ≤ 2) ∧ (1 ≤ e.toInt ∧ e.toInt ≤ 9) ∧ (0 ≤ z.toInt ∧ z.toInt < c)
def sWW (c s : Int) (f e z : Int32) (w : Int) : Prop := (sOk c f e z ∧ s < 60 ∧ w = s + 1) ∨ (sOk c f e z ∧ 60 ≤ s ∧ w = s) ∨ (¬ sOk c f e z ∧ w = s)
