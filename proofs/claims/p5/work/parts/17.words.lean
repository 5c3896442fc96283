def mIn0 (i : Nat) (w : Cond) : Bool := decide (lw_tbl[i]? = some w)
theorem mIn0_mem {i : Nat} {w : Cond} (h : mIn0 i w = true) : w ∈ lw_tbl := List.mem_of_getElem? (of_decide_eq_true h)
set_option maxRecDepth 100000 in
theorem mnest_in : (mNest.zip [107, 126, 132, 182, 196, 210, 241, 260, 265]).all (fun q => mIn0 q.2 (.methodLinkNest q.1.1 q.1.2.1 q.1.2.2 "OpenFields")) = true := by decide +kernel
theorem mnest_len : mNest.length = 9 := rfl
def mnest_ps : List Nat := [107, 126, 132, 182, 196, 210, 241, 260, 265]
set_option maxRecDepth 100000 in
theorem mao_House : Cond.arrayOver (.object "OpenFields$House") ∈ lw_tbl := mIn0_mem (i := 98) (by decide +kernel)
set_option maxRecDepth 100000 in
theorem mao_Strip : Cond.arrayOver (.object "OpenFields$Strip") ∈ lw_tbl := mIn0_mem (i := 100) (by decide +kernel)
set_option maxRecDepth 100000 in
theorem mao_Field : Cond.arrayOver (.object "OpenFields$Field") ∈ lw_tbl := mIn0_mem (i := 102) (by decide +kernel)
set_option maxRecDepth 100000 in
theorem mao_ByLaw : Cond.arrayOver (.object "OpenFields$ByLaw") ∈ lw_tbl := mIn0_mem (i := 104) (by decide +kernel)
set_option maxRecDepth 100000 in
theorem mstr_in : Cond.stringRef "OpenFields$Reader" 75 "wyfscgdbnh" ∈ lw_tbl := mIn0_mem (i := 307) (by decide +kernel)
set_option maxRecDepth 100000 in
theorem mcs_in : Cond.laysStatic "java/lang/String" "COMPACT_STRINGS" "Z" ∈ lw_tbl := mIn0_mem (i := 321) (by decide +kernel)
set_option maxRecDepth 100000 in
theorem msi_in : Cond.initialized "java/lang/String" ∈ lw_tbl := mIn0_mem (i := 79) (by decide +kernel)
