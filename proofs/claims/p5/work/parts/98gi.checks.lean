set_option maxRecDepth 100000 in
theorem mkL_0 : mchkTr RL "law" code (mgd mLlaw mtL_law) 0 50 = true := by decide +kernel
set_option maxRecDepth 100000 in
theorem mkL_1 : mchkTr RL "law" code (mgd mLlaw mtL_law) 50 50 = true := by decide +kernel
set_option maxRecDepth 100000 in
theorem mkL_2 : mchkTr RL "law" code (mgd mLlaw mtL_law) 100 50 = true := by decide +kernel
set_option maxRecDepth 100000 in
theorem mkL_3 : mchkTr RL "law" code (mgd mLlaw mtL_law) 150 50 = true := by decide +kernel
