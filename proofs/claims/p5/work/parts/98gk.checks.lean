set_option maxRecDepth 100000 in
theorem mkL_8 : mchkTr RL "law" code (mgd mLlaw mtL_law) 400 50 = true := by decide +kernel
set_option maxRecDepth 100000 in
theorem mkL_9 : mchkTr RL "law" code (mgd mLlaw mtL_law) 450 50 = true := by decide +kernel
set_option maxRecDepth 100000 in
theorem mkL_10 : mchkTr RL "law" code (mgd mLlaw mtL_law) 500 50 = true := by decide +kernel
set_option maxRecDepth 100000 in
theorem mkL_11 : mchkTr RL "law" code (mgd mLlaw mtL_law) 550 50 = true := by decide +kernel
