set_option maxRecDepth 100000 in
theorem mkL_4 : mchkTr RL "law" code (mgd mLlaw mtL_law) 200 50 = true := by decide +kernel
set_option maxRecDepth 100000 in
theorem mkL_5 : mchkTr RL "law" code (mgd mLlaw mtL_law) 250 50 = true := by decide +kernel
set_option maxRecDepth 100000 in
theorem mkL_6 : mchkTr RL "law" code (mgd mLlaw mtL_law) 300 50 = true := by decide +kernel
set_option maxRecDepth 100000 in
theorem mkL_7 : mchkTr RL "law" code (mgd mLlaw mtL_law) 350 50 = true := by decide +kernel
