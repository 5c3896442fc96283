set_option maxRecDepth 100000 in
theorem mkL_12 : mchkTr RL "law" code (mgd mLlaw mtL_law) 600 50 = true := by decide +kernel
set_option maxRecDepth 100000 in
theorem mkL_13 : mchkTr RL "law" code (mgd mLlaw mtL_law) 650 50 = true := by decide +kernel
set_option maxRecDepth 100000 in
theorem mkL_14 : mchkTr RL "law" code (mgd mLlaw mtL_law) 700 50 = true := by decide +kernel
set_option maxRecDepth 100000 in
theorem mkL_15 : mchkTr RL "law" code (mgd mLlaw mtL_law) 750 47 = true := by decide +kernel
