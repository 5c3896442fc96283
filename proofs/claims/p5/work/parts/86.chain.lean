/-! the end of the chain -/
-- 229 h_anyOf1
-- 230 h_anyOf0
-- 231 h_anyOf2
theorem ca_l0 : CTall 229 697 := ca_early.le (by omega)
theorem ca_l1 : CTall 230 698 := CTall_succ rfl ca_l0 ((CT_anyOf (d := 230) (ca_early.le (by omega)) 120 (by omega) (by omega)).le (by omega))
theorem ca_l2 : CTall 231 699 := CTall_succ rfl ca_l1 ((CT_anyOf (d := 230) (ca_early.le (by omega)) 0 (by omega) (by omega)).le (by omega))
theorem ca_l3 : CTall 232 700 := CTall_succ rfl ca_l2 ((CT_anyOf (d := 230) (ca_early.le (by omega)) 240 (by omega) (by omega)).le (by omega))
theorem ca_late : CTall 232 700 := ca_l3
theorem ca_232 : CTall 233 701 := CTall_chk rfl ca_late k_232
theorem ca_233 : CTall 234 702 := CTall_chk rfl ca_232 k_233
theorem ca_234 : CTall 235 703 := CTall_chk rfl ca_233 k_234
theorem ca_235 : CTall 236 704 := CTall_chk rfl ca_234 k_235
theorem ca_236 : CTall 237 705 := CTall_chk rfl ca_235 k_236
theorem ca_237 : CTall 238 706 := CTall_chk rfl ca_236 k_237
theorem ca_238 : CTall 239 707 := CTall_chk rfl ca_237 k_238
theorem ca_239 : CTall 240 708 := CTall_succ rfl ca_238 ((CT_split (CT_weak (ca_238 ci_lawOf0 _ rfl) rfl rfl) (CT_weak (ca_238 ci_lawOf1 _ rfl) rfl rfl) (CT_weak (ca_238 ci_lawOf2 _ rfl) rfl rfl)).le (Nat.le_succ _))
theorem ca_240 : CTall 241 709 := CTall_chk rfl ca_239 k_240
theorem ca_241 : CTall 242 710 := CTall_chk rfl ca_240 k_241
theorem ca_242 : CTall 243 711 := CTall_chk rfl ca_241 k_242
theorem ca_all : CTall 243 711 := ca_242
