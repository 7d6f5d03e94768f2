/-! the resolved code is the class files' code (by program) -/
theorem lm_ck_76 : (List.range' 76 4).all lm_ckM = true := by decide +kernel
theorem lm_ck_80 : (List.range' 80 3).all lm_ckM = true := by decide +kernel
theorem lm_ck_83 : (List.range' 83 3).all lm_ckM = true := by decide +kernel
theorem lm_ck_86 : (List.range' 86 2).all lm_ckM = true := by decide +kernel
theorem lm_ck_88 : (List.range' 88 3).all lm_ckM = true := by decide +kernel
theorem lm_ck_91 : (List.range' 91 5).all lm_ckM = true := by decide +kernel
theorem lm_ck_96 : (List.range' 96 5).all lm_ckM = true := by decide +kernel
theorem lm_ck_101 : (List.range' 101 8).all lm_ckM = true := by decide +kernel
theorem lm_ck_109 : (List.range' 109 4).all lm_ckM = true := by decide +kernel
theorem lm_ck_113 : (List.range' 113 4).all lm_ckM = true := by decide +kernel
theorem lm_ck_117 : (List.range' 117 6).all lm_ckM = true := by decide +kernel
theorem lm_ck_123 : (List.range' 123 4).all lm_ckM = true := by decide +kernel
theorem lm_ck_127 : (List.range' 127 6).all lm_ckM = true := by decide +kernel
theorem lm_ck_133 : (List.range' 133 5).all lm_ckM = true := by decide +kernel
theorem lm_ck_138 : (List.range' 138 8).all lm_ckM = true := by decide +kernel
theorem lm_ck_146 : (List.range' 146 1).all lm_ckM = true := by decide +kernel
