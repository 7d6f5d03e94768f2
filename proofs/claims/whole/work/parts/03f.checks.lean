/-! the resolved code is the class files' code (by program) -/
theorem lm_ck_147 : (List.range' 147 4).all lm_ckM = true := by decide +kernel
theorem lm_ck_151 : (List.range' 151 1).all lm_ckM = true := by decide +kernel
theorem lm_ck_152 : (List.range' 152 5).all lm_ckM = true := by decide +kernel
theorem lm_ck_157 : (List.range' 157 3).all lm_ckM = true := by decide +kernel
theorem lm_ck_160 : (List.range' 160 2).all lm_ckM = true := by decide +kernel
theorem lm_ck_162 : (List.range' 162 2).all lm_ckM = true := by decide +kernel
theorem lm_ck_164 : (List.range' 164 3).all lm_ckM = true := by decide +kernel
theorem lm_ck_167 : (List.range' 167 1).all lm_ckM = true := by decide +kernel
theorem lm_ck_168 : (List.range' 168 4).all lm_ckM = true := by decide +kernel
theorem lm_ck_172 : (List.range' 172 1).all lm_ckM = true := by decide +kernel
theorem lm_ck_173 : (List.range' 173 1).all lm_ckM = true := by decide +kernel
theorem lm_ck_174 : (List.range' 174 2).all lm_ckM = true := by decide +kernel
theorem lm_ck_176 : (List.range' 176 1).all lm_ckM = true := by decide +kernel
theorem lm_ck_177 : (List.range' 177 1).all lm_ckM = true := by decide +kernel
theorem lm_ck_178 : (List.range' 178 1).all lm_ckM = true := by decide +kernel
