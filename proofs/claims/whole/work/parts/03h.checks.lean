theorem lm_ck_all (k : Nat) (h : k < 229) : lm_ckM k = true := by
  by_cases h8 : k < 8
  · exact List.all_eq_true.mp lm_ck_0 k (List.mem_range'_1.mpr ⟨by omega, by omega⟩)
  by_cases h17 : k < 17
  · exact List.all_eq_true.mp lm_ck_8 k (List.mem_range'_1.mpr ⟨by omega, by omega⟩)
  by_cases h18 : k < 18
  · exact List.all_eq_true.mp lm_ck_17 k (List.mem_range'_1.mpr ⟨by omega, by omega⟩)
  by_cases h22 : k < 22
  · exact List.all_eq_true.mp lm_ck_18 k (List.mem_range'_1.mpr ⟨by omega, by omega⟩)
  by_cases h24 : k < 24
  · exact List.all_eq_true.mp lm_ck_22 k (List.mem_range'_1.mpr ⟨by omega, by omega⟩)
  by_cases h30 : k < 30
  · exact List.all_eq_true.mp lm_ck_24 k (List.mem_range'_1.mpr ⟨by omega, by omega⟩)
  by_cases h36 : k < 36
  · exact List.all_eq_true.mp lm_ck_30 k (List.mem_range'_1.mpr ⟨by omega, by omega⟩)
  by_cases h40 : k < 40
  · exact List.all_eq_true.mp lm_ck_36 k (List.mem_range'_1.mpr ⟨by omega, by omega⟩)
  by_cases h47 : k < 47
  · exact List.all_eq_true.mp lm_ck_40 k (List.mem_range'_1.mpr ⟨by omega, by omega⟩)
  by_cases h51 : k < 51
  · exact List.all_eq_true.mp lm_ck_47 k (List.mem_range'_1.mpr ⟨by omega, by omega⟩)
  by_cases h55 : k < 55
  · exact List.all_eq_true.mp lm_ck_51 k (List.mem_range'_1.mpr ⟨by omega, by omega⟩)
  by_cases h59 : k < 59
  · exact List.all_eq_true.mp lm_ck_55 k (List.mem_range'_1.mpr ⟨by omega, by omega⟩)
  by_cases h61 : k < 61
  · exact List.all_eq_true.mp lm_ck_59 k (List.mem_range'_1.mpr ⟨by omega, by omega⟩)
  by_cases h64 : k < 64
  · exact List.all_eq_true.mp lm_ck_61 k (List.mem_range'_1.mpr ⟨by omega, by omega⟩)
  by_cases h70 : k < 70
  · exact List.all_eq_true.mp lm_ck_64 k (List.mem_range'_1.mpr ⟨by omega, by omega⟩)
  by_cases h71 : k < 71
  · exact List.all_eq_true.mp lm_ck_70 k (List.mem_range'_1.mpr ⟨by omega, by omega⟩)
  by_cases h72 : k < 72
  · exact List.all_eq_true.mp lm_ck_71 k (List.mem_range'_1.mpr ⟨by omega, by omega⟩)
  by_cases h74 : k < 74
  · exact List.all_eq_true.mp lm_ck_72 k (List.mem_range'_1.mpr ⟨by omega, by omega⟩)
  by_cases h75 : k < 75
  · exact List.all_eq_true.mp lm_ck_74 k (List.mem_range'_1.mpr ⟨by omega, by omega⟩)
  by_cases h76 : k < 76
  · exact List.all_eq_true.mp lm_ck_75 k (List.mem_range'_1.mpr ⟨by omega, by omega⟩)
  by_cases h80 : k < 80
  · exact List.all_eq_true.mp lm_ck_76 k (List.mem_range'_1.mpr ⟨by omega, by omega⟩)
  by_cases h83 : k < 83
  · exact List.all_eq_true.mp lm_ck_80 k (List.mem_range'_1.mpr ⟨by omega, by omega⟩)
  by_cases h86 : k < 86
  · exact List.all_eq_true.mp lm_ck_83 k (List.mem_range'_1.mpr ⟨by omega, by omega⟩)
  by_cases h88 : k < 88
  · exact List.all_eq_true.mp lm_ck_86 k (List.mem_range'_1.mpr ⟨by omega, by omega⟩)
  by_cases h91 : k < 91
  · exact List.all_eq_true.mp lm_ck_88 k (List.mem_range'_1.mpr ⟨by omega, by omega⟩)
  by_cases h96 : k < 96
  · exact List.all_eq_true.mp lm_ck_91 k (List.mem_range'_1.mpr ⟨by omega, by omega⟩)
  by_cases h101 : k < 101
  · exact List.all_eq_true.mp lm_ck_96 k (List.mem_range'_1.mpr ⟨by omega, by omega⟩)
  by_cases h109 : k < 109
  · exact List.all_eq_true.mp lm_ck_101 k (List.mem_range'_1.mpr ⟨by omega, by omega⟩)
  by_cases h113 : k < 113
  · exact List.all_eq_true.mp lm_ck_109 k (List.mem_range'_1.mpr ⟨by omega, by omega⟩)
  by_cases h117 : k < 117
  · exact List.all_eq_true.mp lm_ck_113 k (List.mem_range'_1.mpr ⟨by omega, by omega⟩)
  by_cases h123 : k < 123
  · exact List.all_eq_true.mp lm_ck_117 k (List.mem_range'_1.mpr ⟨by omega, by omega⟩)
  by_cases h127 : k < 127
  · exact List.all_eq_true.mp lm_ck_123 k (List.mem_range'_1.mpr ⟨by omega, by omega⟩)
  by_cases h133 : k < 133
  · exact List.all_eq_true.mp lm_ck_127 k (List.mem_range'_1.mpr ⟨by omega, by omega⟩)
  by_cases h138 : k < 138
  · exact List.all_eq_true.mp lm_ck_133 k (List.mem_range'_1.mpr ⟨by omega, by omega⟩)
  by_cases h146 : k < 146
  · exact List.all_eq_true.mp lm_ck_138 k (List.mem_range'_1.mpr ⟨by omega, by omega⟩)
  by_cases h147 : k < 147
  · exact List.all_eq_true.mp lm_ck_146 k (List.mem_range'_1.mpr ⟨by omega, by omega⟩)
  by_cases h151 : k < 151
  · exact List.all_eq_true.mp lm_ck_147 k (List.mem_range'_1.mpr ⟨by omega, by omega⟩)
  by_cases h152 : k < 152
  · exact List.all_eq_true.mp lm_ck_151 k (List.mem_range'_1.mpr ⟨by omega, by omega⟩)
  by_cases h157 : k < 157
  · exact List.all_eq_true.mp lm_ck_152 k (List.mem_range'_1.mpr ⟨by omega, by omega⟩)
  by_cases h160 : k < 160
  · exact List.all_eq_true.mp lm_ck_157 k (List.mem_range'_1.mpr ⟨by omega, by omega⟩)
  by_cases h162 : k < 162
  · exact List.all_eq_true.mp lm_ck_160 k (List.mem_range'_1.mpr ⟨by omega, by omega⟩)
  by_cases h164 : k < 164
  · exact List.all_eq_true.mp lm_ck_162 k (List.mem_range'_1.mpr ⟨by omega, by omega⟩)
  by_cases h167 : k < 167
  · exact List.all_eq_true.mp lm_ck_164 k (List.mem_range'_1.mpr ⟨by omega, by omega⟩)
  by_cases h168 : k < 168
  · exact List.all_eq_true.mp lm_ck_167 k (List.mem_range'_1.mpr ⟨by omega, by omega⟩)
  by_cases h172 : k < 172
  · exact List.all_eq_true.mp lm_ck_168 k (List.mem_range'_1.mpr ⟨by omega, by omega⟩)
  by_cases h173 : k < 173
  · exact List.all_eq_true.mp lm_ck_172 k (List.mem_range'_1.mpr ⟨by omega, by omega⟩)
  by_cases h174 : k < 174
  · exact List.all_eq_true.mp lm_ck_173 k (List.mem_range'_1.mpr ⟨by omega, by omega⟩)
  by_cases h176 : k < 176
  · exact List.all_eq_true.mp lm_ck_174 k (List.mem_range'_1.mpr ⟨by omega, by omega⟩)
  by_cases h177 : k < 177
  · exact List.all_eq_true.mp lm_ck_176 k (List.mem_range'_1.mpr ⟨by omega, by omega⟩)
  by_cases h178 : k < 178
  · exact List.all_eq_true.mp lm_ck_177 k (List.mem_range'_1.mpr ⟨by omega, by omega⟩)
  by_cases h179 : k < 179
  · exact List.all_eq_true.mp lm_ck_178 k (List.mem_range'_1.mpr ⟨by omega, by omega⟩)
  by_cases h181 : k < 181
  · exact List.all_eq_true.mp lm_ck_179 k (List.mem_range'_1.mpr ⟨by omega, by omega⟩)
  by_cases h185 : k < 185
  · exact List.all_eq_true.mp lm_ck_181 k (List.mem_range'_1.mpr ⟨by omega, by omega⟩)
  by_cases h186 : k < 186
  · exact List.all_eq_true.mp lm_ck_185 k (List.mem_range'_1.mpr ⟨by omega, by omega⟩)
  by_cases h188 : k < 188
  · exact List.all_eq_true.mp lm_ck_186 k (List.mem_range'_1.mpr ⟨by omega, by omega⟩)
  by_cases h191 : k < 191
  · exact List.all_eq_true.mp lm_ck_188 k (List.mem_range'_1.mpr ⟨by omega, by omega⟩)
  by_cases h193 : k < 193
  · exact List.all_eq_true.mp lm_ck_191 k (List.mem_range'_1.mpr ⟨by omega, by omega⟩)
  by_cases h194 : k < 194
  · exact List.all_eq_true.mp lm_ck_193 k (List.mem_range'_1.mpr ⟨by omega, by omega⟩)
  by_cases h195 : k < 195
  · exact List.all_eq_true.mp lm_ck_194 k (List.mem_range'_1.mpr ⟨by omega, by omega⟩)
  by_cases h199 : k < 199
  · exact List.all_eq_true.mp lm_ck_195 k (List.mem_range'_1.mpr ⟨by omega, by omega⟩)
  by_cases h203 : k < 203
  · exact List.all_eq_true.mp lm_ck_199 k (List.mem_range'_1.mpr ⟨by omega, by omega⟩)
  by_cases h205 : k < 205
  · exact List.all_eq_true.mp lm_ck_203 k (List.mem_range'_1.mpr ⟨by omega, by omega⟩)
  by_cases h210 : k < 210
  · exact List.all_eq_true.mp lm_ck_205 k (List.mem_range'_1.mpr ⟨by omega, by omega⟩)
  by_cases h213 : k < 213
  · exact List.all_eq_true.mp lm_ck_210 k (List.mem_range'_1.mpr ⟨by omega, by omega⟩)
  by_cases h214 : k < 214
  · exact List.all_eq_true.mp lm_ck_213 k (List.mem_range'_1.mpr ⟨by omega, by omega⟩)
  by_cases h221 : k < 221
  · exact List.all_eq_true.mp lm_ck_214 k (List.mem_range'_1.mpr ⟨by omega, by omega⟩)
  by_cases h222 : k < 222
  · exact List.all_eq_true.mp lm_ck_221 k (List.mem_range'_1.mpr ⟨by omega, by omega⟩)
  by_cases h225 : k < 225
  · exact List.all_eq_true.mp lm_ck_222 k (List.mem_range'_1.mpr ⟨by omega, by omega⟩)
  by_cases h229 : k < 229
  · exact List.all_eq_true.mp lm_ck_225 k (List.mem_range'_1.mpr ⟨by omega, by omega⟩)
  omega
