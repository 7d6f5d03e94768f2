/-! THE CLAIM OUT OF ONE WALK OF THE LAW'S BODY. Your part is whole_start (and what it stands on); all else here is the same for every law, but numbers. -/
def R_law : String := "ConflictPlacesLaw"
def lw_P (b : Addr) (xs : List Int32) (args : Array Value) (s : State) : Prop := args = #[.ref b] ∧ s.IntsAt b xs ∧ xs.length ≤ 2048 ∧ (Jvm.Cond.and given_1 narrow_1).before args s = true
def lw_Q (_ : Array Value) (s : State) (o : Outcome) (t : State) : Prop := o = .returned (some (.int 1)) ∧ Framed s o t [] 600000 7302250
def lw_Z (below : List Frame) (a : Array Value) (s : State) : State → Prop := fun t => ∃ o, t.status = .running ∧ Ended t below o ∧ lw_Q a s o t
/-- the law's own end, with 1 on the stack, nothing written that was there before, its room as the claim has it -/
theorem lw_ret {p : Program} {l : Launch} {e : Env} {s : State} {m : MethodId} {below : List Frame} {meth : Method} {c : Code} {b : Nat} (hx : p.tables.exec = Jvm.exec) (hb : c.code = code) (hr : meth.sig.returnType = ret) (hlocks : meth.locks = false) {pc : Nat} {H : Heap} {ls : Array Slot} (hdg : decode code pc = .ok (.ireturn, 1)) : W p l e room_1 s m #[Value.ref b] below meth c H [] 600000 7302250 (lw_Z below #[Value.ref b] s) (F0 m pc ls [.int 1]) := by
  intro T hT X
  obtain ⟨fs, hret, hrun, hended, hW, hframe⟩ := X.leave (v := some (.int 1)) (hlocks := hlocks) (fun h => by rw [hr] at h; cases h)
  have hmeth' : T.vm.method? m = some meth := X.method'
  refine ⟨T.setFrames fs, ?_, .returned (some (.int 1)), hrun, hended, rfl, ⟨_, rfl⟩, hW, hframe⟩
  jvm_step X.here [X.here.top, hx, hb, hdg, hmeth', hr, ret, narrow_b1]
  (try refine ⟨rfl, ?_⟩); (try refine ⟨rfl, ?_⟩)
  first | (intro acts; rw [hret _ acts rfl rfl rfl]) | rw [hret _ _ rfl rfl rfl]
  exact Steps.refl _
/-- what holds at the law's entry: the machine, the code, the tables' words (any of lw_tbl by 'hts w (by decide +kernel)'), the script of L ints xs at the cell b, what the Statement gives of the start (any of its parts by flat_of_before) -/
def lw_At (p : Program) (s : State) (m : MethodId) (meth : Method) (c : Code) (b L : Nat) (xs : Nat → Int32) : Prop :=
  p.tables.exec = Jvm.exec ∧ c.code = code ∧ meth.sig.returnType = ret ∧ c.maxLocals = 4 ∧ s.vm.findClass R_law = some m.cls ∧ (∀ w ∈ lw_tbl, w.before #[Value.ref b] s = true) ∧ va_X b L xs s s.heap ∧ b < s.heap.size ∧ meth.locks = false ∧ (Jvm.Cond.and given_1 narrow_1).before #[Value.ref b] s = true
/-! ===== the law, over the light machine ===== -/
theorem ld_0 : decode code 0 = .ok (.new 7, 3) := by decide +kernel
theorem ld_3 : decode code 3 = .ok (.dup, 1) := by decide +kernel
theorem ld_4 : decode code 4 = .ok (.invokespecial 9, 3) := by decide +kernel
theorem ld_7 : decode code 7 = .ok (.astore_n 1, 1) := by decide +kernel
theorem ld_8 : decode code 8 = .ok (.new 10, 3) := by decide +kernel
theorem ld_11 : decode code 11 = .ok (.dup, 1) := by decide +kernel
theorem ld_12 : decode code 12 = .ok (.invokespecial 12, 3) := by decide +kernel
theorem ld_15 : decode code 15 = .ok (.astore_n 2, 1) := by decide +kernel
theorem ld_16 : decode code 16 = .ok (.iconst 0, 1) := by decide +kernel
theorem ld_17 : decode code 17 = .ok (.istore_n 3, 1) := by decide +kernel
theorem ld_18 : decode code 18 = .ok (.iload_n 3, 1) := by decide +kernel
theorem ld_19 : decode code 19 = .ok (.aload_n 0, 1) := by decide +kernel
theorem ld_20 : decode code 20 = .ok (.arraylength, 1) := by decide +kernel
theorem ld_21 : decode code 21 = .ok (.iconst 4, 1) := by decide +kernel
theorem ld_22 : decode code 22 = .ok (.isub, 1) := by decide +kernel
theorem ld_23 : decode code 23 = .ok (.if_icmp .gt 570, 3) := by decide +kernel
theorem ld_26 : decode code 26 = .ok (.aload_n 0, 1) := by decide +kernel
theorem ld_27 : decode code 27 = .ok (.iload_n 3, 1) := by decide +kernel
theorem ld_28 : decode code 28 = .ok (.iaload, 1) := by decide +kernel
theorem ld_29 : decode code 29 = .ok (.bipush 31, 2) := by decide +kernel
theorem ld_31 : decode code 31 = .ok (.iand, 1) := by decide +kernel
theorem ld_32 : decode code 32 = .ok (.tableswitch 555 0 16 #[84, 147, 160, 183, 216, 239, 252, 285, 308, 341, 374, 397, 420, 453, 466, 499, 532], 84) := by decide +kernel
theorem ld_116 : decode code 116 = .ok (.aload_n 1, 1) := by decide +kernel
theorem ld_117 : decode code 117 = .ok (.aload_n 0, 1) := by decide +kernel
theorem ld_118 : decode code 118 = .ok (.iload_n 3, 1) := by decide +kernel
theorem ld_119 : decode code 119 = .ok (.iconst 1, 1) := by decide +kernel
theorem ld_120 : decode code 120 = .ok (.iadd, 1) := by decide +kernel
theorem ld_121 : decode code 121 = .ok (.iaload, 1) := by decide +kernel
theorem ld_122 : decode code 122 = .ok (.aload_n 0, 1) := by decide +kernel
theorem ld_123 : decode code 123 = .ok (.iload_n 3, 1) := by decide +kernel
theorem ld_124 : decode code 124 = .ok (.iconst 2, 1) := by decide +kernel
theorem ld_125 : decode code 125 = .ok (.iadd, 1) := by decide +kernel
theorem ld_126 : decode code 126 = .ok (.iaload, 1) := by decide +kernel
theorem ld_127 : decode code 127 = .ok (.i2l, 1) := by decide +kernel
theorem ld_128 : decode code 128 = .ok (.bipush 32, 2) := by decide +kernel
theorem ld_130 : decode code 130 = .ok (.lshl, 1) := by decide +kernel
theorem ld_131 : decode code 131 = .ok (.aload_n 0, 1) := by decide +kernel
theorem ld_132 : decode code 132 = .ok (.iload_n 3, 1) := by decide +kernel
theorem ld_133 : decode code 133 = .ok (.iconst 3, 1) := by decide +kernel
theorem ld_134 : decode code 134 = .ok (.iadd, 1) := by decide +kernel
theorem ld_135 : decode code 135 = .ok (.iaload, 1) := by decide +kernel
theorem ld_136 : decode code 136 = .ok (.i2l, 1) := by decide +kernel
theorem ld_137 : decode code 137 = .ok (.ldc2_w 13, 3) := by decide +kernel
theorem ld_140 : decode code 140 = .ok (.land, 1) := by decide +kernel
theorem ld_141 : decode code 141 = .ok (.lor, 1) := by decide +kernel
theorem ld_142 : decode code 142 = .ok (.invokevirtual 15, 3) := by decide +kernel
theorem ld_145 : decode code 145 = .ok (.aload_n 2, 1) := by decide +kernel
theorem ld_146 : decode code 146 = .ok (.aload_n 0, 1) := by decide +kernel
theorem ld_147 : decode code 147 = .ok (.iload_n 3, 1) := by decide +kernel
theorem ld_148 : decode code 148 = .ok (.iconst 1, 1) := by decide +kernel
theorem ld_149 : decode code 149 = .ok (.iadd, 1) := by decide +kernel
theorem ld_150 : decode code 150 = .ok (.iaload, 1) := by decide +kernel
theorem ld_151 : decode code 151 = .ok (.aload_n 0, 1) := by decide +kernel
theorem ld_152 : decode code 152 = .ok (.iload_n 3, 1) := by decide +kernel
theorem ld_153 : decode code 153 = .ok (.iconst 2, 1) := by decide +kernel
theorem ld_154 : decode code 154 = .ok (.iadd, 1) := by decide +kernel
theorem ld_155 : decode code 155 = .ok (.iaload, 1) := by decide +kernel
theorem ld_156 : decode code 156 = .ok (.i2l, 1) := by decide +kernel
theorem ld_157 : decode code 157 = .ok (.bipush 32, 2) := by decide +kernel
theorem ld_159 : decode code 159 = .ok (.lshl, 1) := by decide +kernel
theorem ld_160 : decode code 160 = .ok (.aload_n 0, 1) := by decide +kernel
theorem ld_161 : decode code 161 = .ok (.iload_n 3, 1) := by decide +kernel
theorem ld_162 : decode code 162 = .ok (.iconst 3, 1) := by decide +kernel
theorem ld_163 : decode code 163 = .ok (.iadd, 1) := by decide +kernel
theorem ld_164 : decode code 164 = .ok (.iaload, 1) := by decide +kernel
theorem ld_165 : decode code 165 = .ok (.i2l, 1) := by decide +kernel
theorem ld_166 : decode code 166 = .ok (.ldc2_w 13, 3) := by decide +kernel
theorem ld_169 : decode code 169 = .ok (.land, 1) := by decide +kernel
theorem ld_170 : decode code 170 = .ok (.lor, 1) := by decide +kernel
theorem ld_171 : decode code 171 = .ok (.invokevirtual 19, 3) := by decide +kernel
theorem ld_174 : decode code 174 = .ok (.if_icmp .eq 413, 3) := by decide +kernel
theorem ld_177 : decode code 177 = .ok (.iconst 0, 1) := by decide +kernel
theorem ld_178 : decode code 178 = .ok (.ireturn, 1) := by decide +kernel
theorem ld_179 : decode code 179 = .ok (.aload_n 1, 1) := by decide +kernel
theorem ld_180 : decode code 180 = .ok (.invokevirtual 20, 3) := by decide +kernel
theorem ld_183 : decode code 183 = .ok (.aload_n 2, 1) := by decide +kernel
theorem ld_184 : decode code 184 = .ok (.invokevirtual 24, 3) := by decide +kernel
theorem ld_187 : decode code 187 = .ok (.if_icmp .eq 400, 3) := by decide +kernel
theorem ld_190 : decode code 190 = .ok (.iconst 0, 1) := by decide +kernel
theorem ld_191 : decode code 191 = .ok (.ireturn, 1) := by decide +kernel
theorem ld_192 : decode code 192 = .ok (.aload_n 1, 1) := by decide +kernel
theorem ld_193 : decode code 193 = .ok (.aload_n 0, 1) := by decide +kernel
theorem ld_194 : decode code 194 = .ok (.iload_n 3, 1) := by decide +kernel
theorem ld_195 : decode code 195 = .ok (.iconst 1, 1) := by decide +kernel
theorem ld_196 : decode code 196 = .ok (.iadd, 1) := by decide +kernel
theorem ld_197 : decode code 197 = .ok (.iaload, 1) := by decide +kernel
theorem ld_198 : decode code 198 = .ok (.invokevirtual 25, 3) := by decide +kernel
theorem ld_201 : decode code 201 = .ok (.aload_n 2, 1) := by decide +kernel
theorem ld_202 : decode code 202 = .ok (.aload_n 0, 1) := by decide +kernel
theorem ld_203 : decode code 203 = .ok (.iload_n 3, 1) := by decide +kernel
theorem ld_204 : decode code 204 = .ok (.iconst 1, 1) := by decide +kernel
theorem ld_205 : decode code 205 = .ok (.iadd, 1) := by decide +kernel
theorem ld_206 : decode code 206 = .ok (.iaload, 1) := by decide +kernel
theorem ld_207 : decode code 207 = .ok (.invokevirtual 29, 3) := by decide +kernel
theorem ld_210 : decode code 210 = .ok (.if_icmp .eq 377, 3) := by decide +kernel
theorem ld_213 : decode code 213 = .ok (.iconst 0, 1) := by decide +kernel
theorem ld_214 : decode code 214 = .ok (.ireturn, 1) := by decide +kernel
theorem ld_215 : decode code 215 = .ok (.aload_n 1, 1) := by decide +kernel
theorem ld_216 : decode code 216 = .ok (.aload_n 0, 1) := by decide +kernel
theorem ld_217 : decode code 217 = .ok (.iload_n 3, 1) := by decide +kernel
theorem ld_218 : decode code 218 = .ok (.iconst 1, 1) := by decide +kernel
theorem ld_219 : decode code 219 = .ok (.iadd, 1) := by decide +kernel
theorem ld_220 : decode code 220 = .ok (.iaload, 1) := by decide +kernel
theorem ld_221 : decode code 221 = .ok (.aload_n 0, 1) := by decide +kernel
theorem ld_222 : decode code 222 = .ok (.iload_n 3, 1) := by decide +kernel
theorem ld_223 : decode code 223 = .ok (.iconst 2, 1) := by decide +kernel
theorem ld_224 : decode code 224 = .ok (.iadd, 1) := by decide +kernel
theorem ld_225 : decode code 225 = .ok (.iaload, 1) := by decide +kernel
theorem ld_226 : decode code 226 = .ok (.invokevirtual 30, 3) := by decide +kernel
theorem ld_229 : decode code 229 = .ok (.aload_n 2, 1) := by decide +kernel
theorem ld_230 : decode code 230 = .ok (.aload_n 0, 1) := by decide +kernel
theorem ld_231 : decode code 231 = .ok (.iload_n 3, 1) := by decide +kernel
theorem ld_232 : decode code 232 = .ok (.iconst 1, 1) := by decide +kernel
theorem ld_233 : decode code 233 = .ok (.iadd, 1) := by decide +kernel
theorem ld_234 : decode code 234 = .ok (.iaload, 1) := by decide +kernel
theorem ld_235 : decode code 235 = .ok (.aload_n 0, 1) := by decide +kernel
theorem ld_236 : decode code 236 = .ok (.iload_n 3, 1) := by decide +kernel
theorem ld_237 : decode code 237 = .ok (.iconst 2, 1) := by decide +kernel
theorem ld_238 : decode code 238 = .ok (.iadd, 1) := by decide +kernel
theorem ld_239 : decode code 239 = .ok (.iaload, 1) := by decide +kernel
theorem ld_240 : decode code 240 = .ok (.invokevirtual 34, 3) := by decide +kernel
theorem ld_243 : decode code 243 = .ok (.if_icmp .eq 344, 3) := by decide +kernel
theorem ld_246 : decode code 246 = .ok (.iconst 0, 1) := by decide +kernel
theorem ld_247 : decode code 247 = .ok (.ireturn, 1) := by decide +kernel
theorem ld_248 : decode code 248 = .ok (.aload_n 1, 1) := by decide +kernel
theorem ld_249 : decode code 249 = .ok (.aload_n 0, 1) := by decide +kernel
theorem ld_250 : decode code 250 = .ok (.iload_n 3, 1) := by decide +kernel
theorem ld_251 : decode code 251 = .ok (.iconst 1, 1) := by decide +kernel
theorem ld_252 : decode code 252 = .ok (.iadd, 1) := by decide +kernel
theorem ld_253 : decode code 253 = .ok (.iaload, 1) := by decide +kernel
theorem ld_254 : decode code 254 = .ok (.invokevirtual 35, 3) := by decide +kernel
theorem ld_257 : decode code 257 = .ok (.aload_n 2, 1) := by decide +kernel
theorem ld_258 : decode code 258 = .ok (.aload_n 0, 1) := by decide +kernel
theorem ld_259 : decode code 259 = .ok (.iload_n 3, 1) := by decide +kernel
theorem ld_260 : decode code 260 = .ok (.iconst 1, 1) := by decide +kernel
theorem ld_261 : decode code 261 = .ok (.iadd, 1) := by decide +kernel
theorem ld_262 : decode code 262 = .ok (.iaload, 1) := by decide +kernel
theorem ld_263 : decode code 263 = .ok (.invokevirtual 38, 3) := by decide +kernel
theorem ld_266 : decode code 266 = .ok (.if_icmp .eq 321, 3) := by decide +kernel
theorem ld_269 : decode code 269 = .ok (.iconst 0, 1) := by decide +kernel
theorem ld_270 : decode code 270 = .ok (.ireturn, 1) := by decide +kernel
theorem ld_271 : decode code 271 = .ok (.aload_n 1, 1) := by decide +kernel
theorem ld_272 : decode code 272 = .ok (.invokevirtual 39, 3) := by decide +kernel
theorem ld_275 : decode code 275 = .ok (.aload_n 2, 1) := by decide +kernel
theorem ld_276 : decode code 276 = .ok (.invokevirtual 42, 3) := by decide +kernel
theorem ld_279 : decode code 279 = .ok (.if_icmp .eq 308, 3) := by decide +kernel
theorem ld_282 : decode code 282 = .ok (.iconst 0, 1) := by decide +kernel
theorem ld_283 : decode code 283 = .ok (.ireturn, 1) := by decide +kernel
theorem ld_284 : decode code 284 = .ok (.aload_n 1, 1) := by decide +kernel
theorem ld_285 : decode code 285 = .ok (.aload_n 0, 1) := by decide +kernel
theorem ld_286 : decode code 286 = .ok (.iload_n 3, 1) := by decide +kernel
theorem ld_287 : decode code 287 = .ok (.iconst 1, 1) := by decide +kernel
theorem ld_288 : decode code 288 = .ok (.iadd, 1) := by decide +kernel
theorem ld_289 : decode code 289 = .ok (.iaload, 1) := by decide +kernel
theorem ld_290 : decode code 290 = .ok (.aload_n 0, 1) := by decide +kernel
theorem ld_291 : decode code 291 = .ok (.iload_n 3, 1) := by decide +kernel
theorem ld_292 : decode code 292 = .ok (.iconst 2, 1) := by decide +kernel
theorem ld_293 : decode code 293 = .ok (.iadd, 1) := by decide +kernel
theorem ld_294 : decode code 294 = .ok (.iaload, 1) := by decide +kernel
theorem ld_295 : decode code 295 = .ok (.invokevirtual 43, 3) := by decide +kernel
theorem ld_298 : decode code 298 = .ok (.aload_n 2, 1) := by decide +kernel
theorem ld_299 : decode code 299 = .ok (.aload_n 0, 1) := by decide +kernel
theorem ld_300 : decode code 300 = .ok (.iload_n 3, 1) := by decide +kernel
theorem ld_301 : decode code 301 = .ok (.iconst 1, 1) := by decide +kernel
theorem ld_302 : decode code 302 = .ok (.iadd, 1) := by decide +kernel
theorem ld_303 : decode code 303 = .ok (.iaload, 1) := by decide +kernel
theorem ld_304 : decode code 304 = .ok (.aload_n 0, 1) := by decide +kernel
theorem ld_305 : decode code 305 = .ok (.iload_n 3, 1) := by decide +kernel
theorem ld_306 : decode code 306 = .ok (.iconst 2, 1) := by decide +kernel
theorem ld_307 : decode code 307 = .ok (.iadd, 1) := by decide +kernel
theorem ld_308 : decode code 308 = .ok (.iaload, 1) := by decide +kernel
theorem ld_309 : decode code 309 = .ok (.invokevirtual 46, 3) := by decide +kernel
theorem ld_312 : decode code 312 = .ok (.if_icmp .eq 275, 3) := by decide +kernel
theorem ld_315 : decode code 315 = .ok (.iconst 0, 1) := by decide +kernel
theorem ld_316 : decode code 316 = .ok (.ireturn, 1) := by decide +kernel
theorem ld_317 : decode code 317 = .ok (.aload_n 1, 1) := by decide +kernel
theorem ld_318 : decode code 318 = .ok (.aload_n 0, 1) := by decide +kernel
theorem ld_319 : decode code 319 = .ok (.iload_n 3, 1) := by decide +kernel
theorem ld_320 : decode code 320 = .ok (.iconst 1, 1) := by decide +kernel
theorem ld_321 : decode code 321 = .ok (.iadd, 1) := by decide +kernel
theorem ld_322 : decode code 322 = .ok (.iaload, 1) := by decide +kernel
theorem ld_323 : decode code 323 = .ok (.invokevirtual 47, 3) := by decide +kernel
theorem ld_326 : decode code 326 = .ok (.aload_n 2, 1) := by decide +kernel
theorem ld_327 : decode code 327 = .ok (.aload_n 0, 1) := by decide +kernel
theorem ld_328 : decode code 328 = .ok (.iload_n 3, 1) := by decide +kernel
theorem ld_329 : decode code 329 = .ok (.iconst 1, 1) := by decide +kernel
theorem ld_330 : decode code 330 = .ok (.iadd, 1) := by decide +kernel
theorem ld_331 : decode code 331 = .ok (.iaload, 1) := by decide +kernel
theorem ld_332 : decode code 332 = .ok (.invokevirtual 50, 3) := by decide +kernel
theorem ld_335 : decode code 335 = .ok (.if_icmp .eq 252, 3) := by decide +kernel
theorem ld_338 : decode code 338 = .ok (.iconst 0, 1) := by decide +kernel
theorem ld_339 : decode code 339 = .ok (.ireturn, 1) := by decide +kernel
theorem ld_340 : decode code 340 = .ok (.aload_n 1, 1) := by decide +kernel
theorem ld_341 : decode code 341 = .ok (.aload_n 0, 1) := by decide +kernel
theorem ld_342 : decode code 342 = .ok (.iload_n 3, 1) := by decide +kernel
theorem ld_343 : decode code 343 = .ok (.iconst 1, 1) := by decide +kernel
theorem ld_344 : decode code 344 = .ok (.iadd, 1) := by decide +kernel
theorem ld_345 : decode code 345 = .ok (.iaload, 1) := by decide +kernel
theorem ld_346 : decode code 346 = .ok (.aload_n 0, 1) := by decide +kernel
theorem ld_347 : decode code 347 = .ok (.iload_n 3, 1) := by decide +kernel
theorem ld_348 : decode code 348 = .ok (.iconst 2, 1) := by decide +kernel
theorem ld_349 : decode code 349 = .ok (.iadd, 1) := by decide +kernel
theorem ld_350 : decode code 350 = .ok (.iaload, 1) := by decide +kernel
theorem ld_351 : decode code 351 = .ok (.invokevirtual 51, 3) := by decide +kernel
theorem ld_354 : decode code 354 = .ok (.aload_n 2, 1) := by decide +kernel
theorem ld_355 : decode code 355 = .ok (.aload_n 0, 1) := by decide +kernel
theorem ld_356 : decode code 356 = .ok (.iload_n 3, 1) := by decide +kernel
theorem ld_357 : decode code 357 = .ok (.iconst 1, 1) := by decide +kernel
theorem ld_358 : decode code 358 = .ok (.iadd, 1) := by decide +kernel
theorem ld_359 : decode code 359 = .ok (.iaload, 1) := by decide +kernel
theorem ld_360 : decode code 360 = .ok (.aload_n 0, 1) := by decide +kernel
theorem ld_361 : decode code 361 = .ok (.iload_n 3, 1) := by decide +kernel
theorem ld_362 : decode code 362 = .ok (.iconst 2, 1) := by decide +kernel
theorem ld_363 : decode code 363 = .ok (.iadd, 1) := by decide +kernel
theorem ld_364 : decode code 364 = .ok (.iaload, 1) := by decide +kernel
theorem ld_365 : decode code 365 = .ok (.invokevirtual 54, 3) := by decide +kernel
theorem ld_368 : decode code 368 = .ok (.if_icmp .eq 219, 3) := by decide +kernel
theorem ld_371 : decode code 371 = .ok (.iconst 0, 1) := by decide +kernel
theorem ld_372 : decode code 372 = .ok (.ireturn, 1) := by decide +kernel
theorem ld_373 : decode code 373 = .ok (.aload_n 1, 1) := by decide +kernel
theorem ld_374 : decode code 374 = .ok (.aload_n 0, 1) := by decide +kernel
theorem ld_375 : decode code 375 = .ok (.iload_n 3, 1) := by decide +kernel
theorem ld_376 : decode code 376 = .ok (.iconst 1, 1) := by decide +kernel
theorem ld_377 : decode code 377 = .ok (.iadd, 1) := by decide +kernel
theorem ld_378 : decode code 378 = .ok (.iaload, 1) := by decide +kernel
theorem ld_379 : decode code 379 = .ok (.aload_n 0, 1) := by decide +kernel
theorem ld_380 : decode code 380 = .ok (.iload_n 3, 1) := by decide +kernel
theorem ld_381 : decode code 381 = .ok (.iconst 2, 1) := by decide +kernel
theorem ld_382 : decode code 382 = .ok (.iadd, 1) := by decide +kernel
theorem ld_383 : decode code 383 = .ok (.iaload, 1) := by decide +kernel
theorem ld_384 : decode code 384 = .ok (.invokevirtual 55, 3) := by decide +kernel
theorem ld_387 : decode code 387 = .ok (.aload_n 2, 1) := by decide +kernel
theorem ld_388 : decode code 388 = .ok (.aload_n 0, 1) := by decide +kernel
theorem ld_389 : decode code 389 = .ok (.iload_n 3, 1) := by decide +kernel
theorem ld_390 : decode code 390 = .ok (.iconst 1, 1) := by decide +kernel
theorem ld_391 : decode code 391 = .ok (.iadd, 1) := by decide +kernel
theorem ld_392 : decode code 392 = .ok (.iaload, 1) := by decide +kernel
theorem ld_393 : decode code 393 = .ok (.aload_n 0, 1) := by decide +kernel
theorem ld_394 : decode code 394 = .ok (.iload_n 3, 1) := by decide +kernel
theorem ld_395 : decode code 395 = .ok (.iconst 2, 1) := by decide +kernel
theorem ld_396 : decode code 396 = .ok (.iadd, 1) := by decide +kernel
theorem ld_397 : decode code 397 = .ok (.iaload, 1) := by decide +kernel
theorem ld_398 : decode code 398 = .ok (.invokevirtual 58, 3) := by decide +kernel
theorem ld_401 : decode code 401 = .ok (.if_icmp .eq 186, 3) := by decide +kernel
theorem ld_404 : decode code 404 = .ok (.iconst 0, 1) := by decide +kernel
theorem ld_405 : decode code 405 = .ok (.ireturn, 1) := by decide +kernel
theorem ld_406 : decode code 406 = .ok (.aload_n 1, 1) := by decide +kernel
theorem ld_407 : decode code 407 = .ok (.aload_n 0, 1) := by decide +kernel
theorem ld_408 : decode code 408 = .ok (.iload_n 3, 1) := by decide +kernel
theorem ld_409 : decode code 409 = .ok (.iconst 1, 1) := by decide +kernel
theorem ld_410 : decode code 410 = .ok (.iadd, 1) := by decide +kernel
theorem ld_411 : decode code 411 = .ok (.iaload, 1) := by decide +kernel
theorem ld_412 : decode code 412 = .ok (.invokevirtual 59, 3) := by decide +kernel
theorem ld_415 : decode code 415 = .ok (.aload_n 2, 1) := by decide +kernel
theorem ld_416 : decode code 416 = .ok (.aload_n 0, 1) := by decide +kernel
theorem ld_417 : decode code 417 = .ok (.iload_n 3, 1) := by decide +kernel
theorem ld_418 : decode code 418 = .ok (.iconst 1, 1) := by decide +kernel
theorem ld_419 : decode code 419 = .ok (.iadd, 1) := by decide +kernel
theorem ld_420 : decode code 420 = .ok (.iaload, 1) := by decide +kernel
theorem ld_421 : decode code 421 = .ok (.invokevirtual 62, 3) := by decide +kernel
theorem ld_424 : decode code 424 = .ok (.if_icmp .eq 163, 3) := by decide +kernel
theorem ld_427 : decode code 427 = .ok (.iconst 0, 1) := by decide +kernel
theorem ld_428 : decode code 428 = .ok (.ireturn, 1) := by decide +kernel
theorem ld_429 : decode code 429 = .ok (.aload_n 1, 1) := by decide +kernel
theorem ld_430 : decode code 430 = .ok (.aload_n 0, 1) := by decide +kernel
theorem ld_431 : decode code 431 = .ok (.iload_n 3, 1) := by decide +kernel
theorem ld_432 : decode code 432 = .ok (.iconst 1, 1) := by decide +kernel
theorem ld_433 : decode code 433 = .ok (.iadd, 1) := by decide +kernel
theorem ld_434 : decode code 434 = .ok (.iaload, 1) := by decide +kernel
theorem ld_435 : decode code 435 = .ok (.invokevirtual 63, 3) := by decide +kernel
theorem ld_438 : decode code 438 = .ok (.aload_n 2, 1) := by decide +kernel
theorem ld_439 : decode code 439 = .ok (.aload_n 0, 1) := by decide +kernel
theorem ld_440 : decode code 440 = .ok (.iload_n 3, 1) := by decide +kernel
theorem ld_441 : decode code 441 = .ok (.iconst 1, 1) := by decide +kernel
theorem ld_442 : decode code 442 = .ok (.iadd, 1) := by decide +kernel
theorem ld_443 : decode code 443 = .ok (.iaload, 1) := by decide +kernel
theorem ld_444 : decode code 444 = .ok (.invokevirtual 66, 3) := by decide +kernel
theorem ld_447 : decode code 447 = .ok (.if_icmp .eq 140, 3) := by decide +kernel
theorem ld_450 : decode code 450 = .ok (.iconst 0, 1) := by decide +kernel
theorem ld_451 : decode code 451 = .ok (.ireturn, 1) := by decide +kernel
theorem ld_452 : decode code 452 = .ok (.aload_n 1, 1) := by decide +kernel
theorem ld_453 : decode code 453 = .ok (.aload_n 0, 1) := by decide +kernel
theorem ld_454 : decode code 454 = .ok (.iload_n 3, 1) := by decide +kernel
theorem ld_455 : decode code 455 = .ok (.iconst 1, 1) := by decide +kernel
theorem ld_456 : decode code 456 = .ok (.iadd, 1) := by decide +kernel
theorem ld_457 : decode code 457 = .ok (.iaload, 1) := by decide +kernel
theorem ld_458 : decode code 458 = .ok (.aload_n 0, 1) := by decide +kernel
theorem ld_459 : decode code 459 = .ok (.iload_n 3, 1) := by decide +kernel
theorem ld_460 : decode code 460 = .ok (.iconst 2, 1) := by decide +kernel
theorem ld_461 : decode code 461 = .ok (.iadd, 1) := by decide +kernel
theorem ld_462 : decode code 462 = .ok (.iaload, 1) := by decide +kernel
theorem ld_463 : decode code 463 = .ok (.invokevirtual 67, 3) := by decide +kernel
theorem ld_466 : decode code 466 = .ok (.aload_n 2, 1) := by decide +kernel
theorem ld_467 : decode code 467 = .ok (.aload_n 0, 1) := by decide +kernel
theorem ld_468 : decode code 468 = .ok (.iload_n 3, 1) := by decide +kernel
theorem ld_469 : decode code 469 = .ok (.iconst 1, 1) := by decide +kernel
theorem ld_470 : decode code 470 = .ok (.iadd, 1) := by decide +kernel
theorem ld_471 : decode code 471 = .ok (.iaload, 1) := by decide +kernel
theorem ld_472 : decode code 472 = .ok (.aload_n 0, 1) := by decide +kernel
theorem ld_473 : decode code 473 = .ok (.iload_n 3, 1) := by decide +kernel
theorem ld_474 : decode code 474 = .ok (.iconst 2, 1) := by decide +kernel
theorem ld_475 : decode code 475 = .ok (.iadd, 1) := by decide +kernel
theorem ld_476 : decode code 476 = .ok (.iaload, 1) := by decide +kernel
theorem ld_477 : decode code 477 = .ok (.invokevirtual 70, 3) := by decide +kernel
theorem ld_480 : decode code 480 = .ok (.if_icmp .eq 107, 3) := by decide +kernel
theorem ld_483 : decode code 483 = .ok (.iconst 0, 1) := by decide +kernel
theorem ld_484 : decode code 484 = .ok (.ireturn, 1) := by decide +kernel
theorem ld_485 : decode code 485 = .ok (.aload_n 1, 1) := by decide +kernel
theorem ld_486 : decode code 486 = .ok (.invokevirtual 71, 3) := by decide +kernel
theorem ld_489 : decode code 489 = .ok (.aload_n 2, 1) := by decide +kernel
theorem ld_490 : decode code 490 = .ok (.invokevirtual 74, 3) := by decide +kernel
theorem ld_493 : decode code 493 = .ok (.if_icmp .eq 94, 3) := by decide +kernel
theorem ld_496 : decode code 496 = .ok (.iconst 0, 1) := by decide +kernel
theorem ld_497 : decode code 497 = .ok (.ireturn, 1) := by decide +kernel
theorem ld_498 : decode code 498 = .ok (.aload_n 1, 1) := by decide +kernel
theorem ld_499 : decode code 499 = .ok (.aload_n 0, 1) := by decide +kernel
theorem ld_500 : decode code 500 = .ok (.iload_n 3, 1) := by decide +kernel
theorem ld_501 : decode code 501 = .ok (.iconst 1, 1) := by decide +kernel
theorem ld_502 : decode code 502 = .ok (.iadd, 1) := by decide +kernel
theorem ld_503 : decode code 503 = .ok (.iaload, 1) := by decide +kernel
theorem ld_504 : decode code 504 = .ok (.aload_n 0, 1) := by decide +kernel
theorem ld_505 : decode code 505 = .ok (.iload_n 3, 1) := by decide +kernel
theorem ld_506 : decode code 506 = .ok (.iconst 2, 1) := by decide +kernel
theorem ld_507 : decode code 507 = .ok (.iadd, 1) := by decide +kernel
theorem ld_508 : decode code 508 = .ok (.iaload, 1) := by decide +kernel
theorem ld_509 : decode code 509 = .ok (.invokevirtual 75, 3) := by decide +kernel
theorem ld_512 : decode code 512 = .ok (.aload_n 2, 1) := by decide +kernel
theorem ld_513 : decode code 513 = .ok (.aload_n 0, 1) := by decide +kernel
theorem ld_514 : decode code 514 = .ok (.iload_n 3, 1) := by decide +kernel
theorem ld_515 : decode code 515 = .ok (.iconst 1, 1) := by decide +kernel
theorem ld_516 : decode code 516 = .ok (.iadd, 1) := by decide +kernel
theorem ld_517 : decode code 517 = .ok (.iaload, 1) := by decide +kernel
theorem ld_518 : decode code 518 = .ok (.aload_n 0, 1) := by decide +kernel
theorem ld_519 : decode code 519 = .ok (.iload_n 3, 1) := by decide +kernel
theorem ld_520 : decode code 520 = .ok (.iconst 2, 1) := by decide +kernel
theorem ld_521 : decode code 521 = .ok (.iadd, 1) := by decide +kernel
theorem ld_522 : decode code 522 = .ok (.iaload, 1) := by decide +kernel
theorem ld_523 : decode code 523 = .ok (.invokevirtual 78, 3) := by decide +kernel
theorem ld_526 : decode code 526 = .ok (.if_icmp .eq 61, 3) := by decide +kernel
theorem ld_529 : decode code 529 = .ok (.iconst 0, 1) := by decide +kernel
theorem ld_530 : decode code 530 = .ok (.ireturn, 1) := by decide +kernel
theorem ld_531 : decode code 531 = .ok (.aload_n 1, 1) := by decide +kernel
theorem ld_532 : decode code 532 = .ok (.aload_n 0, 1) := by decide +kernel
theorem ld_533 : decode code 533 = .ok (.iload_n 3, 1) := by decide +kernel
theorem ld_534 : decode code 534 = .ok (.iconst 1, 1) := by decide +kernel
theorem ld_535 : decode code 535 = .ok (.iadd, 1) := by decide +kernel
theorem ld_536 : decode code 536 = .ok (.iaload, 1) := by decide +kernel
theorem ld_537 : decode code 537 = .ok (.aload_n 0, 1) := by decide +kernel
theorem ld_538 : decode code 538 = .ok (.iload_n 3, 1) := by decide +kernel
theorem ld_539 : decode code 539 = .ok (.iconst 2, 1) := by decide +kernel
theorem ld_540 : decode code 540 = .ok (.iadd, 1) := by decide +kernel
theorem ld_541 : decode code 541 = .ok (.iaload, 1) := by decide +kernel
theorem ld_542 : decode code 542 = .ok (.invokevirtual 79, 3) := by decide +kernel
theorem ld_545 : decode code 545 = .ok (.aload_n 2, 1) := by decide +kernel
theorem ld_546 : decode code 546 = .ok (.aload_n 0, 1) := by decide +kernel
theorem ld_547 : decode code 547 = .ok (.iload_n 3, 1) := by decide +kernel
theorem ld_548 : decode code 548 = .ok (.iconst 1, 1) := by decide +kernel
theorem ld_549 : decode code 549 = .ok (.iadd, 1) := by decide +kernel
theorem ld_550 : decode code 550 = .ok (.iaload, 1) := by decide +kernel
theorem ld_551 : decode code 551 = .ok (.aload_n 0, 1) := by decide +kernel
theorem ld_552 : decode code 552 = .ok (.iload_n 3, 1) := by decide +kernel
theorem ld_553 : decode code 553 = .ok (.iconst 2, 1) := by decide +kernel
theorem ld_554 : decode code 554 = .ok (.iadd, 1) := by decide +kernel
theorem ld_555 : decode code 555 = .ok (.iaload, 1) := by decide +kernel
theorem ld_556 : decode code 556 = .ok (.invokevirtual 82, 3) := by decide +kernel
theorem ld_559 : decode code 559 = .ok (.if_icmp .eq 28, 3) := by decide +kernel
theorem ld_562 : decode code 562 = .ok (.iconst 0, 1) := by decide +kernel
theorem ld_563 : decode code 563 = .ok (.ireturn, 1) := by decide +kernel
theorem ld_564 : decode code 564 = .ok (.aload_n 1, 1) := by decide +kernel
theorem ld_565 : decode code 565 = .ok (.aload_n 0, 1) := by decide +kernel
theorem ld_566 : decode code 566 = .ok (.iload_n 3, 1) := by decide +kernel
theorem ld_567 : decode code 567 = .ok (.iconst 1, 1) := by decide +kernel
theorem ld_568 : decode code 568 = .ok (.iadd, 1) := by decide +kernel
theorem ld_569 : decode code 569 = .ok (.iaload, 1) := by decide +kernel
theorem ld_570 : decode code 570 = .ok (.invokevirtual 83, 3) := by decide +kernel
theorem ld_573 : decode code 573 = .ok (.aload_n 2, 1) := by decide +kernel
theorem ld_574 : decode code 574 = .ok (.aload_n 0, 1) := by decide +kernel
theorem ld_575 : decode code 575 = .ok (.iload_n 3, 1) := by decide +kernel
theorem ld_576 : decode code 576 = .ok (.iconst 1, 1) := by decide +kernel
theorem ld_577 : decode code 577 = .ok (.iadd, 1) := by decide +kernel
theorem ld_578 : decode code 578 = .ok (.iaload, 1) := by decide +kernel
theorem ld_579 : decode code 579 = .ok (.invokevirtual 86, 3) := by decide +kernel
theorem ld_582 : decode code 582 = .ok (.if_icmp .eq 5, 3) := by decide +kernel
theorem ld_585 : decode code 585 = .ok (.iconst 0, 1) := by decide +kernel
theorem ld_586 : decode code 586 = .ok (.ireturn, 1) := by decide +kernel
theorem ld_587 : decode code 587 = .ok (.iinc 3 4, 3) := by decide +kernel
theorem ld_590 : decode code 590 = .ok (.goto (-572), 3) := by decide +kernel
theorem ld_593 : decode code 593 = .ok (.iconst 1, 1) := by decide +kernel
theorem ld_594 : decode code 594 = .ok (.ireturn, 1) := by decide +kernel
def lp_empty : lm_M := ((0, 0, fun o => if o = lm_B + 10 then (30, 8) else if o < lm_B then (99, 0) else (31, 0)), (fun o k => if o = lm_B + 10 then lm_costs.getD k 0 else 0), (fun _ _ => 0), (fun _ _ => .null))
def lp_new (M : lm_M) (ci : Nat) : lm_M := ((M.1.1 + 1, M.1.2.1 + lm_cN ci, lm_us M.1.2.2 M.1.1 (ci, 0)), lm_z M.2.1 M.1.1 0, lm_z M.2.2.1 M.1.1 0, lm_z M.2.2.2 M.1.1 .null)
abbrev lp_D : Nat := 1000
/-- one call on both, with the same answer -/
def lp_op (km : Nat) (Inv : lm_M → Prop) (xj mj : Nat) (as : List Value) : Prop := ∀ M, Inv M → lc lp_D xj (.ref 0 :: as) M (fun v M1 => ∃ r : Int32, v = some (.int r) ∧ (M1.1.2.2 km).1 = 10 ∧ lc lp_D mj (.ref km :: as) M1 (fun v2 M2 => v2 = some (.int r) ∧ Inv M2))
def lp_start (km : Nat) (Inv : lm_M → Prop) : Prop := lc lp_D 123 [.ref 0] (lp_new lp_empty 9) (fun v M1 => v = none ∧ M1.1.1 = km ∧ lc lp_D 146 [.ref km] (lp_new M1 10) (fun v2 M2 => v2 = none ∧ Inv M2))
/-- all that the law asks, said of the light machine alone -/
def lp_all (km : Nat) (Inv : lm_M → Prop) : Prop := (∀ M, Inv M → (M.1.2.2 0).1 = 9 ∧ (M.1.2.2 km).1 = 10 ∧ 0 < M.1.1 ∧ km < M.1.1 ∧ M.1.1 ≤ 600000 ∧ M.1.2.1 ≤ 7302250) ∧ lp_start km Inv ∧
  (∀ (a : Int32) (y : Int64), lp_op km Inv 124 147 [.int a, .long y]) ∧
  lp_op km Inv 125 181 [] ∧
  (∀ a : Int32, lp_op km Inv 126 200 [.int a]) ∧
  (∀ a a2 : Int32, lp_op km Inv 127 202 [.int a, .int a2]) ∧
  (∀ a : Int32, lp_op km Inv 128 203 [.int a]) ∧
  lp_op km Inv 129 198 [] ∧
  (∀ a a2 : Int32, lp_op km Inv 130 199 [.int a, .int a2]) ∧
  (∀ a : Int32, lp_op km Inv 131 205 [.int a]) ∧
  (∀ a a2 : Int32, lp_op km Inv 132 208 [.int a, .int a2]) ∧
  (∀ a a2 : Int32, lp_op km Inv 133 209 [.int a, .int a2]) ∧
  (∀ a : Int32, lp_op km Inv 134 214 [.int a]) ∧
  (∀ a : Int32, lp_op km Inv 135 216 [.int a]) ∧
  (∀ a a2 : Int32, lp_op km Inv 136 217 [.int a, .int a2]) ∧
  lp_op km Inv 137 223 [] ∧
  (∀ a a2 : Int32, lp_op km Inv 138 224 [.int a, .int a2]) ∧
  (∀ a a2 : Int32, lp_op km Inv 139 225 [.int a, .int a2]) ∧
  (∀ a : Int32, lp_op km Inv 140 218 [.int a])
section LAW
variable {p : Program} {l : Launch} {e : Env} {s : State} {m : MethodId} {below : List Frame} {meth : Method} {c : Code} {D : va_G} {cA : Nat → ClassId} {ρ0 : Nat → Nat} {b L km : Nat} {xs : Nat → Int32} {Inv : lm_M → Prop}
variable {pc n : Nat} {ls st : List Value} {M M1 M2 : lm_M} {i : Int32}
theorem lg_al (hC : lm_ctx p s m #[Value.ref b] meth c D cA (fun q : Nat => s.heap.size ≤ q) ρ0 21 false code 4) {j : Fin 4} {x : Nat} (hd : decode code pc = .ok (.aload_n j, 1)) (h : ls[(j : Nat)]? = some (.ref x)) (k : lm_G p l e room_1 s m #[Value.ref b] below meth c (lw_Z below #[Value.ref b] s) D cA (fun q : Nat => s.heap.size ≤ q) ρ0 lp_empty 4 (pc + 1) ls (.ref x :: st) (M)) : lm_G p l e room_1 s m #[Value.ref b] below meth c (lw_Z below #[Value.ref b] s) D cA (fun q : Nat => s.heap.size ≤ q) ρ0 lp_empty 4 (pc) ls (st) (M) :=
  lm_g_st k (fun ρ H locs cs k1 k2 hh kk => lv_aload_n hC.1 hC.2.1 hd rfl (lm_has_at hh h (fun q => by cases q)) kk) (fun hl h2 => lm_oki h2 (hl _ (List.mem_of_getElem? h)))
theorem lg_il (hC : lm_ctx p s m #[Value.ref b] meth c D cA (fun q : Nat => s.heap.size ≤ q) ρ0 21 false code 4) {j : Fin 4} {x : Int32} (hd : decode code pc = .ok (.iload_n j, 1)) (h : ls[(j : Nat)]? = some (.int x)) (k : lm_G p l e room_1 s m #[Value.ref b] below meth c (lw_Z below #[Value.ref b] s) D cA (fun q : Nat => s.heap.size ≤ q) ρ0 lp_empty 4 (pc + 1) ls (.int x :: st) (M)) : lm_G p l e room_1 s m #[Value.ref b] below meth c (lw_Z below #[Value.ref b] s) D cA (fun q : Nat => s.heap.size ≤ q) ρ0 lp_empty 4 (pc) ls (st) (M) :=
  lm_g_st k (fun ρ H locs cs k1 k2 hh kk => lv_iload_n hC.1 hC.2.1 hd rfl (lm_has_at hh h (fun q => by cases q)) kk) (fun hl h2 => lm_oki h2 trivial)
theorem lg_ic (hC : lm_ctx p s m #[Value.ref b] meth c D cA (fun q : Nat => s.heap.size ≤ q) ρ0 21 false code 4) {j : Int} {x : Int32} (hd : decode code pc = .ok (.iconst j, 1)) (h : Int32.ofInt j = x) (k : lm_G p l e room_1 s m #[Value.ref b] below meth c (lw_Z below #[Value.ref b] s) D cA (fun q : Nat => s.heap.size ≤ q) ρ0 lp_empty 4 (pc + 1) ls (.int x :: st) (M)) : lm_G p l e room_1 s m #[Value.ref b] below meth c (lw_Z below #[Value.ref b] s) D cA (fun q : Nat => s.heap.size ≤ q) ρ0 lp_empty 4 (pc) ls (st) (M) :=
  lm_g_st k (fun ρ H locs cs k1 k2 hh kk => lv_iconst hC.1 hC.2.1 hd h kk) (fun hl h2 => lm_oki h2 trivial)
theorem lg_bi (hC : lm_ctx p s m #[Value.ref b] meth c D cA (fun q : Nat => s.heap.size ≤ q) ρ0 21 false code 4) {j : Int} {x : Int32} (hd : decode code pc = .ok (.bipush j, 2)) (h : (Int8.ofInt j).toInt32 = x) (k : lm_G p l e room_1 s m #[Value.ref b] below meth c (lw_Z below #[Value.ref b] s) D cA (fun q : Nat => s.heap.size ≤ q) ρ0 lp_empty 4 (pc + 2) ls (.int x :: st) (M)) : lm_G p l e room_1 s m #[Value.ref b] below meth c (lw_Z below #[Value.ref b] s) D cA (fun q : Nat => s.heap.size ≤ q) ρ0 lp_empty 4 (pc) ls (st) (M) :=
  lm_g_st k (fun ρ H locs cs k1 k2 hh kk => lv_bipush hC.1 hC.2.1 hd h kk) (fun hl h2 => lm_oki h2 trivial)
theorem lg_iadd (hC : lm_ctx p s m #[Value.ref b] meth c D cA (fun q : Nat => s.heap.size ≤ q) ρ0 21 false code 4) {x y : Int32} (hd : decode code pc = .ok (.iadd, 1)) (k : lm_G p l e room_1 s m #[Value.ref b] below meth c (lw_Z below #[Value.ref b] s) D cA (fun q : Nat => s.heap.size ≤ q) ρ0 lp_empty 4 (pc + 1) ls (.int (x + y) :: st) (M)) : lm_G p l e room_1 s m #[Value.ref b] below meth c (lw_Z below #[Value.ref b] s) D cA (fun q : Nat => s.heap.size ≤ q) ρ0 lp_empty 4 (pc) ls (.int y :: .int x :: st) (M) :=
  lm_g_st k (fun ρ H locs cs k1 k2 hh kk => lv_iadd hC.1 hC.2.1 hd kk) (fun hl h2 => lm_okxx h2 trivial)
theorem lg_isub (hC : lm_ctx p s m #[Value.ref b] meth c D cA (fun q : Nat => s.heap.size ≤ q) ρ0 21 false code 4) {x y : Int32} (hd : decode code pc = .ok (.isub, 1)) (k : lm_G p l e room_1 s m #[Value.ref b] below meth c (lw_Z below #[Value.ref b] s) D cA (fun q : Nat => s.heap.size ≤ q) ρ0 lp_empty 4 (pc + 1) ls (.int (x - y) :: st) (M)) : lm_G p l e room_1 s m #[Value.ref b] below meth c (lw_Z below #[Value.ref b] s) D cA (fun q : Nat => s.heap.size ≤ q) ρ0 lp_empty 4 (pc) ls (.int y :: .int x :: st) (M) :=
  lm_g_st k (fun ρ H locs cs k1 k2 hh kk => lv_isub hC.1 hC.2.1 hd kk) (fun hl h2 => lm_okxx h2 trivial)
theorem lg_iand (hC : lm_ctx p s m #[Value.ref b] meth c D cA (fun q : Nat => s.heap.size ≤ q) ρ0 21 false code 4) {x y : Int32} (hd : decode code pc = .ok (.iand, 1)) (k : lm_G p l e room_1 s m #[Value.ref b] below meth c (lw_Z below #[Value.ref b] s) D cA (fun q : Nat => s.heap.size ≤ q) ρ0 lp_empty 4 (pc + 1) ls (.int (x &&& y) :: st) (M)) : lm_G p l e room_1 s m #[Value.ref b] below meth c (lw_Z below #[Value.ref b] s) D cA (fun q : Nat => s.heap.size ≤ q) ρ0 lp_empty 4 (pc) ls (.int y :: .int x :: st) (M) :=
  lm_g_st k (fun ρ H locs cs k1 k2 hh kk => lv_iand hC.1 hC.2.1 hd kk) (fun hl h2 => lm_okxx h2 trivial)
theorem lg_land (hC : lm_ctx p s m #[Value.ref b] meth c D cA (fun q : Nat => s.heap.size ≤ q) ρ0 21 false code 4) {x y : Int64} (hd : decode code pc = .ok (.land, 1)) (k : lm_G p l e room_1 s m #[Value.ref b] below meth c (lw_Z below #[Value.ref b] s) D cA (fun q : Nat => s.heap.size ≤ q) ρ0 lp_empty 4 (pc + 1) ls (.long (x &&& y) :: st) (M)) : lm_G p l e room_1 s m #[Value.ref b] below meth c (lw_Z below #[Value.ref b] s) D cA (fun q : Nat => s.heap.size ≤ q) ρ0 lp_empty 4 (pc) ls (.long y :: .long x :: st) (M) :=
  lm_g_st k (fun ρ H locs cs k1 k2 hh kk => lv_land hC.1 hC.2.1 hd kk) (fun hl h2 => lm_okxx h2 trivial)
theorem lg_lor (hC : lm_ctx p s m #[Value.ref b] meth c D cA (fun q : Nat => s.heap.size ≤ q) ρ0 21 false code 4) {x y : Int64} (hd : decode code pc = .ok (.lor, 1)) (k : lm_G p l e room_1 s m #[Value.ref b] below meth c (lw_Z below #[Value.ref b] s) D cA (fun q : Nat => s.heap.size ≤ q) ρ0 lp_empty 4 (pc + 1) ls (.long (x ||| y) :: st) (M)) : lm_G p l e room_1 s m #[Value.ref b] below meth c (lw_Z below #[Value.ref b] s) D cA (fun q : Nat => s.heap.size ≤ q) ρ0 lp_empty 4 (pc) ls (.long y :: .long x :: st) (M) :=
  lm_g_st k (fun ρ H locs cs k1 k2 hh kk => lv_lor hC.1 hC.2.1 hd kk) (fun hl h2 => lm_okxx h2 trivial)
theorem lg_i2l (hC : lm_ctx p s m #[Value.ref b] meth c D cA (fun q : Nat => s.heap.size ≤ q) ρ0 21 false code 4) {x : Int32} (hd : decode code pc = .ok (.i2l, 1)) (k : lm_G p l e room_1 s m #[Value.ref b] below meth c (lw_Z below #[Value.ref b] s) D cA (fun q : Nat => s.heap.size ≤ q) ρ0 lp_empty 4 (pc + 1) ls (.long x.toInt64 :: st) (M)) : lm_G p l e room_1 s m #[Value.ref b] below meth c (lw_Z below #[Value.ref b] s) D cA (fun q : Nat => s.heap.size ≤ q) ρ0 lp_empty 4 (pc) ls (.int x :: st) (M) :=
  lm_g_st k (fun ρ H locs cs k1 k2 hh kk => lv_i2l hC.1 hC.2.1 hd rfl kk) (fun hl h2 => lm_okx h2 trivial)
theorem lg_lshl (hC : lm_ctx p s m #[Value.ref b] meth c D cA (fun q : Nat => s.heap.size ≤ q) ρ0 21 false code 4) {x : Int64} {y : Int32} (hd : decode code pc = .ok (.lshl, 1)) (k : lm_G p l e room_1 s m #[Value.ref b] below meth c (lw_Z below #[Value.ref b] s) D cA (fun q : Nat => s.heap.size ≤ q) ρ0 lp_empty 4 (pc + 1) ls (.long (x <<< (y.toInt64 &&& 63)) :: st) (M)) : lm_G p l e room_1 s m #[Value.ref b] below meth c (lw_Z below #[Value.ref b] s) D cA (fun q : Nat => s.heap.size ≤ q) ρ0 lp_empty 4 (pc) ls (.int y :: .long x :: st) (M) :=
  lm_g_st k (fun ρ H locs cs k1 k2 hh kk => lv_lshl hC.1 hC.2.1 hd rfl kk) (fun hl h2 => lm_okxx h2 trivial)
theorem lg_lw : Cond.constantLong "ConflictPlacesLaw" 13 4294967295 ∈ lw_tbl := List.mem_of_getElem? (i := 1869) (by decide +kernel)
theorem lg_ldc (hC : lm_ctx p s m #[Value.ref b] meth c D cA (fun q : Nat => s.heap.size ≤ q) ρ0 21 false code 4) (hd : decode code pc = .ok (.ldc2_w 13, 3)) (k : lm_G p l e room_1 s m #[Value.ref b] below meth c (lw_Z below #[Value.ref b] s) D cA (fun q : Nat => s.heap.size ≤ q) ρ0 lp_empty 4 (pc + 3) ls (.long 4294967295 :: st) (M)) : lm_G p l e room_1 s m #[Value.ref b] below meth c (lw_Z below #[Value.ref b] s) D cA (fun q : Nat => s.heap.size ≤ q) ρ0 lp_empty 4 (pc) ls (st) (M) :=
  lm_g_st k (fun ρ H locs cs k1 k2 hh kk => lv_ldc2 hC.1 hC.2.1 hC.2.2.2.1 (hC.2.2.2.2.1 _ (lm_tbm lg_lw rfl)) hd kk) (fun hl h2 => lm_oki h2 trivial)
theorem lg_scr (hC : lm_ctx p s m #[Value.ref b] meth c D cA (fun q : Nat => s.heap.size ≤ q) ρ0 21 false code 4) (hX : va_X b L xs s s.heap) (hbl : b < s.heap.size) (hρ : ρ0 (lm_B + 20) = b) {x : Int32} (hin : vp_in x L) (hd : decode code pc = .ok (.iaload, 1)) (k : lm_G p l e room_1 s m #[Value.ref b] below meth c (lw_Z below #[Value.ref b] s) D cA (fun q : Nat => s.heap.size ≤ q) ρ0 lp_empty 4 (pc + 1) ls (.int (xs x.toNatClampNeg) :: st) (M)) : lm_G p l e room_1 s m #[Value.ref b] below meth c (lw_Z below #[Value.ref b] s) D cA (fun q : Nat => s.heap.size ≤ q) ρ0 lp_empty 4 (pc) ls (.int x :: .ref (lm_B + 20) :: st) (M) := by
  intro ρ H locs cs h hs
  have eb : ρ (lm_B + 20) = b := by rw [h.2.2.2.2.2.2.1 (lm_B + 20) (Or.inr (by omega)), hρ]
  have kk := k ρ H locs cs h (lm_okxx hs trivial)
  show W p l e room_1 s m #[Value.ref b] below meth c H locs _ _ _ (F0 m pc cs (.int x :: .ref (ρ (lm_B + 20)) :: st.map (lm_tv ρ)))
  rw [eb]
  exact va_sld hC.1 hC.2.1 hX hbl (Nat.not_le.mpr hbl) h.2.2.1 hin hd kk
theorem lg_len (hC : lm_ctx p s m #[Value.ref b] meth c D cA (fun q : Nat => s.heap.size ≤ q) ρ0 21 false code 4) (hX : va_X b L xs s s.heap) (hbl : b < s.heap.size) (hρ : ρ0 (lm_B + 20) = b) (hd : decode code pc = .ok (.arraylength, 1)) (k : lm_G p l e room_1 s m #[Value.ref b] below meth c (lw_Z below #[Value.ref b] s) D cA (fun q : Nat => s.heap.size ≤ q) ρ0 lp_empty 4 (pc + 1) ls (.int (Int32.ofNat L) :: st) (M)) : lm_G p l e room_1 s m #[Value.ref b] below meth c (lw_Z below #[Value.ref b] s) D cA (fun q : Nat => s.heap.size ≤ q) ρ0 lp_empty 4 (pc) ls (.ref (lm_B + 20) :: st) (M) := by
  intro ρ H locs cs h hs
  have eb : ρ (lm_B + 20) = b := by rw [h.2.2.2.2.2.2.1 (lm_B + 20) (Or.inr (by omega)), hρ]
  have kk := k ρ H locs cs h (lm_okx hs trivial)
  show W p l e room_1 s m #[Value.ref b] below meth c H locs _ _ _ (F0 m pc cs (.ref (ρ (lm_B + 20)) :: st.map (lm_tv ρ)))
  rw [eb]
  exact va_slen hC.1 hC.2.1 hX hbl (Nat.not_le.mpr hbl) h.2.2.1 hd kk
/-- script[i + j] -/
theorem lg_arg (hC : lm_ctx p s m #[Value.ref b] meth c D cA (fun q : Nat => s.heap.size ≤ q) ρ0 21 false code 4) (hX : va_X b L xs s s.heap) (hbl : b < s.heap.size) (hρ : ρ0 (lm_B + 20) = b) {j : Int} {x : Int32} (hj : Int32.ofInt j = x) (hin : vp_in (i + x) L) (d0 : decode code pc = .ok (.aload_n 0, 1)) (d1 : decode code (pc + 1) = .ok (.iload_n 3, 1)) (d2 : decode code (pc + 2) = .ok (.iconst j, 1)) (d3 : decode code (pc + 3) = .ok (.iadd, 1)) (d4 : decode code (pc + 4) = .ok (.iaload, 1)) (k : lm_G p l e room_1 s m #[Value.ref b] below meth c (lw_Z below #[Value.ref b] s) D cA (fun q : Nat => s.heap.size ≤ q) ρ0 lp_empty 4 (pc + 5) [.ref (lm_B + 20), .ref 0, .ref km, .int i] (.int (xs (i + x).toNatClampNeg) :: st) (M)) : lm_G p l e room_1 s m #[Value.ref b] below meth c (lw_Z below #[Value.ref b] s) D cA (fun q : Nat => s.heap.size ≤ q) ρ0 lp_empty 4 (pc) [.ref (lm_B + 20), .ref 0, .ref km, .int i] (st) (M) :=
  lg_al hC d0 rfl (lg_il hC d1 rfl (lg_ic hC d2 hj (lg_iadd hC d3 (lg_scr hC hX hbl hρ hin d4 k))))
theorem lg_call (hC : lm_ctx p s m #[Value.ref b] meth c D cA (fun q : Nat => s.heap.size ≤ q) ρ0 21 false code 4) {r mm : Nat} {v : Option Value} {as st' : List Value} {ix : Nat} (hl : lc lp_D mm as M (fun v2 M' => v2 = v ∧ M' = M2)) (hd : decode code pc = .ok (.invokevirtual ix, 3)) (he : (lm_tM.any (fun e => e.2.1 == r && e.1 == 210000 + ix)) = true) (hix : ix < 10000) (hst : (lm_mi (r / 2048)).2.2.2.2.2.2.1 = false ∧ (lm_mi (r / 2048)).1.name ≠ "<init>") (hmm : r / 2048 = mm) (hB : M2.1.1 ≤ 600000 ∧ M2.1.2.1 ≤ 7302250)
    (hpop : lm_pop (r / 128 % 16) [] st = some (as, st')) (hsum : (st'.map fun v => v.category).sum ≤ 8) (hrc : lm_rc r as M = true) (hv : ∃ x, v = some (.int x)) (k : lm_G p l e room_1 s m #[Value.ref b] below meth c (lw_Z below #[Value.ref b] s) D cA (fun q : Nat => s.heap.size ≤ q) ρ0 lp_empty 4 (pc + 3) ls (v.toList ++ st') (M2)) : lm_G p l e room_1 s m #[Value.ref b] below meth c (lw_Z below #[Value.ref b] s) D cA (fun q : Nat => s.heap.size ≤ q) ρ0 lp_empty 4 (pc) ls (st) (M) := by
  subst hmm
  obtain ⟨en, hen, hh⟩ := List.any_eq_true.mp he
  simp only [Bool.and_eq_true, beq_iff_eq] at hh
  obtain ⟨F, v2, M', hcall, rfl, rfl⟩ := hl
  have hmr : r / 2048 < 229 := by rw [← hh.1]; exact (lm_tM_spec hen).2.1
  have hm1 := lm_call_mono F lp_D _ _ _ _ _ hcall
  refine lm_g_call (d := lp_D) (r := r) hC hen hh.1 (by omega) ⟨by decide, by decide⟩ ?_ ?_ (by show _ ≤ 1000000; omega) (raw := .invokevirtual (en.1 % 10000)) (Or.inl ⟨rfl, hst.1, hst.2⟩) (by rw [show en.1 % 10000 = ix by omega]; exact hd) (lm_met_all lm_ck_all l F _ _ _ _ _ _ hmr hcall) hpop hsum hrc ⟨Nat.zero_le _, Nat.zero_le _⟩ hm1 ?_ k
  · show _ - 0 ≤ 600000; omega
  · show _ - 0 ≤ 7302250; omega
  · obtain ⟨x, rfl⟩ := hv
    intro y hy ρ'
    have hy : y = .int x := by simpa using hy
    subst hy
    exact ⟨rfl, trivial⟩
theorem lg_case0 (hC : lm_ctx p s m #[Value.ref b] meth c D cA (fun q : Nat => s.heap.size ≤ q) ρ0 21 false code 4) (hX : va_X b L xs s s.heap) (hbl : b < s.heap.size) (hρ : ρ0 (lm_B + 20) = b) (hinv : ∀ M, Inv M → (M.1.2.2 0).1 = 9 ∧ (M.1.2.2 km).1 = 10 ∧ 0 < M.1.1 ∧ km < M.1.1 ∧ M.1.1 ≤ 600000 ∧ M.1.2.1 ≤ 7302250) (hin : ∀ j : Nat, j < 4 → vp_in (i + Int32.ofNat j) L) (hI : Inv M) (hop : ∀ (a : Int32) (y : Int64), lp_op km Inv 124 147 [.int a, .long y]) (k : ∀ M2, Inv M2 → lm_G p l e room_1 s m #[Value.ref b] below meth c (lw_Z below #[Value.ref b] s) D cA (fun q : Nat => s.heap.size ≤ q) ρ0 lp_empty 4 (587) [.ref (lm_B + 20), .ref 0, .ref km, .int i] ([]) (M2)) : lm_G p l e room_1 s m #[Value.ref b] below meth c (lw_Z below #[Value.ref b] s) D cA (fun q : Nat => s.heap.size ≤ q) ρ0 lp_empty 4 (116) [.ref (lm_B + 20), .ref 0, .ref km, .int i] ([]) (M) := by
  have hin : ∀ (j : Nat) (_ : j < 4), vp_in (i + Int32.ofNat j) L := hin
  have hop := hop (xs (i + 1).toNatClampNeg) ((((xs (i + 2).toNatClampNeg).toInt64 <<< ((32 : Int32).toInt64 &&& 63)) ||| ((xs (i + 3).toNatClampNeg).toInt64 &&& 4294967295)))
  refine lg_al hC ld_116 rfl ?_
  refine lg_arg hC hX hbl hρ (j := 1) (x := 1) rfl (hin 1 (by omega)) ld_117 ld_118 ld_119 ld_120 ld_121 ?_
  refine lg_arg hC hX hbl hρ (j := 2) (x := 2) rfl (hin 2 (by omega)) ld_122 ld_123 ld_124 ld_125 ld_126 ?_
  refine lg_i2l hC ld_127 ?_
  refine lg_bi hC (x := 32) ld_128 (by decide) ?_
  refine lg_lshl hC ld_130 ?_
  refine lg_arg hC hX hbl hρ (j := 3) (x := 3) rfl (hin 3 (by omega)) ld_131 ld_132 ld_133 ld_134 ld_135 ?_
  refine lg_i2l hC ld_136 ?_
  refine lg_ldc hC ld_137 ?_
  refine lg_land hC ld_140 ?_
  refine lg_lor hC ld_141 ?_
  obtain ⟨F, v, M1, hcall, r, rfl, htg, hl2⟩ := hop M hI
  obtain ⟨F2, v2, M2, hcall2, rfl, hI2⟩ := id hl2
  have hb2 := hinv M2 hI2
  have hm2 := lm_call_mono F2 lp_D _ _ _ _ _ hcall2
  refine lg_call hC (r := 254345) (ix := 15) ⟨F, _, _, hcall, rfl, rfl⟩ ld_142 (by decide +kernel) (by decide) (by decide +kernel) rfl ⟨by omega, by omega⟩ rfl (Nat.le_of_ble_eq_true rfl) ?_ ⟨_, rfl⟩ ?_
  · show (false || ((M.1.2.2 0).1 == 9)) = true
    rw [(hinv M hI).1]; rfl
  refine lg_al hC ld_145 rfl ?_
  refine lg_arg hC hX hbl hρ (j := 1) (x := 1) rfl (hin 1 (by omega)) ld_146 ld_147 ld_148 ld_149 ld_150 ?_
  refine lg_arg hC hX hbl hρ (j := 2) (x := 2) rfl (hin 2 (by omega)) ld_151 ld_152 ld_153 ld_154 ld_155 ?_
  refine lg_i2l hC ld_156 ?_
  refine lg_bi hC (x := 32) ld_157 (by decide) ?_
  refine lg_lshl hC ld_159 ?_
  refine lg_arg hC hX hbl hρ (j := 3) (x := 3) rfl (hin 3 (by omega)) ld_160 ld_161 ld_162 ld_163 ld_164 ?_
  refine lg_i2l hC ld_165 ?_
  refine lg_ldc hC ld_166 ?_
  refine lg_land hC ld_169 ?_
  refine lg_lor hC ld_170 ?_
  refine lg_call hC (r := 301450) (ix := 19) ⟨F2, _, _, hcall2, rfl, rfl⟩ ld_171 (by decide +kernel) (by decide) (by decide +kernel) rfl ⟨by omega, by omega⟩ rfl (Nat.le_of_ble_eq_true rfl) ?_ ⟨_, rfl⟩ ?_
  · show (false || ((M1.1.2.2 km).1 == 10)) = true
    rw [htg]; rfl
  exact fun ρ H locs cs h hs => lv_icmp_eq (tgt := 587) hC.1 hC.2.1 ld_174 (by show ((174 : Nat) : Int) + 413 = ((587 : Nat) : Int); decide) (fun _ => k M2 hI2 ρ H locs cs h (lm_okd (lm_okd hs))) (fun q => absurd rfl q)
theorem lg_case1 (hC : lm_ctx p s m #[Value.ref b] meth c D cA (fun q : Nat => s.heap.size ≤ q) ρ0 21 false code 4) (hX : va_X b L xs s s.heap) (hbl : b < s.heap.size) (hρ : ρ0 (lm_B + 20) = b) (hinv : ∀ M, Inv M → (M.1.2.2 0).1 = 9 ∧ (M.1.2.2 km).1 = 10 ∧ 0 < M.1.1 ∧ km < M.1.1 ∧ M.1.1 ≤ 600000 ∧ M.1.2.1 ≤ 7302250) (hin : ∀ j : Nat, j < 4 → vp_in (i + Int32.ofNat j) L) (hI : Inv M) (hop : lp_op km Inv 125 181 []) (k : ∀ M2, Inv M2 → lm_G p l e room_1 s m #[Value.ref b] below meth c (lw_Z below #[Value.ref b] s) D cA (fun q : Nat => s.heap.size ≤ q) ρ0 lp_empty 4 (587) [.ref (lm_B + 20), .ref 0, .ref km, .int i] ([]) (M2)) : lm_G p l e room_1 s m #[Value.ref b] below meth c (lw_Z below #[Value.ref b] s) D cA (fun q : Nat => s.heap.size ≤ q) ρ0 lp_empty 4 (179) [.ref (lm_B + 20), .ref 0, .ref km, .int i] ([]) (M) := by
  have hin : ∀ (j : Nat) (_ : j < 4), vp_in (i + Int32.ofNat j) L := hin
  refine lg_al hC ld_179 rfl ?_
  obtain ⟨F, v, M1, hcall, r, rfl, htg, hl2⟩ := hop M hI
  obtain ⟨F2, v2, M2, hcall2, rfl, hI2⟩ := id hl2
  have hb2 := hinv M2 hI2
  have hm2 := lm_call_mono F2 lp_D _ _ _ _ _ hcall2
  refine lg_call hC (r := 256137) (ix := 20) ⟨F, _, _, hcall, rfl, rfl⟩ ld_180 (by decide +kernel) (by decide) (by decide +kernel) rfl ⟨by omega, by omega⟩ rfl (Nat.le_of_ble_eq_true rfl) ?_ ⟨_, rfl⟩ ?_
  · show (false || ((M.1.2.2 0).1 == 9)) = true
    rw [(hinv M hI).1]; rfl
  refine lg_al hC ld_183 rfl ?_
  refine lg_call hC (r := 370826) (ix := 24) ⟨F2, _, _, hcall2, rfl, rfl⟩ ld_184 (by decide +kernel) (by decide) (by decide +kernel) rfl ⟨by omega, by omega⟩ rfl (Nat.le_of_ble_eq_true rfl) ?_ ⟨_, rfl⟩ ?_
  · show (false || ((M1.1.2.2 km).1 == 10)) = true
    rw [htg]; rfl
  exact fun ρ H locs cs h hs => lv_icmp_eq (tgt := 587) hC.1 hC.2.1 ld_187 (by show ((187 : Nat) : Int) + 400 = ((587 : Nat) : Int); decide) (fun _ => k M2 hI2 ρ H locs cs h (lm_okd (lm_okd hs))) (fun q => absurd rfl q)
theorem lg_case2 (hC : lm_ctx p s m #[Value.ref b] meth c D cA (fun q : Nat => s.heap.size ≤ q) ρ0 21 false code 4) (hX : va_X b L xs s s.heap) (hbl : b < s.heap.size) (hρ : ρ0 (lm_B + 20) = b) (hinv : ∀ M, Inv M → (M.1.2.2 0).1 = 9 ∧ (M.1.2.2 km).1 = 10 ∧ 0 < M.1.1 ∧ km < M.1.1 ∧ M.1.1 ≤ 600000 ∧ M.1.2.1 ≤ 7302250) (hin : ∀ j : Nat, j < 4 → vp_in (i + Int32.ofNat j) L) (hI : Inv M) (hop : (∀ a : Int32, lp_op km Inv 126 200 [.int a])) (k : ∀ M2, Inv M2 → lm_G p l e room_1 s m #[Value.ref b] below meth c (lw_Z below #[Value.ref b] s) D cA (fun q : Nat => s.heap.size ≤ q) ρ0 lp_empty 4 (587) [.ref (lm_B + 20), .ref 0, .ref km, .int i] ([]) (M2)) : lm_G p l e room_1 s m #[Value.ref b] below meth c (lw_Z below #[Value.ref b] s) D cA (fun q : Nat => s.heap.size ≤ q) ρ0 lp_empty 4 (192) [.ref (lm_B + 20), .ref 0, .ref km, .int i] ([]) (M) := by
  have hin : ∀ (j : Nat) (_ : j < 4), vp_in (i + Int32.ofNat j) L := hin
  have hop := hop (xs (i + 1).toNatClampNeg)
  refine lg_al hC ld_192 rfl ?_
  refine lg_arg hC hX hbl hρ (j := 1) (x := 1) rfl (hin 1 (by omega)) ld_193 ld_194 ld_195 ld_196 ld_197 ?_
  obtain ⟨F, v, M1, hcall, r, rfl, htg, hl2⟩ := hop M hI
  obtain ⟨F2, v2, M2, hcall2, rfl, hI2⟩ := id hl2
  have hb2 := hinv M2 hI2
  have hm2 := lm_call_mono F2 lp_D _ _ _ _ _ hcall2
  refine lg_call hC (r := 258313) (ix := 25) ⟨F, _, _, hcall, rfl, rfl⟩ ld_198 (by decide +kernel) (by decide) (by decide +kernel) rfl ⟨by omega, by omega⟩ rfl (Nat.le_of_ble_eq_true rfl) ?_ ⟨_, rfl⟩ ?_
  · show (false || ((M.1.2.2 0).1 == 9)) = true
    rw [(hinv M hI).1]; rfl
  refine lg_al hC ld_201 rfl ?_
  refine lg_arg hC hX hbl hρ (j := 1) (x := 1) rfl (hin 1 (by omega)) ld_202 ld_203 ld_204 ld_205 ld_206 ?_
  refine lg_call hC (r := 409866) (ix := 29) ⟨F2, _, _, hcall2, rfl, rfl⟩ ld_207 (by decide +kernel) (by decide) (by decide +kernel) rfl ⟨by omega, by omega⟩ rfl (Nat.le_of_ble_eq_true rfl) ?_ ⟨_, rfl⟩ ?_
  · show (false || ((M1.1.2.2 km).1 == 10)) = true
    rw [htg]; rfl
  exact fun ρ H locs cs h hs => lv_icmp_eq (tgt := 587) hC.1 hC.2.1 ld_210 (by show ((210 : Nat) : Int) + 377 = ((587 : Nat) : Int); decide) (fun _ => k M2 hI2 ρ H locs cs h (lm_okd (lm_okd hs))) (fun q => absurd rfl q)
theorem lg_case3 (hC : lm_ctx p s m #[Value.ref b] meth c D cA (fun q : Nat => s.heap.size ≤ q) ρ0 21 false code 4) (hX : va_X b L xs s s.heap) (hbl : b < s.heap.size) (hρ : ρ0 (lm_B + 20) = b) (hinv : ∀ M, Inv M → (M.1.2.2 0).1 = 9 ∧ (M.1.2.2 km).1 = 10 ∧ 0 < M.1.1 ∧ km < M.1.1 ∧ M.1.1 ≤ 600000 ∧ M.1.2.1 ≤ 7302250) (hin : ∀ j : Nat, j < 4 → vp_in (i + Int32.ofNat j) L) (hI : Inv M) (hop : (∀ a a2 : Int32, lp_op km Inv 127 202 [.int a, .int a2])) (k : ∀ M2, Inv M2 → lm_G p l e room_1 s m #[Value.ref b] below meth c (lw_Z below #[Value.ref b] s) D cA (fun q : Nat => s.heap.size ≤ q) ρ0 lp_empty 4 (587) [.ref (lm_B + 20), .ref 0, .ref km, .int i] ([]) (M2)) : lm_G p l e room_1 s m #[Value.ref b] below meth c (lw_Z below #[Value.ref b] s) D cA (fun q : Nat => s.heap.size ≤ q) ρ0 lp_empty 4 (215) [.ref (lm_B + 20), .ref 0, .ref km, .int i] ([]) (M) := by
  have hin : ∀ (j : Nat) (_ : j < 4), vp_in (i + Int32.ofNat j) L := hin
  have hop := hop (xs (i + 1).toNatClampNeg) (xs (i + 2).toNatClampNeg)
  refine lg_al hC ld_215 rfl ?_
  refine lg_arg hC hX hbl hρ (j := 1) (x := 1) rfl (hin 1 (by omega)) ld_216 ld_217 ld_218 ld_219 ld_220 ?_
  refine lg_arg hC hX hbl hρ (j := 2) (x := 2) rfl (hin 2 (by omega)) ld_221 ld_222 ld_223 ld_224 ld_225 ?_
  obtain ⟨F, v, M1, hcall, r, rfl, htg, hl2⟩ := hop M hI
  obtain ⟨F2, v2, M2, hcall2, rfl, hI2⟩ := id hl2
  have hb2 := hinv M2 hI2
  have hm2 := lm_call_mono F2 lp_D _ _ _ _ _ hcall2
  refine lg_call hC (r := 260489) (ix := 30) ⟨F, _, _, hcall, rfl, rfl⟩ ld_226 (by decide +kernel) (by decide) (by decide +kernel) rfl ⟨by omega, by omega⟩ rfl (Nat.le_of_ble_eq_true rfl) ?_ ⟨_, rfl⟩ ?_
  · show (false || ((M.1.2.2 0).1 == 9)) = true
    rw [(hinv M hI).1]; rfl
  refine lg_al hC ld_229 rfl ?_
  refine lg_arg hC hX hbl hρ (j := 1) (x := 1) rfl (hin 1 (by omega)) ld_230 ld_231 ld_232 ld_233 ld_234 ?_
  refine lg_arg hC hX hbl hρ (j := 2) (x := 2) rfl (hin 2 (by omega)) ld_235 ld_236 ld_237 ld_238 ld_239 ?_
  refine lg_call hC (r := 414090) (ix := 34) ⟨F2, _, _, hcall2, rfl, rfl⟩ ld_240 (by decide +kernel) (by decide) (by decide +kernel) rfl ⟨by omega, by omega⟩ rfl (Nat.le_of_ble_eq_true rfl) ?_ ⟨_, rfl⟩ ?_
  · show (false || ((M1.1.2.2 km).1 == 10)) = true
    rw [htg]; rfl
  exact fun ρ H locs cs h hs => lv_icmp_eq (tgt := 587) hC.1 hC.2.1 ld_243 (by show ((243 : Nat) : Int) + 344 = ((587 : Nat) : Int); decide) (fun _ => k M2 hI2 ρ H locs cs h (lm_okd (lm_okd hs))) (fun q => absurd rfl q)
theorem lg_case4 (hC : lm_ctx p s m #[Value.ref b] meth c D cA (fun q : Nat => s.heap.size ≤ q) ρ0 21 false code 4) (hX : va_X b L xs s s.heap) (hbl : b < s.heap.size) (hρ : ρ0 (lm_B + 20) = b) (hinv : ∀ M, Inv M → (M.1.2.2 0).1 = 9 ∧ (M.1.2.2 km).1 = 10 ∧ 0 < M.1.1 ∧ km < M.1.1 ∧ M.1.1 ≤ 600000 ∧ M.1.2.1 ≤ 7302250) (hin : ∀ j : Nat, j < 4 → vp_in (i + Int32.ofNat j) L) (hI : Inv M) (hop : (∀ a : Int32, lp_op km Inv 128 203 [.int a])) (k : ∀ M2, Inv M2 → lm_G p l e room_1 s m #[Value.ref b] below meth c (lw_Z below #[Value.ref b] s) D cA (fun q : Nat => s.heap.size ≤ q) ρ0 lp_empty 4 (587) [.ref (lm_B + 20), .ref 0, .ref km, .int i] ([]) (M2)) : lm_G p l e room_1 s m #[Value.ref b] below meth c (lw_Z below #[Value.ref b] s) D cA (fun q : Nat => s.heap.size ≤ q) ρ0 lp_empty 4 (248) [.ref (lm_B + 20), .ref 0, .ref km, .int i] ([]) (M) := by
  have hin : ∀ (j : Nat) (_ : j < 4), vp_in (i + Int32.ofNat j) L := hin
  have hop := hop (xs (i + 1).toNatClampNeg)
  refine lg_al hC ld_248 rfl ?_
  refine lg_arg hC hX hbl hρ (j := 1) (x := 1) rfl (hin 1 (by omega)) ld_249 ld_250 ld_251 ld_252 ld_253 ?_
  obtain ⟨F, v, M1, hcall, r, rfl, htg, hl2⟩ := hop M hI
  obtain ⟨F2, v2, M2, hcall2, rfl, hI2⟩ := id hl2
  have hb2 := hinv M2 hI2
  have hm2 := lm_call_mono F2 lp_D _ _ _ _ _ hcall2
  refine lg_call hC (r := 262409) (ix := 35) ⟨F, _, _, hcall, rfl, rfl⟩ ld_254 (by decide +kernel) (by decide) (by decide +kernel) rfl ⟨by omega, by omega⟩ rfl (Nat.le_of_ble_eq_true rfl) ?_ ⟨_, rfl⟩ ?_
  · show (false || ((M.1.2.2 0).1 == 9)) = true
    rw [(hinv M hI).1]; rfl
  refine lg_al hC ld_257 rfl ?_
  refine lg_arg hC hX hbl hρ (j := 1) (x := 1) rfl (hin 1 (by omega)) ld_258 ld_259 ld_260 ld_261 ld_262 ?_
  refine lg_call hC (r := 416010) (ix := 38) ⟨F2, _, _, hcall2, rfl, rfl⟩ ld_263 (by decide +kernel) (by decide) (by decide +kernel) rfl ⟨by omega, by omega⟩ rfl (Nat.le_of_ble_eq_true rfl) ?_ ⟨_, rfl⟩ ?_
  · show (false || ((M1.1.2.2 km).1 == 10)) = true
    rw [htg]; rfl
  exact fun ρ H locs cs h hs => lv_icmp_eq (tgt := 587) hC.1 hC.2.1 ld_266 (by show ((266 : Nat) : Int) + 321 = ((587 : Nat) : Int); decide) (fun _ => k M2 hI2 ρ H locs cs h (lm_okd (lm_okd hs))) (fun q => absurd rfl q)
theorem lg_case5 (hC : lm_ctx p s m #[Value.ref b] meth c D cA (fun q : Nat => s.heap.size ≤ q) ρ0 21 false code 4) (hX : va_X b L xs s s.heap) (hbl : b < s.heap.size) (hρ : ρ0 (lm_B + 20) = b) (hinv : ∀ M, Inv M → (M.1.2.2 0).1 = 9 ∧ (M.1.2.2 km).1 = 10 ∧ 0 < M.1.1 ∧ km < M.1.1 ∧ M.1.1 ≤ 600000 ∧ M.1.2.1 ≤ 7302250) (hin : ∀ j : Nat, j < 4 → vp_in (i + Int32.ofNat j) L) (hI : Inv M) (hop : lp_op km Inv 129 198 []) (k : ∀ M2, Inv M2 → lm_G p l e room_1 s m #[Value.ref b] below meth c (lw_Z below #[Value.ref b] s) D cA (fun q : Nat => s.heap.size ≤ q) ρ0 lp_empty 4 (587) [.ref (lm_B + 20), .ref 0, .ref km, .int i] ([]) (M2)) : lm_G p l e room_1 s m #[Value.ref b] below meth c (lw_Z below #[Value.ref b] s) D cA (fun q : Nat => s.heap.size ≤ q) ρ0 lp_empty 4 (271) [.ref (lm_B + 20), .ref 0, .ref km, .int i] ([]) (M) := by
  have hin : ∀ (j : Nat) (_ : j < 4), vp_in (i + Int32.ofNat j) L := hin
  refine lg_al hC ld_271 rfl ?_
  obtain ⟨F, v, M1, hcall, r, rfl, htg, hl2⟩ := hop M hI
  obtain ⟨F2, v2, M2, hcall2, rfl, hI2⟩ := id hl2
  have hb2 := hinv M2 hI2
  have hm2 := lm_call_mono F2 lp_D _ _ _ _ _ hcall2
  refine lg_call hC (r := 264329) (ix := 39) ⟨F, _, _, hcall, rfl, rfl⟩ ld_272 (by decide +kernel) (by decide) (by decide +kernel) rfl ⟨by omega, by omega⟩ rfl (Nat.le_of_ble_eq_true rfl) ?_ ⟨_, rfl⟩ ?_
  · show (false || ((M.1.2.2 0).1 == 9)) = true
    rw [(hinv M hI).1]; rfl
  refine lg_al hC ld_275 rfl ?_
  refine lg_call hC (r := 405642) (ix := 42) ⟨F2, _, _, hcall2, rfl, rfl⟩ ld_276 (by decide +kernel) (by decide) (by decide +kernel) rfl ⟨by omega, by omega⟩ rfl (Nat.le_of_ble_eq_true rfl) ?_ ⟨_, rfl⟩ ?_
  · show (false || ((M1.1.2.2 km).1 == 10)) = true
    rw [htg]; rfl
  exact fun ρ H locs cs h hs => lv_icmp_eq (tgt := 587) hC.1 hC.2.1 ld_279 (by show ((279 : Nat) : Int) + 308 = ((587 : Nat) : Int); decide) (fun _ => k M2 hI2 ρ H locs cs h (lm_okd (lm_okd hs))) (fun q => absurd rfl q)
theorem lg_case6 (hC : lm_ctx p s m #[Value.ref b] meth c D cA (fun q : Nat => s.heap.size ≤ q) ρ0 21 false code 4) (hX : va_X b L xs s s.heap) (hbl : b < s.heap.size) (hρ : ρ0 (lm_B + 20) = b) (hinv : ∀ M, Inv M → (M.1.2.2 0).1 = 9 ∧ (M.1.2.2 km).1 = 10 ∧ 0 < M.1.1 ∧ km < M.1.1 ∧ M.1.1 ≤ 600000 ∧ M.1.2.1 ≤ 7302250) (hin : ∀ j : Nat, j < 4 → vp_in (i + Int32.ofNat j) L) (hI : Inv M) (hop : (∀ a a2 : Int32, lp_op km Inv 130 199 [.int a, .int a2])) (k : ∀ M2, Inv M2 → lm_G p l e room_1 s m #[Value.ref b] below meth c (lw_Z below #[Value.ref b] s) D cA (fun q : Nat => s.heap.size ≤ q) ρ0 lp_empty 4 (587) [.ref (lm_B + 20), .ref 0, .ref km, .int i] ([]) (M2)) : lm_G p l e room_1 s m #[Value.ref b] below meth c (lw_Z below #[Value.ref b] s) D cA (fun q : Nat => s.heap.size ≤ q) ρ0 lp_empty 4 (284) [.ref (lm_B + 20), .ref 0, .ref km, .int i] ([]) (M) := by
  have hin : ∀ (j : Nat) (_ : j < 4), vp_in (i + Int32.ofNat j) L := hin
  have hop := hop (xs (i + 1).toNatClampNeg) (xs (i + 2).toNatClampNeg)
  refine lg_al hC ld_284 rfl ?_
  refine lg_arg hC hX hbl hρ (j := 1) (x := 1) rfl (hin 1 (by omega)) ld_285 ld_286 ld_287 ld_288 ld_289 ?_
  refine lg_arg hC hX hbl hρ (j := 2) (x := 2) rfl (hin 2 (by omega)) ld_290 ld_291 ld_292 ld_293 ld_294 ?_
  obtain ⟨F, v, M1, hcall, r, rfl, htg, hl2⟩ := hop M hI
  obtain ⟨F2, v2, M2, hcall2, rfl, hI2⟩ := id hl2
  have hb2 := hinv M2 hI2
  have hm2 := lm_call_mono F2 lp_D _ _ _ _ _ hcall2
  refine lg_call hC (r := 266633) (ix := 43) ⟨F, _, _, hcall, rfl, rfl⟩ ld_295 (by decide +kernel) (by decide) (by decide +kernel) rfl ⟨by omega, by omega⟩ rfl (Nat.le_of_ble_eq_true rfl) ?_ ⟨_, rfl⟩ ?_
  · show (false || ((M.1.2.2 0).1 == 9)) = true
    rw [(hinv M hI).1]; rfl
  refine lg_al hC ld_298 rfl ?_
  refine lg_arg hC hX hbl hρ (j := 1) (x := 1) rfl (hin 1 (by omega)) ld_299 ld_300 ld_301 ld_302 ld_303 ?_
  refine lg_arg hC hX hbl hρ (j := 2) (x := 2) rfl (hin 2 (by omega)) ld_304 ld_305 ld_306 ld_307 ld_308 ?_
  refine lg_call hC (r := 407946) (ix := 46) ⟨F2, _, _, hcall2, rfl, rfl⟩ ld_309 (by decide +kernel) (by decide) (by decide +kernel) rfl ⟨by omega, by omega⟩ rfl (Nat.le_of_ble_eq_true rfl) ?_ ⟨_, rfl⟩ ?_
  · show (false || ((M1.1.2.2 km).1 == 10)) = true
    rw [htg]; rfl
  exact fun ρ H locs cs h hs => lv_icmp_eq (tgt := 587) hC.1 hC.2.1 ld_312 (by show ((312 : Nat) : Int) + 275 = ((587 : Nat) : Int); decide) (fun _ => k M2 hI2 ρ H locs cs h (lm_okd (lm_okd hs))) (fun q => absurd rfl q)
theorem lg_case7 (hC : lm_ctx p s m #[Value.ref b] meth c D cA (fun q : Nat => s.heap.size ≤ q) ρ0 21 false code 4) (hX : va_X b L xs s s.heap) (hbl : b < s.heap.size) (hρ : ρ0 (lm_B + 20) = b) (hinv : ∀ M, Inv M → (M.1.2.2 0).1 = 9 ∧ (M.1.2.2 km).1 = 10 ∧ 0 < M.1.1 ∧ km < M.1.1 ∧ M.1.1 ≤ 600000 ∧ M.1.2.1 ≤ 7302250) (hin : ∀ j : Nat, j < 4 → vp_in (i + Int32.ofNat j) L) (hI : Inv M) (hop : (∀ a : Int32, lp_op km Inv 131 205 [.int a])) (k : ∀ M2, Inv M2 → lm_G p l e room_1 s m #[Value.ref b] below meth c (lw_Z below #[Value.ref b] s) D cA (fun q : Nat => s.heap.size ≤ q) ρ0 lp_empty 4 (587) [.ref (lm_B + 20), .ref 0, .ref km, .int i] ([]) (M2)) : lm_G p l e room_1 s m #[Value.ref b] below meth c (lw_Z below #[Value.ref b] s) D cA (fun q : Nat => s.heap.size ≤ q) ρ0 lp_empty 4 (317) [.ref (lm_B + 20), .ref 0, .ref km, .int i] ([]) (M) := by
  have hin : ∀ (j : Nat) (_ : j < 4), vp_in (i + Int32.ofNat j) L := hin
  have hop := hop (xs (i + 1).toNatClampNeg)
  refine lg_al hC ld_317 rfl ?_
  refine lg_arg hC hX hbl hρ (j := 1) (x := 1) rfl (hin 1 (by omega)) ld_318 ld_319 ld_320 ld_321 ld_322 ?_
  obtain ⟨F, v, M1, hcall, r, rfl, htg, hl2⟩ := hop M hI
  obtain ⟨F2, v2, M2, hcall2, rfl, hI2⟩ := id hl2
  have hb2 := hinv M2 hI2
  have hm2 := lm_call_mono F2 lp_D _ _ _ _ _ hcall2
  refine lg_call hC (r := 268553) (ix := 47) ⟨F, _, _, hcall, rfl, rfl⟩ ld_323 (by decide +kernel) (by decide) (by decide +kernel) rfl ⟨by omega, by omega⟩ rfl (Nat.le_of_ble_eq_true rfl) ?_ ⟨_, rfl⟩ ?_
  · show (false || ((M.1.2.2 0).1 == 9)) = true
    rw [(hinv M hI).1]; rfl
  refine lg_al hC ld_326 rfl ?_
  refine lg_arg hC hX hbl hρ (j := 1) (x := 1) rfl (hin 1 (by omega)) ld_327 ld_328 ld_329 ld_330 ld_331 ?_
  refine lg_call hC (r := 420106) (ix := 50) ⟨F2, _, _, hcall2, rfl, rfl⟩ ld_332 (by decide +kernel) (by decide) (by decide +kernel) rfl ⟨by omega, by omega⟩ rfl (Nat.le_of_ble_eq_true rfl) ?_ ⟨_, rfl⟩ ?_
  · show (false || ((M1.1.2.2 km).1 == 10)) = true
    rw [htg]; rfl
  exact fun ρ H locs cs h hs => lv_icmp_eq (tgt := 587) hC.1 hC.2.1 ld_335 (by show ((335 : Nat) : Int) + 252 = ((587 : Nat) : Int); decide) (fun _ => k M2 hI2 ρ H locs cs h (lm_okd (lm_okd hs))) (fun q => absurd rfl q)
theorem lg_case8 (hC : lm_ctx p s m #[Value.ref b] meth c D cA (fun q : Nat => s.heap.size ≤ q) ρ0 21 false code 4) (hX : va_X b L xs s s.heap) (hbl : b < s.heap.size) (hρ : ρ0 (lm_B + 20) = b) (hinv : ∀ M, Inv M → (M.1.2.2 0).1 = 9 ∧ (M.1.2.2 km).1 = 10 ∧ 0 < M.1.1 ∧ km < M.1.1 ∧ M.1.1 ≤ 600000 ∧ M.1.2.1 ≤ 7302250) (hin : ∀ j : Nat, j < 4 → vp_in (i + Int32.ofNat j) L) (hI : Inv M) (hop : (∀ a a2 : Int32, lp_op km Inv 132 208 [.int a, .int a2])) (k : ∀ M2, Inv M2 → lm_G p l e room_1 s m #[Value.ref b] below meth c (lw_Z below #[Value.ref b] s) D cA (fun q : Nat => s.heap.size ≤ q) ρ0 lp_empty 4 (587) [.ref (lm_B + 20), .ref 0, .ref km, .int i] ([]) (M2)) : lm_G p l e room_1 s m #[Value.ref b] below meth c (lw_Z below #[Value.ref b] s) D cA (fun q : Nat => s.heap.size ≤ q) ρ0 lp_empty 4 (340) [.ref (lm_B + 20), .ref 0, .ref km, .int i] ([]) (M) := by
  have hin : ∀ (j : Nat) (_ : j < 4), vp_in (i + Int32.ofNat j) L := hin
  have hop := hop (xs (i + 1).toNatClampNeg) (xs (i + 2).toNatClampNeg)
  refine lg_al hC ld_340 rfl ?_
  refine lg_arg hC hX hbl hρ (j := 1) (x := 1) rfl (hin 1 (by omega)) ld_341 ld_342 ld_343 ld_344 ld_345 ?_
  refine lg_arg hC hX hbl hρ (j := 2) (x := 2) rfl (hin 2 (by omega)) ld_346 ld_347 ld_348 ld_349 ld_350 ?_
  obtain ⟨F, v, M1, hcall, r, rfl, htg, hl2⟩ := hop M hI
  obtain ⟨F2, v2, M2, hcall2, rfl, hI2⟩ := id hl2
  have hb2 := hinv M2 hI2
  have hm2 := lm_call_mono F2 lp_D _ _ _ _ _ hcall2
  refine lg_call hC (r := 270729) (ix := 51) ⟨F, _, _, hcall, rfl, rfl⟩ ld_351 (by decide +kernel) (by decide) (by decide +kernel) rfl ⟨by omega, by omega⟩ rfl (Nat.le_of_ble_eq_true rfl) ?_ ⟨_, rfl⟩ ?_
  · show (false || ((M.1.2.2 0).1 == 9)) = true
    rw [(hinv M hI).1]; rfl
  refine lg_al hC ld_354 rfl ?_
  refine lg_arg hC hX hbl hρ (j := 1) (x := 1) rfl (hin 1 (by omega)) ld_355 ld_356 ld_357 ld_358 ld_359 ?_
  refine lg_arg hC hX hbl hρ (j := 2) (x := 2) rfl (hin 2 (by omega)) ld_360 ld_361 ld_362 ld_363 ld_364 ?_
  refine lg_call hC (r := 426378) (ix := 54) ⟨F2, _, _, hcall2, rfl, rfl⟩ ld_365 (by decide +kernel) (by decide) (by decide +kernel) rfl ⟨by omega, by omega⟩ rfl (Nat.le_of_ble_eq_true rfl) ?_ ⟨_, rfl⟩ ?_
  · show (false || ((M1.1.2.2 km).1 == 10)) = true
    rw [htg]; rfl
  exact fun ρ H locs cs h hs => lv_icmp_eq (tgt := 587) hC.1 hC.2.1 ld_368 (by show ((368 : Nat) : Int) + 219 = ((587 : Nat) : Int); decide) (fun _ => k M2 hI2 ρ H locs cs h (lm_okd (lm_okd hs))) (fun q => absurd rfl q)
theorem lg_case9 (hC : lm_ctx p s m #[Value.ref b] meth c D cA (fun q : Nat => s.heap.size ≤ q) ρ0 21 false code 4) (hX : va_X b L xs s s.heap) (hbl : b < s.heap.size) (hρ : ρ0 (lm_B + 20) = b) (hinv : ∀ M, Inv M → (M.1.2.2 0).1 = 9 ∧ (M.1.2.2 km).1 = 10 ∧ 0 < M.1.1 ∧ km < M.1.1 ∧ M.1.1 ≤ 600000 ∧ M.1.2.1 ≤ 7302250) (hin : ∀ j : Nat, j < 4 → vp_in (i + Int32.ofNat j) L) (hI : Inv M) (hop : (∀ a a2 : Int32, lp_op km Inv 133 209 [.int a, .int a2])) (k : ∀ M2, Inv M2 → lm_G p l e room_1 s m #[Value.ref b] below meth c (lw_Z below #[Value.ref b] s) D cA (fun q : Nat => s.heap.size ≤ q) ρ0 lp_empty 4 (587) [.ref (lm_B + 20), .ref 0, .ref km, .int i] ([]) (M2)) : lm_G p l e room_1 s m #[Value.ref b] below meth c (lw_Z below #[Value.ref b] s) D cA (fun q : Nat => s.heap.size ≤ q) ρ0 lp_empty 4 (373) [.ref (lm_B + 20), .ref 0, .ref km, .int i] ([]) (M) := by
  have hin : ∀ (j : Nat) (_ : j < 4), vp_in (i + Int32.ofNat j) L := hin
  have hop := hop (xs (i + 1).toNatClampNeg) (xs (i + 2).toNatClampNeg)
  refine lg_al hC ld_373 rfl ?_
  refine lg_arg hC hX hbl hρ (j := 1) (x := 1) rfl (hin 1 (by omega)) ld_374 ld_375 ld_376 ld_377 ld_378 ?_
  refine lg_arg hC hX hbl hρ (j := 2) (x := 2) rfl (hin 2 (by omega)) ld_379 ld_380 ld_381 ld_382 ld_383 ?_
  obtain ⟨F, v, M1, hcall, r, rfl, htg, hl2⟩ := hop M hI
  obtain ⟨F2, v2, M2, hcall2, rfl, hI2⟩ := id hl2
  have hb2 := hinv M2 hI2
  have hm2 := lm_call_mono F2 lp_D _ _ _ _ _ hcall2
  refine lg_call hC (r := 272777) (ix := 55) ⟨F, _, _, hcall, rfl, rfl⟩ ld_384 (by decide +kernel) (by decide) (by decide +kernel) rfl ⟨by omega, by omega⟩ rfl (Nat.le_of_ble_eq_true rfl) ?_ ⟨_, rfl⟩ ?_
  · show (false || ((M.1.2.2 0).1 == 9)) = true
    rw [(hinv M hI).1]; rfl
  refine lg_al hC ld_387 rfl ?_
  refine lg_arg hC hX hbl hρ (j := 1) (x := 1) rfl (hin 1 (by omega)) ld_388 ld_389 ld_390 ld_391 ld_392 ?_
  refine lg_arg hC hX hbl hρ (j := 2) (x := 2) rfl (hin 2 (by omega)) ld_393 ld_394 ld_395 ld_396 ld_397 ?_
  refine lg_call hC (r := 428426) (ix := 58) ⟨F2, _, _, hcall2, rfl, rfl⟩ ld_398 (by decide +kernel) (by decide) (by decide +kernel) rfl ⟨by omega, by omega⟩ rfl (Nat.le_of_ble_eq_true rfl) ?_ ⟨_, rfl⟩ ?_
  · show (false || ((M1.1.2.2 km).1 == 10)) = true
    rw [htg]; rfl
  exact fun ρ H locs cs h hs => lv_icmp_eq (tgt := 587) hC.1 hC.2.1 ld_401 (by show ((401 : Nat) : Int) + 186 = ((587 : Nat) : Int); decide) (fun _ => k M2 hI2 ρ H locs cs h (lm_okd (lm_okd hs))) (fun q => absurd rfl q)
theorem lg_case10 (hC : lm_ctx p s m #[Value.ref b] meth c D cA (fun q : Nat => s.heap.size ≤ q) ρ0 21 false code 4) (hX : va_X b L xs s s.heap) (hbl : b < s.heap.size) (hρ : ρ0 (lm_B + 20) = b) (hinv : ∀ M, Inv M → (M.1.2.2 0).1 = 9 ∧ (M.1.2.2 km).1 = 10 ∧ 0 < M.1.1 ∧ km < M.1.1 ∧ M.1.1 ≤ 600000 ∧ M.1.2.1 ≤ 7302250) (hin : ∀ j : Nat, j < 4 → vp_in (i + Int32.ofNat j) L) (hI : Inv M) (hop : (∀ a : Int32, lp_op km Inv 134 214 [.int a])) (k : ∀ M2, Inv M2 → lm_G p l e room_1 s m #[Value.ref b] below meth c (lw_Z below #[Value.ref b] s) D cA (fun q : Nat => s.heap.size ≤ q) ρ0 lp_empty 4 (587) [.ref (lm_B + 20), .ref 0, .ref km, .int i] ([]) (M2)) : lm_G p l e room_1 s m #[Value.ref b] below meth c (lw_Z below #[Value.ref b] s) D cA (fun q : Nat => s.heap.size ≤ q) ρ0 lp_empty 4 (406) [.ref (lm_B + 20), .ref 0, .ref km, .int i] ([]) (M) := by
  have hin : ∀ (j : Nat) (_ : j < 4), vp_in (i + Int32.ofNat j) L := hin
  have hop := hop (xs (i + 1).toNatClampNeg)
  refine lg_al hC ld_406 rfl ?_
  refine lg_arg hC hX hbl hρ (j := 1) (x := 1) rfl (hin 1 (by omega)) ld_407 ld_408 ld_409 ld_410 ld_411 ?_
  obtain ⟨F, v, M1, hcall, r, rfl, htg, hl2⟩ := hop M hI
  obtain ⟨F2, v2, M2, hcall2, rfl, hI2⟩ := id hl2
  have hb2 := hinv M2 hI2
  have hm2 := lm_call_mono F2 lp_D _ _ _ _ _ hcall2
  refine lg_call hC (r := 274697) (ix := 59) ⟨F, _, _, hcall, rfl, rfl⟩ ld_412 (by decide +kernel) (by decide) (by decide +kernel) rfl ⟨by omega, by omega⟩ rfl (Nat.le_of_ble_eq_true rfl) ?_ ⟨_, rfl⟩ ?_
  · show (false || ((M.1.2.2 0).1 == 9)) = true
    rw [(hinv M hI).1]; rfl
  refine lg_al hC ld_415 rfl ?_
  refine lg_arg hC hX hbl hρ (j := 1) (x := 1) rfl (hin 1 (by omega)) ld_416 ld_417 ld_418 ld_419 ld_420 ?_
  refine lg_call hC (r := 438538) (ix := 62) ⟨F2, _, _, hcall2, rfl, rfl⟩ ld_421 (by decide +kernel) (by decide) (by decide +kernel) rfl ⟨by omega, by omega⟩ rfl (Nat.le_of_ble_eq_true rfl) ?_ ⟨_, rfl⟩ ?_
  · show (false || ((M1.1.2.2 km).1 == 10)) = true
    rw [htg]; rfl
  exact fun ρ H locs cs h hs => lv_icmp_eq (tgt := 587) hC.1 hC.2.1 ld_424 (by show ((424 : Nat) : Int) + 163 = ((587 : Nat) : Int); decide) (fun _ => k M2 hI2 ρ H locs cs h (lm_okd (lm_okd hs))) (fun q => absurd rfl q)
theorem lg_case11 (hC : lm_ctx p s m #[Value.ref b] meth c D cA (fun q : Nat => s.heap.size ≤ q) ρ0 21 false code 4) (hX : va_X b L xs s s.heap) (hbl : b < s.heap.size) (hρ : ρ0 (lm_B + 20) = b) (hinv : ∀ M, Inv M → (M.1.2.2 0).1 = 9 ∧ (M.1.2.2 km).1 = 10 ∧ 0 < M.1.1 ∧ km < M.1.1 ∧ M.1.1 ≤ 600000 ∧ M.1.2.1 ≤ 7302250) (hin : ∀ j : Nat, j < 4 → vp_in (i + Int32.ofNat j) L) (hI : Inv M) (hop : (∀ a : Int32, lp_op km Inv 135 216 [.int a])) (k : ∀ M2, Inv M2 → lm_G p l e room_1 s m #[Value.ref b] below meth c (lw_Z below #[Value.ref b] s) D cA (fun q : Nat => s.heap.size ≤ q) ρ0 lp_empty 4 (587) [.ref (lm_B + 20), .ref 0, .ref km, .int i] ([]) (M2)) : lm_G p l e room_1 s m #[Value.ref b] below meth c (lw_Z below #[Value.ref b] s) D cA (fun q : Nat => s.heap.size ≤ q) ρ0 lp_empty 4 (429) [.ref (lm_B + 20), .ref 0, .ref km, .int i] ([]) (M) := by
  have hin : ∀ (j : Nat) (_ : j < 4), vp_in (i + Int32.ofNat j) L := hin
  have hop := hop (xs (i + 1).toNatClampNeg)
  refine lg_al hC ld_429 rfl ?_
  refine lg_arg hC hX hbl hρ (j := 1) (x := 1) rfl (hin 1 (by omega)) ld_430 ld_431 ld_432 ld_433 ld_434 ?_
  obtain ⟨F, v, M1, hcall, r, rfl, htg, hl2⟩ := hop M hI
  obtain ⟨F2, v2, M2, hcall2, rfl, hI2⟩ := id hl2
  have hb2 := hinv M2 hI2
  have hm2 := lm_call_mono F2 lp_D _ _ _ _ _ hcall2
  refine lg_call hC (r := 276745) (ix := 63) ⟨F, _, _, hcall, rfl, rfl⟩ ld_435 (by decide +kernel) (by decide) (by decide +kernel) rfl ⟨by omega, by omega⟩ rfl (Nat.le_of_ble_eq_true rfl) ?_ ⟨_, rfl⟩ ?_
  · show (false || ((M.1.2.2 0).1 == 9)) = true
    rw [(hinv M hI).1]; rfl
  refine lg_al hC ld_438 rfl ?_
  refine lg_arg hC hX hbl hρ (j := 1) (x := 1) rfl (hin 1 (by omega)) ld_439 ld_440 ld_441 ld_442 ld_443 ?_
  refine lg_call hC (r := 442634) (ix := 66) ⟨F2, _, _, hcall2, rfl, rfl⟩ ld_444 (by decide +kernel) (by decide) (by decide +kernel) rfl ⟨by omega, by omega⟩ rfl (Nat.le_of_ble_eq_true rfl) ?_ ⟨_, rfl⟩ ?_
  · show (false || ((M1.1.2.2 km).1 == 10)) = true
    rw [htg]; rfl
  exact fun ρ H locs cs h hs => lv_icmp_eq (tgt := 587) hC.1 hC.2.1 ld_447 (by show ((447 : Nat) : Int) + 140 = ((587 : Nat) : Int); decide) (fun _ => k M2 hI2 ρ H locs cs h (lm_okd (lm_okd hs))) (fun q => absurd rfl q)
theorem lg_case12 (hC : lm_ctx p s m #[Value.ref b] meth c D cA (fun q : Nat => s.heap.size ≤ q) ρ0 21 false code 4) (hX : va_X b L xs s s.heap) (hbl : b < s.heap.size) (hρ : ρ0 (lm_B + 20) = b) (hinv : ∀ M, Inv M → (M.1.2.2 0).1 = 9 ∧ (M.1.2.2 km).1 = 10 ∧ 0 < M.1.1 ∧ km < M.1.1 ∧ M.1.1 ≤ 600000 ∧ M.1.2.1 ≤ 7302250) (hin : ∀ j : Nat, j < 4 → vp_in (i + Int32.ofNat j) L) (hI : Inv M) (hop : (∀ a a2 : Int32, lp_op km Inv 136 217 [.int a, .int a2])) (k : ∀ M2, Inv M2 → lm_G p l e room_1 s m #[Value.ref b] below meth c (lw_Z below #[Value.ref b] s) D cA (fun q : Nat => s.heap.size ≤ q) ρ0 lp_empty 4 (587) [.ref (lm_B + 20), .ref 0, .ref km, .int i] ([]) (M2)) : lm_G p l e room_1 s m #[Value.ref b] below meth c (lw_Z below #[Value.ref b] s) D cA (fun q : Nat => s.heap.size ≤ q) ρ0 lp_empty 4 (452) [.ref (lm_B + 20), .ref 0, .ref km, .int i] ([]) (M) := by
  have hin : ∀ (j : Nat) (_ : j < 4), vp_in (i + Int32.ofNat j) L := hin
  have hop := hop (xs (i + 1).toNatClampNeg) (xs (i + 2).toNatClampNeg)
  refine lg_al hC ld_452 rfl ?_
  refine lg_arg hC hX hbl hρ (j := 1) (x := 1) rfl (hin 1 (by omega)) ld_453 ld_454 ld_455 ld_456 ld_457 ?_
  refine lg_arg hC hX hbl hρ (j := 2) (x := 2) rfl (hin 2 (by omega)) ld_458 ld_459 ld_460 ld_461 ld_462 ?_
  obtain ⟨F, v, M1, hcall, r, rfl, htg, hl2⟩ := hop M hI
  obtain ⟨F2, v2, M2, hcall2, rfl, hI2⟩ := id hl2
  have hb2 := hinv M2 hI2
  have hm2 := lm_call_mono F2 lp_D _ _ _ _ _ hcall2
  refine lg_call hC (r := 278921) (ix := 67) ⟨F, _, _, hcall, rfl, rfl⟩ ld_463 (by decide +kernel) (by decide) (by decide +kernel) rfl ⟨by omega, by omega⟩ rfl (Nat.le_of_ble_eq_true rfl) ?_ ⟨_, rfl⟩ ?_
  · show (false || ((M.1.2.2 0).1 == 9)) = true
    rw [(hinv M hI).1]; rfl
  refine lg_al hC ld_466 rfl ?_
  refine lg_arg hC hX hbl hρ (j := 1) (x := 1) rfl (hin 1 (by omega)) ld_467 ld_468 ld_469 ld_470 ld_471 ?_
  refine lg_arg hC hX hbl hρ (j := 2) (x := 2) rfl (hin 2 (by omega)) ld_472 ld_473 ld_474 ld_475 ld_476 ?_
  refine lg_call hC (r := 444810) (ix := 70) ⟨F2, _, _, hcall2, rfl, rfl⟩ ld_477 (by decide +kernel) (by decide) (by decide +kernel) rfl ⟨by omega, by omega⟩ rfl (Nat.le_of_ble_eq_true rfl) ?_ ⟨_, rfl⟩ ?_
  · show (false || ((M1.1.2.2 km).1 == 10)) = true
    rw [htg]; rfl
  exact fun ρ H locs cs h hs => lv_icmp_eq (tgt := 587) hC.1 hC.2.1 ld_480 (by show ((480 : Nat) : Int) + 107 = ((587 : Nat) : Int); decide) (fun _ => k M2 hI2 ρ H locs cs h (lm_okd (lm_okd hs))) (fun q => absurd rfl q)
theorem lg_case13 (hC : lm_ctx p s m #[Value.ref b] meth c D cA (fun q : Nat => s.heap.size ≤ q) ρ0 21 false code 4) (hX : va_X b L xs s s.heap) (hbl : b < s.heap.size) (hρ : ρ0 (lm_B + 20) = b) (hinv : ∀ M, Inv M → (M.1.2.2 0).1 = 9 ∧ (M.1.2.2 km).1 = 10 ∧ 0 < M.1.1 ∧ km < M.1.1 ∧ M.1.1 ≤ 600000 ∧ M.1.2.1 ≤ 7302250) (hin : ∀ j : Nat, j < 4 → vp_in (i + Int32.ofNat j) L) (hI : Inv M) (hop : lp_op km Inv 137 223 []) (k : ∀ M2, Inv M2 → lm_G p l e room_1 s m #[Value.ref b] below meth c (lw_Z below #[Value.ref b] s) D cA (fun q : Nat => s.heap.size ≤ q) ρ0 lp_empty 4 (587) [.ref (lm_B + 20), .ref 0, .ref km, .int i] ([]) (M2)) : lm_G p l e room_1 s m #[Value.ref b] below meth c (lw_Z below #[Value.ref b] s) D cA (fun q : Nat => s.heap.size ≤ q) ρ0 lp_empty 4 (485) [.ref (lm_B + 20), .ref 0, .ref km, .int i] ([]) (M) := by
  have hin : ∀ (j : Nat) (_ : j < 4), vp_in (i + Int32.ofNat j) L := hin
  refine lg_al hC ld_485 rfl ?_
  obtain ⟨F, v, M1, hcall, r, rfl, htg, hl2⟩ := hop M hI
  obtain ⟨F2, v2, M2, hcall2, rfl, hI2⟩ := id hl2
  have hb2 := hinv M2 hI2
  have hm2 := lm_call_mono F2 lp_D _ _ _ _ _ hcall2
  refine lg_call hC (r := 280713) (ix := 71) ⟨F, _, _, hcall, rfl, rfl⟩ ld_486 (by decide +kernel) (by decide) (by decide +kernel) rfl ⟨by omega, by omega⟩ rfl (Nat.le_of_ble_eq_true rfl) ?_ ⟨_, rfl⟩ ?_
  · show (false || ((M.1.2.2 0).1 == 9)) = true
    rw [(hinv M hI).1]; rfl
  refine lg_al hC ld_489 rfl ?_
  refine lg_call hC (r := 456842) (ix := 74) ⟨F2, _, _, hcall2, rfl, rfl⟩ ld_490 (by decide +kernel) (by decide) (by decide +kernel) rfl ⟨by omega, by omega⟩ rfl (Nat.le_of_ble_eq_true rfl) ?_ ⟨_, rfl⟩ ?_
  · show (false || ((M1.1.2.2 km).1 == 10)) = true
    rw [htg]; rfl
  exact fun ρ H locs cs h hs => lv_icmp_eq (tgt := 587) hC.1 hC.2.1 ld_493 (by show ((493 : Nat) : Int) + 94 = ((587 : Nat) : Int); decide) (fun _ => k M2 hI2 ρ H locs cs h (lm_okd (lm_okd hs))) (fun q => absurd rfl q)
theorem lg_case14 (hC : lm_ctx p s m #[Value.ref b] meth c D cA (fun q : Nat => s.heap.size ≤ q) ρ0 21 false code 4) (hX : va_X b L xs s s.heap) (hbl : b < s.heap.size) (hρ : ρ0 (lm_B + 20) = b) (hinv : ∀ M, Inv M → (M.1.2.2 0).1 = 9 ∧ (M.1.2.2 km).1 = 10 ∧ 0 < M.1.1 ∧ km < M.1.1 ∧ M.1.1 ≤ 600000 ∧ M.1.2.1 ≤ 7302250) (hin : ∀ j : Nat, j < 4 → vp_in (i + Int32.ofNat j) L) (hI : Inv M) (hop : (∀ a a2 : Int32, lp_op km Inv 138 224 [.int a, .int a2])) (k : ∀ M2, Inv M2 → lm_G p l e room_1 s m #[Value.ref b] below meth c (lw_Z below #[Value.ref b] s) D cA (fun q : Nat => s.heap.size ≤ q) ρ0 lp_empty 4 (587) [.ref (lm_B + 20), .ref 0, .ref km, .int i] ([]) (M2)) : lm_G p l e room_1 s m #[Value.ref b] below meth c (lw_Z below #[Value.ref b] s) D cA (fun q : Nat => s.heap.size ≤ q) ρ0 lp_empty 4 (498) [.ref (lm_B + 20), .ref 0, .ref km, .int i] ([]) (M) := by
  have hin : ∀ (j : Nat) (_ : j < 4), vp_in (i + Int32.ofNat j) L := hin
  have hop := hop (xs (i + 1).toNatClampNeg) (xs (i + 2).toNatClampNeg)
  refine lg_al hC ld_498 rfl ?_
  refine lg_arg hC hX hbl hρ (j := 1) (x := 1) rfl (hin 1 (by omega)) ld_499 ld_500 ld_501 ld_502 ld_503 ?_
  refine lg_arg hC hX hbl hρ (j := 2) (x := 2) rfl (hin 2 (by omega)) ld_504 ld_505 ld_506 ld_507 ld_508 ?_
  obtain ⟨F, v, M1, hcall, r, rfl, htg, hl2⟩ := hop M hI
  obtain ⟨F2, v2, M2, hcall2, rfl, hI2⟩ := id hl2
  have hb2 := hinv M2 hI2
  have hm2 := lm_call_mono F2 lp_D _ _ _ _ _ hcall2
  refine lg_call hC (r := 283017) (ix := 75) ⟨F, _, _, hcall, rfl, rfl⟩ ld_509 (by decide +kernel) (by decide) (by decide +kernel) rfl ⟨by omega, by omega⟩ rfl (Nat.le_of_ble_eq_true rfl) ?_ ⟨_, rfl⟩ ?_
  · show (false || ((M.1.2.2 0).1 == 9)) = true
    rw [(hinv M hI).1]; rfl
  refine lg_al hC ld_512 rfl ?_
  refine lg_arg hC hX hbl hρ (j := 1) (x := 1) rfl (hin 1 (by omega)) ld_513 ld_514 ld_515 ld_516 ld_517 ?_
  refine lg_arg hC hX hbl hρ (j := 2) (x := 2) rfl (hin 2 (by omega)) ld_518 ld_519 ld_520 ld_521 ld_522 ?_
  refine lg_call hC (r := 459146) (ix := 78) ⟨F2, _, _, hcall2, rfl, rfl⟩ ld_523 (by decide +kernel) (by decide) (by decide +kernel) rfl ⟨by omega, by omega⟩ rfl (Nat.le_of_ble_eq_true rfl) ?_ ⟨_, rfl⟩ ?_
  · show (false || ((M1.1.2.2 km).1 == 10)) = true
    rw [htg]; rfl
  exact fun ρ H locs cs h hs => lv_icmp_eq (tgt := 587) hC.1 hC.2.1 ld_526 (by show ((526 : Nat) : Int) + 61 = ((587 : Nat) : Int); decide) (fun _ => k M2 hI2 ρ H locs cs h (lm_okd (lm_okd hs))) (fun q => absurd rfl q)
theorem lg_case15 (hC : lm_ctx p s m #[Value.ref b] meth c D cA (fun q : Nat => s.heap.size ≤ q) ρ0 21 false code 4) (hX : va_X b L xs s s.heap) (hbl : b < s.heap.size) (hρ : ρ0 (lm_B + 20) = b) (hinv : ∀ M, Inv M → (M.1.2.2 0).1 = 9 ∧ (M.1.2.2 km).1 = 10 ∧ 0 < M.1.1 ∧ km < M.1.1 ∧ M.1.1 ≤ 600000 ∧ M.1.2.1 ≤ 7302250) (hin : ∀ j : Nat, j < 4 → vp_in (i + Int32.ofNat j) L) (hI : Inv M) (hop : (∀ a a2 : Int32, lp_op km Inv 139 225 [.int a, .int a2])) (k : ∀ M2, Inv M2 → lm_G p l e room_1 s m #[Value.ref b] below meth c (lw_Z below #[Value.ref b] s) D cA (fun q : Nat => s.heap.size ≤ q) ρ0 lp_empty 4 (587) [.ref (lm_B + 20), .ref 0, .ref km, .int i] ([]) (M2)) : lm_G p l e room_1 s m #[Value.ref b] below meth c (lw_Z below #[Value.ref b] s) D cA (fun q : Nat => s.heap.size ≤ q) ρ0 lp_empty 4 (531) [.ref (lm_B + 20), .ref 0, .ref km, .int i] ([]) (M) := by
  have hin : ∀ (j : Nat) (_ : j < 4), vp_in (i + Int32.ofNat j) L := hin
  have hop := hop (xs (i + 1).toNatClampNeg) (xs (i + 2).toNatClampNeg)
  refine lg_al hC ld_531 rfl ?_
  refine lg_arg hC hX hbl hρ (j := 1) (x := 1) rfl (hin 1 (by omega)) ld_532 ld_533 ld_534 ld_535 ld_536 ?_
  refine lg_arg hC hX hbl hρ (j := 2) (x := 2) rfl (hin 2 (by omega)) ld_537 ld_538 ld_539 ld_540 ld_541 ?_
  obtain ⟨F, v, M1, hcall, r, rfl, htg, hl2⟩ := hop M hI
  obtain ⟨F2, v2, M2, hcall2, rfl, hI2⟩ := id hl2
  have hb2 := hinv M2 hI2
  have hm2 := lm_call_mono F2 lp_D _ _ _ _ _ hcall2
  refine lg_call hC (r := 285065) (ix := 79) ⟨F, _, _, hcall, rfl, rfl⟩ ld_542 (by decide +kernel) (by decide) (by decide +kernel) rfl ⟨by omega, by omega⟩ rfl (Nat.le_of_ble_eq_true rfl) ?_ ⟨_, rfl⟩ ?_
  · show (false || ((M.1.2.2 0).1 == 9)) = true
    rw [(hinv M hI).1]; rfl
  refine lg_al hC ld_545 rfl ?_
  refine lg_arg hC hX hbl hρ (j := 1) (x := 1) rfl (hin 1 (by omega)) ld_546 ld_547 ld_548 ld_549 ld_550 ?_
  refine lg_arg hC hX hbl hρ (j := 2) (x := 2) rfl (hin 2 (by omega)) ld_551 ld_552 ld_553 ld_554 ld_555 ?_
  refine lg_call hC (r := 461194) (ix := 82) ⟨F2, _, _, hcall2, rfl, rfl⟩ ld_556 (by decide +kernel) (by decide) (by decide +kernel) rfl ⟨by omega, by omega⟩ rfl (Nat.le_of_ble_eq_true rfl) ?_ ⟨_, rfl⟩ ?_
  · show (false || ((M1.1.2.2 km).1 == 10)) = true
    rw [htg]; rfl
  exact fun ρ H locs cs h hs => lv_icmp_eq (tgt := 587) hC.1 hC.2.1 ld_559 (by show ((559 : Nat) : Int) + 28 = ((587 : Nat) : Int); decide) (fun _ => k M2 hI2 ρ H locs cs h (lm_okd (lm_okd hs))) (fun q => absurd rfl q)
theorem lg_case16 (hC : lm_ctx p s m #[Value.ref b] meth c D cA (fun q : Nat => s.heap.size ≤ q) ρ0 21 false code 4) (hX : va_X b L xs s s.heap) (hbl : b < s.heap.size) (hρ : ρ0 (lm_B + 20) = b) (hinv : ∀ M, Inv M → (M.1.2.2 0).1 = 9 ∧ (M.1.2.2 km).1 = 10 ∧ 0 < M.1.1 ∧ km < M.1.1 ∧ M.1.1 ≤ 600000 ∧ M.1.2.1 ≤ 7302250) (hin : ∀ j : Nat, j < 4 → vp_in (i + Int32.ofNat j) L) (hI : Inv M) (hop : (∀ a : Int32, lp_op km Inv 140 218 [.int a])) (k : ∀ M2, Inv M2 → lm_G p l e room_1 s m #[Value.ref b] below meth c (lw_Z below #[Value.ref b] s) D cA (fun q : Nat => s.heap.size ≤ q) ρ0 lp_empty 4 (587) [.ref (lm_B + 20), .ref 0, .ref km, .int i] ([]) (M2)) : lm_G p l e room_1 s m #[Value.ref b] below meth c (lw_Z below #[Value.ref b] s) D cA (fun q : Nat => s.heap.size ≤ q) ρ0 lp_empty 4 (564) [.ref (lm_B + 20), .ref 0, .ref km, .int i] ([]) (M) := by
  have hin : ∀ (j : Nat) (_ : j < 4), vp_in (i + Int32.ofNat j) L := hin
  have hop := hop (xs (i + 1).toNatClampNeg)
  refine lg_al hC ld_564 rfl ?_
  refine lg_arg hC hX hbl hρ (j := 1) (x := 1) rfl (hin 1 (by omega)) ld_565 ld_566 ld_567 ld_568 ld_569 ?_
  obtain ⟨F, v, M1, hcall, r, rfl, htg, hl2⟩ := hop M hI
  obtain ⟨F2, v2, M2, hcall2, rfl, hI2⟩ := id hl2
  have hb2 := hinv M2 hI2
  have hm2 := lm_call_mono F2 lp_D _ _ _ _ _ hcall2
  refine lg_call hC (r := 286985) (ix := 83) ⟨F, _, _, hcall, rfl, rfl⟩ ld_570 (by decide +kernel) (by decide) (by decide +kernel) rfl ⟨by omega, by omega⟩ rfl (Nat.le_of_ble_eq_true rfl) ?_ ⟨_, rfl⟩ ?_
  · show (false || ((M.1.2.2 0).1 == 9)) = true
    rw [(hinv M hI).1]; rfl
  refine lg_al hC ld_573 rfl ?_
  refine lg_arg hC hX hbl hρ (j := 1) (x := 1) rfl (hin 1 (by omega)) ld_574 ld_575 ld_576 ld_577 ld_578 ?_
  refine lg_call hC (r := 446730) (ix := 86) ⟨F2, _, _, hcall2, rfl, rfl⟩ ld_579 (by decide +kernel) (by decide) (by decide +kernel) rfl ⟨by omega, by omega⟩ rfl (Nat.le_of_ble_eq_true rfl) ?_ ⟨_, rfl⟩ ?_
  · show (false || ((M1.1.2.2 km).1 == 10)) = true
    rw [htg]; rfl
  exact fun ρ H locs cs h hs => lv_icmp_eq (tgt := 587) hC.1 hC.2.1 ld_582 (by show ((582 : Nat) : Int) + 5 = ((587 : Nat) : Int); decide) (fun _ => k M2 hI2 ρ H locs cs h (lm_okd (lm_okd hs))) (fun q => absurd rfl q)
theorem lg_go (hC : lm_ctx p s m #[Value.ref b] meth c D cA (fun q : Nat => s.heap.size ≤ q) ρ0 21 false code 4) (hA : lp_all km Inv) (hI : Inv M) (i2 : Int32) (hi : i + 4 = i2) (k : lm_G p l e room_1 s m #[Value.ref b] below meth c (lw_Z below #[Value.ref b] s) D cA (fun q : Nat => s.heap.size ≤ q) ρ0 lp_empty 4 (18) [.ref (lm_B + 20), .ref 0, .ref km, .int i2] ([]) (M)) : lm_G p l e room_1 s m #[Value.ref b] below meth c (lw_Z below #[Value.ref b] s) D cA (fun q : Nat => s.heap.size ≤ q) ρ0 lp_empty 4 (587) [.ref (lm_B + 20), .ref 0, .ref km, .int i] ([]) (M) := by
  have hb := hA.1 M hI
  intro ρ H locs cs h hs
  obtain ⟨k0, hk0⟩ := List.getElem?_of_mem (lm_mem_lv (ρ := ρ) (ls := [.ref (lm_B + 20), .ref 0, .ref km, .int i]) (i := 3) rfl (fun q => by cases q))
  refine lv_iinc hC.1 hC.2.1 ld_587 (lm_has_lv h.2.2.2.1) hk0 rfl (by decide) rfl (fun cs' h' => ?_)
  refine lv_goto (tgt := 18) hC.1 hC.2.1 ld_590 (by decide) ?_
  have h2 := lm_has_set1 (v := .int (i + Int32.ofInt 4)) h.2.2.2.1.2.2.1 h' h.2.2.2.2.2.1
  have e2 : lm_set1 [.ref (lm_B + 20), .ref 0, .ref km, .int i] 3 (.int (i + Int32.ofInt 4)) = [.ref (lm_B + 20), .ref 0, .ref km, .int i2] := by rw [← hi]; rfl
  rw [e2] at h2
  refine k ρ H locs cs' ⟨h.1, h.2.1, h.2.2.1, h2, h.2.2.2.2.1, ?_, h.2.2.2.2.2.2⟩ lm_oks_nil
  exact lm_oks_cons.mpr ⟨Or.inr (by show 1000000 ≤ 1000000 + 20; omega), lm_oks_cons.mpr ⟨Or.inl hb.2.2.1, lm_oks_cons.mpr ⟨Or.inl hb.2.2.2.1, lm_oks_cons.mpr ⟨trivial, lm_oks_nil⟩⟩⟩⟩
theorem lg_loop (hC : lm_ctx p s m #[Value.ref b] meth c D cA (fun q : Nat => s.heap.size ≤ q) ρ0 21 false code 4) (hX : va_X b L xs s s.heap) (hbl : b < s.heap.size) (hρ : ρ0 (lm_B + 20) = b) (hr : meth.sig.returnType = ret) (hL : L ≤ 2048) (hA : lp_all km Inv) : ∀ (n j : Nat) (M : lm_M), j ≤ L + 4 → L + 4 - j < n → Inv M → lm_G p l e room_1 s m #[Value.ref b] below meth c (lw_Z below #[Value.ref b] s) D cA (fun q : Nat => s.heap.size ≤ q) ρ0 lp_empty 4 (18) [.ref (lm_B + 20), .ref 0, .ref km, .int (nI j)] ([]) (M) := by
  intro n
  induction n with
  | zero => intro j M _ h; omega
  | succ n ih =>
    intro j M hj hn hI
    have hb := hA.1 M hI
    refine lg_il hC ld_18 rfl ?_
    refine lg_al hC ld_19 rfl ?_
    refine lg_len hC hX hbl hρ ld_20 ?_
    refine lg_ic hC (x := 4) ld_21 (by decide) ?_
    refine lg_isub hC ld_22 ?_
    have e4 : (Int32.ofNat L - 4).toInt = (L : Int) - 4 := pk_sub_toInt (a := L) (b := 4) (by omega) (by omega)
    have ej : (nI j).toInt = (j : Int) := nI_toInt (by omega)
    by_cases hc : Int32.ofNat L - 4 < nI j
    · intro ρ H locs cs h hs
      refine lv_icmp_gt (tgt := 593) hC.1 hC.2.1 ld_23 (by decide) (fun _ => ?_) (fun q => absurd hc q)
      refine lv_iconst (v := 1) hC.1 hC.2.1 ld_593 (by decide) ?_
      refine va_forget (fun q hq => h.2.2.1.2.2 q hq) ?_
      refine W.widen (k := 600000) (n := 7302250) ?_ ?_ ?_
      · show M.1.1 - 0 ≤ 600000; omega
      · show M.1.2.1 - 0 ≤ 7302250; omega
      · exact lw_ret hC.1 hC.2.1 hr hC.2.2.2.2.2.2.2.2.2 ld_594
    · have hjl : j + 4 ≤ L := by
        rw [Int32.lt_iff_toInt_lt, e4, ej] at hc
        omega
      have hin : ∀ t : Nat, t < 4 → vp_in (nI j + Int32.ofNat t) L := by
        intro t ht
        have : nI j + Int32.ofNat t = nI (j + t) := nI_add j t
        rw [this]
        exact vp_in_nI (by omega) (by omega)
      have kn : ∀ M2, Inv M2 → lm_G p l e room_1 s m #[Value.ref b] below meth c (lw_Z below #[Value.ref b] s) D cA (fun q : Nat => s.heap.size ≤ q) ρ0 lp_empty 4 (587) [.ref (lm_B + 20), .ref 0, .ref km, .int (nI j)] ([]) (M2) := fun M2 hI2 => lg_go hC hA hI2 (nI (j + 4)) (nI_add j 4) (ih (j + 4) M2 (by omega) (by omega) hI2)
      have hsw : lm_G p l e room_1 s m #[Value.ref b] below meth c (lw_Z below #[Value.ref b] s) D cA (fun q : Nat => s.heap.size ≤ q) ρ0 lp_empty 4 (26) [.ref (lm_B + 20), .ref 0, .ref km, .int (nI j)] ([]) (M) := by
        refine lg_al hC ld_26 rfl ?_
        refine lg_il hC ld_27 rfl ?_
        refine lg_scr hC hX hbl hρ (vp_in_nI (by omega) (by omega)) ld_28 ?_
        refine lg_bi hC (x := 31) ld_29 (by decide) ?_
        refine lg_iand hC ld_31 ?_
        obtain ⟨t, ht, et⟩ := pk_andE (xs (nI j).toNatClampNeg) (m := 31) 5 (by decide)
        rw [et]
        have ht : t < 32 := ht
        have e5 : (nI t).toInt = (t : Int) := nI_toInt (by omega)
        by_cases h17 : 17 ≤ t
        · exact fun ρ H locs cs h hs => lv_tableOut (tgt := 587) hC.1 hC.2.1 ld_32 (Or.inr (by rw [e5]; omega)) (by decide) (kn M hI ρ H locs cs h (lm_okd hs))
        · rcases (show t = 0 ∨ t = 1 ∨ t = 2 ∨ t = 3 ∨ t = 4 ∨ t = 5 ∨ t = 6 ∨ t = 7 ∨ t = 8 ∨ t = 9 ∨ t = 10 ∨ t = 11 ∨ t = 12 ∨ t = 13 ∨ t = 14 ∨ t = 15 ∨ t = 16 by omega) with rfl | rfl | rfl | rfl | rfl | rfl | rfl | rfl | rfl | rfl | rfl | rfl | rfl | rfl | rfl | rfl | rfl
          · exact fun ρ H locs cs h hs => lv_tableIn (off := 84) (tgt := 116) hC.1 hC.2.1 ld_32 (by rw [e5]; omega) (by rw [e5]; omega) (by rw [e5]; rfl) (by decide) (lg_case0 hC hX hbl hρ hA.1 hin hI (hA.2.2.1) kn ρ H locs cs h (lm_okd hs))
          · exact fun ρ H locs cs h hs => lv_tableIn (off := 147) (tgt := 179) hC.1 hC.2.1 ld_32 (by rw [e5]; omega) (by rw [e5]; omega) (by rw [e5]; rfl) (by decide) (lg_case1 hC hX hbl hρ hA.1 hin hI (hA.2.2.2.1) kn ρ H locs cs h (lm_okd hs))
          · exact fun ρ H locs cs h hs => lv_tableIn (off := 160) (tgt := 192) hC.1 hC.2.1 ld_32 (by rw [e5]; omega) (by rw [e5]; omega) (by rw [e5]; rfl) (by decide) (lg_case2 hC hX hbl hρ hA.1 hin hI (hA.2.2.2.2.1) kn ρ H locs cs h (lm_okd hs))
          · exact fun ρ H locs cs h hs => lv_tableIn (off := 183) (tgt := 215) hC.1 hC.2.1 ld_32 (by rw [e5]; omega) (by rw [e5]; omega) (by rw [e5]; rfl) (by decide) (lg_case3 hC hX hbl hρ hA.1 hin hI (hA.2.2.2.2.2.1) kn ρ H locs cs h (lm_okd hs))
          · exact fun ρ H locs cs h hs => lv_tableIn (off := 216) (tgt := 248) hC.1 hC.2.1 ld_32 (by rw [e5]; omega) (by rw [e5]; omega) (by rw [e5]; rfl) (by decide) (lg_case4 hC hX hbl hρ hA.1 hin hI (hA.2.2.2.2.2.2.1) kn ρ H locs cs h (lm_okd hs))
          · exact fun ρ H locs cs h hs => lv_tableIn (off := 239) (tgt := 271) hC.1 hC.2.1 ld_32 (by rw [e5]; omega) (by rw [e5]; omega) (by rw [e5]; rfl) (by decide) (lg_case5 hC hX hbl hρ hA.1 hin hI (hA.2.2.2.2.2.2.2.1) kn ρ H locs cs h (lm_okd hs))
          · exact fun ρ H locs cs h hs => lv_tableIn (off := 252) (tgt := 284) hC.1 hC.2.1 ld_32 (by rw [e5]; omega) (by rw [e5]; omega) (by rw [e5]; rfl) (by decide) (lg_case6 hC hX hbl hρ hA.1 hin hI (hA.2.2.2.2.2.2.2.2.1) kn ρ H locs cs h (lm_okd hs))
          · exact fun ρ H locs cs h hs => lv_tableIn (off := 285) (tgt := 317) hC.1 hC.2.1 ld_32 (by rw [e5]; omega) (by rw [e5]; omega) (by rw [e5]; rfl) (by decide) (lg_case7 hC hX hbl hρ hA.1 hin hI (hA.2.2.2.2.2.2.2.2.2.1) kn ρ H locs cs h (lm_okd hs))
          · exact fun ρ H locs cs h hs => lv_tableIn (off := 308) (tgt := 340) hC.1 hC.2.1 ld_32 (by rw [e5]; omega) (by rw [e5]; omega) (by rw [e5]; rfl) (by decide) (lg_case8 hC hX hbl hρ hA.1 hin hI (hA.2.2.2.2.2.2.2.2.2.2.1) kn ρ H locs cs h (lm_okd hs))
          · exact fun ρ H locs cs h hs => lv_tableIn (off := 341) (tgt := 373) hC.1 hC.2.1 ld_32 (by rw [e5]; omega) (by rw [e5]; omega) (by rw [e5]; rfl) (by decide) (lg_case9 hC hX hbl hρ hA.1 hin hI (hA.2.2.2.2.2.2.2.2.2.2.2.1) kn ρ H locs cs h (lm_okd hs))
          · exact fun ρ H locs cs h hs => lv_tableIn (off := 374) (tgt := 406) hC.1 hC.2.1 ld_32 (by rw [e5]; omega) (by rw [e5]; omega) (by rw [e5]; rfl) (by decide) (lg_case10 hC hX hbl hρ hA.1 hin hI (hA.2.2.2.2.2.2.2.2.2.2.2.2.1) kn ρ H locs cs h (lm_okd hs))
          · exact fun ρ H locs cs h hs => lv_tableIn (off := 397) (tgt := 429) hC.1 hC.2.1 ld_32 (by rw [e5]; omega) (by rw [e5]; omega) (by rw [e5]; rfl) (by decide) (lg_case11 hC hX hbl hρ hA.1 hin hI (hA.2.2.2.2.2.2.2.2.2.2.2.2.2.1) kn ρ H locs cs h (lm_okd hs))
          · exact fun ρ H locs cs h hs => lv_tableIn (off := 420) (tgt := 452) hC.1 hC.2.1 ld_32 (by rw [e5]; omega) (by rw [e5]; omega) (by rw [e5]; rfl) (by decide) (lg_case12 hC hX hbl hρ hA.1 hin hI (hA.2.2.2.2.2.2.2.2.2.2.2.2.2.2.1) kn ρ H locs cs h (lm_okd hs))
          · exact fun ρ H locs cs h hs => lv_tableIn (off := 453) (tgt := 485) hC.1 hC.2.1 ld_32 (by rw [e5]; omega) (by rw [e5]; omega) (by rw [e5]; rfl) (by decide) (lg_case13 hC hX hbl hρ hA.1 hin hI (hA.2.2.2.2.2.2.2.2.2.2.2.2.2.2.2.1) kn ρ H locs cs h (lm_okd hs))
          · exact fun ρ H locs cs h hs => lv_tableIn (off := 466) (tgt := 498) hC.1 hC.2.1 ld_32 (by rw [e5]; omega) (by rw [e5]; omega) (by rw [e5]; rfl) (by decide) (lg_case14 hC hX hbl hρ hA.1 hin hI (hA.2.2.2.2.2.2.2.2.2.2.2.2.2.2.2.2.1) kn ρ H locs cs h (lm_okd hs))
          · exact fun ρ H locs cs h hs => lv_tableIn (off := 499) (tgt := 531) hC.1 hC.2.1 ld_32 (by rw [e5]; omega) (by rw [e5]; omega) (by rw [e5]; rfl) (by decide) (lg_case15 hC hX hbl hρ hA.1 hin hI (hA.2.2.2.2.2.2.2.2.2.2.2.2.2.2.2.2.2.1) kn ρ H locs cs h (lm_okd hs))
          · exact fun ρ H locs cs h hs => lv_tableIn (off := 532) (tgt := 564) hC.1 hC.2.1 ld_32 (by rw [e5]; omega) (by rw [e5]; omega) (by rw [e5]; rfl) (by decide) (lg_case16 hC hX hbl hρ hA.1 hin hI (hA.2.2.2.2.2.2.2.2.2.2.2.2.2.2.2.2.2.2) kn ρ H locs cs h (lm_okd hs))
      exact fun ρ H locs cs h hs => lv_icmp_gt (tgt := 593) hC.1 hC.2.1 ld_23 (by decide) (fun q => absurd q hc) (fun _ => hsw ρ H locs cs h (lm_okd (lm_okd hs)))
end LAW
