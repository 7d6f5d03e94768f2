/-! ===== the simulation: String.length and String.charAt of the constants (their seven methods, by the kit's rows) ===== -/
def ls_y_coder : MethodName := ⟨"java/lang/String", "coder", "()B"⟩
abbrev ls_b_coder : ByteArray := prog_13_method_152_code
theorem ls_cw_coder : Cond.code ls_y_coder ls_b_coder 1 (some .byte) ∈ lw_tbl := List.mem_of_getElem? (i := 331) (by rfl)
def ls_ws_coder : List Cond := .code ls_y_coder ls_b_coder 1 (some .byte) :: lm_good
theorem ls_g_coder : GoodIn lm_good ls_ws_coder := by
  intro w hw
  rcases List.mem_cons.mp hw with rfl | hw
  · exact ⟨List.mem_filter.mpr ⟨ls_cw_coder, rfl⟩, Or.inl rfl⟩
  · exact ⟨hw, good_of_word (List.mem_filter.mp hw).2⟩
theorem ls_d_coder_0 : decode ls_b_coder 0 = .ok (.getstatic 38, 3) := by decide +kernel
theorem ls_d_coder_3 : decode ls_b_coder 3 = .ok (.ifCond .eq 10, 3) := by decide +kernel
theorem ls_d_coder_6 : decode ls_b_coder 6 = .ok (.aload_n 0, 1) := by decide +kernel
theorem ls_d_coder_7 : decode ls_b_coder 7 = .ok (.getfield 15, 3) := by decide +kernel
theorem ls_d_coder_10 : decode ls_b_coder 10 = .ok (.goto 4, 3) := by decide +kernel
theorem ls_d_coder_13 : decode ls_b_coder 13 = .ok (.iconst 1, 1) := by decide +kernel
theorem ls_d_coder_14 : decode ls_b_coder 14 = .ok (.ireturn, 1) := by decide +kernel
def ls_y_isLatin1 : MethodName := ⟨"java/lang/String", "isLatin1", "()Z"⟩
abbrev ls_b_isLatin1 : ByteArray := prog_13_method_154_code
theorem ls_cw_isLatin1 : Cond.code ls_y_isLatin1 ls_b_isLatin1 1 (some .boolean) ∈ lw_tbl := List.mem_of_getElem? (i := 341) (by rfl)
def ls_ws_isLatin1 : List Cond := .code ls_y_isLatin1 ls_b_isLatin1 1 (some .boolean) :: lm_good
theorem ls_g_isLatin1 : GoodIn lm_good ls_ws_isLatin1 := by
  intro w hw
  rcases List.mem_cons.mp hw with rfl | hw
  · exact ⟨List.mem_filter.mpr ⟨ls_cw_isLatin1, rfl⟩, Or.inl rfl⟩
  · exact ⟨hw, good_of_word (List.mem_filter.mp hw).2⟩
theorem ls_d_isLatin1_0 : decode ls_b_isLatin1 0 = .ok (.getstatic 38, 3) := by decide +kernel
theorem ls_d_isLatin1_3 : decode ls_b_isLatin1 3 = .ok (.ifCond .eq 14, 3) := by decide +kernel
theorem ls_d_isLatin1_6 : decode ls_b_isLatin1 6 = .ok (.aload_n 0, 1) := by decide +kernel
theorem ls_d_isLatin1_7 : decode ls_b_isLatin1 7 = .ok (.getfield 15, 3) := by decide +kernel
theorem ls_d_isLatin1_10 : decode ls_b_isLatin1 10 = .ok (.ifCond .ne 7, 3) := by decide +kernel
theorem ls_d_isLatin1_13 : decode ls_b_isLatin1 13 = .ok (.iconst 1, 1) := by decide +kernel
theorem ls_d_isLatin1_14 : decode ls_b_isLatin1 14 = .ok (.goto 4, 3) := by decide +kernel
theorem ls_d_isLatin1_17 : decode ls_b_isLatin1 17 = .ok (.iconst 0, 1) := by decide +kernel
theorem ls_d_isLatin1_18 : decode ls_b_isLatin1 18 = .ok (.ireturn, 1) := by decide +kernel
def ls_y_length : MethodName := ⟨"java/lang/String", "length", "()I"⟩
abbrev ls_b_length : ByteArray := prog_13_method_54_code
theorem ls_cw_length : Cond.code ls_y_length ls_b_length 1 (some .int) ∈ lw_tbl := List.mem_of_getElem? (i := 327) (by rfl)
def ls_ws_length : List Cond := .code ls_y_length ls_b_length 1 (some .int) :: lm_good
theorem ls_g_length : GoodIn lm_good ls_ws_length := by
  intro w hw
  rcases List.mem_cons.mp hw with rfl | hw
  · exact ⟨List.mem_filter.mpr ⟨ls_cw_length, rfl⟩, Or.inl rfl⟩
  · exact ⟨hw, good_of_word (List.mem_filter.mp hw).2⟩
theorem ls_d_length_0 : decode ls_b_length 0 = .ok (.aload_n 0, 1) := by decide +kernel
theorem ls_d_length_1 : decode ls_b_length 1 = .ok (.getfield 9, 3) := by decide +kernel
theorem ls_d_length_4 : decode ls_b_length 4 = .ok (.arraylength, 1) := by decide +kernel
theorem ls_d_length_5 : decode ls_b_length 5 = .ok (.aload_n 0, 1) := by decide +kernel
theorem ls_d_length_6 : decode ls_b_length 6 = .ok (.invokevirtual 335, 3) := by decide +kernel
theorem ls_d_length_9 : decode ls_b_length 9 = .ok (.ishr, 1) := by decide +kernel
theorem ls_d_length_10 : decode ls_b_length 10 = .ok (.ireturn, 1) := by decide +kernel
def ls_y_chk0 : MethodName := ⟨"jdk/internal/util/Preconditions", "checkIndex", "(IILjava/util/function/BiFunction;)I"⟩
abbrev ls_b_chk0 : ByteArray := prog_18_method_11_code
theorem ls_cw_chk0 : Cond.code ls_y_chk0 ls_b_chk0 3 (some .int) ∈ lw_tbl := List.mem_of_getElem? (i := 352) (by rfl)
def ls_ws_chk0 : List Cond := .code ls_y_chk0 ls_b_chk0 3 (some .int) :: lm_good
theorem ls_g_chk0 : GoodIn lm_good ls_ws_chk0 := by
  intro w hw
  rcases List.mem_cons.mp hw with rfl | hw
  · exact ⟨List.mem_filter.mpr ⟨ls_cw_chk0, rfl⟩, Or.inl rfl⟩
  · exact ⟨hw, good_of_word (List.mem_filter.mp hw).2⟩
theorem ls_d_chk0_0 : decode ls_b_chk0 0 = .ok (.iload_n 0, 1) := by decide +kernel
theorem ls_d_chk0_1 : decode ls_b_chk0 1 = .ok (.ifCond .lt 8, 3) := by decide +kernel
theorem ls_d_chk0_4 : decode ls_b_chk0 4 = .ok (.iload_n 0, 1) := by decide +kernel
theorem ls_d_chk0_5 : decode ls_b_chk0 5 = .ok (.iload_n 1, 1) := by decide +kernel
theorem ls_d_chk0_6 : decode ls_b_chk0 6 = .ok (.if_icmp .lt 10, 3) := by decide +kernel
theorem ls_d_chk0_9 : decode ls_b_chk0 9 = .ok (.aload_n 2, 1) := by decide +kernel
theorem ls_d_chk0_10 : decode ls_b_chk0 10 = .ok (.iload_n 0, 1) := by decide +kernel
theorem ls_d_chk0_11 : decode ls_b_chk0 11 = .ok (.iload_n 1, 1) := by decide +kernel
theorem ls_d_chk0_12 : decode ls_b_chk0 12 = .ok (.invokestatic 95, 3) := by decide +kernel
theorem ls_d_chk0_15 : decode ls_b_chk0 15 = .ok (.athrow, 1) := by decide +kernel
theorem ls_d_chk0_16 : decode ls_b_chk0 16 = .ok (.iload_n 0, 1) := by decide +kernel
theorem ls_d_chk0_17 : decode ls_b_chk0 17 = .ok (.ireturn, 1) := by decide +kernel
def ls_y_chk1 : MethodName := ⟨"java/lang/String", "checkIndex", "(II)V"⟩
abbrev ls_b_chk1 : ByteArray := prog_13_method_155_code
theorem ls_cw_chk1 : Cond.code ls_y_chk1 ls_b_chk1 2 none ∈ lw_tbl := List.mem_of_getElem? (i := 347) (by rfl)
def ls_ws_chk1 : List Cond := .code ls_y_chk1 ls_b_chk1 2 none :: lm_good
theorem ls_g_chk1 : GoodIn lm_good ls_ws_chk1 := by
  intro w hw
  rcases List.mem_cons.mp hw with rfl | hw
  · exact ⟨List.mem_filter.mpr ⟨ls_cw_chk1, rfl⟩, Or.inl rfl⟩
  · exact ⟨hw, good_of_word (List.mem_filter.mp hw).2⟩
theorem ls_d_chk1_0 : decode ls_b_chk1 0 = .ok (.iload_n 0, 1) := by decide +kernel
theorem ls_d_chk1_1 : decode ls_b_chk1 1 = .ok (.iload_n 1, 1) := by decide +kernel
theorem ls_d_chk1_2 : decode ls_b_chk1 2 = .ok (.getstatic 1053, 3) := by decide +kernel
theorem ls_d_chk1_5 : decode ls_b_chk1 5 = .ok (.invokestatic 1059, 3) := by decide +kernel
theorem ls_d_chk1_8 : decode ls_b_chk1 8 = .ok (.pop, 1) := by decide +kernel
theorem ls_d_chk1_9 : decode ls_b_chk1 9 = .ok (.return_, 1) := by decide +kernel
def ls_y_lat : MethodName := ⟨"java/lang/StringLatin1", "charAt", "([BI)C"⟩
abbrev ls_b_lat : ByteArray := prog_14_method_2_code
theorem ls_cw_lat : Cond.code ls_y_lat ls_b_lat 2 (some .char) ∈ lw_tbl := List.mem_of_getElem? (i := 344) (by rfl)
def ls_ws_lat : List Cond := .code ls_y_lat ls_b_lat 2 (some .char) :: lm_good
theorem ls_g_lat : GoodIn lm_good ls_ws_lat := by
  intro w hw
  rcases List.mem_cons.mp hw with rfl | hw
  · exact ⟨List.mem_filter.mpr ⟨ls_cw_lat, rfl⟩, Or.inl rfl⟩
  · exact ⟨hw, good_of_word (List.mem_filter.mp hw).2⟩
theorem ls_d_lat_0 : decode ls_b_lat 0 = .ok (.iload_n 1, 1) := by decide +kernel
theorem ls_d_lat_1 : decode ls_b_lat 1 = .ok (.aload_n 0, 1) := by decide +kernel
theorem ls_d_lat_2 : decode ls_b_lat 2 = .ok (.arraylength, 1) := by decide +kernel
theorem ls_d_lat_3 : decode ls_b_lat 3 = .ok (.invokestatic 9, 3) := by decide +kernel
theorem ls_d_lat_6 : decode ls_b_lat 6 = .ok (.aload_n 0, 1) := by decide +kernel
theorem ls_d_lat_7 : decode ls_b_lat 7 = .ok (.iload_n 1, 1) := by decide +kernel
theorem ls_d_lat_8 : decode ls_b_lat 8 = .ok (.baload, 1) := by decide +kernel
theorem ls_d_lat_9 : decode ls_b_lat 9 = .ok (.sipush 255, 3) := by decide +kernel
theorem ls_d_lat_12 : decode ls_b_lat 12 = .ok (.iand, 1) := by decide +kernel
theorem ls_d_lat_13 : decode ls_b_lat 13 = .ok (.i2c, 1) := by decide +kernel
theorem ls_d_lat_14 : decode ls_b_lat 14 = .ok (.ireturn, 1) := by decide +kernel
def ls_y_charAt : MethodName := ⟨"java/lang/String", "charAt", "(I)C"⟩
abbrev ls_b_charAt : ByteArray := prog_13_method_56_code
theorem ls_cw_charAt : Cond.code ls_y_charAt ls_b_charAt 2 (some .char) ∈ lw_tbl := List.mem_of_getElem? (i := 337) (by rfl)
def ls_ws_charAt : List Cond := .code ls_y_charAt ls_b_charAt 2 (some .char) :: lm_good
theorem ls_g_charAt : GoodIn lm_good ls_ws_charAt := by
  intro w hw
  rcases List.mem_cons.mp hw with rfl | hw
  · exact ⟨List.mem_filter.mpr ⟨ls_cw_charAt, rfl⟩, Or.inl rfl⟩
  · exact ⟨hw, good_of_word (List.mem_filter.mp hw).2⟩
theorem ls_d_charAt_0 : decode ls_b_charAt 0 = .ok (.aload_n 0, 1) := by decide +kernel
theorem ls_d_charAt_1 : decode ls_b_charAt 1 = .ok (.invokevirtual 492, 3) := by decide +kernel
theorem ls_d_charAt_4 : decode ls_b_charAt 4 = .ok (.ifCond .eq 12, 3) := by decide +kernel
theorem ls_d_charAt_7 : decode ls_b_charAt 7 = .ok (.aload_n 0, 1) := by decide +kernel
theorem ls_d_charAt_8 : decode ls_b_charAt 8 = .ok (.getfield 9, 3) := by decide +kernel
theorem ls_d_charAt_11 : decode ls_b_charAt 11 = .ok (.iload_n 1, 1) := by decide +kernel
theorem ls_d_charAt_12 : decode ls_b_charAt 12 = .ok (.invokestatic 495, 3) := by decide +kernel
theorem ls_d_charAt_15 : decode ls_b_charAt 15 = .ok (.ireturn, 1) := by decide +kernel
theorem ls_d_charAt_16 : decode ls_b_charAt 16 = .ok (.aload_n 0, 1) := by decide +kernel
theorem ls_d_charAt_17 : decode ls_b_charAt 17 = .ok (.getfield 9, 3) := by decide +kernel
theorem ls_d_charAt_20 : decode ls_b_charAt 20 = .ok (.iload_n 1, 1) := by decide +kernel
theorem ls_d_charAt_21 : decode ls_b_charAt 21 = .ok (.invokestatic 498, 3) := by decide +kernel
theorem ls_d_charAt_24 : decode ls_b_charAt 24 = .ok (.ireturn, 1) := by decide +kernel
theorem ls_w_cs : Cond.fieldLink "java/lang/String" 38 "java/lang/String" "COMPACT_STRINGS" "Z" ∈ lm_good := List.mem_filter.mpr ⟨List.mem_of_getElem? (i := 332) (by decide +kernel), rfl⟩
theorem ls_w_co : Cond.fieldLink "java/lang/String" 15 "java/lang/String" "coder" "B" ∈ lm_good := List.mem_filter.mpr ⟨List.mem_of_getElem? (i := 1871) (by decide +kernel), rfl⟩
theorem ls_w_va : Cond.fieldLink "java/lang/String" 9 "java/lang/String" "value" "[B" ∈ lm_good := List.mem_filter.mpr ⟨List.mem_of_getElem? (i := 1870) (by decide +kernel), rfl⟩
theorem ls_w_fo : Cond.fieldLink "java/lang/String" 1053 "jdk/internal/util/Preconditions" "SIOOBE_FORMATTER" "Ljava/util/function/BiFunction;" ∈ lm_good := List.mem_filter.mpr ⟨List.mem_of_getElem? (i := 348) (by decide +kernel), rfl⟩
theorem ls_w_m_coder : Cond.methodLink "java/lang/String" 335 ls_y_coder ∈ lm_good := List.mem_filter.mpr ⟨List.mem_of_getElem? (i := 328) (by decide +kernel), rfl⟩
theorem ls_w_m_isLatin1 : Cond.methodLink "java/lang/String" 492 ls_y_isLatin1 ∈ lm_good := List.mem_filter.mpr ⟨List.mem_of_getElem? (i := 338) (by decide +kernel), rfl⟩
theorem ls_w_m_lat : Cond.methodLink "java/lang/String" 495 ls_y_lat ∈ lm_good := List.mem_filter.mpr ⟨List.mem_of_getElem? (i := 342) (by decide +kernel), rfl⟩
theorem ls_w_m_chk1 : Cond.methodLink "java/lang/StringLatin1" 9 ls_y_chk1 ∈ lm_good := List.mem_filter.mpr ⟨List.mem_of_getElem? (i := 345) (by decide +kernel), rfl⟩
theorem ls_w_m_chk0 : Cond.methodLink "java/lang/String" 1059 ls_y_chk0 ∈ lm_good := List.mem_filter.mpr ⟨List.mem_of_getElem? (i := 350) (by decide +kernel), rfl⟩
theorem ls_w_i_coder : Cond.instanceMethod ls_y_coder ∈ lm_good := List.mem_filter.mpr ⟨List.mem_of_getElem? (i := 329) (by decide +kernel), rfl⟩
theorem ls_w_s_coder : Cond.selects "java/lang/String" ls_y_coder ls_y_coder ∈ lm_good := List.mem_filter.mpr ⟨List.mem_of_getElem? (i := 330) (by decide +kernel), rfl⟩
theorem ls_w_i_isLatin1 : Cond.instanceMethod ls_y_isLatin1 ∈ lm_good := List.mem_filter.mpr ⟨List.mem_of_getElem? (i := 339) (by decide +kernel), rfl⟩
theorem ls_w_s_isLatin1 : Cond.selects "java/lang/String" ls_y_isLatin1 ls_y_isLatin1 ∈ lm_good := List.mem_filter.mpr ⟨List.mem_of_getElem? (i := 340) (by decide +kernel), rfl⟩
theorem ls_w_i_length : Cond.instanceMethod ls_y_length ∈ lm_good := List.mem_filter.mpr ⟨List.mem_of_getElem? (i := 325) (by decide +kernel), rfl⟩
theorem ls_w_s_length : Cond.selects "java/lang/String" ls_y_length ls_y_length ∈ lm_good := List.mem_filter.mpr ⟨List.mem_of_getElem? (i := 326) (by decide +kernel), rfl⟩
theorem ls_w_i_charAt : Cond.instanceMethod ls_y_charAt ∈ lm_good := List.mem_filter.mpr ⟨List.mem_of_getElem? (i := 335) (by decide +kernel), rfl⟩
theorem ls_w_s_charAt : Cond.selects "java/lang/String" ls_y_charAt ls_y_charAt ∈ lm_good := List.mem_filter.mpr ⟨List.mem_of_getElem? (i := 336) (by decide +kernel), rfl⟩
theorem ls_w_t_lat : Cond.static ls_y_lat ∈ lm_good := List.mem_filter.mpr ⟨List.mem_of_getElem? (i := 343) (by decide +kernel), rfl⟩
theorem ls_w_t_chk0 : Cond.static ls_y_chk0 ∈ lm_good := List.mem_filter.mpr ⟨List.mem_of_getElem? (i := 351) (by decide +kernel), rfl⟩
theorem ls_w_t_chk1 : Cond.static ls_y_chk1 ∈ lm_good := List.mem_filter.mpr ⟨List.mem_of_getElem? (i := 346) (by decide +kernel), rfl⟩
theorem ls_w_n_str : Cond.initialized "java/lang/String" ∈ lm_good := List.mem_filter.mpr ⟨List.mem_of_getElem? (i := 178) (by decide +kernel), rfl⟩
theorem ls_w_n_latin : Cond.initialized "java/lang/StringLatin1" ∈ lm_good := List.mem_filter.mpr ⟨List.mem_of_getElem? (i := 179) (by decide +kernel), rfl⟩
theorem ls_w_n_pre : Cond.initialized "jdk/internal/util/Preconditions" ∈ lm_good := List.mem_filter.mpr ⟨List.mem_of_getElem? (i := 180) (by decide +kernel), rfl⟩
abbrev ls_F : Nat → Prop := fun _ => False
/-- a String constant's cells, and the statics that are read -/
def ls_Y (q v n : Nat) (bs : List Int32) (U : State) : Prop := va_O "java/lang/String" q ls_F U U.heap ∧ va_OF "java/lang/String" "coder" "B" (.int 0) q ls_F U U.heap ∧ va_OF "java/lang/String" "value" "[B" (.ref v) q ls_F U U.heap ∧ va_T .byte v n (fun j => .int (bs.getD j 0)) ls_F U U.heap ∧ va_Z "java/lang/String" "COMPACT_STRINGS" "Z" (.int 1) ls_F U U.heap ∧ ∃ w : Value, (w = .null ∨ ∃ a, w = .ref a) ∧ va_Z "jdk/internal/util/Preconditions" "SIOOBE_FORMATTER" "Ljava/util/function/BiFunction;" w ls_F U U.heap
theorem ls_Y.moved {q v n : Nat} {bs : List Int32} {u U : State} (hvm : u.vm.Alike U.vm) (hh : U.heap = u.heap) (h : ls_Y q v n bs u) : ls_Y q v n bs U := by
  obtain ⟨h1, h2, h3, h4, h5, w, hw, h6⟩ := h
  unfold ls_Y
  rw [hh]
  exact ⟨h1.moved hvm, h2.moved hvm, h3.moved hvm, h4.moved hvm, h5.moved hvm, w, hw, h6.moved hvm⟩
def ls_rm (k : Nat) : Room := { frames := k, cells := 0, slots := 0, locals := 60 * k }
def ls_P (av : List Value) (q v n : Nat) (bs : List Int32) : Array Value → State → Prop := va_Pc av (ls_Y q v n bs)
theorem ls_blind {av : List Value} {q v n : Nat} {bs : List Int32} : FrameBlind (ls_P av q v n bs) := fun a U g mk h => ⟨h.1, h.2.moved (u := U) (U := U.calling g mk a) (Vm.Alike.refl U.vm) rfl⟩
theorem ls_pre {s U : State} {H : Heap} {av : List Value} {q v n : Nat} {bs : List Int32} (hY : ls_Y q v n bs s) (hH : H = s.heap) (hU : U.heap = H) (hW : s.WarmedH U.vm) : ls_P av q v n bs av.toArray U := ⟨rfl, hY.moved hW.alike (hU.trans hH)⟩
def ls_void : Array Value → State → Outcome → State → Prop := fun _ st o t => o = .returned none ∧ t.heap = st.heap
set_option maxHeartbeats 1000000 in
/-- String.coder(): 0 -/
theorem ls_c_coder (l : Launch) (q v n : Nat) (bs : List Int32) : Met l ls_y_coder ls_ws_coder (ls_rm 1) (ls_P ([.ref q]) q v n bs) (QcRead 0) 0 0 ls_F := by
  refine Met.ofW (cc := ls_b_coder) (maxL := 1) (ret := (some .byte)) (by decide) rfl ?_
  intro p e s m args below meth c s₁ B hml hv
  obtain ⟨rfl, hY⟩ := hv
  have hx := B.exec
  have hb := B.bytes
  have hr := B.returns
  have hts : ∀ w ∈ lm_good, w.before _ s = true := fun w h => atoms_spec (ws := ls_ws_coder) B.pre w (List.mem_cons_of_mem _ h)
  have hown : s.vm.findClass "java/lang/String" = some m.cls := findClass_of_methodNamed B.named
  have hlocks := B.notSynchronized
  have hS : va_S ls_F s.heap s.heap [] := va_S.rf
  have hl := lv_entry ([.ref q]) (n := 1) (Nat.le_of_ble_eq_true rfl)
  rw [lg_entry_eq]
  generalize (lg_sl ([.ref q]) ++ List.replicate (1 - (lg_sl ([.ref q])).length) Slot.unset).toArray = ls at hl ⊢
  have hl : lv_has ls 1 [(0, .ref q)] := hl
  refine va_gets hx hb hY.2.2.2.2.1 hS hown (hts _ ls_w_cs) (fun _ z => z) ls_d_coder_0 ?_
  refine lv_if_eq (tgt := 13) hx hb ls_d_coder_3 (by decide) (fun h => by cases h) (fun _ => ?_)
  refine lv_aload_n hx hb ls_d_coder_6 rfl (lv_at hl 0 rfl) ?_
  refine vk_getf hx hb hY.2.1 hS hown (hts _ ls_w_co) (fun _ z => z) ls_d_coder_7 ?_
  refine lv_goto (tgt := 14) hx hb ls_d_coder_10 (by decide) ?_
  exact W.zret hx hb hr rfl (fun t ht hW => ⟨rfl, ht⟩) (fun _ h => by cases h) ls_d_coder_14
set_option maxHeartbeats 1000000 in
/-- String.isLatin1(): true -/
theorem ls_c_isLatin1 (l : Launch) (q v n : Nat) (bs : List Int32) : Met l ls_y_isLatin1 ls_ws_isLatin1 (ls_rm 1) (ls_P ([.ref q]) q v n bs) (QcRead 1) 0 0 ls_F := by
  refine Met.ofW (cc := ls_b_isLatin1) (maxL := 1) (ret := (some .boolean)) (by decide) rfl ?_
  intro p e s m args below meth c s₁ B hml hv
  obtain ⟨rfl, hY⟩ := hv
  have hx := B.exec
  have hb := B.bytes
  have hr := B.returns
  have hts : ∀ w ∈ lm_good, w.before _ s = true := fun w h => atoms_spec (ws := ls_ws_isLatin1) B.pre w (List.mem_cons_of_mem _ h)
  have hown : s.vm.findClass "java/lang/String" = some m.cls := findClass_of_methodNamed B.named
  have hlocks := B.notSynchronized
  have hS : va_S ls_F s.heap s.heap [] := va_S.rf
  have hl := lv_entry ([.ref q]) (n := 1) (Nat.le_of_ble_eq_true rfl)
  rw [lg_entry_eq]
  generalize (lg_sl ([.ref q]) ++ List.replicate (1 - (lg_sl ([.ref q])).length) Slot.unset).toArray = ls at hl ⊢
  have hl : lv_has ls 1 [(0, .ref q)] := hl
  refine va_gets hx hb hY.2.2.2.2.1 hS hown (hts _ ls_w_cs) (fun _ z => z) ls_d_isLatin1_0 ?_
  refine lv_if_eq (tgt := 17) hx hb ls_d_isLatin1_3 (by decide) (fun h => by cases h) (fun _ => ?_)
  refine lv_aload_n hx hb ls_d_isLatin1_6 rfl (lv_at hl 0 rfl) ?_
  refine vk_getf hx hb hY.2.1 hS hown (hts _ ls_w_co) (fun _ z => z) ls_d_isLatin1_7 ?_
  refine lv_if_ne (tgt := 17) hx hb ls_d_isLatin1_10 (by decide) (fun h => absurd rfl h) (fun _ => ?_)
  refine lv_iconst (v := 1) hx hb ls_d_isLatin1_13 (by decide) ?_
  refine lv_goto (tgt := 18) hx hb ls_d_isLatin1_14 (by decide) ?_
  exact W.zret hx hb hr rfl (fun t ht hW => ⟨rfl, ht⟩) (fun _ h => by cases h) ls_d_isLatin1_18
set_option maxHeartbeats 1000000 in
/-- String.length() -/
theorem ls_c_length (l : Launch) (q v n : Nat) (bs : List Int32) : Met l ls_y_length ls_ws_length (ls_rm 2) (ls_P ([.ref q]) q v n bs) (QcRead (Int32.ofNat n)) 0 0 ls_F := by
  refine Met.ofW (cc := ls_b_length) (maxL := 1) (ret := (some .int)) (by decide) rfl ?_
  intro p e s m args below meth c s₁ B hml hv
  obtain ⟨rfl, hY⟩ := hv
  have hx := B.exec
  have hb := B.bytes
  have hr := B.returns
  have hts : ∀ w ∈ lm_good, w.before _ s = true := fun w h => atoms_spec (ws := ls_ws_length) B.pre w (List.mem_cons_of_mem _ h)
  have hown : s.vm.findClass "java/lang/String" = some m.cls := findClass_of_methodNamed B.named
  have hlocks := B.notSynchronized
  have hS : va_S ls_F s.heap s.heap [] := va_S.rf
  have hl := lv_entry ([.ref q]) (n := 1) (Nat.le_of_ble_eq_true rfl)
  rw [lg_entry_eq]
  generalize (lg_sl ([.ref q]) ++ List.replicate (1 - (lg_sl ([.ref q])).length) Slot.unset).toArray = ls at hl ⊢
  have hl : lv_has ls 1 [(0, .ref q)] := hl
  refine lv_aload_n hx hb ls_d_length_0 rfl (lv_at hl 0 rfl) ?_
  refine vk_getf hx hb hY.2.2.1 hS hown (hts _ ls_w_va) (fun _ z => z) ls_d_length_1 ?_
  refine va_tlen hx hb hY.2.2.2.1 hS rfl ls_d_length_4 ?_
  refine lv_aload_n hx hb ls_d_length_5 rfl (lv_at hl 0 rfl) ?_
  refine W.callR (W.runV (C := "java/lang/String") (b := q) (As := []) (rest := [.int (Int32.ofNat n)]) ⟨hx, hb, hml, hown, hts⟩ (ls_c_coder l q v n bs) ⟨callB_of 0 hts ls_g_coder rfl rfl rfl (hts _ ls_w_n_str) (hts _ ls_w_m_coder) (by decide +kernel) ⟨Nat.le_of_ble_eq_true rfl, Nat.le_of_ble_eq_true rfl⟩, hts _ ls_w_i_coder, hts _ ls_w_s_coder⟩ ⟨ls_blind, (by obtain ⟨cell, g1, g2, g3, -⟩ := hY.1; exact ⟨cell, g1, g2, g3⟩), fun U hU hW => ls_pre hY rfl hU hW⟩ rfl rfl hl.1 rfl (lv_room (Nat.le_of_ble_eq_true rfl)) ls_d_length_6 ⟨Nat.le_of_ble_eq_true rfl, Nat.le_of_ble_eq_true rfl⟩) ?_
  refine lv_ishr hx hb ls_d_length_9 ?_
  rw [sb_shr0]
  exact W.zret hx hb hr rfl (fun t ht hW => ⟨rfl, ht⟩) (fun _ h => by cases h) ls_d_length_10
set_option maxHeartbeats 1000000 in
/-- Preconditions.checkIndex of an index within -/
theorem ls_c_chk0 (l : Launch) (q v n : Nat) (bs : List Int32) (x y : Int32) (w : Value) (hx0 : ¬ x < 0) (hxy : x < y) (hw : w = .null ∨ ∃ a, w = .ref a) : Met l ls_y_chk0 ls_ws_chk0 (ls_rm 1) (ls_P ([.int x, .int y, w]) q v n bs) (QcRead x) 0 0 ls_F := by
  refine Met.ofW (cc := ls_b_chk0) (maxL := 3) (ret := (some .int)) (by decide) rfl ?_
  intro p e s m args below meth c s₁ B hml hv
  obtain ⟨rfl, hY⟩ := hv
  have hx := B.exec
  have hb := B.bytes
  have hr := B.returns
  have hts : ∀ w ∈ lm_good, w.before _ s = true := fun w h => atoms_spec (ws := ls_ws_chk0) B.pre w (List.mem_cons_of_mem _ h)
  have hown : s.vm.findClass "jdk/internal/util/Preconditions" = some m.cls := findClass_of_methodNamed B.named
  have hlocks := B.notSynchronized
  have hS : va_S ls_F s.heap s.heap [] := va_S.rf
  have hl := lv_entry ([.int x, .int y, w]) (n := 3) (by rcases hw with rfl | ⟨a, rfl⟩ <;> exact Nat.le_of_ble_eq_true rfl)
  rw [lg_entry_eq]
  generalize (lg_sl ([.int x, .int y, w]) ++ List.replicate (3 - (lg_sl ([.int x, .int y, w])).length) Slot.unset).toArray = ls at hl ⊢
  have hl : lv_has ls 3 [(0, .int x), (1, .int y), (2, w)] := hl
  refine lv_iload_n hx hb ls_d_chk0_0 rfl (lv_at hl 0 rfl) ?_
  refine lv_if_lt (tgt := 9) hx hb ls_d_chk0_1 (by decide) (fun h => absurd h hx0) (fun _ => ?_)
  refine lv_iload_n hx hb ls_d_chk0_4 rfl (lv_at hl 0 rfl) ?_
  refine lv_iload_n hx hb ls_d_chk0_5 rfl (lv_at hl 1 rfl) ?_
  refine lv_icmp_lt (tgt := 16) hx hb ls_d_chk0_6 (by decide) (fun _ => ?_) (fun h => absurd hxy h)
  refine lv_iload_n hx hb ls_d_chk0_16 rfl (lv_at hl 0 rfl) ?_
  exact W.zret hx hb hr rfl (fun t ht hW => ⟨rfl, ht⟩) (fun _ h => by cases h) ls_d_chk0_17
set_option maxHeartbeats 1000000 in
/-- String.checkIndex of an index within -/
theorem ls_c_chk1 (l : Launch) (q v n : Nat) (bs : List Int32) (x y : Int32) (hx0 : ¬ x < 0) (hxy : x < y) : Met l ls_y_chk1 ls_ws_chk1 (ls_rm 2) (ls_P ([.int x, .int y]) q v n bs) (ls_void) 0 0 ls_F := by
  refine Met.ofW (cc := ls_b_chk1) (maxL := 2) (ret := none) (by decide) rfl ?_
  intro p e s m args below meth c s₁ B hml hv
  obtain ⟨rfl, hY⟩ := hv
  have hx := B.exec
  have hb := B.bytes
  have hr := B.returns
  have hts : ∀ w ∈ lm_good, w.before _ s = true := fun w h => atoms_spec (ws := ls_ws_chk1) B.pre w (List.mem_cons_of_mem _ h)
  have hown : s.vm.findClass "java/lang/String" = some m.cls := findClass_of_methodNamed B.named
  have hlocks := B.notSynchronized
  have hS : va_S ls_F s.heap s.heap [] := va_S.rf
  have hl := lv_entry ([.int x, .int y]) (n := 2) (Nat.le_of_ble_eq_true rfl)
  rw [lg_entry_eq]
  generalize (lg_sl ([.int x, .int y]) ++ List.replicate (2 - (lg_sl ([.int x, .int y])).length) Slot.unset).toArray = ls at hl ⊢
  have hl : lv_has ls 2 [(0, .int x), (1, .int y)] := hl
  obtain ⟨w, hw, hZ⟩ := hY.2.2.2.2.2
  refine lv_iload_n hx hb ls_d_chk1_0 rfl (lv_at hl 0 rfl) ?_
  refine lv_iload_n hx hb ls_d_chk1_1 rfl (lv_at hl 1 rfl) ?_
  refine va_gets hx hb hZ hS hown (hts _ ls_w_fo) (fun _ z => z) ls_d_chk1_2 ?_
  refine W.callR (W.runS (As := [.int x, .int y, w]) (rest := []) ⟨hx, hb, hml, hown, hts⟩ (ls_c_chk0 l q v n bs x y w hx0 hxy hw) ⟨callB_of 3 hts ls_g_chk0 rfl rfl rfl (hts _ ls_w_n_pre) (hts _ ls_w_m_chk0) (by decide +kernel) ⟨Nat.le_of_ble_eq_true rfl, Nat.le_of_ble_eq_true rfl⟩, hts _ ls_w_t_chk0⟩ ⟨ls_blind, fun U hU hW => ls_pre hY rfl hU hW⟩ rfl rfl hl.1 rfl (lv_room (Nat.le_of_ble_eq_true rfl)) ls_d_chk1_5 ⟨Nat.le_of_ble_eq_true rfl, Nat.le_of_ble_eq_true rfl⟩) ?_
  refine lv_pop hx hb ls_d_chk1_8 rfl ?_
  exact W.vret hx hb hr (fun t ht hW => ⟨rfl, ht⟩) (fun _ h => by cases h) ls_d_chk1_9
set_option maxHeartbeats 1000000 in
/-- StringLatin1.charAt -/
theorem ls_c_lat (l : Launch) (q v n : Nat) (bs : List Int32) (x : Int32) (z : Nat) (hx0 : ¬ x < 0) (hxy : x < Int32.ofNat n) (hin : vp_in x n) (hz : (((bs.getD x.toNatClampNeg 0 &&& 255).toUInt32 % 65536).toInt32) = Int32.ofNat z) (hzn : narrow .char (.int (Int32.ofNat z)) = .int (Int32.ofNat z)) : Met l ls_y_lat ls_ws_lat (ls_rm 3) (ls_P ([.ref v, .int x]) q v n bs) (QcRead (Int32.ofNat z)) 0 0 ls_F := by
  refine Met.ofW (cc := ls_b_lat) (maxL := 2) (ret := (some .char)) (by decide) rfl ?_
  intro p e s m args below meth c s₁ B hml hv
  obtain ⟨rfl, hY⟩ := hv
  have hx := B.exec
  have hb := B.bytes
  have hr := B.returns
  have hts : ∀ w ∈ lm_good, w.before _ s = true := fun w h => atoms_spec (ws := ls_ws_lat) B.pre w (List.mem_cons_of_mem _ h)
  have hown : s.vm.findClass "java/lang/StringLatin1" = some m.cls := findClass_of_methodNamed B.named
  have hlocks := B.notSynchronized
  have hS : va_S ls_F s.heap s.heap [] := va_S.rf
  have hl := lv_entry ([.ref v, .int x]) (n := 2) (Nat.le_of_ble_eq_true rfl)
  rw [lg_entry_eq]
  generalize (lg_sl ([.ref v, .int x]) ++ List.replicate (2 - (lg_sl ([.ref v, .int x])).length) Slot.unset).toArray = ls at hl ⊢
  have hl : lv_has ls 2 [(0, .ref v), (1, .int x)] := hl
  refine lv_iload_n hx hb ls_d_lat_0 rfl (lv_at hl 1 rfl) ?_
  refine lv_aload_n hx hb ls_d_lat_1 rfl (lv_at hl 0 rfl) ?_
  refine va_tlen hx hb hY.2.2.2.1 hS rfl ls_d_lat_2 ?_
  refine W.callX (W.runS (As := [.int x, .int (Int32.ofNat n)]) (rest := []) ⟨hx, hb, hml, hown, hts⟩ (ls_c_chk1 l q v n bs x (Int32.ofNat n) hx0 hxy) ⟨callB_of 2 hts ls_g_chk1 rfl rfl rfl (hts _ ls_w_n_str) (hts _ ls_w_m_chk1) (by decide +kernel) ⟨Nat.le_of_ble_eq_true rfl, Nat.le_of_ble_eq_true rfl⟩, hts _ ls_w_t_chk1⟩ ⟨ls_blind, fun U hU hW => ls_pre hY rfl hU hW⟩ rfl rfl hl.1 rfl (lv_room (Nat.le_of_ble_eq_true rfl)) ls_d_lat_3 ⟨Nat.le_of_ble_eq_true rfl, Nat.le_of_ble_eq_true rfl⟩) (fun _ h => h.elim) (fun vv st₀ t hst hq => ?_)
  obtain ⟨e1, e2⟩ := hq
  cases e1
  rw [show t.heap = s.heap from e2.trans hst]
  refine lv_aload_n hx hb ls_d_lat_6 rfl (lv_at hl 0 rfl) ?_
  refine lv_iload_n hx hb ls_d_lat_7 rfl (lv_at hl 1 rfl) ?_
  refine va_tb hx hb hY.2.2.2.1 hS hin rfl ls_d_lat_8 ?_
  refine lv_sipush (v := 255) hx hb ls_d_lat_9 (by decide) ?_
  refine lv_iand hx hb ls_d_lat_12 ?_
  refine lv_i2c hx hb ls_d_lat_13 hz ?_
  exact W.zret hx hb hr hzn (fun t ht hW => ⟨rfl, ht⟩) (fun _ h => by cases h) ls_d_lat_14
set_option maxHeartbeats 1000000 in
/-- String.charAt -/
theorem ls_c_charAt (l : Launch) (q v n : Nat) (bs : List Int32) (x : Int32) (z : Nat) (hx0 : ¬ x < 0) (hxy : x < Int32.ofNat n) (hin : vp_in x n) (hz : (((bs.getD x.toNatClampNeg 0 &&& 255).toUInt32 % 65536).toInt32) = Int32.ofNat z) (hzn : narrow .char (.int (Int32.ofNat z)) = .int (Int32.ofNat z)) : Met l ls_y_charAt ls_ws_charAt (ls_rm 4) (ls_P ([.ref q, .int x]) q v n bs) (QcRead (Int32.ofNat z)) 0 0 ls_F := by
  refine Met.ofW (cc := ls_b_charAt) (maxL := 2) (ret := (some .char)) (by decide) rfl ?_
  intro p e s m args below meth c s₁ B hml hv
  obtain ⟨rfl, hY⟩ := hv
  have hx := B.exec
  have hb := B.bytes
  have hr := B.returns
  have hts : ∀ w ∈ lm_good, w.before _ s = true := fun w h => atoms_spec (ws := ls_ws_charAt) B.pre w (List.mem_cons_of_mem _ h)
  have hown : s.vm.findClass "java/lang/String" = some m.cls := findClass_of_methodNamed B.named
  have hlocks := B.notSynchronized
  have hS : va_S ls_F s.heap s.heap [] := va_S.rf
  have hl := lv_entry ([.ref q, .int x]) (n := 2) (Nat.le_of_ble_eq_true rfl)
  rw [lg_entry_eq]
  generalize (lg_sl ([.ref q, .int x]) ++ List.replicate (2 - (lg_sl ([.ref q, .int x])).length) Slot.unset).toArray = ls at hl ⊢
  have hl : lv_has ls 2 [(0, .ref q), (1, .int x)] := hl
  refine lv_aload_n hx hb ls_d_charAt_0 rfl (lv_at hl 0 rfl) ?_
  refine W.callR (W.runV (C := "java/lang/String") (b := q) (As := []) (rest := []) ⟨hx, hb, hml, hown, hts⟩ (ls_c_isLatin1 l q v n bs) ⟨callB_of 0 hts ls_g_isLatin1 rfl rfl rfl (hts _ ls_w_n_str) (hts _ ls_w_m_isLatin1) (by decide +kernel) ⟨Nat.le_of_ble_eq_true rfl, Nat.le_of_ble_eq_true rfl⟩, hts _ ls_w_i_isLatin1, hts _ ls_w_s_isLatin1⟩ ⟨ls_blind, (by obtain ⟨cell, g1, g2, g3, -⟩ := hY.1; exact ⟨cell, g1, g2, g3⟩), fun U hU hW => ls_pre hY rfl hU hW⟩ rfl rfl hl.1 rfl (lv_room (Nat.le_of_ble_eq_true rfl)) ls_d_charAt_1 ⟨Nat.le_of_ble_eq_true rfl, Nat.le_of_ble_eq_true rfl⟩) ?_
  refine lv_if_eq (tgt := 16) hx hb ls_d_charAt_4 (by show ((4 : Nat) : Int) + 12 = ((16 : Nat) : Int); decide) (fun h => by cases h) (fun _ => ?_)
  refine lv_aload_n hx hb ls_d_charAt_7 rfl (lv_at hl 0 rfl) ?_
  refine vk_getf hx hb hY.2.2.1 hS hown (hts _ ls_w_va) (fun _ z => z) ls_d_charAt_8 ?_
  refine lv_iload_n hx hb ls_d_charAt_11 rfl (lv_at hl 1 rfl) ?_
  refine W.callR (W.runS (As := [.ref v, .int x]) (rest := []) ⟨hx, hb, hml, hown, hts⟩ (ls_c_lat l q v n bs x z hx0 hxy hin hz hzn) ⟨callB_of 2 hts ls_g_lat rfl rfl rfl (hts _ ls_w_n_latin) (hts _ ls_w_m_lat) (by decide +kernel) ⟨Nat.le_of_ble_eq_true rfl, Nat.le_of_ble_eq_true rfl⟩, hts _ ls_w_t_lat⟩ ⟨ls_blind, fun U hU hW => ls_pre hY rfl hU hW⟩ rfl rfl hl.1 rfl (lv_room (Nat.le_of_ble_eq_true rfl)) ls_d_charAt_12 ⟨Nat.le_of_ble_eq_true rfl, Nat.le_of_ble_eq_true rfl⟩) ?_
  exact W.zret hx hb hr hzn (fun t ht hW => ⟨rfl, ht⟩) (fun _ h => by cases h) ls_d_charAt_15
section LMSTR
variable {p : Program} {l : Launch} {e : Env} {R : Room} {s : State} {m : MethodId} {args : Array Value} {below : List Frame} {meth : Method} {c : Code} {Q : State → Prop} {D : va_G} {cA : Nat → ClassId} {A : Nat → Prop} {ρ0 : Nat → Nat} {M0 : lm_M} {nL cn : Nat} {ini : Bool} {cc : ByteArray}
variable {J : Nat → lm_C} {i raw : Instr} {cd c' : lm_C} {pc pc' n : Nat} {ls ls' st st' : List Value} {M M' : lm_M}
theorem ls_all : lm_str.all (fun t => decide (t.length < 60) && t.all (fun x => decide (x < 128))) = true := by decide +kernel
theorem ls_byte : ∀ z, z < 128 → (((Int32.ofNat z &&& 255).toUInt32 % 65536).toInt32) = Int32.ofNat z ∧ narrow .char (.int (Int32.ofNat z)) = .int (Int32.ofNat z) := by decide +kernel
theorem ls_len {x : Int32} {n : Nat} (hn : n < 60) (h0 : ¬ x < 0) (h : x.toNatClampNeg < n) : x < Int32.ofNat n ∧ vp_in x n := by
  refine ⟨?_, fun q => q.elim h0 (fun q => by omega)⟩
  obtain ⟨j, hj, rfl⟩ := nI_of h0
  rw [nI_clamp hj] at h
  exact nI_lt h (by omega)
/-- String.length and String.charAt of a constant -/
theorem lm_sim_str (hC : lm_ctx p s m args meth c D cA A ρ0 cn ini cc nL) (hR : 8 ≤ R.frames ∧ 480 ≤ R.locals) (hcs : M.1.1 - M0.1.1 ≤ R.cells ∧ M.1.2.1 - M0.1.2.1 ≤ R.slots) (hi : i = .swap ∨ i = .athrow)
    (hdec : decode cc pc = .ok (raw, n)) (hn : lm_n i = 0 ∨ lm_n i = n) (hck : lm_ck cn ini pc raw i = true) (hs : lm_step J i cd ls st M = some (.inl (c', ls', st', M')))
    (kN : cd = c' → lm_G p l e R s m args below meth c Q D cA A ρ0 M0 nL (pc + n) (ls') (st') (M')) : lm_G p l e R s m args below meth c Q D cA A ρ0 M0 nL (pc) (ls) (st) (M) := by
  obtain ⟨hx, hb, hml, hown, hts, hK, hA, hin, hX, hlk⟩ := id hC
  have htg : ∀ w ∈ lm_good, w.before args s = true := fun w h => hts w (lm_tbm (List.mem_filter.mp h).1 (by unfold lm_use; rw [(List.mem_filter.mp h).2]; rfl))
  have key : ∀ (ρ : Nat → Nat) (H : Heap) (locs : List Loc) (a : Nat) (t : List Nat), (∀ i, lm_B ≤ i → ρ i = ρ0 i) → va_S A s.heap H locs → lm_B ≤ a → lm_str[a - lm_B]? = some t → ∃ v : Nat, ∀ U : State, U.heap = H → s.WarmedH U.vm → ls_Y (ρ a) v t.length (t.map Int32.ofNat) U := by
    intro ρ H locs a t hρ hS ha ht
    obtain ⟨-, -, ⟨adV, hk⟩, hcs2, ⟨w, hw, hf⟩, -⟩ := hX
    have hlt : a - lm_B < 4 := (List.getElem?_eq_some_iff.mp ht).1
    obtain ⟨k1, k2, k3, k4⟩ := hk.1 (a - lm_B) hlt
    have ea : (fun i => ρ0 (lm_B + i)) (a - lm_B) = ρ a := by
      show ρ0 (lm_B + (a - lm_B)) = ρ a
      rw [show lm_B + (a - lm_B) = a by omega, hρ a ha]
    rw [ea] at k1 k2 k3
    have el : lm_lens.getD (a - lm_B) 0 = t.length := by
      unfold lm_lens
      rw [List.getD_eq_getElem?_getD, List.getElem?_map, ht]; rfl
    have eb : lm_byts.getD (a - lm_B) [] = t.map Int32.ofNat := by
      unfold lm_byts
      rw [List.getD_eq_getElem?_getD, List.getElem?_map, ht]; rfl
    rw [el, eb] at k4
    refine ⟨adV (a - lm_B), fun U hU hW => ?_⟩
    have hnF : ∀ q : Nat, ls_F q → A q := fun _ h => h.elim
    unfold ls_Y
    rw [hU]
    exact ⟨((k1.kept hS.2.1).narrow hnF).moved hW.alike, ((k2.kept hS.2.1).narrow hnF).moved hW.alike, ((k3.kept hS.2.1).narrow hnF).moved hW.alike, ((k4.kept hS.2.1).narrow hnF).moved hW.alike, ((hcs2.kept hS.2.1).narrow hnF).moved hW.alike, w, hw, ((hf.kept hS.2.1).narrow hnF).moved hW.alike⟩
  have hn3 : n = 3 := by
    rcases hi with rfl | rfl <;> (simp [lm_n] at hn; omega)
  subst hn3
  rcases hi with rfl | rfl
  · rw [lm_step_swap] at hs
    obtain ⟨a, r, t, rfl, ha, hsum, ht, rfl, rfl, rfl, rfl⟩ := lm_slen_inv hs
    obtain ⟨en, he, hh⟩ := List.any_eq_true.mp (show lm_tN.any (fun e => e.1 / 10000 == cn && decide (raw = .invokevirtual (e.1 % 10000))) = true from hck)
    simp only [Bool.and_eq_true, beq_iff_eq, decide_eq_true_eq] at hh
    obtain ⟨e2, rfl⟩ := hh
    have w1 := List.all_eq_true.mp lm_tN_ok en he
    simp only [decide_eq_true_eq] at w1
    rw [e2] at w1
    intro ρ H locs cs h hok
    obtain ⟨v, hv⟩ := key ρ H locs a t (fun i hi => h.2.2.2.2.2.2.1 i (Or.inr hi)) h.2.2.1 ha ht
    have hO : ∃ cell : Cell, H[ρ a]? = some cell ∧ cell.vm.isStatics = false ∧ s.vm.findClass "java/lang/String" = some cell.cls := by
      obtain ⟨-, -, ⟨adV, hk⟩, -⟩ := hX
      have hlt : a - lm_B < 4 := (List.getElem?_eq_some_iff.mp ht).1
      obtain ⟨cell, g1, g2, g3, -⟩ := ((hk.1 (a - lm_B) hlt).1).kept h.2.2.1.2.1
      have ea : (fun i => ρ0 (lm_B + i)) (a - lm_B) = ρ a := by
        show ρ0 (lm_B + (a - lm_B)) = ρ a
        rw [show lm_B + (a - lm_B) = a by omega, h.2.2.2.2.2.2.1 a (Or.inr ha)]
      rw [ea] at g1
      exact ⟨cell, g1, g2, g3⟩
    refine W.callR (W.runV (C := "java/lang/String") (b := ρ a) (As := []) (rest := r.map (lm_tv ρ)) ⟨hx, hb, hml, hown, htg⟩ (ls_c_length l (ρ a) v t.length (t.map Int32.ofNat)) ⟨callB_of 0 htg ls_g_length rfl rfl rfl (htg _ ls_w_n_str) (hts _ (lm_tbm (List.mem_of_getElem? w1) rfl)) (by decide +kernel) ⟨?_, ?_⟩, htg _ ls_w_i_length, htg _ ls_w_s_length⟩ ⟨ls_blind, hO, fun U hU hW => ⟨rfl, hv U hU hW⟩⟩ rfl rfl h.2.2.2.1.1 rfl (lv_room (by rw [lm_tv_sum]; exact hsum)) hdec ⟨?_, ?_⟩) (kN rfl ρ H locs cs h (lm_okx hok trivial))
    · show 2 + 1 ≤ _; omega
    · show 8 + (1 + 11) + 60 * 2 ≤ _; omega
    · omega
    · omega
  · rw [lm_step_athrow] at hs
    obtain ⟨x, a, r, t, z, rfl, ha, hx0, hsum, ht, hz, rfl, rfl, rfl, rfl⟩ := lm_sat_inv hs
    obtain ⟨en, he, hh⟩ := List.any_eq_true.mp (show lm_tH.any (fun e => e.1 / 10000 == cn && decide (raw = .invokevirtual (e.1 % 10000))) = true from hck)
    simp only [Bool.and_eq_true, beq_iff_eq, decide_eq_true_eq] at hh
    obtain ⟨e2, rfl⟩ := hh
    have w1 := List.all_eq_true.mp lm_tH_ok en he
    simp only [decide_eq_true_eq] at w1
    rw [e2] at w1
    intro ρ H locs cs h hok
    obtain ⟨v, hv⟩ := key ρ H locs a t (fun i hi => h.2.2.2.2.2.2.1 i (Or.inr hi)) h.2.2.1 ha ht
    have hta := List.all_eq_true.mp ls_all t (List.mem_of_getElem? ht)
    simp only [Bool.and_eq_true, decide_eq_true_eq] at hta
    have hxl : x.toNatClampNeg < t.length := (List.getElem?_eq_some_iff.mp hz).1
    obtain ⟨hxy, hinx⟩ := ls_len hta.1 hx0 hxl
    have hz128 : z < 128 := of_decide_eq_true (List.all_eq_true.mp hta.2 z (List.mem_of_getElem? hz))
    have hgd : (t.map Int32.ofNat).getD x.toNatClampNeg 0 = Int32.ofNat z := by
      rw [List.getD_eq_getElem?_getD, List.getElem?_map, hz]; rfl
    have hO : ∃ cell : Cell, H[ρ a]? = some cell ∧ cell.vm.isStatics = false ∧ s.vm.findClass "java/lang/String" = some cell.cls := by
      obtain ⟨-, -, ⟨adV, hk⟩, -⟩ := hX
      have hlt : a - lm_B < 4 := (List.getElem?_eq_some_iff.mp ht).1
      obtain ⟨cell, g1, g2, g3, -⟩ := ((hk.1 (a - lm_B) hlt).1).kept h.2.2.1.2.1
      have ea : (fun i => ρ0 (lm_B + i)) (a - lm_B) = ρ a := by
        show ρ0 (lm_B + (a - lm_B)) = ρ a
        rw [show lm_B + (a - lm_B) = a by omega, h.2.2.2.2.2.2.1 a (Or.inr ha)]
      rw [ea] at g1
      exact ⟨cell, g1, g2, g3⟩
    refine W.callR (W.runV (C := "java/lang/String") (b := ρ a) (As := [.int x]) (rest := r.map (lm_tv ρ)) ⟨hx, hb, hml, hown, htg⟩ (ls_c_charAt l (ρ a) v t.length (t.map Int32.ofNat) x z hx0 hxy hinx (by rw [hgd]; exact (ls_byte z hz128).1) (ls_byte z hz128).2) ⟨callB_of 1 htg ls_g_charAt rfl rfl rfl (htg _ ls_w_n_str) (hts _ (lm_tbm (List.mem_of_getElem? w1) rfl)) (by decide +kernel) ⟨?_, ?_⟩, htg _ ls_w_i_charAt, htg _ ls_w_s_charAt⟩ ⟨ls_blind, hO, fun U hU hW => ⟨rfl, hv U hU hW⟩⟩ rfl rfl h.2.2.2.1.1 rfl (lv_room (by rw [lm_tv_sum]; exact hsum)) hdec ⟨?_, ?_⟩) (kN rfl ρ H locs cs h (lm_okxx hok trivial))
    · show 4 + 1 ≤ _; omega
    · show 8 + (2 + 11) + 60 * 4 ≤ _; omega
    · omega
    · omega
end LMSTR
