/-! The law's own method. -/
theorem tw_20 : Cond.classLink "ProgramGateLaw" 8 "ProgramGate" ∈ xT := xin_1 (i := 20) rfl rfl
theorem tw_21 : Cond.instantiable "ProgramGate" 4 ∈ xT := xin_1 (i := 21) rfl rfl
theorem tw_22 : Cond.methodLink "ProgramGateLaw" 19 (⟨"ProgramGate", "<init>", "()V"⟩ : MethodName) ∈ xT := xin_1 (i := 22) rfl rfl
theorem tw_23 : Cond.instanceMethod (⟨"ProgramGate", "<init>", "()V"⟩ : MethodName) ∈ xT := xin_1 (i := 23) rfl rfl
theorem tw_24 : Cond.code (⟨"ProgramGate", "<init>", "()V"⟩ : MethodName) prog_1_method_1_code 1 none ∈ xT := xin_1 (i := 24) rfl rfl
theorem tw_237 : Cond.methodLink "ProgramGateLaw" 23 (⟨"ProgramGate", "add", "(IIIII)I"⟩ : MethodName) ∈ xT := xin_1 (i := 237) rfl rfl
theorem tw_238 : Cond.instanceMethod (⟨"ProgramGate", "add", "(IIIII)I"⟩ : MethodName) ∈ xT := xin_1 (i := 238) rfl rfl
theorem tw_239 : Cond.selects "ProgramGate" (⟨"ProgramGate", "add", "(IIIII)I"⟩ : MethodName) (⟨"ProgramGate", "add", "(IIIII)I"⟩ : MethodName) ∈ xT := xin_1 (i := 239) rfl rfl
theorem tw_240 : Cond.code (⟨"ProgramGate", "add", "(IIIII)I"⟩ : MethodName) prog_1_method_2_code 6 (some .int) ∈ xT := xin_2 (i := 0) rfl rfl
theorem tw_248 : Cond.methodLink "ProgramGateLaw" 28 (⟨"ProgramGate", "clear", "()I"⟩ : MethodName) ∈ xT := xin_2 (i := 8) rfl rfl
theorem tw_249 : Cond.instanceMethod (⟨"ProgramGate", "clear", "()I"⟩ : MethodName) ∈ xT := xin_2 (i := 9) rfl rfl
theorem tw_250 : Cond.selects "ProgramGate" (⟨"ProgramGate", "clear", "()I"⟩ : MethodName) (⟨"ProgramGate", "clear", "()I"⟩ : MethodName) ∈ xT := xin_2 (i := 10) rfl rfl
theorem tw_251 : Cond.code (⟨"ProgramGate", "clear", "()I"⟩ : MethodName) prog_1_method_3_code 2 (some .int) ∈ xT := xin_2 (i := 11) rfl rfl
theorem tw_252 : Cond.methodLink "ProgramGateLaw" 33 (⟨"ProgramGate", "size", "()I"⟩ : MethodName) ∈ xT := xin_2 (i := 12) rfl rfl
theorem tw_253 : Cond.instanceMethod (⟨"ProgramGate", "size", "()I"⟩ : MethodName) ∈ xT := xin_2 (i := 13) rfl rfl
theorem tw_254 : Cond.selects "ProgramGate" (⟨"ProgramGate", "size", "()I"⟩ : MethodName) (⟨"ProgramGate", "size", "()I"⟩ : MethodName) ∈ xT := xin_2 (i := 14) rfl rfl
theorem tw_255 : Cond.code (⟨"ProgramGate", "size", "()I"⟩ : MethodName) prog_1_method_4_code 1 (some .int) ∈ xT := xin_2 (i := 15) rfl rfl
theorem tw_256 : Cond.methodLink "ProgramGateLaw" 39 (⟨"ProgramGate", "packet", "(JJI)Z"⟩ : MethodName) ∈ xT := xin_2 (i := 16) rfl rfl
theorem tw_257 : Cond.instanceMethod (⟨"ProgramGate", "packet", "(JJI)Z"⟩ : MethodName) ∈ xT := xin_2 (i := 17) rfl rfl
theorem tw_258 : Cond.selects "ProgramGate" (⟨"ProgramGate", "packet", "(JJI)Z"⟩ : MethodName) (⟨"ProgramGate", "packet", "(JJI)Z"⟩ : MethodName) ∈ xT := xin_2 (i := 18) rfl rfl
theorem tw_259 : Cond.code (⟨"ProgramGate", "packet", "(JJI)Z"⟩ : MethodName) prog_1_method_5_code 6 (some .boolean) ∈ xT := xin_2 (i := 19) rfl rfl
theorem tw_264 : Cond.methodLink "ProgramGateLaw" 44 (⟨"ProgramGate", "walk", "()I"⟩ : MethodName) ∈ xT := xin_2 (i := 24) rfl rfl
theorem tw_265 : Cond.instanceMethod (⟨"ProgramGate", "walk", "()I"⟩ : MethodName) ∈ xT := xin_2 (i := 25) rfl rfl
theorem tw_266 : Cond.selects "ProgramGate" (⟨"ProgramGate", "walk", "()I"⟩ : MethodName) (⟨"ProgramGate", "walk", "()I"⟩ : MethodName) ∈ xT := xin_2 (i := 26) rfl rfl
theorem tw_267 : Cond.code (⟨"ProgramGate", "walk", "()I"⟩ : MethodName) prog_1_method_6_code 1 (some .int) ∈ xT := xin_2 (i := 27) rfl rfl
theorem tw_478 : Cond.methodLink "ProgramGateLaw" 48 (⟨"ProgramGate", "steps", "()I"⟩ : MethodName) ∈ xT := xin_2 (i := 238) rfl rfl
theorem tw_479 : Cond.instanceMethod (⟨"ProgramGate", "steps", "()I"⟩ : MethodName) ∈ xT := xin_2 (i := 239) rfl rfl
theorem tw_480 : Cond.selects "ProgramGate" (⟨"ProgramGate", "steps", "()I"⟩ : MethodName) (⟨"ProgramGate", "steps", "()I"⟩ : MethodName) ∈ xT := xin_3 (i := 0) rfl rfl
theorem tw_481 : Cond.code (⟨"ProgramGate", "steps", "()I"⟩ : MethodName) prog_1_method_7_code 1 (some .int) ∈ xT := xin_3 (i := 1) rfl rfl
theorem tw_482 : Cond.methodLink "ProgramGateLaw" 61 (⟨"ProgramGate", "ran", "()I"⟩ : MethodName) ∈ xT := xin_3 (i := 2) rfl rfl
theorem tw_483 : Cond.instanceMethod (⟨"ProgramGate", "ran", "()I"⟩ : MethodName) ∈ xT := xin_3 (i := 3) rfl rfl
theorem tw_484 : Cond.selects "ProgramGate" (⟨"ProgramGate", "ran", "()I"⟩ : MethodName) (⟨"ProgramGate", "ran", "()I"⟩ : MethodName) ∈ xT := xin_3 (i := 4) rfl rfl
theorem tw_485 : Cond.code (⟨"ProgramGate", "ran", "()I"⟩ : MethodName) prog_1_method_9_code 1 (some .int) ∈ xT := xin_3 (i := 5) rfl rfl
theorem tw_486 : Cond.methodLink "ProgramGateLaw" 65 (⟨"ProgramGate", "known", "(II)J"⟩ : MethodName) ∈ xT := xin_3 (i := 6) rfl rfl
theorem tw_487 : Cond.instanceMethod (⟨"ProgramGate", "known", "(II)J"⟩ : MethodName) ∈ xT := xin_3 (i := 7) rfl rfl
theorem tw_488 : Cond.selects "ProgramGate" (⟨"ProgramGate", "known", "(II)J"⟩ : MethodName) (⟨"ProgramGate", "known", "(II)J"⟩ : MethodName) ∈ xT := xin_3 (i := 8) rfl rfl
theorem tw_489 : Cond.code (⟨"ProgramGate", "known", "(II)J"⟩ : MethodName) prog_1_method_10_code 3 (some .long) ∈ xT := xin_3 (i := 9) rfl rfl
theorem tw_637 : Cond.classLink "ProgramGateLaw" 20 "ProgramGateModel" ∈ xT := xin_3 (i := 157) rfl rfl
theorem tw_638 : Cond.instantiable "ProgramGateModel" 25 ∈ xT := xin_3 (i := 158) rfl rfl
theorem tw_639 : Cond.methodLink "ProgramGateLaw" 22 (⟨"ProgramGateModel", "<init>", "()V"⟩ : MethodName) ∈ xT := xin_3 (i := 159) rfl rfl
theorem tw_640 : Cond.instanceMethod (⟨"ProgramGateModel", "<init>", "()V"⟩ : MethodName) ∈ xT := xin_3 (i := 160) rfl rfl
theorem tw_641 : Cond.code (⟨"ProgramGateModel", "<init>", "()V"⟩ : MethodName) prog_11_method_1_code 1 none ∈ xT := xin_3 (i := 161) rfl rfl
theorem tw_720 : Cond.methodLink "ProgramGateLaw" 58 (⟨"ProgramGateModel", "thrown", "()I"⟩ : MethodName) ∈ xT := xin_4 (i := 0) rfl rfl
theorem tw_721 : Cond.instanceMethod (⟨"ProgramGateModel", "thrown", "()I"⟩ : MethodName) ∈ xT := xin_4 (i := 1) rfl rfl
theorem tw_722 : Cond.selects "ProgramGateModel" (⟨"ProgramGateModel", "thrown", "()I"⟩ : MethodName) (⟨"ProgramGateModel", "thrown", "()I"⟩ : MethodName) ∈ xT := xin_4 (i := 2) rfl rfl
theorem tw_723 : Cond.code (⟨"ProgramGateModel", "thrown", "()I"⟩ : MethodName) prog_11_method_2_code 1 (some .int) ∈ xT := xin_4 (i := 3) rfl rfl
theorem tw_724 : Cond.methodLink "ProgramGateLaw" 27 (⟨"ProgramGateModel", "add", "(IIIII)I"⟩ : MethodName) ∈ xT := xin_4 (i := 4) rfl rfl
theorem tw_725 : Cond.instanceMethod (⟨"ProgramGateModel", "add", "(IIIII)I"⟩ : MethodName) ∈ xT := xin_4 (i := 5) rfl rfl
theorem tw_726 : Cond.selects "ProgramGateModel" (⟨"ProgramGateModel", "add", "(IIIII)I"⟩ : MethodName) (⟨"ProgramGateModel", "add", "(IIIII)I"⟩ : MethodName) ∈ xT := xin_4 (i := 6) rfl rfl
theorem tw_727 : Cond.code (⟨"ProgramGateModel", "add", "(IIIII)I"⟩ : MethodName) prog_11_method_5_code 7 (some .int) ∈ xT := xin_4 (i := 7) rfl rfl
theorem tw_731 : Cond.methodLink "ProgramGateLaw" 32 (⟨"ProgramGateModel", "clear", "()I"⟩ : MethodName) ∈ xT := xin_4 (i := 11) rfl rfl
theorem tw_732 : Cond.instanceMethod (⟨"ProgramGateModel", "clear", "()I"⟩ : MethodName) ∈ xT := xin_4 (i := 12) rfl rfl
theorem tw_733 : Cond.selects "ProgramGateModel" (⟨"ProgramGateModel", "clear", "()I"⟩ : MethodName) (⟨"ProgramGateModel", "clear", "()I"⟩ : MethodName) ∈ xT := xin_4 (i := 13) rfl rfl
theorem tw_734 : Cond.code (⟨"ProgramGateModel", "clear", "()I"⟩ : MethodName) prog_11_method_6_code 2 (some .int) ∈ xT := xin_4 (i := 14) rfl rfl
theorem tw_735 : Cond.methodLink "ProgramGateLaw" 36 (⟨"ProgramGateModel", "size", "()I"⟩ : MethodName) ∈ xT := xin_4 (i := 15) rfl rfl
theorem tw_736 : Cond.instanceMethod (⟨"ProgramGateModel", "size", "()I"⟩ : MethodName) ∈ xT := xin_4 (i := 16) rfl rfl
theorem tw_737 : Cond.selects "ProgramGateModel" (⟨"ProgramGateModel", "size", "()I"⟩ : MethodName) (⟨"ProgramGateModel", "size", "()I"⟩ : MethodName) ∈ xT := xin_4 (i := 17) rfl rfl
theorem tw_738 : Cond.code (⟨"ProgramGateModel", "size", "()I"⟩ : MethodName) prog_11_method_7_code 1 (some .int) ∈ xT := xin_4 (i := 18) rfl rfl
theorem tw_739 : Cond.methodLink "ProgramGateLaw" 43 (⟨"ProgramGateModel", "packet", "(JJI)Z"⟩ : MethodName) ∈ xT := xin_4 (i := 19) rfl rfl
theorem tw_740 : Cond.instanceMethod (⟨"ProgramGateModel", "packet", "(JJI)Z"⟩ : MethodName) ∈ xT := xin_4 (i := 20) rfl rfl
theorem tw_741 : Cond.selects "ProgramGateModel" (⟨"ProgramGateModel", "packet", "(JJI)Z"⟩ : MethodName) (⟨"ProgramGateModel", "packet", "(JJI)Z"⟩ : MethodName) ∈ xT := xin_4 (i := 21) rfl rfl
theorem tw_742 : Cond.code (⟨"ProgramGateModel", "packet", "(JJI)Z"⟩ : MethodName) prog_11_method_8_code 7 (some .boolean) ∈ xT := xin_4 (i := 22) rfl rfl
theorem tw_744 : Cond.methodLink "ProgramGateLaw" 47 (⟨"ProgramGateModel", "walk", "()I"⟩ : MethodName) ∈ xT := xin_4 (i := 24) rfl rfl
theorem tw_745 : Cond.instanceMethod (⟨"ProgramGateModel", "walk", "()I"⟩ : MethodName) ∈ xT := xin_4 (i := 25) rfl rfl
theorem tw_746 : Cond.selects "ProgramGateModel" (⟨"ProgramGateModel", "walk", "()I"⟩ : MethodName) (⟨"ProgramGateModel", "walk", "()I"⟩ : MethodName) ∈ xT := xin_4 (i := 26) rfl rfl
theorem tw_747 : Cond.code (⟨"ProgramGateModel", "walk", "()I"⟩ : MethodName) prog_11_method_38_code 4 (some .int) ∈ xT := xin_4 (i := 27) rfl rfl
theorem tw_868 : Cond.methodLink "ProgramGateLaw" 51 (⟨"ProgramGateModel", "steps", "()I"⟩ : MethodName) ∈ xT := xin_4 (i := 148) rfl rfl
theorem tw_869 : Cond.instanceMethod (⟨"ProgramGateModel", "steps", "()I"⟩ : MethodName) ∈ xT := xin_4 (i := 149) rfl rfl
theorem tw_870 : Cond.selects "ProgramGateModel" (⟨"ProgramGateModel", "steps", "()I"⟩ : MethodName) (⟨"ProgramGateModel", "steps", "()I"⟩ : MethodName) ∈ xT := xin_4 (i := 150) rfl rfl
theorem tw_871 : Cond.code (⟨"ProgramGateModel", "steps", "()I"⟩ : MethodName) prog_11_method_39_code 1 (some .int) ∈ xT := xin_4 (i := 151) rfl rfl
theorem tw_872 : Cond.methodLink "ProgramGateLaw" 69 (⟨"ProgramGateModel", "known", "(II)J"⟩ : MethodName) ∈ xT := xin_4 (i := 152) rfl rfl
theorem tw_873 : Cond.instanceMethod (⟨"ProgramGateModel", "known", "(II)J"⟩ : MethodName) ∈ xT := xin_4 (i := 153) rfl rfl
theorem tw_874 : Cond.selects "ProgramGateModel" (⟨"ProgramGateModel", "known", "(II)J"⟩ : MethodName) (⟨"ProgramGateModel", "known", "(II)J"⟩ : MethodName) ∈ xT := xin_4 (i := 154) rfl rfl
theorem tw_875 : Cond.code (⟨"ProgramGateModel", "known", "(II)J"⟩ : MethodName) prog_11_method_40_code 4 (some .long) ∈ xT := xin_4 (i := 155) rfl rfl
theorem tw_877 : Cond.methodLink "ProgramGateLaw" 57 (⟨"ProgramGateModel", "run", "(I)I"⟩ : MethodName) ∈ xT := xin_4 (i := 157) rfl rfl
theorem tw_878 : Cond.instanceMethod (⟨"ProgramGateModel", "run", "(I)I"⟩ : MethodName) ∈ xT := xin_4 (i := 158) rfl rfl
theorem tw_879 : Cond.selects "ProgramGateModel" (⟨"ProgramGateModel", "run", "(I)I"⟩ : MethodName) (⟨"ProgramGateModel", "run", "(I)I"⟩ : MethodName) ∈ xT := xin_4 (i := 159) rfl rfl
theorem tw_880 : Cond.code (⟨"ProgramGateModel", "run", "(I)I"⟩ : MethodName) prog_11_method_45_code 9 (some .int) ∈ xT := xin_4 (i := 160) rfl rfl
theorem tw_898 : Cond.methodLink "ProgramGateLaw" 64 (⟨"ProgramGateModel", "ran", "()I"⟩ : MethodName) ∈ xT := xin_4 (i := 178) rfl rfl
theorem tw_899 : Cond.instanceMethod (⟨"ProgramGateModel", "ran", "()I"⟩ : MethodName) ∈ xT := xin_4 (i := 179) rfl rfl
theorem tw_900 : Cond.selects "ProgramGateModel" (⟨"ProgramGateModel", "ran", "()I"⟩ : MethodName) (⟨"ProgramGateModel", "ran", "()I"⟩ : MethodName) ∈ xT := xin_4 (i := 180) rfl rfl
theorem tw_901 : Cond.code (⟨"ProgramGateModel", "ran", "()I"⟩ : MethodName) prog_11_method_46_code 1 (some .int) ∈ xT := xin_4 (i := 181) rfl rfl
theorem tw_902 : Cond.constantLong "ProgramGateLaw" 37 4294967295 ∈ xT := xin_4 (i := 182) rfl rfl
theorem yw_G_init : xYI y_G_init b_G_init 1 0 := ⟨tw_24, tw_23, tw_1, ⟨by decide +kernel, by decide +kernel, by decide +kernel⟩, rfl⟩
theorem yw_G_add : xYV y_G_add b_G_add 6 t_G_add 5 := ⟨tw_240, tw_238, tw_1, ⟨by decide +kernel, by decide +kernel, by decide +kernel⟩, tw_239⟩
theorem yw_G_clear : xYV y_G_clear b_G_clear 2 t_G_clear 0 := ⟨tw_251, tw_249, tw_1, ⟨by decide +kernel, by decide +kernel, by decide +kernel⟩, tw_250⟩
theorem yw_G_size : xYV y_G_size b_G_size 1 t_G_size 0 := ⟨tw_255, tw_253, tw_1, ⟨by decide +kernel, by decide +kernel, by decide +kernel⟩, tw_254⟩
theorem yw_G_packet : xYV y_G_packet b_G_packet 6 t_G_packet 3 := ⟨tw_259, tw_257, tw_1, ⟨by decide +kernel, by decide +kernel, by decide +kernel⟩, tw_258⟩
theorem yw_G_walk : xYV y_G_walk b_G_walk 1 t_G_walk 0 := ⟨tw_267, tw_265, tw_1, ⟨by decide +kernel, by decide +kernel, by decide +kernel⟩, tw_266⟩
theorem yw_G_steps : xYV y_G_steps b_G_steps 1 t_G_steps 0 := ⟨tw_481, tw_479, tw_1, ⟨by decide +kernel, by decide +kernel, by decide +kernel⟩, tw_480⟩
theorem yw_G_ran : xYV y_G_ran b_G_ran 1 t_G_ran 0 := ⟨tw_485, tw_483, tw_1, ⟨by decide +kernel, by decide +kernel, by decide +kernel⟩, tw_484⟩
theorem yw_G_known : xYV y_G_known b_G_known 3 t_G_known 2 := ⟨tw_489, tw_487, tw_1, ⟨by decide +kernel, by decide +kernel, by decide +kernel⟩, tw_488⟩
theorem yw_R_init : xYI y_R_init b_R_init 1 0 := ⟨tw_641, tw_640, tw_9, ⟨by decide +kernel, by decide +kernel, by decide +kernel⟩, rfl⟩
theorem yw_R_thrown : xYV y_R_thrown b_R_thrown 1 t_R_thrown 0 := ⟨tw_723, tw_721, tw_9, ⟨by decide +kernel, by decide +kernel, by decide +kernel⟩, tw_722⟩
theorem yw_R_add : xYV y_R_add b_R_add 7 t_R_add 5 := ⟨tw_727, tw_725, tw_9, ⟨by decide +kernel, by decide +kernel, by decide +kernel⟩, tw_726⟩
theorem yw_R_clear : xYV y_R_clear b_R_clear 2 t_R_clear 0 := ⟨tw_734, tw_732, tw_9, ⟨by decide +kernel, by decide +kernel, by decide +kernel⟩, tw_733⟩
theorem yw_R_size : xYV y_R_size b_R_size 1 t_R_size 0 := ⟨tw_738, tw_736, tw_9, ⟨by decide +kernel, by decide +kernel, by decide +kernel⟩, tw_737⟩
theorem yw_R_packet : xYV y_R_packet b_R_packet 7 t_R_packet 3 := ⟨tw_742, tw_740, tw_9, ⟨by decide +kernel, by decide +kernel, by decide +kernel⟩, tw_741⟩
theorem yw_R_walk : xYV y_R_walk b_R_walk 4 t_R_walk 0 := ⟨tw_747, tw_745, tw_9, ⟨by decide +kernel, by decide +kernel, by decide +kernel⟩, tw_746⟩
theorem yw_R_steps : xYV y_R_steps b_R_steps 1 t_R_steps 0 := ⟨tw_871, tw_869, tw_9, ⟨by decide +kernel, by decide +kernel, by decide +kernel⟩, tw_870⟩
theorem yw_R_known : xYV y_R_known b_R_known 4 t_R_known 2 := ⟨tw_875, tw_873, tw_9, ⟨by decide +kernel, by decide +kernel, by decide +kernel⟩, tw_874⟩
theorem yw_R_run : xYV y_R_run b_R_run 9 t_R_run 1 := ⟨tw_880, tw_878, tw_9, ⟨by decide +kernel, by decide +kernel, by decide +kernel⟩, tw_879⟩
theorem yw_R_ran : xYV y_R_ran b_R_ran 1 t_R_ran 0 := ⟨tw_901, tw_899, tw_9, ⟨by decide +kernel, by decide +kernel, by decide +kernel⟩, tw_900⟩
theorem xic_6 : Int32.ofInt 6 = (6 : Int32) := by decide
def lb_L_law : ByteArray := .mk (.mk [0xbb, 0x00, 0x08, 0x59, 0xb7, 0x00, 0x13, 0x4c, 0xbb, 0x00, 0x14, 0x59, 0xb7, 0x00, 0x16, 0x4d, 0x04, 0xbc, 0x0b, 0x4e, 0x03, 0x36, 0x04, 0x15, 0x04, 0x2a, 0xbe, 0x10, 0x06, 0x64, 0xa3, 0x01, 0x9d, 0x2a, 0x15, 0x04, 0x2e, 0x10, 0x0f, 0x7e, 0xaa, 0x00, 0x00, 0x00, 0x00, 0x00, 0x01, 0x8d, 0x00, 0x00, 0x00, 0x00, 0x00, 0x00, 0x00, 0x08, 0x00, 0x00, 0x00, 0x34, 0x00, 0x00, 0x00, 0x7d, 0x00, 0x00, 0x00, 0x8a, 0x00, 0x00, 0x00, 0x97, 0x00, 0x00, 0x01, 0x08, 0x00, 0x00, 0x01, 0x15, 0x00, 0x00, 0x01, 0x22, 0x00, 0x00, 0x01, 0x5a, 0x00, 0x00, 0x01, 0x67, 0x2b, 0x2a, 0x15, 0x04, 0x04, 0x60, 0x2e, 0x2a, 0x15, 0x04, 0x05, 0x60, 0x2e, 0x2a, 0x15, 0x04, 0x06, 0x60, 0x2e, 0x2a, 0x15, 0x04, 0x07, 0x60, 0x2e, 0x2a, 0x15, 0x04, 0x08, 0x60, 0x2e, 0xb6, 0x00, 0x17, 0x2c, 0x2a, 0x15, 0x04, 0x04, 0x60, 0x2e, 0x2a, 0x15, 0x04, 0x05, 0x60, 0x2e, 0x2a, 0x15, 0x04, 0x06, 0x60, 0x2e, 0x2a, 0x15, 0x04, 0x07, 0x60, 0x2e, 0x2a, 0x15, 0x04, 0x08, 0x60, 0x2e, 0xb6, 0x00, 0x1b, 0x9f, 0x01, 0x15, 0x03, 0xac, 0x2b, 0xb6, 0x00, 0x1c, 0x2c, 0xb6, 0x00, 0x20, 0x9f, 0x01, 0x08, 0x03, 0xac, 0x2b, 0xb6, 0x00, 0x21, 0x2c, 0xb6, 0x00, 0x24, 0x9f, 0x00, 0xfb, 0x03, 0xac, 0x2b, 0x2a, 0x15, 0x04, 0x04, 0x60, 0x2e, 0x85, 0x10, 0x20, 0x79, 0x2a, 0x15, 0x04, 0x05, 0x60, 0x2e, 0x85, 0x14, 0x00, 0x25, 0x7f, 0x81, 0x2a, 0x15, 0x04, 0x06, 0x60, 0x2e, 0x85, 0x10, 0x20, 0x79, 0x2a, 0x15, 0x04, 0x07, 0x60, 0x2e, 0x85, 0x14, 0x00, 0x25, 0x7f, 0x81, 0x2a, 0x15, 0x04, 0x08, 0x60, 0x2e, 0xb6, 0x00, 0x27, 0x2c, 0x2a, 0x15, 0x04, 0x04, 0x60, 0x2e, 0x85, 0x10, 0x20, 0x79, 0x2a, 0x15, 0x04, 0x05, 0x60, 0x2e, 0x85, 0x14, 0x00, 0x25, 0x7f, 0x81, 0x2a, 0x15, 0x04, 0x06, 0x60, 0x2e, 0x85, 0x10, 0x20, 0x79, 0x2a, 0x15, 0x04, 0x07, 0x60, 0x2e, 0x85, 0x14, 0x00, 0x25, 0x7f, 0x81, 0x2a, 0x15, 0x04, 0x08, 0x60, 0x2e, 0xb6, 0x00, 0x2b, 0x9f, 0x00, 0x8a, 0x03, 0xac, 0x2b, 0xb6, 0x00, 0x2c, 0x2c, 0xb6, 0x00, 0x2f, 0x9f, 0x00, 0x7d, 0x03, 0xac, 0x2b, 0xb6, 0x00, 0x30, 0x2c, 0xb6, 0x00, 0x33, 0x9f, 0x00, 0x70, 0x03, 0xac, 0x2b, 0x2a, 0x15, 0x04, 0x04, 0x60, 0x2e, 0x2d, 0xb8, 0x00, 0x34, 0x36, 0x05, 0x2c, 0x2a, 0x15, 0x04, 0x04, 0x60, 0x2e, 0xb6, 0x00, 0x39, 0x36, 0x06, 0x2c, 0xb6, 0x00, 0x3a, 0x15, 0x05, 0x9f, 0x00, 0x05, 0x03, 0xac, 0x15, 0x05, 0x9a, 0x00, 0x0f, 0x2d, 0x03, 0x2f, 0x15, 0x06, 0x85, 0x94, 0x99, 0x00, 0x05, 0x03, 0xac, 0xa7, 0x00, 0x36, 0x2b, 0xb6, 0x00, 0x3d, 0x2c, 0xb6, 0x00, 0x40, 0x9f, 0x00, 0x2b, 0x03, 0xac, 0x2b, 0x2a, 0x15, 0x04, 0x04, 0x60, 0x2e, 0x2a, 0x15, 0x04, 0x05, 0x60, 0x2e, 0xb6, 0x00, 0x41, 0x2c, 0x2a, 0x15, 0x04, 0x04, 0x60, 0x2e, 0x2a, 0x15, 0x04, 0x05, 0x60, 0x2e, 0xb6, 0x00, 0x45, 0x94, 0x99, 0x00, 0x05, 0x03, 0xac, 0x84, 0x04, 0x06, 0xa7, 0xfe, 0x5f, 0x04, 0xac])
theorem bl_L_law : code = lb_L_law := congrArg ByteArray.mk (xar _)
abbrev kv_L_law (nm : String) : xX → List (Nat × Value) → List Value → xw → Nat → Nat → Nat → Nat → xS → Prop := xL lb_L_law 7 "ProgramGateLaw" nm ret room_1
theorem d_L_law_0 : xD lb_L_law 0 (.new 8) 3 3 := xd_of (by decide +kernel)
theorem d_L_law_3 : xD lb_L_law 3 .dup 1 4 := xd_of (by decide +kernel)
theorem d_L_law_4 : xD lb_L_law 4 (.invokespecial 19) 3 7 := xd_of (by decide +kernel)
theorem d_L_law_7 : xD lb_L_law 7 (.astore_n 1) 1 8 := xd_of (by decide +kernel)
theorem d_L_law_8 : xD lb_L_law 8 (.new 20) 3 11 := xd_of (by decide +kernel)
theorem d_L_law_11 : xD lb_L_law 11 .dup 1 12 := xd_of (by decide +kernel)
theorem d_L_law_12 : xD lb_L_law 12 (.invokespecial 22) 3 15 := xd_of (by decide +kernel)
theorem d_L_law_15 : xD lb_L_law 15 (.astore_n 2) 1 16 := xd_of (by decide +kernel)
theorem d_L_law_16 : xD lb_L_law 16 (.iconst 1) 1 17 := xd_of (by decide +kernel)
theorem d_L_law_17 : xD lb_L_law 17 (.newarray .long) 2 19 := xd_of (by decide +kernel)
theorem d_L_law_19 : xD lb_L_law 19 (.astore_n 3) 1 20 := xd_of (by decide +kernel)
theorem d_L_law_20 : xD lb_L_law 20 (.iconst 0) 1 21 := xd_of (by decide +kernel)
theorem d_L_law_21 : xD lb_L_law 21 (.istore 4) 2 23 := xd_of (by decide +kernel)
theorem d_L_law_23 : xD lb_L_law 23 (.iload 4) 2 25 := xd_of (by decide +kernel)
theorem d_L_law_25 : xD lb_L_law 25 (.aload_n 0) 1 26 := xd_of (by decide +kernel)
theorem d_L_law_26 : xD lb_L_law 26 .arraylength 1 27 := xd_of (by decide +kernel)
theorem d_L_law_27 : xD lb_L_law 27 (.bipush 6) 2 29 := xd_of (by decide +kernel)
theorem d_L_law_29 : xD lb_L_law 29 .isub 1 30 := xd_of (by decide +kernel)
theorem d_L_law_30 : xDJ lb_L_law 30 (.if_icmp .gt 413) 413 443 33 := xdj_of (by decide +kernel)
theorem d_L_law_33 : xD lb_L_law 33 (.aload_n 0) 1 34 := xd_of (by decide +kernel)
theorem d_L_law_34 : xD lb_L_law 34 (.iload 4) 2 36 := xd_of (by decide +kernel)
theorem d_L_law_36 : xD lb_L_law 36 .iaload 1 37 := xd_of (by decide +kernel)
theorem d_L_law_37 : xD lb_L_law 37 (.bipush 15) 2 39 := xd_of (by decide +kernel)
theorem d_L_law_39 : xD lb_L_law 39 .iand 1 40 := xd_of (by decide +kernel)
theorem d_L_law_40 : xD lb_L_law 40 (.tableswitch 397 0 8 #[52, 125, 138, 151, 264, 277, 290, 346, 359]) 52 92 := xd_of (by decide +kernel)
theorem d_L_law_92 : xD lb_L_law 92 (.aload_n 1) 1 93 := xd_of (by decide +kernel)
theorem d_L_law_93 : xD lb_L_law 93 (.aload_n 0) 1 94 := xd_of (by decide +kernel)
theorem d_L_law_94 : xD lb_L_law 94 (.iload 4) 2 96 := xd_of (by decide +kernel)
theorem d_L_law_96 : xD lb_L_law 96 (.iconst 1) 1 97 := xd_of (by decide +kernel)
theorem d_L_law_97 : xD lb_L_law 97 .iadd 1 98 := xd_of (by decide +kernel)
theorem d_L_law_98 : xD lb_L_law 98 .iaload 1 99 := xd_of (by decide +kernel)
theorem d_L_law_99 : xD lb_L_law 99 (.aload_n 0) 1 100 := xd_of (by decide +kernel)
theorem d_L_law_100 : xD lb_L_law 100 (.iload 4) 2 102 := xd_of (by decide +kernel)
theorem d_L_law_102 : xD lb_L_law 102 (.iconst 2) 1 103 := xd_of (by decide +kernel)
theorem d_L_law_103 : xD lb_L_law 103 .iadd 1 104 := xd_of (by decide +kernel)
theorem d_L_law_104 : xD lb_L_law 104 .iaload 1 105 := xd_of (by decide +kernel)
theorem d_L_law_105 : xD lb_L_law 105 (.aload_n 0) 1 106 := xd_of (by decide +kernel)
theorem d_L_law_106 : xD lb_L_law 106 (.iload 4) 2 108 := xd_of (by decide +kernel)
theorem d_L_law_108 : xD lb_L_law 108 (.iconst 3) 1 109 := xd_of (by decide +kernel)
theorem d_L_law_109 : xD lb_L_law 109 .iadd 1 110 := xd_of (by decide +kernel)
theorem d_L_law_110 : xD lb_L_law 110 .iaload 1 111 := xd_of (by decide +kernel)
theorem d_L_law_111 : xD lb_L_law 111 (.aload_n 0) 1 112 := xd_of (by decide +kernel)
theorem d_L_law_112 : xD lb_L_law 112 (.iload 4) 2 114 := xd_of (by decide +kernel)
theorem d_L_law_114 : xD lb_L_law 114 (.iconst 4) 1 115 := xd_of (by decide +kernel)
theorem d_L_law_115 : xD lb_L_law 115 .iadd 1 116 := xd_of (by decide +kernel)
theorem d_L_law_116 : xD lb_L_law 116 .iaload 1 117 := xd_of (by decide +kernel)
theorem d_L_law_117 : xD lb_L_law 117 (.aload_n 0) 1 118 := xd_of (by decide +kernel)
theorem d_L_law_118 : xD lb_L_law 118 (.iload 4) 2 120 := xd_of (by decide +kernel)
theorem d_L_law_120 : xD lb_L_law 120 (.iconst 5) 1 121 := xd_of (by decide +kernel)
theorem d_L_law_121 : xD lb_L_law 121 .iadd 1 122 := xd_of (by decide +kernel)
theorem d_L_law_122 : xD lb_L_law 122 .iaload 1 123 := xd_of (by decide +kernel)
theorem d_L_law_123 : xD lb_L_law 123 (.invokevirtual 23) 3 126 := xd_of (by decide +kernel)
theorem d_L_law_126 : xD lb_L_law 126 (.aload_n 2) 1 127 := xd_of (by decide +kernel)
theorem d_L_law_127 : xD lb_L_law 127 (.aload_n 0) 1 128 := xd_of (by decide +kernel)
theorem d_L_law_128 : xD lb_L_law 128 (.iload 4) 2 130 := xd_of (by decide +kernel)
theorem d_L_law_130 : xD lb_L_law 130 (.iconst 1) 1 131 := xd_of (by decide +kernel)
theorem d_L_law_131 : xD lb_L_law 131 .iadd 1 132 := xd_of (by decide +kernel)
theorem d_L_law_132 : xD lb_L_law 132 .iaload 1 133 := xd_of (by decide +kernel)
theorem d_L_law_133 : xD lb_L_law 133 (.aload_n 0) 1 134 := xd_of (by decide +kernel)
theorem d_L_law_134 : xD lb_L_law 134 (.iload 4) 2 136 := xd_of (by decide +kernel)
theorem d_L_law_136 : xD lb_L_law 136 (.iconst 2) 1 137 := xd_of (by decide +kernel)
theorem d_L_law_137 : xD lb_L_law 137 .iadd 1 138 := xd_of (by decide +kernel)
theorem d_L_law_138 : xD lb_L_law 138 .iaload 1 139 := xd_of (by decide +kernel)
theorem d_L_law_139 : xD lb_L_law 139 (.aload_n 0) 1 140 := xd_of (by decide +kernel)
theorem d_L_law_140 : xD lb_L_law 140 (.iload 4) 2 142 := xd_of (by decide +kernel)
theorem d_L_law_142 : xD lb_L_law 142 (.iconst 3) 1 143 := xd_of (by decide +kernel)
theorem d_L_law_143 : xD lb_L_law 143 .iadd 1 144 := xd_of (by decide +kernel)
theorem d_L_law_144 : xD lb_L_law 144 .iaload 1 145 := xd_of (by decide +kernel)
theorem d_L_law_145 : xD lb_L_law 145 (.aload_n 0) 1 146 := xd_of (by decide +kernel)
theorem d_L_law_146 : xD lb_L_law 146 (.iload 4) 2 148 := xd_of (by decide +kernel)
theorem d_L_law_148 : xD lb_L_law 148 (.iconst 4) 1 149 := xd_of (by decide +kernel)
theorem d_L_law_149 : xD lb_L_law 149 .iadd 1 150 := xd_of (by decide +kernel)
theorem d_L_law_150 : xD lb_L_law 150 .iaload 1 151 := xd_of (by decide +kernel)
theorem d_L_law_151 : xD lb_L_law 151 (.aload_n 0) 1 152 := xd_of (by decide +kernel)
theorem d_L_law_152 : xD lb_L_law 152 (.iload 4) 2 154 := xd_of (by decide +kernel)
theorem d_L_law_154 : xD lb_L_law 154 (.iconst 5) 1 155 := xd_of (by decide +kernel)
theorem d_L_law_155 : xD lb_L_law 155 .iadd 1 156 := xd_of (by decide +kernel)
theorem d_L_law_156 : xD lb_L_law 156 .iaload 1 157 := xd_of (by decide +kernel)
theorem d_L_law_157 : xD lb_L_law 157 (.invokevirtual 27) 3 160 := xd_of (by decide +kernel)
theorem d_L_law_160 : xDJ lb_L_law 160 (.if_icmp .eq 277) 277 437 163 := xdj_of (by decide +kernel)
theorem d_L_law_163 : xD lb_L_law 163 (.iconst 0) 1 164 := xd_of (by decide +kernel)
theorem d_L_law_164 : xD lb_L_law 164 .ireturn 1 165 := xd_of (by decide +kernel)
theorem d_L_law_165 : xD lb_L_law 165 (.aload_n 1) 1 166 := xd_of (by decide +kernel)
theorem d_L_law_166 : xD lb_L_law 166 (.invokevirtual 28) 3 169 := xd_of (by decide +kernel)
theorem d_L_law_169 : xD lb_L_law 169 (.aload_n 2) 1 170 := xd_of (by decide +kernel)
theorem d_L_law_170 : xD lb_L_law 170 (.invokevirtual 32) 3 173 := xd_of (by decide +kernel)
theorem d_L_law_173 : xDJ lb_L_law 173 (.if_icmp .eq 264) 264 437 176 := xdj_of (by decide +kernel)
theorem d_L_law_176 : xD lb_L_law 176 (.iconst 0) 1 177 := xd_of (by decide +kernel)
theorem d_L_law_177 : xD lb_L_law 177 .ireturn 1 178 := xd_of (by decide +kernel)
theorem d_L_law_178 : xD lb_L_law 178 (.aload_n 1) 1 179 := xd_of (by decide +kernel)
theorem d_L_law_179 : xD lb_L_law 179 (.invokevirtual 33) 3 182 := xd_of (by decide +kernel)
theorem d_L_law_182 : xD lb_L_law 182 (.aload_n 2) 1 183 := xd_of (by decide +kernel)
theorem d_L_law_183 : xD lb_L_law 183 (.invokevirtual 36) 3 186 := xd_of (by decide +kernel)
theorem d_L_law_186 : xDJ lb_L_law 186 (.if_icmp .eq 251) 251 437 189 := xdj_of (by decide +kernel)
theorem d_L_law_189 : xD lb_L_law 189 (.iconst 0) 1 190 := xd_of (by decide +kernel)
theorem d_L_law_190 : xD lb_L_law 190 .ireturn 1 191 := xd_of (by decide +kernel)
theorem d_L_law_191 : xD lb_L_law 191 (.aload_n 1) 1 192 := xd_of (by decide +kernel)
theorem d_L_law_192 : xD lb_L_law 192 (.aload_n 0) 1 193 := xd_of (by decide +kernel)
theorem d_L_law_193 : xD lb_L_law 193 (.iload 4) 2 195 := xd_of (by decide +kernel)
theorem d_L_law_195 : xD lb_L_law 195 (.iconst 1) 1 196 := xd_of (by decide +kernel)
theorem d_L_law_196 : xD lb_L_law 196 .iadd 1 197 := xd_of (by decide +kernel)
theorem d_L_law_197 : xD lb_L_law 197 .iaload 1 198 := xd_of (by decide +kernel)
theorem d_L_law_198 : xD lb_L_law 198 .i2l 1 199 := xd_of (by decide +kernel)
theorem d_L_law_199 : xD lb_L_law 199 (.bipush 32) 2 201 := xd_of (by decide +kernel)
theorem d_L_law_201 : xD lb_L_law 201 .lshl 1 202 := xd_of (by decide +kernel)
theorem d_L_law_202 : xD lb_L_law 202 (.aload_n 0) 1 203 := xd_of (by decide +kernel)
theorem d_L_law_203 : xD lb_L_law 203 (.iload 4) 2 205 := xd_of (by decide +kernel)
theorem d_L_law_205 : xD lb_L_law 205 (.iconst 2) 1 206 := xd_of (by decide +kernel)
theorem d_L_law_206 : xD lb_L_law 206 .iadd 1 207 := xd_of (by decide +kernel)
theorem d_L_law_207 : xD lb_L_law 207 .iaload 1 208 := xd_of (by decide +kernel)
theorem d_L_law_208 : xD lb_L_law 208 .i2l 1 209 := xd_of (by decide +kernel)
theorem d_L_law_209 : xD lb_L_law 209 (.ldc2_w 37) 3 212 := xd_of (by decide +kernel)
theorem d_L_law_212 : xD lb_L_law 212 .land 1 213 := xd_of (by decide +kernel)
theorem d_L_law_213 : xD lb_L_law 213 .lor 1 214 := xd_of (by decide +kernel)
theorem d_L_law_214 : xD lb_L_law 214 (.aload_n 0) 1 215 := xd_of (by decide +kernel)
theorem d_L_law_215 : xD lb_L_law 215 (.iload 4) 2 217 := xd_of (by decide +kernel)
theorem d_L_law_217 : xD lb_L_law 217 (.iconst 3) 1 218 := xd_of (by decide +kernel)
theorem d_L_law_218 : xD lb_L_law 218 .iadd 1 219 := xd_of (by decide +kernel)
theorem d_L_law_219 : xD lb_L_law 219 .iaload 1 220 := xd_of (by decide +kernel)
theorem d_L_law_220 : xD lb_L_law 220 .i2l 1 221 := xd_of (by decide +kernel)
theorem d_L_law_221 : xD lb_L_law 221 (.bipush 32) 2 223 := xd_of (by decide +kernel)
theorem d_L_law_223 : xD lb_L_law 223 .lshl 1 224 := xd_of (by decide +kernel)
theorem d_L_law_224 : xD lb_L_law 224 (.aload_n 0) 1 225 := xd_of (by decide +kernel)
theorem d_L_law_225 : xD lb_L_law 225 (.iload 4) 2 227 := xd_of (by decide +kernel)
theorem d_L_law_227 : xD lb_L_law 227 (.iconst 4) 1 228 := xd_of (by decide +kernel)
theorem d_L_law_228 : xD lb_L_law 228 .iadd 1 229 := xd_of (by decide +kernel)
theorem d_L_law_229 : xD lb_L_law 229 .iaload 1 230 := xd_of (by decide +kernel)
theorem d_L_law_230 : xD lb_L_law 230 .i2l 1 231 := xd_of (by decide +kernel)
theorem d_L_law_231 : xD lb_L_law 231 (.ldc2_w 37) 3 234 := xd_of (by decide +kernel)
theorem d_L_law_234 : xD lb_L_law 234 .land 1 235 := xd_of (by decide +kernel)
theorem d_L_law_235 : xD lb_L_law 235 .lor 1 236 := xd_of (by decide +kernel)
theorem d_L_law_236 : xD lb_L_law 236 (.aload_n 0) 1 237 := xd_of (by decide +kernel)
theorem d_L_law_237 : xD lb_L_law 237 (.iload 4) 2 239 := xd_of (by decide +kernel)
theorem d_L_law_239 : xD lb_L_law 239 (.iconst 5) 1 240 := xd_of (by decide +kernel)
theorem d_L_law_240 : xD lb_L_law 240 .iadd 1 241 := xd_of (by decide +kernel)
theorem d_L_law_241 : xD lb_L_law 241 .iaload 1 242 := xd_of (by decide +kernel)
theorem d_L_law_242 : xD lb_L_law 242 (.invokevirtual 39) 3 245 := xd_of (by decide +kernel)
theorem d_L_law_245 : xD lb_L_law 245 (.aload_n 2) 1 246 := xd_of (by decide +kernel)
theorem d_L_law_246 : xD lb_L_law 246 (.aload_n 0) 1 247 := xd_of (by decide +kernel)
theorem d_L_law_247 : xD lb_L_law 247 (.iload 4) 2 249 := xd_of (by decide +kernel)
theorem d_L_law_249 : xD lb_L_law 249 (.iconst 1) 1 250 := xd_of (by decide +kernel)
theorem d_L_law_250 : xD lb_L_law 250 .iadd 1 251 := xd_of (by decide +kernel)
theorem d_L_law_251 : xD lb_L_law 251 .iaload 1 252 := xd_of (by decide +kernel)
theorem d_L_law_252 : xD lb_L_law 252 .i2l 1 253 := xd_of (by decide +kernel)
theorem d_L_law_253 : xD lb_L_law 253 (.bipush 32) 2 255 := xd_of (by decide +kernel)
theorem d_L_law_255 : xD lb_L_law 255 .lshl 1 256 := xd_of (by decide +kernel)
theorem d_L_law_256 : xD lb_L_law 256 (.aload_n 0) 1 257 := xd_of (by decide +kernel)
theorem d_L_law_257 : xD lb_L_law 257 (.iload 4) 2 259 := xd_of (by decide +kernel)
theorem d_L_law_259 : xD lb_L_law 259 (.iconst 2) 1 260 := xd_of (by decide +kernel)
theorem d_L_law_260 : xD lb_L_law 260 .iadd 1 261 := xd_of (by decide +kernel)
theorem d_L_law_261 : xD lb_L_law 261 .iaload 1 262 := xd_of (by decide +kernel)
theorem d_L_law_262 : xD lb_L_law 262 .i2l 1 263 := xd_of (by decide +kernel)
theorem d_L_law_263 : xD lb_L_law 263 (.ldc2_w 37) 3 266 := xd_of (by decide +kernel)
theorem d_L_law_266 : xD lb_L_law 266 .land 1 267 := xd_of (by decide +kernel)
theorem d_L_law_267 : xD lb_L_law 267 .lor 1 268 := xd_of (by decide +kernel)
theorem d_L_law_268 : xD lb_L_law 268 (.aload_n 0) 1 269 := xd_of (by decide +kernel)
theorem d_L_law_269 : xD lb_L_law 269 (.iload 4) 2 271 := xd_of (by decide +kernel)
theorem d_L_law_271 : xD lb_L_law 271 (.iconst 3) 1 272 := xd_of (by decide +kernel)
theorem d_L_law_272 : xD lb_L_law 272 .iadd 1 273 := xd_of (by decide +kernel)
theorem d_L_law_273 : xD lb_L_law 273 .iaload 1 274 := xd_of (by decide +kernel)
theorem d_L_law_274 : xD lb_L_law 274 .i2l 1 275 := xd_of (by decide +kernel)
theorem d_L_law_275 : xD lb_L_law 275 (.bipush 32) 2 277 := xd_of (by decide +kernel)
theorem d_L_law_277 : xD lb_L_law 277 .lshl 1 278 := xd_of (by decide +kernel)
theorem d_L_law_278 : xD lb_L_law 278 (.aload_n 0) 1 279 := xd_of (by decide +kernel)
theorem d_L_law_279 : xD lb_L_law 279 (.iload 4) 2 281 := xd_of (by decide +kernel)
theorem d_L_law_281 : xD lb_L_law 281 (.iconst 4) 1 282 := xd_of (by decide +kernel)
theorem d_L_law_282 : xD lb_L_law 282 .iadd 1 283 := xd_of (by decide +kernel)
theorem d_L_law_283 : xD lb_L_law 283 .iaload 1 284 := xd_of (by decide +kernel)
theorem d_L_law_284 : xD lb_L_law 284 .i2l 1 285 := xd_of (by decide +kernel)
theorem d_L_law_285 : xD lb_L_law 285 (.ldc2_w 37) 3 288 := xd_of (by decide +kernel)
theorem d_L_law_288 : xD lb_L_law 288 .land 1 289 := xd_of (by decide +kernel)
theorem d_L_law_289 : xD lb_L_law 289 .lor 1 290 := xd_of (by decide +kernel)
theorem d_L_law_290 : xD lb_L_law 290 (.aload_n 0) 1 291 := xd_of (by decide +kernel)
theorem d_L_law_291 : xD lb_L_law 291 (.iload 4) 2 293 := xd_of (by decide +kernel)
theorem d_L_law_293 : xD lb_L_law 293 (.iconst 5) 1 294 := xd_of (by decide +kernel)
theorem d_L_law_294 : xD lb_L_law 294 .iadd 1 295 := xd_of (by decide +kernel)
theorem d_L_law_295 : xD lb_L_law 295 .iaload 1 296 := xd_of (by decide +kernel)
theorem d_L_law_296 : xD lb_L_law 296 (.invokevirtual 43) 3 299 := xd_of (by decide +kernel)
theorem d_L_law_299 : xDJ lb_L_law 299 (.if_icmp .eq 138) 138 437 302 := xdj_of (by decide +kernel)
theorem d_L_law_302 : xD lb_L_law 302 (.iconst 0) 1 303 := xd_of (by decide +kernel)
theorem d_L_law_303 : xD lb_L_law 303 .ireturn 1 304 := xd_of (by decide +kernel)
theorem d_L_law_304 : xD lb_L_law 304 (.aload_n 1) 1 305 := xd_of (by decide +kernel)
theorem d_L_law_305 : xD lb_L_law 305 (.invokevirtual 44) 3 308 := xd_of (by decide +kernel)
theorem d_L_law_308 : xD lb_L_law 308 (.aload_n 2) 1 309 := xd_of (by decide +kernel)
theorem d_L_law_309 : xD lb_L_law 309 (.invokevirtual 47) 3 312 := xd_of (by decide +kernel)
theorem d_L_law_312 : xDJ lb_L_law 312 (.if_icmp .eq 125) 125 437 315 := xdj_of (by decide +kernel)
theorem d_L_law_315 : xD lb_L_law 315 (.iconst 0) 1 316 := xd_of (by decide +kernel)
theorem d_L_law_316 : xD lb_L_law 316 .ireturn 1 317 := xd_of (by decide +kernel)
theorem d_L_law_317 : xD lb_L_law 317 (.aload_n 1) 1 318 := xd_of (by decide +kernel)
theorem d_L_law_318 : xD lb_L_law 318 (.invokevirtual 48) 3 321 := xd_of (by decide +kernel)
theorem d_L_law_321 : xD lb_L_law 321 (.aload_n 2) 1 322 := xd_of (by decide +kernel)
theorem d_L_law_322 : xD lb_L_law 322 (.invokevirtual 51) 3 325 := xd_of (by decide +kernel)
theorem d_L_law_325 : xDJ lb_L_law 325 (.if_icmp .eq 112) 112 437 328 := xdj_of (by decide +kernel)
theorem d_L_law_328 : xD lb_L_law 328 (.iconst 0) 1 329 := xd_of (by decide +kernel)
theorem d_L_law_329 : xD lb_L_law 329 .ireturn 1 330 := xd_of (by decide +kernel)
theorem d_L_law_330 : xD lb_L_law 330 (.aload_n 1) 1 331 := xd_of (by decide +kernel)
theorem d_L_law_331 : xD lb_L_law 331 (.aload_n 0) 1 332 := xd_of (by decide +kernel)
theorem d_L_law_332 : xD lb_L_law 332 (.iload 4) 2 334 := xd_of (by decide +kernel)
theorem d_L_law_334 : xD lb_L_law 334 (.iconst 1) 1 335 := xd_of (by decide +kernel)
theorem d_L_law_335 : xD lb_L_law 335 .iadd 1 336 := xd_of (by decide +kernel)
theorem d_L_law_336 : xD lb_L_law 336 .iaload 1 337 := xd_of (by decide +kernel)
theorem d_L_law_337 : xD lb_L_law 337 (.aload_n 3) 1 338 := xd_of (by decide +kernel)
theorem d_L_law_338 : xD lb_L_law 338 (.invokestatic 52) 3 341 := xd_of (by decide +kernel)
theorem d_L_law_341 : xD lb_L_law 341 (.istore 5) 2 343 := xd_of (by decide +kernel)
theorem d_L_law_343 : xD lb_L_law 343 (.aload_n 2) 1 344 := xd_of (by decide +kernel)
theorem d_L_law_344 : xD lb_L_law 344 (.aload_n 0) 1 345 := xd_of (by decide +kernel)
theorem d_L_law_345 : xD lb_L_law 345 (.iload 4) 2 347 := xd_of (by decide +kernel)
theorem d_L_law_347 : xD lb_L_law 347 (.iconst 1) 1 348 := xd_of (by decide +kernel)
theorem d_L_law_348 : xD lb_L_law 348 .iadd 1 349 := xd_of (by decide +kernel)
theorem d_L_law_349 : xD lb_L_law 349 .iaload 1 350 := xd_of (by decide +kernel)
theorem d_L_law_350 : xD lb_L_law 350 (.invokevirtual 57) 3 353 := xd_of (by decide +kernel)
theorem d_L_law_353 : xD lb_L_law 353 (.istore 6) 2 355 := xd_of (by decide +kernel)
theorem d_L_law_355 : xD lb_L_law 355 (.aload_n 2) 1 356 := xd_of (by decide +kernel)
theorem d_L_law_356 : xD lb_L_law 356 (.invokevirtual 58) 3 359 := xd_of (by decide +kernel)
theorem d_L_law_359 : xD lb_L_law 359 (.iload 5) 2 361 := xd_of (by decide +kernel)
theorem d_L_law_361 : xDJ lb_L_law 361 (.if_icmp .eq 5) 5 366 364 := xdj_of (by decide +kernel)
theorem d_L_law_364 : xD lb_L_law 364 (.iconst 0) 1 365 := xd_of (by decide +kernel)
theorem d_L_law_365 : xD lb_L_law 365 .ireturn 1 366 := xd_of (by decide +kernel)
theorem d_L_law_366 : xD lb_L_law 366 (.iload 5) 2 368 := xd_of (by decide +kernel)
theorem d_L_law_368 : xDJ lb_L_law 368 (.ifCond .ne 15) 15 383 371 := xdj_of (by decide +kernel)
theorem d_L_law_371 : xD lb_L_law 371 (.aload_n 3) 1 372 := xd_of (by decide +kernel)
theorem d_L_law_372 : xD lb_L_law 372 (.iconst 0) 1 373 := xd_of (by decide +kernel)
theorem d_L_law_373 : xD lb_L_law 373 .laload 1 374 := xd_of (by decide +kernel)
theorem d_L_law_374 : xD lb_L_law 374 (.iload 6) 2 376 := xd_of (by decide +kernel)
theorem d_L_law_376 : xD lb_L_law 376 .i2l 1 377 := xd_of (by decide +kernel)
theorem d_L_law_377 : xD lb_L_law 377 .lcmp 1 378 := xd_of (by decide +kernel)
theorem d_L_law_378 : xDJ lb_L_law 378 (.ifCond .eq 5) 5 383 381 := xdj_of (by decide +kernel)
theorem d_L_law_381 : xD lb_L_law 381 (.iconst 0) 1 382 := xd_of (by decide +kernel)
theorem d_L_law_382 : xD lb_L_law 382 .ireturn 1 383 := xd_of (by decide +kernel)
theorem d_L_law_383 : xDJ lb_L_law 383 (.goto 54) 54 437 386 := xdj_of (by decide +kernel)
theorem d_L_law_386 : xD lb_L_law 386 (.aload_n 1) 1 387 := xd_of (by decide +kernel)
theorem d_L_law_387 : xD lb_L_law 387 (.invokevirtual 61) 3 390 := xd_of (by decide +kernel)
theorem d_L_law_390 : xD lb_L_law 390 (.aload_n 2) 1 391 := xd_of (by decide +kernel)
theorem d_L_law_391 : xD lb_L_law 391 (.invokevirtual 64) 3 394 := xd_of (by decide +kernel)
theorem d_L_law_394 : xDJ lb_L_law 394 (.if_icmp .eq 43) 43 437 397 := xdj_of (by decide +kernel)
theorem d_L_law_397 : xD lb_L_law 397 (.iconst 0) 1 398 := xd_of (by decide +kernel)
theorem d_L_law_398 : xD lb_L_law 398 .ireturn 1 399 := xd_of (by decide +kernel)
theorem d_L_law_399 : xD lb_L_law 399 (.aload_n 1) 1 400 := xd_of (by decide +kernel)
theorem d_L_law_400 : xD lb_L_law 400 (.aload_n 0) 1 401 := xd_of (by decide +kernel)
theorem d_L_law_401 : xD lb_L_law 401 (.iload 4) 2 403 := xd_of (by decide +kernel)
theorem d_L_law_403 : xD lb_L_law 403 (.iconst 1) 1 404 := xd_of (by decide +kernel)
theorem d_L_law_404 : xD lb_L_law 404 .iadd 1 405 := xd_of (by decide +kernel)
theorem d_L_law_405 : xD lb_L_law 405 .iaload 1 406 := xd_of (by decide +kernel)
theorem d_L_law_406 : xD lb_L_law 406 (.aload_n 0) 1 407 := xd_of (by decide +kernel)
theorem d_L_law_407 : xD lb_L_law 407 (.iload 4) 2 409 := xd_of (by decide +kernel)
theorem d_L_law_409 : xD lb_L_law 409 (.iconst 2) 1 410 := xd_of (by decide +kernel)
theorem d_L_law_410 : xD lb_L_law 410 .iadd 1 411 := xd_of (by decide +kernel)
theorem d_L_law_411 : xD lb_L_law 411 .iaload 1 412 := xd_of (by decide +kernel)
theorem d_L_law_412 : xD lb_L_law 412 (.invokevirtual 65) 3 415 := xd_of (by decide +kernel)
theorem d_L_law_415 : xD lb_L_law 415 (.aload_n 2) 1 416 := xd_of (by decide +kernel)
theorem d_L_law_416 : xD lb_L_law 416 (.aload_n 0) 1 417 := xd_of (by decide +kernel)
theorem d_L_law_417 : xD lb_L_law 417 (.iload 4) 2 419 := xd_of (by decide +kernel)
theorem d_L_law_419 : xD lb_L_law 419 (.iconst 1) 1 420 := xd_of (by decide +kernel)
theorem d_L_law_420 : xD lb_L_law 420 .iadd 1 421 := xd_of (by decide +kernel)
theorem d_L_law_421 : xD lb_L_law 421 .iaload 1 422 := xd_of (by decide +kernel)
theorem d_L_law_422 : xD lb_L_law 422 (.aload_n 0) 1 423 := xd_of (by decide +kernel)
theorem d_L_law_423 : xD lb_L_law 423 (.iload 4) 2 425 := xd_of (by decide +kernel)
theorem d_L_law_425 : xD lb_L_law 425 (.iconst 2) 1 426 := xd_of (by decide +kernel)
theorem d_L_law_426 : xD lb_L_law 426 .iadd 1 427 := xd_of (by decide +kernel)
theorem d_L_law_427 : xD lb_L_law 427 .iaload 1 428 := xd_of (by decide +kernel)
theorem d_L_law_428 : xD lb_L_law 428 (.invokevirtual 69) 3 431 := xd_of (by decide +kernel)
theorem d_L_law_431 : xD lb_L_law 431 .lcmp 1 432 := xd_of (by decide +kernel)
theorem d_L_law_432 : xDJ lb_L_law 432 (.ifCond .eq 5) 5 437 435 := xdj_of (by decide +kernel)
theorem d_L_law_435 : xD lb_L_law 435 (.iconst 0) 1 436 := xd_of (by decide +kernel)
theorem d_L_law_436 : xD lb_L_law 436 .ireturn 1 437 := xd_of (by decide +kernel)
theorem d_L_law_437 : xD lb_L_law 437 (.iinc 4 6) 3 440 := xd_of (by decide +kernel)
theorem d_L_law_440 : xDJ lb_L_law 440 (.goto (-417)) (-417) 23 443 := xdj_of (by decide +kernel)
theorem d_L_law_443 : xD lb_L_law 443 (.iconst 1) 1 444 := xd_of (by decide +kernel)
theorem d_L_law_444 : xD lb_L_law 444 .ireturn 1 445 := xd_of (by decide +kernel)
def f_L_law_b437 (L : Nat) (xs : Nat → Int32) (r23 : (xw → Nat → Nat → Nat → Nat → Nat → Nat → Int32 → Option (Int32))) (w : xw) (sz : Nat) (bc : Nat) (bs : Nat) (l1 : Nat) (l2 : Nat) (l3 : Nat) (l4 : Int32) : Option (Int32) :=
  (some (l4 + (6 : Int32))).bind fun x1 =>
  r23 w sz bc bs l1 l2 l3 x1
def f_L_law_b383 (L : Nat) (xs : Nat → Int32) (r23 : (xw → Nat → Nat → Nat → Nat → Nat → Nat → Int32 → Option (Int32))) (w : xw) (sz : Nat) (bc : Nat) (bs : Nat) (l1 : Nat) (l2 : Nat) (l3 : Nat) (l4 : Int32) : Option (Int32) :=
  f_L_law_b437 L xs r23 w sz bc bs l1 l2 l3 l4
def f_L_law_s23 (L : Nat) (xs : Nat → Int32) (r23 : (xw → Nat → Nat → Nat → Nat → Nat → Nat → Int32 → Option (Int32))) (w : xw) (sz : Nat) (bc : Nat) (bs : Nat) (l1 : Nat) (l2 : Nat) (l3 : Nat) (l4 : Int32) : Option (Int32) :=
  (some (Int32.ofNat L)).bind fun x1 =>
  if (x1 - (6 : Int32)) < l4 then
  some (1 : Int32)
  else
  (xsl L xs l4).bind fun x2 =>
    if (x2 &&& (15 : Int32)) = (0 : Int32) then
    (xsl L xs (l4 + (1 : Int32))).bind fun x3 =>
      (xsl L xs (l4 + (2 : Int32))).bind fun x4 =>
      (xsl L xs (l4 + (3 : Int32))).bind fun x5 =>
      (xsl L xs (l4 + (4 : Int32))).bind fun x6 =>
      (xsl L xs (l4 + (5 : Int32))).bind fun x7 =>
      (xck w l1 0).bind fun _ =>
      (f_G_add w l1 x3 x4 x5 x6 x7).bind fun q8 =>
      (xsl L xs (l4 + (1 : Int32))).bind fun x9 =>
      (xsl L xs (l4 + (2 : Int32))).bind fun x10 =>
      (xsl L xs (l4 + (3 : Int32))).bind fun x11 =>
      (xsl L xs (l4 + (4 : Int32))).bind fun x12 =>
      (xsl L xs (l4 + (5 : Int32))).bind fun x13 =>
      (xck q8.2 l2 8).bind fun _ =>
      (f_R_add q8.2 l2 x9 x10 x11 x12 x13).bind fun q14 =>
      if q8.1 = q14.1 then
      f_L_law_b437 L xs r23 q14.2 sz bc bs l1 l2 l3 l4
      else
      some (0 : Int32)
    else if (x2 &&& (15 : Int32)) = (1 : Int32) then
    (xck w l1 0).bind fun _ =>
      (f_G_clear w l1).bind fun q15 =>
      (xck q15.2 l2 8).bind fun _ =>
      (f_R_clear q15.2 l2).bind fun q16 =>
      if q15.1 = q16.1 then
      f_L_law_b437 L xs r23 q16.2 sz bc bs l1 l2 l3 l4
      else
      some (0 : Int32)
    else if (x2 &&& (15 : Int32)) = (2 : Int32) then
    (xck w l1 0).bind fun _ =>
      (f_G_size w l1).bind fun q17 =>
      (xck q17.2 l2 8).bind fun _ =>
      (f_R_size q17.2 l2).bind fun q18 =>
      if q17.1 = q18.1 then
      f_L_law_b437 L xs r23 q18.2 sz bc bs l1 l2 l3 l4
      else
      some (0 : Int32)
    else if (x2 &&& (15 : Int32)) = (3 : Int32) then
    (xsl L xs (l4 + (1 : Int32))).bind fun x19 =>
      (xsl L xs (l4 + (2 : Int32))).bind fun x20 =>
      (xsl L xs (l4 + (3 : Int32))).bind fun x21 =>
      (xsl L xs (l4 + (4 : Int32))).bind fun x22 =>
      (xsl L xs (l4 + (5 : Int32))).bind fun x23 =>
      (xck w l1 0).bind fun _ =>
      (f_G_packet w l1 ((x19.toInt64 <<< ((32 : Int32).toInt64 &&& 63)) ||| (x20.toInt64 &&& (4294967295 : Int64))) ((x21.toInt64 <<< ((32 : Int32).toInt64 &&& 63)) ||| (x22.toInt64 &&& (4294967295 : Int64))) x23).bind fun q24 =>
      (xsl L xs (l4 + (1 : Int32))).bind fun x25 =>
      (xsl L xs (l4 + (2 : Int32))).bind fun x26 =>
      (xsl L xs (l4 + (3 : Int32))).bind fun x27 =>
      (xsl L xs (l4 + (4 : Int32))).bind fun x28 =>
      (xsl L xs (l4 + (5 : Int32))).bind fun x29 =>
      (xck q24.2 l2 8).bind fun _ =>
      (f_R_packet q24.2 l2 ((x25.toInt64 <<< ((32 : Int32).toInt64 &&& 63)) ||| (x26.toInt64 &&& (4294967295 : Int64))) ((x27.toInt64 <<< ((32 : Int32).toInt64 &&& 63)) ||| (x28.toInt64 &&& (4294967295 : Int64))) x29).bind fun q30 =>
      if q24.1 = q30.1 then
      f_L_law_b437 L xs r23 q30.2 sz bc bs l1 l2 l3 l4
      else
      some (0 : Int32)
    else if (x2 &&& (15 : Int32)) = (4 : Int32) then
    (xck w l1 0).bind fun _ =>
      (f_G_walk w l1).bind fun q31 =>
      (xck q31.2 l2 8).bind fun _ =>
      (f_R_walk q31.2 l2).bind fun q32 =>
      if q31.1 = q32.1 then
      f_L_law_b437 L xs r23 q32.2 sz bc bs l1 l2 l3 l4
      else
      some (0 : Int32)
    else if (x2 &&& (15 : Int32)) = (5 : Int32) then
    (xck w l1 0).bind fun _ =>
      (f_G_steps w l1).bind fun q33 =>
      (xck q33.2 l2 8).bind fun _ =>
      (f_R_steps q33.2 l2).bind fun q34 =>
      if q33.1 = q34.1 then
      f_L_law_b437 L xs r23 q34.2 sz bc bs l1 l2 l3 l4
      else
      some (0 : Int32)
    else if (x2 &&& (15 : Int32)) = (6 : Int32) then
    (xsl L xs (l4 + (1 : Int32))).bind fun x35 =>
      (xbud bc bs 1 6).bind fun b36 =>
      (f_L_run w sz l1 x35 l3).bind fun q37 =>
      (xsl L xs (l4 + (1 : Int32))).bind fun x38 =>
      (xck q37.2.1 l2 8).bind fun _ =>
      (f_R_run q37.2.1 l2 x38).bind fun q39 =>
      (xck q39.2 l2 8).bind fun _ =>
      (f_R_thrown q39.2 l2).bind fun q40 =>
      if q40.1 = q37.1 then
      if ¬ q37.1 = 0 then
        f_L_law_b383 L xs r23 q40.2 q37.2.2 b36.1 b36.2 l1 l2 l3 l4
        else
        (xaL q40.2 l3 (0 : Int32)).bind fun x41 =>
          if x41 = q39.1.toInt64 then
          f_L_law_b383 L xs r23 q40.2 q37.2.2 b36.1 b36.2 l1 l2 l3 l4
          else
          some (0 : Int32)
      else
      some (0 : Int32)
    else if (x2 &&& (15 : Int32)) = (7 : Int32) then
    (xck w l1 0).bind fun _ =>
      (f_G_ran w l1).bind fun q42 =>
      (xck q42.2 l2 8).bind fun _ =>
      (f_R_ran q42.2 l2).bind fun q43 =>
      if q42.1 = q43.1 then
      f_L_law_b437 L xs r23 q43.2 sz bc bs l1 l2 l3 l4
      else
      some (0 : Int32)
    else if (x2 &&& (15 : Int32)) = (8 : Int32) then
    (xsl L xs (l4 + (1 : Int32))).bind fun x44 =>
      (xsl L xs (l4 + (2 : Int32))).bind fun x45 =>
      (xck w l1 0).bind fun _ =>
      (f_G_known w l1 x44 x45).bind fun q46 =>
      (xsl L xs (l4 + (1 : Int32))).bind fun x47 =>
      (xsl L xs (l4 + (2 : Int32))).bind fun x48 =>
      (xck q46.2 l2 8).bind fun _ =>
      (f_R_known q46.2 l2 x47 x48).bind fun q49 =>
      if q46.1 = q49.1 then
      f_L_law_b437 L xs r23 q49.2 sz bc bs l1 l2 l3 l4
      else
      some (0 : Int32)
    else f_L_law_b437 L xs r23 w sz bc bs l1 l2 l3 l4
def f_L_law_b23 (L : Nat) (xs : Nat → Int32) (n : Nat) : xw → Nat → Nat → Nat → Nat → Nat → Nat → Int32 → Option (Int32) := xfix (fun _ _ _ _ _ _ _ _ => none) (f_L_law_s23 L xs) n
def f_L_law (L : Nat) (xs : Nat → Int32) (w : xw) (sz : Nat) (bc : Nat) (bs : Nat) : Option (Int32) :=
  (xn w sz bc bs 0).bind fun q1 =>
  (xbud q1.2.2.1 q1.2.2.2 375 2653).bind fun b2 =>
  (f_G_init q1.1 q1.2.1 375 2653 sz).bind fun q3 =>
  (xn q3.2.1 q3.2.2 b2.1 b2.2 8).bind fun q4 =>
  (xbud q4.2.2.1 q4.2.2.2 17 2251).bind fun b5 =>
  (f_R_init q4.1 q4.2.1 17 2251 q3.2.2).bind fun q6 =>
  (xnaL q6.2.1 q6.2.2 b5.1 b5.2 (1 : Int32)).bind fun q7 =>
  (some (0 : Int32)).bind fun x8 =>
  f_L_law_b23 L xs 4000 q7.1 q7.2.1 q7.2.2.1 q7.2.2.2 sz q3.2.2 q6.2.2 x8
theorem vb_L_law_437 (nm : String) (l : Launch) (D : va_G) (cT : Nat → ClassId) (w0 : xw) (sz0 b0 L : Nat) (xs : Nat → Int32) (r23 : xw → Nat → Nat → Nat → Nat → Nat → Nat → Int32 → Option (Int32)) (R23 : ∀ (w : xw) (sz : Nat) (bc : Nat) (bs : Nat) (l1 : Nat) (l2 : Nat) (l3 : Nat) (l4 : Int32), r23 w sz bc bs l1 l2 l3 l4 = some 1 → bc ≤ room_1.cells ∧ bs ≤ room_1.slots → kv_L_law nm (l, D, cT, [.ref b0], w0, sz0) [(0, .ref b0), (1, .ref l1), (2, .ref l2), (3, .ref l3), (4, .int l4)] [] w sz (room_1.cells - bc) (room_1.slots - bs) 23 (b0, L, xs)) (w : xw) (sz : Nat) (bc : Nat) (bs : Nat) (l1 : Nat) (l2 : Nat) (l3 : Nat) (l4 : Int32) (h : f_L_law_b437 L xs r23 w sz bc bs l1 l2 l3 l4 = some 1) : bc ≤ room_1.cells ∧ bs ≤ room_1.slots → kv_L_law nm (l, D, cT, [.ref b0], w0, sz0) [(0, .ref b0), (1, .ref l1), (2, .ref l2), (3, .ref l3), (4, .int l4)] [] w sz (room_1.cells - bc) (room_1.slots - bs) 437 (b0, L, xs) := by
  unfold f_L_law_b437 at h
  intro hb
  refine vxo_iinc 4 (fun x1 => [(4, .int x1), (0, .ref b0), (1, .ref l1), (2, .ref l2), (3, .ref l3)]) d_L_law_437 rfl rfl xic_6 (fun _ => rfl) h (fun x1 h => ?_)
  refine vxo_goto d_L_law_440 ?_
  exact vxo_sub [1, 2, 3, 4, 0] [(0, .ref b0), (1, .ref l1), (2, .ref l2), (3, .ref l3), (4, .int x1)] rfl (R23 _ _ _ _ _ _ _ _ h hb)
theorem vb_L_law_383 (nm : String) (l : Launch) (D : va_G) (cT : Nat → ClassId) (w0 : xw) (sz0 b0 L : Nat) (xs : Nat → Int32) (r23 : xw → Nat → Nat → Nat → Nat → Nat → Nat → Int32 → Option (Int32)) (R23 : ∀ (w : xw) (sz : Nat) (bc : Nat) (bs : Nat) (l1 : Nat) (l2 : Nat) (l3 : Nat) (l4 : Int32), r23 w sz bc bs l1 l2 l3 l4 = some 1 → bc ≤ room_1.cells ∧ bs ≤ room_1.slots → kv_L_law nm (l, D, cT, [.ref b0], w0, sz0) [(0, .ref b0), (1, .ref l1), (2, .ref l2), (3, .ref l3), (4, .int l4)] [] w sz (room_1.cells - bc) (room_1.slots - bs) 23 (b0, L, xs)) (w : xw) (sz : Nat) (bc : Nat) (bs : Nat) (l1 : Nat) (l2 : Nat) (l3 : Nat) (l4 : Int32) (h : f_L_law_b383 L xs r23 w sz bc bs l1 l2 l3 l4 = some 1) : bc ≤ room_1.cells ∧ bs ≤ room_1.slots → kv_L_law nm (l, D, cT, [.ref b0], w0, sz0) [(0, .ref b0), (1, .ref l1), (2, .ref l2), (3, .ref l3), (4, .int l4)] [] w sz (room_1.cells - bc) (room_1.slots - bs) 383 (b0, L, xs) := by
  unfold f_L_law_b383 at h
  intro hb
  refine vxo_goto d_L_law_383 ?_
  exact vxo_sub [0, 1, 2, 3, 4] [(0, .ref b0), (1, .ref l1), (2, .ref l2), (3, .ref l3), (4, .int l4)] rfl (vb_L_law_437 nm l D cT w0 sz0 b0 L xs _ R23 _ _ _ _ _ _ _ _ h hb)
theorem vs_L_law_23 (nm : String) (l : Launch) (D : va_G) (cT : Nat → ClassId) (w0 : xw) (sz0 b0 L : Nat) (xs : Nat → Int32) (r23 : xw → Nat → Nat → Nat → Nat → Nat → Nat → Int32 → Option (Int32)) (R23 : ∀ (w : xw) (sz : Nat) (bc : Nat) (bs : Nat) (l1 : Nat) (l2 : Nat) (l3 : Nat) (l4 : Int32), r23 w sz bc bs l1 l2 l3 l4 = some 1 → bc ≤ room_1.cells ∧ bs ≤ room_1.slots → kv_L_law nm (l, D, cT, [.ref b0], w0, sz0) [(0, .ref b0), (1, .ref l1), (2, .ref l2), (3, .ref l3), (4, .int l4)] [] w sz (room_1.cells - bc) (room_1.slots - bs) 23 (b0, L, xs)) (w : xw) (sz : Nat) (bc : Nat) (bs : Nat) (l1 : Nat) (l2 : Nat) (l3 : Nat) (l4 : Int32) (h : f_L_law_s23 L xs r23 w sz bc bs l1 l2 l3 l4 = some 1) : bc ≤ room_1.cells ∧ bs ≤ room_1.slots → kv_L_law nm (l, D, cT, [.ref b0], w0, sz0) [(0, .ref b0), (1, .ref l1), (2, .ref l2), (3, .ref l3), (4, .int l4)] [] w sz (room_1.cells - bc) (room_1.slots - bs) 23 (b0, L, xs) := by
  unfold f_L_law_s23 at h
  intro hb
  refine vxo_iload 4 d_L_law_23 rfl ?_
  refine vxo_aload_n 0 d_L_law_25 rfl rfl ?_
  refine v_slen d_L_law_26 h (fun x1 h => ?_)
  refine vxo_bipush d_L_law_27 xbp_6 ?_
  refine vxo_isub d_L_law_29 ?_
  refine vxo_icmp_gt d_L_law_30 h (fun h => ?_) (fun h => ?_)
  · refine vxo_iconst d_L_law_443 xic_1 ?_
    exact v_ret bl_L_law d_L_law_444 h
  · refine vxo_aload_n 0 d_L_law_33 rfl rfl ?_
    refine vxo_iload 4 d_L_law_34 rfl ?_
    refine v_sld d_L_law_36 h (fun x2 h => ?_)
    refine vxo_bipush d_L_law_37 xbp_15 ?_
    refine vxo_iand d_L_law_39 ?_
    rcases xif h with ⟨hc0, h⟩ | ⟨hc0, h⟩
    · refine vxo_tableIn 52 92 d_L_law_40 (by rw [hc0]; decide) (by rw [hc0]; decide) (by rw [hc0]; decide) (by decide) ?_
      refine vxo_aload_n 1 d_L_law_92 rfl rfl ?_
      refine vxo_aload_n 0 d_L_law_93 rfl rfl ?_
      refine vxo_iload 4 d_L_law_94 rfl ?_
      refine vxo_iconst d_L_law_96 xic_1 ?_
      refine vxo_iadd d_L_law_97 ?_
      refine v_sld d_L_law_98 h (fun x3 h => ?_)
      refine vxo_aload_n 0 d_L_law_99 rfl rfl ?_
      refine vxo_iload 4 d_L_law_100 rfl ?_
      refine vxo_iconst d_L_law_102 xic_2 ?_
      refine vxo_iadd d_L_law_103 ?_
      refine v_sld d_L_law_104 h (fun x4 h => ?_)
      refine vxo_aload_n 0 d_L_law_105 rfl rfl ?_
      refine vxo_iload 4 d_L_law_106 rfl ?_
      refine vxo_iconst d_L_law_108 xic_3 ?_
      refine vxo_iadd d_L_law_109 ?_
      refine v_sld d_L_law_110 h (fun x5 h => ?_)
      refine vxo_aload_n 0 d_L_law_111 rfl rfl ?_
      refine vxo_iload 4 d_L_law_112 rfl ?_
      refine vxo_iconst d_L_law_114 xic_4 ?_
      refine vxo_iadd d_L_law_115 ?_
      refine v_sld d_L_law_116 h (fun x6 h => ?_)
      refine vxo_aload_n 0 d_L_law_117 rfl rfl ?_
      refine vxo_iload 4 d_L_law_118 rfl ?_
      refine vxo_iconst d_L_law_120 xic_5 ?_
      refine vxo_iadd d_L_law_121 ?_
      refine v_sld d_L_law_122 h (fun x7 h => ?_)
      refine vxo_V_IH (rest := []) [.int x3, .int x4, .int x5, .int x6, .int x7] d_L_law_123 tw_237 yw_G_add h xc_0 (fun z e => c_G_add _ _ _ _ _ _ _ _ _ _ _ z e) (xfit_sub rfl ⟨rfl, rfl⟩) ⟨rfl, rfl⟩ rfl rfl rfl (fun q8 h => ?_)
      refine vxo_aload_n 2 d_L_law_126 rfl rfl ?_
      refine vxo_aload_n 0 d_L_law_127 rfl rfl ?_
      refine vxo_iload 4 d_L_law_128 rfl ?_
      refine vxo_iconst d_L_law_130 xic_1 ?_
      refine vxo_iadd d_L_law_131 ?_
      refine v_sld d_L_law_132 h (fun x9 h => ?_)
      refine vxo_aload_n 0 d_L_law_133 rfl rfl ?_
      refine vxo_iload 4 d_L_law_134 rfl ?_
      refine vxo_iconst d_L_law_136 xic_2 ?_
      refine vxo_iadd d_L_law_137 ?_
      refine v_sld d_L_law_138 h (fun x10 h => ?_)
      refine vxo_aload_n 0 d_L_law_139 rfl rfl ?_
      refine vxo_iload 4 d_L_law_140 rfl ?_
      refine vxo_iconst d_L_law_142 xic_3 ?_
      refine vxo_iadd d_L_law_143 ?_
      refine v_sld d_L_law_144 h (fun x11 h => ?_)
      refine vxo_aload_n 0 d_L_law_145 rfl rfl ?_
      refine vxo_iload 4 d_L_law_146 rfl ?_
      refine vxo_iconst d_L_law_148 xic_4 ?_
      refine vxo_iadd d_L_law_149 ?_
      refine v_sld d_L_law_150 h (fun x12 h => ?_)
      refine vxo_aload_n 0 d_L_law_151 rfl rfl ?_
      refine vxo_iload 4 d_L_law_152 rfl ?_
      refine vxo_iconst d_L_law_154 xic_5 ?_
      refine vxo_iadd d_L_law_155 ?_
      refine v_sld d_L_law_156 h (fun x13 h => ?_)
      refine vxo_V_IH (rest := [.int q8.1]) [.int x9, .int x10, .int x11, .int x12, .int x13] d_L_law_157 tw_724 yw_R_add h xc_8 (fun z e => c_R_add _ _ _ _ _ _ _ _ _ _ _ z e) (xfit_sub rfl ⟨rfl, rfl⟩) ⟨rfl, rfl⟩ rfl rfl rfl (fun q14 h => ?_)
      refine vxo_icmp_eq d_L_law_160 h (fun h => ?_) (fun h => ?_)
      · exact vxo_sub [0, 1, 2, 3, 4] [(0, .ref b0), (1, .ref l1), (2, .ref l2), (3, .ref l3), (4, .int l4)] rfl (vb_L_law_437 nm l D cT w0 sz0 b0 L xs _ R23 _ _ _ _ _ _ _ _ h hb)
      · refine vxo_iconst d_L_law_163 xic_0 ?_
        exact v_ret bl_L_law d_L_law_164 h
    rcases xif h with ⟨hc1, h⟩ | ⟨hc1, h⟩
    · refine vxo_tableIn 125 165 d_L_law_40 (by rw [hc1]; decide) (by rw [hc1]; decide) (by rw [hc1]; decide) (by decide) ?_
      refine vxo_aload_n 1 d_L_law_165 rfl rfl ?_
      refine vxo_V_IH (rest := []) [] d_L_law_166 tw_248 yw_G_clear h xc_0 (fun z e => c_G_clear _ _ _ _ _ _ z e) (xfit_sub rfl ⟨rfl, rfl⟩) ⟨rfl, rfl⟩ rfl rfl rfl (fun q15 h => ?_)
      refine vxo_aload_n 2 d_L_law_169 rfl rfl ?_
      refine vxo_V_IH (rest := [.int q15.1]) [] d_L_law_170 tw_731 yw_R_clear h xc_8 (fun z e => c_R_clear _ _ _ _ _ _ z e) (xfit_sub rfl ⟨rfl, rfl⟩) ⟨rfl, rfl⟩ rfl rfl rfl (fun q16 h => ?_)
      refine vxo_icmp_eq d_L_law_173 h (fun h => ?_) (fun h => ?_)
      · exact vxo_sub [0, 1, 2, 3, 4] [(0, .ref b0), (1, .ref l1), (2, .ref l2), (3, .ref l3), (4, .int l4)] rfl (vb_L_law_437 nm l D cT w0 sz0 b0 L xs _ R23 _ _ _ _ _ _ _ _ h hb)
      · refine vxo_iconst d_L_law_176 xic_0 ?_
        exact v_ret bl_L_law d_L_law_177 h
    rcases xif h with ⟨hc2, h⟩ | ⟨hc2, h⟩
    · refine vxo_tableIn 138 178 d_L_law_40 (by rw [hc2]; decide) (by rw [hc2]; decide) (by rw [hc2]; decide) (by decide) ?_
      refine vxo_aload_n 1 d_L_law_178 rfl rfl ?_
      refine vxo_V_IH (rest := []) [] d_L_law_179 tw_252 yw_G_size h xc_0 (fun z e => c_G_size _ _ _ _ _ _ z e) (xfit_sub rfl ⟨rfl, rfl⟩) ⟨rfl, rfl⟩ rfl rfl rfl (fun q17 h => ?_)
      refine vxo_aload_n 2 d_L_law_182 rfl rfl ?_
      refine vxo_V_IH (rest := [.int q17.1]) [] d_L_law_183 tw_735 yw_R_size h xc_8 (fun z e => c_R_size _ _ _ _ _ _ z e) (xfit_sub rfl ⟨rfl, rfl⟩) ⟨rfl, rfl⟩ rfl rfl rfl (fun q18 h => ?_)
      refine vxo_icmp_eq d_L_law_186 h (fun h => ?_) (fun h => ?_)
      · exact vxo_sub [0, 1, 2, 3, 4] [(0, .ref b0), (1, .ref l1), (2, .ref l2), (3, .ref l3), (4, .int l4)] rfl (vb_L_law_437 nm l D cT w0 sz0 b0 L xs _ R23 _ _ _ _ _ _ _ _ h hb)
      · refine vxo_iconst d_L_law_189 xic_0 ?_
        exact v_ret bl_L_law d_L_law_190 h
    rcases xif h with ⟨hc3, h⟩ | ⟨hc3, h⟩
    · refine vxo_tableIn 151 191 d_L_law_40 (by rw [hc3]; decide) (by rw [hc3]; decide) (by rw [hc3]; decide) (by decide) ?_
      refine vxo_aload_n 1 d_L_law_191 rfl rfl ?_
      refine vxo_aload_n 0 d_L_law_192 rfl rfl ?_
      refine vxo_iload 4 d_L_law_193 rfl ?_
      refine vxo_iconst d_L_law_195 xic_1 ?_
      refine vxo_iadd d_L_law_196 ?_
      refine v_sld d_L_law_197 h (fun x19 h => ?_)
      refine vxo_i2l d_L_law_198 ?_
      refine vxo_bipush d_L_law_199 xbp_32 ?_
      refine vxo_lshl d_L_law_201 ?_
      refine vxo_aload_n 0 d_L_law_202 rfl rfl ?_
      refine vxo_iload 4 d_L_law_203 rfl ?_
      refine vxo_iconst d_L_law_205 xic_2 ?_
      refine vxo_iadd d_L_law_206 ?_
      refine v_sld d_L_law_207 h (fun x20 h => ?_)
      refine vxo_i2l d_L_law_208 ?_
      refine vxo_ldc2 d_L_law_209 tw_902 ?_
      refine vxo_land d_L_law_212 ?_
      refine vxo_lor d_L_law_213 ?_
      refine vxo_aload_n 0 d_L_law_214 rfl rfl ?_
      refine vxo_iload 4 d_L_law_215 rfl ?_
      refine vxo_iconst d_L_law_217 xic_3 ?_
      refine vxo_iadd d_L_law_218 ?_
      refine v_sld d_L_law_219 h (fun x21 h => ?_)
      refine vxo_i2l d_L_law_220 ?_
      refine vxo_bipush d_L_law_221 xbp_32 ?_
      refine vxo_lshl d_L_law_223 ?_
      refine vxo_aload_n 0 d_L_law_224 rfl rfl ?_
      refine vxo_iload 4 d_L_law_225 rfl ?_
      refine vxo_iconst d_L_law_227 xic_4 ?_
      refine vxo_iadd d_L_law_228 ?_
      refine v_sld d_L_law_229 h (fun x22 h => ?_)
      refine vxo_i2l d_L_law_230 ?_
      refine vxo_ldc2 d_L_law_231 tw_902 ?_
      refine vxo_land d_L_law_234 ?_
      refine vxo_lor d_L_law_235 ?_
      refine vxo_aload_n 0 d_L_law_236 rfl rfl ?_
      refine vxo_iload 4 d_L_law_237 rfl ?_
      refine vxo_iconst d_L_law_239 xic_5 ?_
      refine vxo_iadd d_L_law_240 ?_
      refine v_sld d_L_law_241 h (fun x23 h => ?_)
      refine vxo_V_IH (rest := []) [.long ((x19.toInt64 <<< ((32 : Int32).toInt64 &&& 63)) ||| (x20.toInt64 &&& (4294967295 : Int64))), .long ((x21.toInt64 <<< ((32 : Int32).toInt64 &&& 63)) ||| (x22.toInt64 &&& (4294967295 : Int64))), .int x23] d_L_law_242 tw_256 yw_G_packet h xc_0 (fun z e => c_G_packet _ _ _ _ _ _ _ _ _ z e) (xfit_sub rfl ⟨rfl, rfl⟩) ⟨rfl, rfl⟩ rfl rfl rfl (fun q24 h => ?_)
      refine vxo_aload_n 2 d_L_law_245 rfl rfl ?_
      refine vxo_aload_n 0 d_L_law_246 rfl rfl ?_
      refine vxo_iload 4 d_L_law_247 rfl ?_
      refine vxo_iconst d_L_law_249 xic_1 ?_
      refine vxo_iadd d_L_law_250 ?_
      refine v_sld d_L_law_251 h (fun x25 h => ?_)
      refine vxo_i2l d_L_law_252 ?_
      refine vxo_bipush d_L_law_253 xbp_32 ?_
      refine vxo_lshl d_L_law_255 ?_
      refine vxo_aload_n 0 d_L_law_256 rfl rfl ?_
      refine vxo_iload 4 d_L_law_257 rfl ?_
      refine vxo_iconst d_L_law_259 xic_2 ?_
      refine vxo_iadd d_L_law_260 ?_
      refine v_sld d_L_law_261 h (fun x26 h => ?_)
      refine vxo_i2l d_L_law_262 ?_
      refine vxo_ldc2 d_L_law_263 tw_902 ?_
      refine vxo_land d_L_law_266 ?_
      refine vxo_lor d_L_law_267 ?_
      refine vxo_aload_n 0 d_L_law_268 rfl rfl ?_
      refine vxo_iload 4 d_L_law_269 rfl ?_
      refine vxo_iconst d_L_law_271 xic_3 ?_
      refine vxo_iadd d_L_law_272 ?_
      refine v_sld d_L_law_273 h (fun x27 h => ?_)
      refine vxo_i2l d_L_law_274 ?_
      refine vxo_bipush d_L_law_275 xbp_32 ?_
      refine vxo_lshl d_L_law_277 ?_
      refine vxo_aload_n 0 d_L_law_278 rfl rfl ?_
      refine vxo_iload 4 d_L_law_279 rfl ?_
      refine vxo_iconst d_L_law_281 xic_4 ?_
      refine vxo_iadd d_L_law_282 ?_
      refine v_sld d_L_law_283 h (fun x28 h => ?_)
      refine vxo_i2l d_L_law_284 ?_
      refine vxo_ldc2 d_L_law_285 tw_902 ?_
      refine vxo_land d_L_law_288 ?_
      refine vxo_lor d_L_law_289 ?_
      refine vxo_aload_n 0 d_L_law_290 rfl rfl ?_
      refine vxo_iload 4 d_L_law_291 rfl ?_
      refine vxo_iconst d_L_law_293 xic_5 ?_
      refine vxo_iadd d_L_law_294 ?_
      refine v_sld d_L_law_295 h (fun x29 h => ?_)
      refine vxo_V_IH (rest := [.int q24.1]) [.long ((x25.toInt64 <<< ((32 : Int32).toInt64 &&& 63)) ||| (x26.toInt64 &&& (4294967295 : Int64))), .long ((x27.toInt64 <<< ((32 : Int32).toInt64 &&& 63)) ||| (x28.toInt64 &&& (4294967295 : Int64))), .int x29] d_L_law_296 tw_739 yw_R_packet h xc_8 (fun z e => c_R_packet _ _ _ _ _ _ _ _ _ z e) (xfit_sub rfl ⟨rfl, rfl⟩) ⟨rfl, rfl⟩ rfl rfl rfl (fun q30 h => ?_)
      refine vxo_icmp_eq d_L_law_299 h (fun h => ?_) (fun h => ?_)
      · exact vxo_sub [0, 1, 2, 3, 4] [(0, .ref b0), (1, .ref l1), (2, .ref l2), (3, .ref l3), (4, .int l4)] rfl (vb_L_law_437 nm l D cT w0 sz0 b0 L xs _ R23 _ _ _ _ _ _ _ _ h hb)
      · refine vxo_iconst d_L_law_302 xic_0 ?_
        exact v_ret bl_L_law d_L_law_303 h
    rcases xif h with ⟨hc4, h⟩ | ⟨hc4, h⟩
    · refine vxo_tableIn 264 304 d_L_law_40 (by rw [hc4]; decide) (by rw [hc4]; decide) (by rw [hc4]; decide) (by decide) ?_
      refine vxo_aload_n 1 d_L_law_304 rfl rfl ?_
      refine vxo_V_IH (rest := []) [] d_L_law_305 tw_264 yw_G_walk h xc_0 (fun z e => c_G_walk _ _ _ _ _ _ z e) (xfit_sub rfl ⟨rfl, rfl⟩) ⟨rfl, rfl⟩ rfl rfl rfl (fun q31 h => ?_)
      refine vxo_aload_n 2 d_L_law_308 rfl rfl ?_
      refine vxo_V_IH (rest := [.int q31.1]) [] d_L_law_309 tw_744 yw_R_walk h xc_8 (fun z e => c_R_walk _ _ _ _ _ _ z e) (xfit_sub rfl ⟨rfl, rfl⟩) ⟨rfl, rfl⟩ rfl rfl rfl (fun q32 h => ?_)
      refine vxo_icmp_eq d_L_law_312 h (fun h => ?_) (fun h => ?_)
      · exact vxo_sub [0, 1, 2, 3, 4] [(0, .ref b0), (1, .ref l1), (2, .ref l2), (3, .ref l3), (4, .int l4)] rfl (vb_L_law_437 nm l D cT w0 sz0 b0 L xs _ R23 _ _ _ _ _ _ _ _ h hb)
      · refine vxo_iconst d_L_law_315 xic_0 ?_
        exact v_ret bl_L_law d_L_law_316 h
    rcases xif h with ⟨hc5, h⟩ | ⟨hc5, h⟩
    · refine vxo_tableIn 277 317 d_L_law_40 (by rw [hc5]; decide) (by rw [hc5]; decide) (by rw [hc5]; decide) (by decide) ?_
      refine vxo_aload_n 1 d_L_law_317 rfl rfl ?_
      refine vxo_V_IH (rest := []) [] d_L_law_318 tw_478 yw_G_steps h xc_0 (fun z e => c_G_steps _ _ _ _ _ _ z e) (xfit_sub rfl ⟨rfl, rfl⟩) ⟨rfl, rfl⟩ rfl rfl rfl (fun q33 h => ?_)
      refine vxo_aload_n 2 d_L_law_321 rfl rfl ?_
      refine vxo_V_IH (rest := [.int q33.1]) [] d_L_law_322 tw_868 yw_R_steps h xc_8 (fun z e => c_R_steps _ _ _ _ _ _ z e) (xfit_sub rfl ⟨rfl, rfl⟩) ⟨rfl, rfl⟩ rfl rfl rfl (fun q34 h => ?_)
      refine vxo_icmp_eq d_L_law_325 h (fun h => ?_) (fun h => ?_)
      · exact vxo_sub [0, 1, 2, 3, 4] [(0, .ref b0), (1, .ref l1), (2, .ref l2), (3, .ref l3), (4, .int l4)] rfl (vb_L_law_437 nm l D cT w0 sz0 b0 L xs _ R23 _ _ _ _ _ _ _ _ h hb)
      · refine vxo_iconst d_L_law_328 xic_0 ?_
        exact v_ret bl_L_law d_L_law_329 h
    rcases xif h with ⟨hc6, h⟩ | ⟨hc6, h⟩
    · refine vxo_tableIn 290 330 d_L_law_40 (by rw [hc6]; decide) (by rw [hc6]; decide) (by rw [hc6]; decide) (by decide) ?_
      refine vxo_aload_n 1 d_L_law_330 rfl rfl ?_
      refine vxo_aload_n 0 d_L_law_331 rfl rfl ?_
      refine vxo_iload 4 d_L_law_332 rfl ?_
      refine vxo_iconst d_L_law_334 xic_1 ?_
      refine vxo_iadd d_L_law_335 ?_
      refine v_sld d_L_law_336 h (fun x35 h => ?_)
      refine vxo_aload_n 3 d_L_law_337 rfl rfl ?_
      refine v_run (rest := []) d_L_law_338 hb h rfl rfl (fun b36 q37 h hb => ?_)
      refine vxo_istore [(5, .int q37.1), (0, .ref b0), (1, .ref l1), (2, .ref l2), (3, .ref l3), (4, .int l4)] d_L_law_341 rfl rfl ?_
      refine vxo_aload_n 3 d_L_law_343 rfl rfl ?_
      refine vxo_aload_n 1 d_L_law_344 rfl rfl ?_
      refine vxo_iload 5 d_L_law_345 rfl ?_
      refine vxo_iconst d_L_law_347 xic_1 ?_
      refine vxo_iadd d_L_law_348 ?_
      refine v_sld d_L_law_349 h (fun x38 h => ?_)
      refine vxo_V_IH (rest := []) [.int x38] d_L_law_350 tw_877 yw_R_run h xc_8 (fun z e => c_R_run _ _ _ _ _ _ _ z e) (xfit_sub rfl ⟨rfl, rfl⟩) ⟨rfl, rfl⟩ rfl rfl rfl (fun q39 h => ?_)
      refine vxo_istore [(6, .int q39.1), (5, .int q37.1), (0, .ref b0), (1, .ref l1), (2, .ref l2), (3, .ref l3), (4, .int l4)] d_L_law_353 rfl rfl ?_
      refine vxo_aload_n 4 d_L_law_355 rfl rfl ?_
      refine vxo_V_IH (rest := []) [] d_L_law_356 tw_720 yw_R_thrown h xc_8 (fun z e => c_R_thrown _ _ _ _ _ _ z e) (xfit_sub rfl ⟨rfl, rfl⟩) ⟨rfl, rfl⟩ rfl rfl rfl (fun q40 h => ?_)
      refine vxo_iload 1 d_L_law_359 rfl ?_
      refine vxo_icmp_eq d_L_law_361 h (fun h => ?_) (fun h => ?_)
      · refine vxo_iload 1 d_L_law_366 rfl ?_
        refine vxo_if_ne d_L_law_368 h (fun h => ?_) (fun h => ?_)
        · exact vxo_sub [2, 3, 4, 5, 6] [(0, .ref b0), (1, .ref l1), (2, .ref l2), (3, .ref l3), (4, .int l4)] rfl (vb_L_law_383 nm l D cT w0 sz0 b0 L xs _ R23 _ _ _ _ _ _ _ _ h hb)
        · refine vxo_aload_n 5 d_L_law_371 rfl rfl ?_
          refine vxo_iconst d_L_law_372 xic_0 ?_
          refine vxo_aldL d_L_law_373 h (fun x41 h => ?_)
          refine vxo_iload 0 d_L_law_374 rfl ?_
          refine vxo_i2l d_L_law_376 ?_
          refine vxo_lceq d_L_law_377 d_L_law_378 h (fun h => ?_) (fun h => ?_)
          · exact vxo_sub [2, 3, 4, 5, 6] [(0, .ref b0), (1, .ref l1), (2, .ref l2), (3, .ref l3), (4, .int l4)] rfl (vb_L_law_383 nm l D cT w0 sz0 b0 L xs _ R23 _ _ _ _ _ _ _ _ h hb)
          · refine vxo_iconst d_L_law_381 xic_0 ?_
            exact v_ret bl_L_law d_L_law_382 h
      · refine vxo_iconst d_L_law_364 xic_0 ?_
        exact v_ret bl_L_law d_L_law_365 h
    rcases xif h with ⟨hc7, h⟩ | ⟨hc7, h⟩
    · refine vxo_tableIn 346 386 d_L_law_40 (by rw [hc7]; decide) (by rw [hc7]; decide) (by rw [hc7]; decide) (by decide) ?_
      refine vxo_aload_n 1 d_L_law_386 rfl rfl ?_
      refine vxo_V_IH (rest := []) [] d_L_law_387 tw_482 yw_G_ran h xc_0 (fun z e => c_G_ran _ _ _ _ _ _ z e) (xfit_sub rfl ⟨rfl, rfl⟩) ⟨rfl, rfl⟩ rfl rfl rfl (fun q42 h => ?_)
      refine vxo_aload_n 2 d_L_law_390 rfl rfl ?_
      refine vxo_V_IH (rest := [.int q42.1]) [] d_L_law_391 tw_898 yw_R_ran h xc_8 (fun z e => c_R_ran _ _ _ _ _ _ z e) (xfit_sub rfl ⟨rfl, rfl⟩) ⟨rfl, rfl⟩ rfl rfl rfl (fun q43 h => ?_)
      refine vxo_icmp_eq d_L_law_394 h (fun h => ?_) (fun h => ?_)
      · exact vxo_sub [0, 1, 2, 3, 4] [(0, .ref b0), (1, .ref l1), (2, .ref l2), (3, .ref l3), (4, .int l4)] rfl (vb_L_law_437 nm l D cT w0 sz0 b0 L xs _ R23 _ _ _ _ _ _ _ _ h hb)
      · refine vxo_iconst d_L_law_397 xic_0 ?_
        exact v_ret bl_L_law d_L_law_398 h
    rcases xif h with ⟨hc8, h⟩ | ⟨hc8, h⟩
    · refine vxo_tableIn 359 399 d_L_law_40 (by rw [hc8]; decide) (by rw [hc8]; decide) (by rw [hc8]; decide) (by decide) ?_
      refine vxo_aload_n 1 d_L_law_399 rfl rfl ?_
      refine vxo_aload_n 0 d_L_law_400 rfl rfl ?_
      refine vxo_iload 4 d_L_law_401 rfl ?_
      refine vxo_iconst d_L_law_403 xic_1 ?_
      refine vxo_iadd d_L_law_404 ?_
      refine v_sld d_L_law_405 h (fun x44 h => ?_)
      refine vxo_aload_n 0 d_L_law_406 rfl rfl ?_
      refine vxo_iload 4 d_L_law_407 rfl ?_
      refine vxo_iconst d_L_law_409 xic_2 ?_
      refine vxo_iadd d_L_law_410 ?_
      refine v_sld d_L_law_411 h (fun x45 h => ?_)
      refine vxo_V_LH (rest := []) [.int x44, .int x45] d_L_law_412 tw_486 yw_G_known h xc_0 (fun z e => c_G_known _ _ _ _ _ _ _ _ z e) (xfit_sub rfl ⟨rfl, rfl⟩) ⟨rfl, rfl⟩ rfl rfl rfl (fun q46 h => ?_)
      refine vxo_aload_n 2 d_L_law_415 rfl rfl ?_
      refine vxo_aload_n 0 d_L_law_416 rfl rfl ?_
      refine vxo_iload 4 d_L_law_417 rfl ?_
      refine vxo_iconst d_L_law_419 xic_1 ?_
      refine vxo_iadd d_L_law_420 ?_
      refine v_sld d_L_law_421 h (fun x47 h => ?_)
      refine vxo_aload_n 0 d_L_law_422 rfl rfl ?_
      refine vxo_iload 4 d_L_law_423 rfl ?_
      refine vxo_iconst d_L_law_425 xic_2 ?_
      refine vxo_iadd d_L_law_426 ?_
      refine v_sld d_L_law_427 h (fun x48 h => ?_)
      refine vxo_V_LH (rest := [.long q46.1]) [.int x47, .int x48] d_L_law_428 tw_872 yw_R_known h xc_8 (fun z e => c_R_known _ _ _ _ _ _ _ _ z e) (xfit_sub rfl ⟨rfl, rfl⟩) ⟨rfl, rfl⟩ rfl rfl rfl (fun q49 h => ?_)
      refine vxo_lceq d_L_law_431 d_L_law_432 h (fun h => ?_) (fun h => ?_)
      · exact vxo_sub [0, 1, 2, 3, 4] [(0, .ref b0), (1, .ref l1), (2, .ref l2), (3, .ref l3), (4, .int l4)] rfl (vb_L_law_437 nm l D cT w0 sz0 b0 L xs _ R23 _ _ _ _ _ _ _ _ h hb)
      · refine vxo_iconst d_L_law_435 xic_0 ?_
        exact v_ret bl_L_law d_L_law_436 h
    refine vxo_tableOut 437 d_L_law_40 (by have n0 := lv_neT hc0 (a := 0) (by decide); have n1 := lv_neT hc1 (a := 1) (by decide); have n2 := lv_neT hc2 (a := 2) (by decide); have n3 := lv_neT hc3 (a := 3) (by decide); have n4 := lv_neT hc4 (a := 4) (by decide); have n5 := lv_neT hc5 (a := 5) (by decide); have n6 := lv_neT hc6 (a := 6) (by decide); have n7 := lv_neT hc7 (a := 7) (by decide); have n8 := lv_neT hc8 (a := 8) (by decide); omega) (by decide) ?_
    exact vxo_sub [0, 1, 2, 3, 4] [(0, .ref b0), (1, .ref l1), (2, .ref l2), (3, .ref l3), (4, .int l4)] rfl (vb_L_law_437 nm l D cT w0 sz0 b0 L xs _ R23 _ _ _ _ _ _ _ _ h hb)
theorem vb_L_law_23 (nm : String) (l : Launch) (D : va_G) (cT : Nat → ClassId) (w0 : xw) (sz0 b0 L : Nat) (xs : Nat → Int32) (n : Nat) : ∀ (w : xw) (sz : Nat) (bc : Nat) (bs : Nat) (l1 : Nat) (l2 : Nat) (l3 : Nat) (l4 : Int32), f_L_law_b23 L xs n w sz bc bs l1 l2 l3 l4 = some 1 → bc ≤ room_1.cells ∧ bs ≤ room_1.slots → kv_L_law nm (l, D, cT, [.ref b0], w0, sz0) [(0, .ref b0), (1, .ref l1), (2, .ref l2), (3, .ref l3), (4, .int l4)] [] w sz (room_1.cells - bc) (room_1.slots - bs) 23 (b0, L, xs) := by
  unfold f_L_law_b23
  refine xfix_ind (P := fun (r23 : xw → Nat → Nat → Nat → Nat → Nat → Nat → Int32 → Option (Int32)) => ∀ (w : xw) (sz : Nat) (bc : Nat) (bs : Nat) (l1 : Nat) (l2 : Nat) (l3 : Nat) (l4 : Int32), r23 w sz bc bs l1 l2 l3 l4 = some 1 → bc ≤ room_1.cells ∧ bs ≤ room_1.slots → kv_L_law nm (l, D, cT, [.ref b0], w0, sz0) [(0, .ref b0), (1, .ref l1), (2, .ref l2), (3, .ref l3), (4, .int l4)] [] w sz (room_1.cells - bc) (room_1.slots - bs) 23 (b0, L, xs)) ?_ ?_ n
  · intro _ _ _ _ _ _ _ _ h
    cases h
  · intro r R w sz bc bs l1 l2 l3 l4 h
    exact vs_L_law_23 nm l D cT w0 sz0 b0 L xs r R _ _ _ _ _ _ _ _ h
theorem vb_L_law_0 (nm : String) (l : Launch) (D : va_G) (cT : Nat → ClassId) (w0 : xw) (sz0 b0 L : Nat) (xs : Nat → Int32) (w : xw) (sz : Nat) (bc : Nat) (bs : Nat) (h : f_L_law L xs w sz bc bs = some 1) : bc ≤ room_1.cells ∧ bs ≤ room_1.slots → kv_L_law nm (l, D, cT, [.ref b0], w0, sz0) [(0, .ref b0)] [] w sz (room_1.cells - bc) (room_1.slots - bs) 0 (b0, L, xs) := by
  unfold f_L_law at h
  intro hb
  refine vxo_new d_L_law_0 xc_0 tw_20 tw_21 tw_1 xdf_0 hb h (fun q1 h hb => ?_)
  refine vxo_dup d_L_law_3 rfl ?_
  refine vxo_IA (rest := [.ref sz]) [] d_L_law_4 tw_22 yw_G_init hb h (fun z e => c_G_init _ _ _ _ _ _ z e) ⟨rfl, rfl⟩ rfl rfl rfl rfl (fun b2 q3 h hb => ?_)
  refine vxo_astore_n [(1, .ref sz), (0, .ref b0)] d_L_law_7 rfl rfl rfl ?_
  refine vxo_new d_L_law_8 xc_8 tw_637 tw_638 tw_9 xdf_8 hb h (fun q4 h hb => ?_)
  refine vxo_dup d_L_law_11 rfl ?_
  refine vxo_IA (rest := [.ref q3.2.2]) [] d_L_law_12 tw_639 yw_R_init hb h (fun z e => c_R_init _ _ _ _ _ _ z e) ⟨rfl, rfl⟩ rfl rfl rfl rfl (fun b5 q6 h hb => ?_)
  refine vxo_astore_n [(2, .ref q3.2.2), (1, .ref sz), (0, .ref b0)] d_L_law_15 rfl rfl rfl ?_
  refine vxo_iconst d_L_law_16 xic_1 ?_
  refine vxo_newaL d_L_law_17 tw_719 hb h (fun q7 h hb => ?_)
  refine vxo_astore_n [(3, .ref q6.2.2), (2, .ref q3.2.2), (1, .ref sz), (0, .ref b0)] d_L_law_19 rfl rfl rfl ?_
  refine vxo_iconst d_L_law_20 xic_0 ?_
  refine vxo_nmI h (fun x8 h => ?_)
  refine vxo_istore [(4, .int x8), (3, .ref q6.2.2), (2, .ref q3.2.2), (1, .ref sz), (0, .ref b0)] d_L_law_21 rfl rfl ?_
  exact vxo_sub [4, 3, 2, 1, 0] [(0, .ref b0), (1, .ref sz), (2, .ref q3.2.2), (3, .ref q6.2.2), (4, .int x8)] rfl (vb_L_law_23 nm l D cT w0 sz0 b0 L xs _ _ _ _ _ _ _ _ _ h hb)
