/-! Methods that may throw: their returns. -/
theorem tw_17 : Cond.initialized "java/lang/IndexOutOfBoundsException" ∈ xT := xin_1 (i := 17) rfl rfl
theorem tw_18 : Cond.initialized "java/lang/ArithmeticException" ∈ xT := xin_1 (i := 18) rfl rfl
theorem tw_19 : Cond.initialized "java/lang/IllegalStateException" ∈ xT := xin_1 (i := 19) rfl rfl
theorem tw_41 : Cond.fieldLink "ProgramGate$Machine" 43 "ProgramGate$Instruction" "op" "I" ∈ xT := xin_1 (i := 41) rfl rfl
theorem tw_45 : Cond.fieldLink "ProgramGate$Machine" 73 "ProgramGate$Instruction" "a" "I" ∈ xT := xin_1 (i := 45) rfl rfl
theorem tw_48 : Cond.fieldLink "ProgramGate$Machine" 67 "ProgramGate$Instruction" "b" "I" ∈ xT := xin_1 (i := 48) rfl rfl
theorem tw_51 : Cond.fieldLink "ProgramGate$Machine" 70 "ProgramGate$Instruction" "n" "I" ∈ xT := xin_1 (i := 51) rfl rfl
theorem tw_53 : Cond.fieldLink "ProgramGate$Machine" 52 "ProgramGate$Instruction" "offset" "I" ∈ xT := xin_1 (i := 53) rfl rfl
theorem tw_68 : Cond.fieldLink "ProgramGate$Machine" 36 "ProgramGate$Program" "instructions" "[LProgramGate$Instruction;" ∈ xT := xin_1 (i := 68) rfl rfl
theorem tw_72 : Cond.fieldLink "ProgramGate$Machine" 30 "ProgramGate$Program" "count" "I" ∈ xT := xin_1 (i := 72) rfl rfl
theorem tw_86 : Cond.fieldLink "ProgramGate$Machine" 103 "ProgramGate$Packet" "values" "[I" ∈ xT := xin_1 (i := 86) rfl rfl
theorem tw_506 : Cond.methodLink "ProgramGate" 69 (⟨"ProgramGate$Machine", "answer", "(I)I"⟩ : MethodName) ∈ xT := xin_3 (i := 26) rfl rfl
theorem tw_507 : Cond.instanceMethod (⟨"ProgramGate$Machine", "answer", "(I)I"⟩ : MethodName) ∈ xT := xin_3 (i := 27) rfl rfl
theorem tw_508 : Cond.selects "ProgramGate$Machine" (⟨"ProgramGate$Machine", "answer", "(I)I"⟩ : MethodName) (⟨"ProgramGate$Machine", "answer", "(I)I"⟩ : MethodName) ∈ xT := xin_3 (i := 28) rfl rfl
theorem tw_509 : Cond.code (⟨"ProgramGate$Machine", "answer", "(I)I"⟩ : MethodName) prog_4_method_2_code 5 (some .int) ∈ xT := xin_3 (i := 29) rfl rfl
theorem tw_510 : Cond.methodLink "ProgramGate$Machine" 26 (⟨"ProgramGate$Machine", "begin", "(I)V"⟩ : MethodName) ∈ xT := xin_3 (i := 30) rfl rfl
theorem tw_512 : Cond.instanceMethod (⟨"ProgramGate$Machine", "begin", "(I)V"⟩ : MethodName) ∈ xT := xin_3 (i := 32) rfl rfl
theorem tw_513 : Cond.code (⟨"ProgramGate$Machine", "begin", "(I)V"⟩ : MethodName) prog_4_method_3_code 3 none ∈ xT := xin_3 (i := 33) rfl rfl
theorem tw_514 : Cond.methodLink "ProgramGate$Machine" 48 (⟨"ProgramGate$Machine", "make", "(LProgramGate$Instruction;)Z"⟩ : MethodName) ∈ xT := xin_3 (i := 34) rfl rfl
theorem tw_516 : Cond.instanceMethod (⟨"ProgramGate$Machine", "make", "(LProgramGate$Instruction;)Z"⟩ : MethodName) ∈ xT := xin_3 (i := 36) rfl rfl
theorem tw_517 : Cond.code (⟨"ProgramGate$Machine", "make", "(LProgramGate$Instruction;)Z"⟩ : MethodName) prog_4_method_4_code 3 (some .boolean) ∈ xT := xin_3 (i := 37) rfl rfl
theorem tw_518 : Cond.methodLink "ProgramGate$Machine" 76 (⟨"ProgramGate$Machine", "holds", "(III)Z"⟩ : MethodName) ∈ xT := xin_3 (i := 38) rfl rfl
theorem tw_519 : Cond.static (⟨"ProgramGate$Machine", "holds", "(III)Z"⟩ : MethodName) ∈ xT := xin_3 (i := 39) rfl rfl
theorem tw_520 : Cond.code (⟨"ProgramGate$Machine", "holds", "(III)Z"⟩ : MethodName) prog_4_method_9_code 3 (some .boolean) ∈ xT := xin_3 (i := 40) rfl rfl
theorem tw_522 : Cond.methodLink "ProgramGate$Machine" 84 (⟨"ProgramGate$Machine", "checkedPlace", "(I)I"⟩ : MethodName) ∈ xT := xin_3 (i := 42) rfl rfl
theorem tw_524 : Cond.instanceMethod (⟨"ProgramGate$Machine", "checkedPlace", "(I)I"⟩ : MethodName) ∈ xT := xin_3 (i := 44) rfl rfl
theorem tw_525 : Cond.code (⟨"ProgramGate$Machine", "checkedPlace", "(I)I"⟩ : MethodName) prog_4_method_5_code 2 (some .int) ∈ xT := xin_3 (i := 45) rfl rfl
theorem tw_526 : Cond.classLink "ProgramGate$Machine" 96 "java/lang/IndexOutOfBoundsException" ∈ xT := xin_3 (i := 46) rfl rfl
theorem tw_527 : Cond.instantiable "java/lang/IndexOutOfBoundsException" 6 ∈ xT := xin_3 (i := 47) rfl rfl
theorem tw_594 : Cond.methodLink "ProgramGate$Machine" 88 (⟨"ProgramGate$Machine", "load", "(JI)I"⟩ : MethodName) ∈ xT := xin_3 (i := 114) rfl rfl
theorem tw_596 : Cond.instanceMethod (⟨"ProgramGate$Machine", "load", "(JI)I"⟩ : MethodName) ∈ xT := xin_3 (i := 116) rfl rfl
theorem tw_597 : Cond.code (⟨"ProgramGate$Machine", "load", "(JI)I"⟩ : MethodName) prog_4_method_6_code 6 (some .int) ∈ xT := xin_3 (i := 117) rfl rfl
theorem tw_599 : Cond.methodLink "ProgramGate$Machine" 92 (⟨"ProgramGate$Machine", "compute", "(III)I"⟩ : MethodName) ∈ xT := xin_3 (i := 119) rfl rfl
theorem tw_600 : Cond.static (⟨"ProgramGate$Machine", "compute", "(III)I"⟩ : MethodName) ∈ xT := xin_3 (i := 120) rfl rfl
theorem tw_601 : Cond.code (⟨"ProgramGate$Machine", "compute", "(III)I"⟩ : MethodName) prog_4_method_7_code 3 (some .int) ∈ xT := xin_3 (i := 121) rfl rfl
theorem tw_602 : Cond.methodLink "ProgramGate$Machine" 106 (⟨"ProgramGate$Machine", "checkedDivisor", "(I)J"⟩ : MethodName) ∈ xT := xin_3 (i := 122) rfl rfl
theorem tw_603 : Cond.static (⟨"ProgramGate$Machine", "checkedDivisor", "(I)J"⟩ : MethodName) ∈ xT := xin_3 (i := 123) rfl rfl
theorem tw_604 : Cond.code (⟨"ProgramGate$Machine", "checkedDivisor", "(I)J"⟩ : MethodName) prog_4_method_8_code 1 (some .long) ∈ xT := xin_3 (i := 124) rfl rfl
theorem tw_605 : Cond.classLink "ProgramGate$Machine" 109 "java/lang/ArithmeticException" ∈ xT := xin_3 (i := 125) rfl rfl
theorem tw_606 : Cond.instantiable "java/lang/ArithmeticException" 6 ∈ xT := xin_3 (i := 126) rfl rfl
theorem tw_621 : Cond.classLink "ProgramGate$Machine" 55 "java/lang/IllegalStateException" ∈ xT := xin_3 (i := 141) rfl rfl
theorem tw_622 : Cond.instantiable "java/lang/IllegalStateException" 6 ∈ xT := xin_3 (i := 142) rfl rfl
theorem yw_M_begin : xYV y_M_begin b_M_begin 3 t_M_begin 1 := ⟨tw_513, tw_512, tw_8, ⟨by decide +kernel, by decide +kernel, by decide +kernel⟩, List.mem_filter.mpr ⟨List.mem_append_left _ (List.mem_of_getElem? (i := 14) (by decide +kernel)), by decide +kernel⟩⟩
theorem yw_M_holds : xYS y_M_holds b_M_holds 3 t_M_holds 3 := ⟨tw_520, tw_519, tw_8, ⟨by decide +kernel, by decide +kernel, by decide +kernel⟩⟩
theorem yw_M_checkedPlace : xYV y_M_checkedPlace b_M_checkedPlace 2 t_M_checkedPlace 1 := ⟨tw_525, tw_524, tw_8, ⟨by decide +kernel, by decide +kernel, by decide +kernel⟩, List.mem_filter.mpr ⟨List.mem_append_left _ (List.mem_of_getElem? (i := 16) (by decide +kernel)), by decide +kernel⟩⟩
theorem yw_M_load : xYV y_M_load b_M_load 6 t_M_load 2 := ⟨tw_597, tw_596, tw_8, ⟨by decide +kernel, by decide +kernel, by decide +kernel⟩, List.mem_filter.mpr ⟨List.mem_append_left _ (List.mem_of_getElem? (i := 18) (by decide +kernel)), by decide +kernel⟩⟩
theorem yw_M_checkedDivisor : xYS y_M_checkedDivisor b_M_checkedDivisor 1 t_M_checkedDivisor 1 := ⟨tw_604, tw_603, tw_8, ⟨by decide +kernel, by decide +kernel, by decide +kernel⟩⟩
theorem yw_M_compute : xYS y_M_compute b_M_compute 3 t_M_compute 3 := ⟨tw_601, tw_600, tw_8, ⟨by decide +kernel, by decide +kernel, by decide +kernel⟩⟩
theorem yw_M_make : xYV y_M_make b_M_make 3 t_M_make 1 := ⟨tw_517, tw_516, tw_8, ⟨by decide +kernel, by decide +kernel, by decide +kernel⟩, List.mem_filter.mpr ⟨List.mem_append_left _ (List.mem_of_getElem? (i := 15) (by decide +kernel)), by decide +kernel⟩⟩
theorem yw_M_answer : xYV y_M_answer b_M_answer 5 t_M_answer 1 := ⟨tw_509, tw_507, tw_8, ⟨by decide +kernel, by decide +kernel, by decide +kernel⟩, tw_508⟩
abbrev R_M_checkedPlace : Room := { frames := 1, cells := 0, slots := 0, locals := 21 }
abbrev k_M_checkedPlace : xX → List (Nat × Value) → List Value → xw → Nat → Nat → Nat → Nat → xR → Prop := xK lb_M_checkedPlace 2 "ProgramGate$Machine" "checkedPlace" t_M_checkedPlace R_M_checkedPlace
abbrev R_M_load : Room := { frames := 1, cells := 0, slots := 0, locals := 21 }
abbrev k_M_load : xX → List (Nat × Value) → List Value → xw → Nat → Nat → Nat → Nat → xR → Prop := xK lb_M_load 6 "ProgramGate$Machine" "load" t_M_load R_M_load
abbrev R_M_checkedDivisor : Room := { frames := 1, cells := 0, slots := 0, locals := 21 }
abbrev k_M_checkedDivisor : xX → List (Nat × Value) → List Value → xw → Nat → Nat → Nat → Nat → xR → Prop := xK lb_M_checkedDivisor 1 "ProgramGate$Machine" "checkedDivisor" t_M_checkedDivisor R_M_checkedDivisor
abbrev R_M_compute : Room := { frames := 2, cells := 0, slots := 0, locals := 41 }
abbrev k_M_compute : xX → List (Nat × Value) → List Value → xw → Nat → Nat → Nat → Nat → xR → Prop := xK lb_M_compute 3 "ProgramGate$Machine" "compute" t_M_compute R_M_compute
abbrev R_M_make : Room := { frames := 3, cells := 0, slots := 0, locals := 63 }
abbrev k_M_make : xX → List (Nat × Value) → List Value → xw → Nat → Nat → Nat → Nat → xR → Prop := xK lb_M_make 3 "ProgramGate$Machine" "make" t_M_make R_M_make
abbrev R_M_answer : Room := { frames := 4, cells := 0, slots := 0, locals := 85 }
abbrev k_M_answer : xX → List (Nat × Value) → List Value → xw → Nat → Nat → Nat → Nat → xR → Prop := xK lb_M_answer 5 "ProgramGate$Machine" "answer" t_M_answer R_M_answer
abbrev R_G_run : Room := { frames := 5, cells := 0, slots := 0, locals := 109 }
abbrev k_G_run : xX → List (Nat × Value) → List Value → xw → Nat → Nat → Nat → Nat → xR → Prop := xK lb_G_run 2 "ProgramGate" "run" t_G_run R_G_run
theorem d_M_checkedPlace_0 : xD lb_M_checkedPlace 0 (.iload_n 1) 1 1 := xd_of (by decide +kernel)
theorem d_M_checkedPlace_1 : xDJ lb_M_checkedPlace 1 (.ifCond .lt 8) 8 9 4 := xdj_of (by decide +kernel)
theorem d_M_checkedPlace_4 : xD lb_M_checkedPlace 4 (.iload_n 1) 1 5 := xd_of (by decide +kernel)
theorem d_M_checkedPlace_5 : xD lb_M_checkedPlace 5 (.iconst 4) 1 6 := xd_of (by decide +kernel)
theorem d_M_checkedPlace_6 : xDJ lb_M_checkedPlace 6 (.if_icmp .lt 13) 13 19 9 := xdj_of (by decide +kernel)
theorem d_M_checkedPlace_9 : xD lb_M_checkedPlace 9 (.new 96) 3 12 := xd_of (by decide +kernel)
theorem d_M_checkedPlace_12 : xD lb_M_checkedPlace 12 .dup 1 13 := xd_of (by decide +kernel)
theorem d_M_checkedPlace_13 : xD lb_M_checkedPlace 13 (.ldc 98) 2 15 := xd_of (by decide +kernel)
theorem d_M_checkedPlace_15 : xD lb_M_checkedPlace 15 (.invokespecial 100) 3 18 := xd_of (by decide +kernel)
theorem d_M_checkedPlace_18 : xD lb_M_checkedPlace 18 .athrow 1 19 := xd_of (by decide +kernel)
theorem d_M_checkedPlace_19 : xD lb_M_checkedPlace 19 (.iload_n 1) 1 20 := xd_of (by decide +kernel)
theorem d_M_checkedPlace_20 : xD lb_M_checkedPlace 20 .ireturn 1 21 := xd_of (by decide +kernel)
theorem d_M_load_0 : xD lb_M_load 0 (.lload_n 1) 1 1 := xd_of (by decide +kernel)
theorem d_M_load_1 : xD lb_M_load 1 (.iload_n 3) 1 2 := xd_of (by decide +kernel)
theorem d_M_load_2 : xD lb_M_load 2 .i2l 1 3 := xd_of (by decide +kernel)
theorem d_M_load_3 : xD lb_M_load 3 .ladd 1 4 := xd_of (by decide +kernel)
theorem d_M_load_4 : xD lb_M_load 4 (.aload_n 0) 1 5 := xd_of (by decide +kernel)
theorem d_M_load_5 : xD lb_M_load 5 (.getfield 22) 3 8 := xd_of (by decide +kernel)
theorem d_M_load_8 : xD lb_M_load 8 (.getfield 62) 3 11 := xd_of (by decide +kernel)
theorem d_M_load_11 : xD lb_M_load 11 .i2l 1 12 := xd_of (by decide +kernel)
theorem d_M_load_12 : xD lb_M_load 12 .lcmp 1 13 := xd_of (by decide +kernel)
theorem d_M_load_13 : xDJ lb_M_load 13 (.ifCond .le 13) 13 26 16 := xdj_of (by decide +kernel)
theorem d_M_load_16 : xD lb_M_load 16 (.new 96) 3 19 := xd_of (by decide +kernel)
theorem d_M_load_19 : xD lb_M_load 19 .dup 1 20 := xd_of (by decide +kernel)
theorem d_M_load_20 : xD lb_M_load 20 (.ldc 101) 2 22 := xd_of (by decide +kernel)
theorem d_M_load_22 : xD lb_M_load 22 (.invokespecial 100) 3 25 := xd_of (by decide +kernel)
theorem d_M_load_25 : xD lb_M_load 25 .athrow 1 26 := xd_of (by decide +kernel)
theorem d_M_load_26 : xD lb_M_load 26 (.iconst 0) 1 27 := xd_of (by decide +kernel)
theorem d_M_load_27 : xD lb_M_load 27 (.istore 4) 2 29 := xd_of (by decide +kernel)
theorem d_M_load_29 : xD lb_M_load 29 (.iconst 0) 1 30 := xd_of (by decide +kernel)
theorem d_M_load_30 : xD lb_M_load 30 (.istore 5) 2 32 := xd_of (by decide +kernel)
theorem d_M_load_32 : xD lb_M_load 32 (.iload 5) 2 34 := xd_of (by decide +kernel)
theorem d_M_load_34 : xD lb_M_load 34 (.iload_n 3) 1 35 := xd_of (by decide +kernel)
theorem d_M_load_35 : xDJ lb_M_load 35 (.if_icmp .ge 33) 33 68 38 := xdj_of (by decide +kernel)
theorem d_M_load_38 : xD lb_M_load 38 (.iload 4) 2 40 := xd_of (by decide +kernel)
theorem d_M_load_40 : xD lb_M_load 40 (.aload_n 0) 1 41 := xd_of (by decide +kernel)
theorem d_M_load_41 : xD lb_M_load 41 (.getfield 22) 3 44 := xd_of (by decide +kernel)
theorem d_M_load_44 : xD lb_M_load 44 (.getfield 103) 3 47 := xd_of (by decide +kernel)
theorem d_M_load_47 : xD lb_M_load 47 (.lload_n 1) 1 48 := xd_of (by decide +kernel)
theorem d_M_load_48 : xD lb_M_load 48 .l2i 1 49 := xd_of (by decide +kernel)
theorem d_M_load_49 : xD lb_M_load 49 (.iload 5) 2 51 := xd_of (by decide +kernel)
theorem d_M_load_51 : xD lb_M_load 51 .iadd 1 52 := xd_of (by decide +kernel)
theorem d_M_load_52 : xD lb_M_load 52 .iaload 1 53 := xd_of (by decide +kernel)
theorem d_M_load_53 : xD lb_M_load 53 (.bipush 8) 2 55 := xd_of (by decide +kernel)
theorem d_M_load_55 : xD lb_M_load 55 (.iload 5) 2 57 := xd_of (by decide +kernel)
theorem d_M_load_57 : xD lb_M_load 57 .imul 1 58 := xd_of (by decide +kernel)
theorem d_M_load_58 : xD lb_M_load 58 .ishl 1 59 := xd_of (by decide +kernel)
theorem d_M_load_59 : xD lb_M_load 59 .ior 1 60 := xd_of (by decide +kernel)
theorem d_M_load_60 : xD lb_M_load 60 (.istore 4) 2 62 := xd_of (by decide +kernel)
theorem d_M_load_62 : xD lb_M_load 62 (.iinc 5 1) 3 65 := xd_of (by decide +kernel)
theorem d_M_load_65 : xDJ lb_M_load 65 (.goto (-33)) (-33) 32 68 := xdj_of (by decide +kernel)
theorem d_M_load_68 : xD lb_M_load 68 (.iload 4) 2 70 := xd_of (by decide +kernel)
theorem d_M_load_70 : xD lb_M_load 70 .ireturn 1 71 := xd_of (by decide +kernel)
theorem d_M_checkedDivisor_0 : xD lb_M_checkedDivisor 0 (.iload_n 0) 1 1 := xd_of (by decide +kernel)
theorem d_M_checkedDivisor_1 : xDJ lb_M_checkedDivisor 1 (.ifCond .ne 13) 13 14 4 := xdj_of (by decide +kernel)
theorem d_M_checkedDivisor_4 : xD lb_M_checkedDivisor 4 (.new 109) 3 7 := xd_of (by decide +kernel)
theorem d_M_checkedDivisor_7 : xD lb_M_checkedDivisor 7 .dup 1 8 := xd_of (by decide +kernel)
theorem d_M_checkedDivisor_8 : xD lb_M_checkedDivisor 8 (.ldc 111) 2 10 := xd_of (by decide +kernel)
theorem d_M_checkedDivisor_10 : xD lb_M_checkedDivisor 10 (.invokespecial 113) 3 13 := xd_of (by decide +kernel)
theorem d_M_checkedDivisor_13 : xD lb_M_checkedDivisor 13 .athrow 1 14 := xd_of (by decide +kernel)
theorem d_M_checkedDivisor_14 : xD lb_M_checkedDivisor 14 (.iload_n 0) 1 15 := xd_of (by decide +kernel)
theorem d_M_checkedDivisor_15 : xD lb_M_checkedDivisor 15 (.invokestatic 80) 3 18 := xd_of (by decide +kernel)
theorem d_M_checkedDivisor_18 : xD lb_M_checkedDivisor 18 .lreturn 1 19 := xd_of (by decide +kernel)
theorem d_M_compute_0 : xD lb_M_compute 0 (.iload_n 0) 1 1 := xd_of (by decide +kernel)
theorem d_M_compute_1 : xD lb_M_compute 1 (.tableswitch 126 1 11 #[59, 63, 67, 71, 75, 79, 83, 90, 97, 104, 115]) 59 60 := xd_of (by decide +kernel)
theorem d_M_compute_60 : xD lb_M_compute 60 (.iload_n 1) 1 61 := xd_of (by decide +kernel)
theorem d_M_compute_61 : xD lb_M_compute 61 (.iload_n 2) 1 62 := xd_of (by decide +kernel)
theorem d_M_compute_62 : xD lb_M_compute 62 .iadd 1 63 := xd_of (by decide +kernel)
theorem d_M_compute_63 : xD lb_M_compute 63 .ireturn 1 64 := xd_of (by decide +kernel)
theorem d_M_compute_64 : xD lb_M_compute 64 (.iload_n 1) 1 65 := xd_of (by decide +kernel)
theorem d_M_compute_65 : xD lb_M_compute 65 (.iload_n 2) 1 66 := xd_of (by decide +kernel)
theorem d_M_compute_66 : xD lb_M_compute 66 .isub 1 67 := xd_of (by decide +kernel)
theorem d_M_compute_67 : xD lb_M_compute 67 .ireturn 1 68 := xd_of (by decide +kernel)
theorem d_M_compute_68 : xD lb_M_compute 68 (.iload_n 1) 1 69 := xd_of (by decide +kernel)
theorem d_M_compute_69 : xD lb_M_compute 69 (.iload_n 2) 1 70 := xd_of (by decide +kernel)
theorem d_M_compute_70 : xD lb_M_compute 70 .imul 1 71 := xd_of (by decide +kernel)
theorem d_M_compute_71 : xD lb_M_compute 71 .ireturn 1 72 := xd_of (by decide +kernel)
theorem d_M_compute_72 : xD lb_M_compute 72 (.iload_n 1) 1 73 := xd_of (by decide +kernel)
theorem d_M_compute_73 : xD lb_M_compute 73 (.iload_n 2) 1 74 := xd_of (by decide +kernel)
theorem d_M_compute_74 : xD lb_M_compute 74 .iand 1 75 := xd_of (by decide +kernel)
theorem d_M_compute_75 : xD lb_M_compute 75 .ireturn 1 76 := xd_of (by decide +kernel)
theorem d_M_compute_76 : xD lb_M_compute 76 (.iload_n 1) 1 77 := xd_of (by decide +kernel)
theorem d_M_compute_77 : xD lb_M_compute 77 (.iload_n 2) 1 78 := xd_of (by decide +kernel)
theorem d_M_compute_78 : xD lb_M_compute 78 .ior 1 79 := xd_of (by decide +kernel)
theorem d_M_compute_79 : xD lb_M_compute 79 .ireturn 1 80 := xd_of (by decide +kernel)
theorem d_M_compute_80 : xD lb_M_compute 80 (.iload_n 1) 1 81 := xd_of (by decide +kernel)
theorem d_M_compute_81 : xD lb_M_compute 81 (.iload_n 2) 1 82 := xd_of (by decide +kernel)
theorem d_M_compute_82 : xD lb_M_compute 82 .ixor 1 83 := xd_of (by decide +kernel)
theorem d_M_compute_83 : xD lb_M_compute 83 .ireturn 1 84 := xd_of (by decide +kernel)
theorem d_M_compute_84 : xD lb_M_compute 84 (.iload_n 1) 1 85 := xd_of (by decide +kernel)
theorem d_M_compute_85 : xD lb_M_compute 85 (.iload_n 2) 1 86 := xd_of (by decide +kernel)
theorem d_M_compute_86 : xD lb_M_compute 86 (.bipush 31) 2 88 := xd_of (by decide +kernel)
theorem d_M_compute_88 : xD lb_M_compute 88 .iand 1 89 := xd_of (by decide +kernel)
theorem d_M_compute_89 : xD lb_M_compute 89 .ishl 1 90 := xd_of (by decide +kernel)
theorem d_M_compute_90 : xD lb_M_compute 90 .ireturn 1 91 := xd_of (by decide +kernel)
theorem d_M_compute_91 : xD lb_M_compute 91 (.iload_n 1) 1 92 := xd_of (by decide +kernel)
theorem d_M_compute_92 : xD lb_M_compute 92 (.iload_n 2) 1 93 := xd_of (by decide +kernel)
theorem d_M_compute_93 : xD lb_M_compute 93 (.bipush 31) 2 95 := xd_of (by decide +kernel)
theorem d_M_compute_95 : xD lb_M_compute 95 .iand 1 96 := xd_of (by decide +kernel)
theorem d_M_compute_96 : xD lb_M_compute 96 .iushr 1 97 := xd_of (by decide +kernel)
theorem d_M_compute_97 : xD lb_M_compute 97 .ireturn 1 98 := xd_of (by decide +kernel)
theorem d_M_compute_98 : xD lb_M_compute 98 (.iload_n 1) 1 99 := xd_of (by decide +kernel)
theorem d_M_compute_99 : xD lb_M_compute 99 (.iload_n 2) 1 100 := xd_of (by decide +kernel)
theorem d_M_compute_100 : xD lb_M_compute 100 (.bipush 31) 2 102 := xd_of (by decide +kernel)
theorem d_M_compute_102 : xD lb_M_compute 102 .iand 1 103 := xd_of (by decide +kernel)
theorem d_M_compute_103 : xD lb_M_compute 103 .ishr 1 104 := xd_of (by decide +kernel)
theorem d_M_compute_104 : xD lb_M_compute 104 .ireturn 1 105 := xd_of (by decide +kernel)
theorem d_M_compute_105 : xD lb_M_compute 105 (.iload_n 1) 1 106 := xd_of (by decide +kernel)
theorem d_M_compute_106 : xD lb_M_compute 106 (.invokestatic 80) 3 109 := xd_of (by decide +kernel)
theorem d_M_compute_109 : xD lb_M_compute 109 (.iload_n 2) 1 110 := xd_of (by decide +kernel)
theorem d_M_compute_110 : xD lb_M_compute 110 (.invokestatic 106) 3 113 := xd_of (by decide +kernel)
theorem d_M_compute_113 : xD lb_M_compute 113 .ldiv 1 114 := xd_of (by decide +kernel)
theorem d_M_compute_114 : xD lb_M_compute 114 .l2i 1 115 := xd_of (by decide +kernel)
theorem d_M_compute_115 : xD lb_M_compute 115 .ireturn 1 116 := xd_of (by decide +kernel)
theorem d_M_compute_116 : xD lb_M_compute 116 (.iload_n 1) 1 117 := xd_of (by decide +kernel)
theorem d_M_compute_117 : xD lb_M_compute 117 (.invokestatic 80) 3 120 := xd_of (by decide +kernel)
theorem d_M_compute_120 : xD lb_M_compute 120 (.iload_n 2) 1 121 := xd_of (by decide +kernel)
theorem d_M_compute_121 : xD lb_M_compute 121 (.invokestatic 106) 3 124 := xd_of (by decide +kernel)
theorem d_M_compute_124 : xD lb_M_compute 124 .lrem 1 125 := xd_of (by decide +kernel)
theorem d_M_compute_125 : xD lb_M_compute 125 .l2i 1 126 := xd_of (by decide +kernel)
theorem d_M_compute_126 : xD lb_M_compute 126 .ireturn 1 127 := xd_of (by decide +kernel)
theorem d_M_compute_127 : xD lb_M_compute 127 (.iload_n 2) 1 128 := xd_of (by decide +kernel)
theorem d_M_compute_128 : xD lb_M_compute 128 .ireturn 1 129 := xd_of (by decide +kernel)
theorem d_M_make_0 : xD lb_M_make 0 (.aload_n 1) 1 1 := xd_of (by decide +kernel)
theorem d_M_make_1 : xD lb_M_make 1 (.getfield 67) 3 4 := xd_of (by decide +kernel)
theorem d_M_make_4 : xD lb_M_make 4 (.iconst (-1)) 1 5 := xd_of (by decide +kernel)
theorem d_M_make_5 : xDJ lb_M_make 5 (.if_icmp .ne 10) 10 15 8 := xdj_of (by decide +kernel)
theorem d_M_make_8 : xD lb_M_make 8 (.aload_n 1) 1 9 := xd_of (by decide +kernel)
theorem d_M_make_9 : xD lb_M_make 9 (.getfield 70) 3 12 := xd_of (by decide +kernel)
theorem d_M_make_12 : xDJ lb_M_make 12 (.goto 12) 12 24 15 := xdj_of (by decide +kernel)
theorem d_M_make_15 : xD lb_M_make 15 (.aload_n 0) 1 16 := xd_of (by decide +kernel)
theorem d_M_make_16 : xD lb_M_make 16 (.getfield 9) 3 19 := xd_of (by decide +kernel)
theorem d_M_make_19 : xD lb_M_make 19 (.aload_n 1) 1 20 := xd_of (by decide +kernel)
theorem d_M_make_20 : xD lb_M_make 20 (.getfield 67) 3 23 := xd_of (by decide +kernel)
theorem d_M_make_23 : xD lb_M_make 23 .iaload 1 24 := xd_of (by decide +kernel)
theorem d_M_make_24 : xD lb_M_make 24 (.istore_n 2) 1 25 := xd_of (by decide +kernel)
theorem d_M_make_25 : xD lb_M_make 25 (.aload_n 1) 1 26 := xd_of (by decide +kernel)
theorem d_M_make_26 : xD lb_M_make 26 (.getfield 43) 3 29 := xd_of (by decide +kernel)
theorem d_M_make_29 : xD lb_M_make 29 (.bipush 22) 2 31 := xd_of (by decide +kernel)
theorem d_M_make_31 : xDJ lb_M_make 31 (.if_icmp .ne 5) 5 36 34 := xdj_of (by decide +kernel)
theorem d_M_make_34 : xD lb_M_make 34 (.iconst 1) 1 35 := xd_of (by decide +kernel)
theorem d_M_make_35 : xD lb_M_make 35 .ireturn 1 36 := xd_of (by decide +kernel)
theorem d_M_make_36 : xD lb_M_make 36 (.aload_n 1) 1 37 := xd_of (by decide +kernel)
theorem d_M_make_37 : xD lb_M_make 37 (.getfield 43) 3 40 := xd_of (by decide +kernel)
theorem d_M_make_40 : xD lb_M_make 40 (.bipush 16) 2 42 := xd_of (by decide +kernel)
theorem d_M_make_42 : xDJ lb_M_make 42 (.if_icmp .lt 21) 21 63 45 := xdj_of (by decide +kernel)
theorem d_M_make_45 : xD lb_M_make 45 (.aload_n 1) 1 46 := xd_of (by decide +kernel)
theorem d_M_make_46 : xD lb_M_make 46 (.getfield 43) 3 49 := xd_of (by decide +kernel)
theorem d_M_make_49 : xD lb_M_make 49 (.aload_n 0) 1 50 := xd_of (by decide +kernel)
theorem d_M_make_50 : xD lb_M_make 50 (.getfield 9) 3 53 := xd_of (by decide +kernel)
theorem d_M_make_53 : xD lb_M_make 53 (.aload_n 1) 1 54 := xd_of (by decide +kernel)
theorem d_M_make_54 : xD lb_M_make 54 (.getfield 73) 3 57 := xd_of (by decide +kernel)
theorem d_M_make_57 : xD lb_M_make 57 .iaload 1 58 := xd_of (by decide +kernel)
theorem d_M_make_58 : xD lb_M_make 58 (.iload_n 2) 1 59 := xd_of (by decide +kernel)
theorem d_M_make_59 : xD lb_M_make 59 (.invokestatic 76) 3 62 := xd_of (by decide +kernel)
theorem d_M_make_62 : xD lb_M_make 62 .ireturn 1 63 := xd_of (by decide +kernel)
theorem d_M_make_63 : xD lb_M_make 63 (.aload_n 1) 1 64 := xd_of (by decide +kernel)
theorem d_M_make_64 : xD lb_M_make 64 (.getfield 43) 3 67 := xd_of (by decide +kernel)
theorem d_M_make_67 : xD lb_M_make 67 (.bipush 15) 2 69 := xd_of (by decide +kernel)
theorem d_M_make_69 : xDJ lb_M_make 69 (.if_icmp .ne 31) 31 100 72 := xdj_of (by decide +kernel)
theorem d_M_make_72 : xD lb_M_make 72 (.iload_n 2) 1 73 := xd_of (by decide +kernel)
theorem d_M_make_73 : xD lb_M_make 73 (.invokestatic 80) 3 76 := xd_of (by decide +kernel)
theorem d_M_make_76 : xD lb_M_make 76 (.aload_n 1) 1 77 := xd_of (by decide +kernel)
theorem d_M_make_77 : xD lb_M_make 77 (.getfield 70) 3 80 := xd_of (by decide +kernel)
theorem d_M_make_80 : xD lb_M_make 80 .i2l 1 81 := xd_of (by decide +kernel)
theorem d_M_make_81 : xD lb_M_make 81 .ladd 1 82 := xd_of (by decide +kernel)
theorem d_M_make_82 : xD lb_M_make 82 (.aload_n 0) 1 83 := xd_of (by decide +kernel)
theorem d_M_make_83 : xD lb_M_make 83 (.getfield 22) 3 86 := xd_of (by decide +kernel)
theorem d_M_make_86 : xD lb_M_make 86 (.getfield 62) 3 89 := xd_of (by decide +kernel)
theorem d_M_make_89 : xD lb_M_make 89 .i2l 1 90 := xd_of (by decide +kernel)
theorem d_M_make_90 : xD lb_M_make 90 .lcmp 1 91 := xd_of (by decide +kernel)
theorem d_M_make_91 : xDJ lb_M_make 91 (.ifCond .le 7) 7 98 94 := xdj_of (by decide +kernel)
theorem d_M_make_94 : xD lb_M_make 94 (.iconst 1) 1 95 := xd_of (by decide +kernel)
theorem d_M_make_95 : xDJ lb_M_make 95 (.goto 4) 4 99 98 := xdj_of (by decide +kernel)
theorem d_M_make_98 : xD lb_M_make 98 (.iconst 0) 1 99 := xd_of (by decide +kernel)
theorem d_M_make_99 : xD lb_M_make 99 .ireturn 1 100 := xd_of (by decide +kernel)
theorem d_M_make_100 : xD lb_M_make 100 (.aload_n 1) 1 101 := xd_of (by decide +kernel)
theorem d_M_make_101 : xD lb_M_make 101 (.getfield 43) 3 104 := xd_of (by decide +kernel)
theorem d_M_make_104 : xD lb_M_make 104 (.bipush 13) 2 106 := xd_of (by decide +kernel)
theorem d_M_make_106 : xDJ lb_M_make 106 (.if_icmp .ne 25) 25 131 109 := xdj_of (by decide +kernel)
theorem d_M_make_109 : xD lb_M_make 109 (.aload_n 0) 1 110 := xd_of (by decide +kernel)
theorem d_M_make_110 : xD lb_M_make 110 (.getfield 15) 3 113 := xd_of (by decide +kernel)
theorem d_M_make_113 : xD lb_M_make 113 (.aload_n 0) 1 114 := xd_of (by decide +kernel)
theorem d_M_make_114 : xD lb_M_make 114 (.iload_n 2) 1 115 := xd_of (by decide +kernel)
theorem d_M_make_115 : xD lb_M_make 115 (.invokevirtual 84) 3 118 := xd_of (by decide +kernel)
theorem d_M_make_118 : xD lb_M_make 118 (.aload_n 0) 1 119 := xd_of (by decide +kernel)
theorem d_M_make_119 : xD lb_M_make 119 (.getfield 9) 3 122 := xd_of (by decide +kernel)
theorem d_M_make_122 : xD lb_M_make 122 (.aload_n 1) 1 123 := xd_of (by decide +kernel)
theorem d_M_make_123 : xD lb_M_make 123 (.getfield 73) 3 126 := xd_of (by decide +kernel)
theorem d_M_make_126 : xD lb_M_make 126 .iaload 1 127 := xd_of (by decide +kernel)
theorem d_M_make_127 : xD lb_M_make 127 .iastore 1 128 := xd_of (by decide +kernel)
theorem d_M_make_128 : xDJ lb_M_make 128 (.goto 99) 99 227 131 := xdj_of (by decide +kernel)
theorem d_M_make_131 : xD lb_M_make 131 (.aload_n 1) 1 132 := xd_of (by decide +kernel)
theorem d_M_make_132 : xD lb_M_make 132 (.getfield 43) 3 135 := xd_of (by decide +kernel)
theorem d_M_make_135 : xD lb_M_make 135 (.bipush 12) 2 137 := xd_of (by decide +kernel)
theorem d_M_make_137 : xDJ lb_M_make 137 (.if_icmp .ne 25) 25 162 140 := xdj_of (by decide +kernel)
theorem d_M_make_140 : xD lb_M_make 140 (.aload_n 0) 1 141 := xd_of (by decide +kernel)
theorem d_M_make_141 : xD lb_M_make 141 (.getfield 9) 3 144 := xd_of (by decide +kernel)
theorem d_M_make_144 : xD lb_M_make 144 (.aload_n 1) 1 145 := xd_of (by decide +kernel)
theorem d_M_make_145 : xD lb_M_make 145 (.getfield 73) 3 148 := xd_of (by decide +kernel)
theorem d_M_make_148 : xD lb_M_make 148 (.aload_n 0) 1 149 := xd_of (by decide +kernel)
theorem d_M_make_149 : xD lb_M_make 149 (.getfield 15) 3 152 := xd_of (by decide +kernel)
theorem d_M_make_152 : xD lb_M_make 152 (.aload_n 0) 1 153 := xd_of (by decide +kernel)
theorem d_M_make_153 : xD lb_M_make 153 (.iload_n 2) 1 154 := xd_of (by decide +kernel)
theorem d_M_make_154 : xD lb_M_make 154 (.invokevirtual 84) 3 157 := xd_of (by decide +kernel)
theorem d_M_make_157 : xD lb_M_make 157 .iaload 1 158 := xd_of (by decide +kernel)
theorem d_M_make_158 : xD lb_M_make 158 .iastore 1 159 := xd_of (by decide +kernel)
theorem d_M_make_159 : xDJ lb_M_make 159 (.goto 68) 68 227 162 := xdj_of (by decide +kernel)
theorem d_M_make_162 : xD lb_M_make 162 (.aload_n 1) 1 163 := xd_of (by decide +kernel)
theorem d_M_make_163 : xD lb_M_make 163 (.getfield 43) 3 166 := xd_of (by decide +kernel)
theorem d_M_make_166 : xD lb_M_make 166 (.bipush 14) 2 168 := xd_of (by decide +kernel)
theorem d_M_make_168 : xDJ lb_M_make 168 (.if_icmp .ne 33) 33 201 171 := xdj_of (by decide +kernel)
theorem d_M_make_171 : xD lb_M_make 171 (.aload_n 0) 1 172 := xd_of (by decide +kernel)
theorem d_M_make_172 : xD lb_M_make 172 (.getfield 9) 3 175 := xd_of (by decide +kernel)
theorem d_M_make_175 : xD lb_M_make 175 (.aload_n 1) 1 176 := xd_of (by decide +kernel)
theorem d_M_make_176 : xD lb_M_make 176 (.getfield 73) 3 179 := xd_of (by decide +kernel)
theorem d_M_make_179 : xD lb_M_make 179 (.aload_n 0) 1 180 := xd_of (by decide +kernel)
theorem d_M_make_180 : xD lb_M_make 180 (.iload_n 2) 1 181 := xd_of (by decide +kernel)
theorem d_M_make_181 : xD lb_M_make 181 (.invokestatic 80) 3 184 := xd_of (by decide +kernel)
theorem d_M_make_184 : xD lb_M_make 184 (.aload_n 1) 1 185 := xd_of (by decide +kernel)
theorem d_M_make_185 : xD lb_M_make 185 (.getfield 70) 3 188 := xd_of (by decide +kernel)
theorem d_M_make_188 : xD lb_M_make 188 .i2l 1 189 := xd_of (by decide +kernel)
theorem d_M_make_189 : xD lb_M_make 189 .ladd 1 190 := xd_of (by decide +kernel)
theorem d_M_make_190 : xD lb_M_make 190 (.aload_n 1) 1 191 := xd_of (by decide +kernel)
theorem d_M_make_191 : xD lb_M_make 191 (.getfield 52) 3 194 := xd_of (by decide +kernel)
theorem d_M_make_194 : xD lb_M_make 194 (.invokevirtual 88) 3 197 := xd_of (by decide +kernel)
theorem d_M_make_197 : xD lb_M_make 197 .iastore 1 198 := xd_of (by decide +kernel)
theorem d_M_make_198 : xDJ lb_M_make 198 (.goto 29) 29 227 201 := xdj_of (by decide +kernel)
theorem d_M_make_201 : xD lb_M_make 201 (.aload_n 0) 1 202 := xd_of (by decide +kernel)
theorem d_M_make_202 : xD lb_M_make 202 (.getfield 9) 3 205 := xd_of (by decide +kernel)
theorem d_M_make_205 : xD lb_M_make 205 (.aload_n 1) 1 206 := xd_of (by decide +kernel)
theorem d_M_make_206 : xD lb_M_make 206 (.getfield 73) 3 209 := xd_of (by decide +kernel)
theorem d_M_make_209 : xD lb_M_make 209 (.aload_n 1) 1 210 := xd_of (by decide +kernel)
theorem d_M_make_210 : xD lb_M_make 210 (.getfield 43) 3 213 := xd_of (by decide +kernel)
theorem d_M_make_213 : xD lb_M_make 213 (.aload_n 0) 1 214 := xd_of (by decide +kernel)
theorem d_M_make_214 : xD lb_M_make 214 (.getfield 9) 3 217 := xd_of (by decide +kernel)
theorem d_M_make_217 : xD lb_M_make 217 (.aload_n 1) 1 218 := xd_of (by decide +kernel)
theorem d_M_make_218 : xD lb_M_make 218 (.getfield 73) 3 221 := xd_of (by decide +kernel)
theorem d_M_make_221 : xD lb_M_make 221 .iaload 1 222 := xd_of (by decide +kernel)
theorem d_M_make_222 : xD lb_M_make 222 (.iload_n 2) 1 223 := xd_of (by decide +kernel)
theorem d_M_make_223 : xD lb_M_make 223 (.invokestatic 92) 3 226 := xd_of (by decide +kernel)
theorem d_M_make_226 : xD lb_M_make 226 .iastore 1 227 := xd_of (by decide +kernel)
theorem d_M_make_227 : xD lb_M_make 227 (.iconst 0) 1 228 := xd_of (by decide +kernel)
theorem d_M_make_228 : xD lb_M_make 228 .ireturn 1 229 := xd_of (by decide +kernel)
theorem d_M_answer_0 : xD lb_M_answer 0 (.aload_n 0) 1 1 := xd_of (by decide +kernel)
theorem d_M_answer_1 : xD lb_M_answer 1 (.iload_n 1) 1 2 := xd_of (by decide +kernel)
theorem d_M_answer_2 : xD lb_M_answer 2 (.invokevirtual 26) 3 5 := xd_of (by decide +kernel)
theorem d_M_answer_5 : xD lb_M_answer 5 (.iconst 0) 1 6 := xd_of (by decide +kernel)
theorem d_M_answer_6 : xD lb_M_answer 6 (.istore_n 2) 1 7 := xd_of (by decide +kernel)
theorem d_M_answer_7 : xD lb_M_answer 7 (.bipush 24) 2 9 := xd_of (by decide +kernel)
theorem d_M_answer_9 : xD lb_M_answer 9 (.istore_n 3) 1 10 := xd_of (by decide +kernel)
theorem d_M_answer_10 : xD lb_M_answer 10 (.iload_n 3) 1 11 := xd_of (by decide +kernel)
theorem d_M_answer_11 : xDJ lb_M_answer 11 (.ifCond .le 81) 81 92 14 := xdj_of (by decide +kernel)
theorem d_M_answer_14 : xD lb_M_answer 14 (.iload_n 2) 1 15 := xd_of (by decide +kernel)
theorem d_M_answer_15 : xD lb_M_answer 15 (.aload_n 0) 1 16 := xd_of (by decide +kernel)
theorem d_M_answer_16 : xD lb_M_answer 16 (.getfield 18) 3 19 := xd_of (by decide +kernel)
theorem d_M_answer_19 : xD lb_M_answer 19 (.getfield 30) 3 22 := xd_of (by decide +kernel)
theorem d_M_answer_22 : xDJ lb_M_answer 22 (.if_icmp .ge 70) 70 92 25 := xdj_of (by decide +kernel)
theorem d_M_answer_25 : xD lb_M_answer 25 (.aload_n 0) 1 26 := xd_of (by decide +kernel)
theorem d_M_answer_26 : xD lb_M_answer 26 (.getfield 18) 3 29 := xd_of (by decide +kernel)
theorem d_M_answer_29 : xD lb_M_answer 29 (.getfield 36) 3 32 := xd_of (by decide +kernel)
theorem d_M_answer_32 : xD lb_M_answer 32 (.iload_n 2) 1 33 := xd_of (by decide +kernel)
theorem d_M_answer_33 : xD lb_M_answer 33 .aaload 1 34 := xd_of (by decide +kernel)
theorem d_M_answer_34 : xD lb_M_answer 34 (.astore 4) 2 36 := xd_of (by decide +kernel)
theorem d_M_answer_36 : xD lb_M_answer 36 (.aload_n 0) 1 37 := xd_of (by decide +kernel)
theorem d_M_answer_37 : xD lb_M_answer 37 .dup 1 38 := xd_of (by decide +kernel)
theorem d_M_answer_38 : xD lb_M_answer 38 (.getfield 40) 3 41 := xd_of (by decide +kernel)
theorem d_M_answer_41 : xD lb_M_answer 41 (.iconst 1) 1 42 := xd_of (by decide +kernel)
theorem d_M_answer_42 : xD lb_M_answer 42 .iadd 1 43 := xd_of (by decide +kernel)
theorem d_M_answer_43 : xD lb_M_answer 43 (.putfield 40) 3 46 := xd_of (by decide +kernel)
theorem d_M_answer_46 : xD lb_M_answer 46 (.aload 4) 2 48 := xd_of (by decide +kernel)
theorem d_M_answer_48 : xD lb_M_answer 48 (.getfield 43) 3 51 := xd_of (by decide +kernel)
theorem d_M_answer_51 : xD lb_M_answer 51 (.bipush 23) 2 53 := xd_of (by decide +kernel)
theorem d_M_answer_53 : xDJ lb_M_answer 53 (.if_icmp .ne 10) 10 63 56 := xdj_of (by decide +kernel)
theorem d_M_answer_56 : xD lb_M_answer 56 (.aload_n 0) 1 57 := xd_of (by decide +kernel)
theorem d_M_answer_57 : xD lb_M_answer 57 (.getfield 9) 3 60 := xd_of (by decide +kernel)
theorem d_M_answer_60 : xD lb_M_answer 60 (.iconst 0) 1 61 := xd_of (by decide +kernel)
theorem d_M_answer_61 : xD lb_M_answer 61 .iaload 1 62 := xd_of (by decide +kernel)
theorem d_M_answer_62 : xD lb_M_answer 62 .ireturn 1 63 := xd_of (by decide +kernel)
theorem d_M_answer_63 : xD lb_M_answer 63 (.iload_n 2) 1 64 := xd_of (by decide +kernel)
theorem d_M_answer_64 : xD lb_M_answer 64 (.aload_n 0) 1 65 := xd_of (by decide +kernel)
theorem d_M_answer_65 : xD lb_M_answer 65 (.aload 4) 2 67 := xd_of (by decide +kernel)
theorem d_M_answer_67 : xD lb_M_answer 67 (.invokevirtual 48) 3 70 := xd_of (by decide +kernel)
theorem d_M_answer_70 : xDJ lb_M_answer 70 (.ifCond .eq 13) 13 83 73 := xdj_of (by decide +kernel)
theorem d_M_answer_73 : xD lb_M_answer 73 (.iconst 1) 1 74 := xd_of (by decide +kernel)
theorem d_M_answer_74 : xD lb_M_answer 74 (.aload 4) 2 76 := xd_of (by decide +kernel)
theorem d_M_answer_76 : xD lb_M_answer 76 (.getfield 52) 3 79 := xd_of (by decide +kernel)
theorem d_M_answer_79 : xD lb_M_answer 79 .iadd 1 80 := xd_of (by decide +kernel)
theorem d_M_answer_80 : xDJ lb_M_answer 80 (.goto 4) 4 84 83 := xdj_of (by decide +kernel)
theorem d_M_answer_83 : xD lb_M_answer 83 (.iconst 1) 1 84 := xd_of (by decide +kernel)
theorem d_M_answer_84 : xD lb_M_answer 84 .iadd 1 85 := xd_of (by decide +kernel)
theorem d_M_answer_85 : xD lb_M_answer 85 (.istore_n 2) 1 86 := xd_of (by decide +kernel)
theorem d_M_answer_86 : xD lb_M_answer 86 (.iinc 3 (-1)) 3 89 := xd_of (by decide +kernel)
theorem d_M_answer_89 : xDJ lb_M_answer 89 (.goto (-79)) (-79) 10 92 := xdj_of (by decide +kernel)
theorem d_M_answer_92 : xD lb_M_answer 92 (.new 55) 3 95 := xd_of (by decide +kernel)
theorem d_M_answer_95 : xD lb_M_answer 95 .dup 1 96 := xd_of (by decide +kernel)
theorem d_M_answer_96 : xD lb_M_answer 96 (.ldc 57) 2 98 := xd_of (by decide +kernel)
theorem d_M_answer_98 : xD lb_M_answer 98 (.invokespecial 59) 3 101 := xd_of (by decide +kernel)
theorem d_M_answer_101 : xD lb_M_answer 101 .athrow 1 102 := xd_of (by decide +kernel)
theorem d_G_run_0 : xD lb_G_run 0 (.aload_n 0) 1 1 := xd_of (by decide +kernel)
theorem d_G_run_1 : xD lb_G_run 1 (.getfield 37) 3 4 := xd_of (by decide +kernel)
theorem d_G_run_4 : xD lb_G_run 4 (.iload_n 1) 1 5 := xd_of (by decide +kernel)
theorem d_G_run_5 : xD lb_G_run 5 (.invokevirtual 69) 3 8 := xd_of (by decide +kernel)
theorem d_G_run_8 : xD lb_G_run 8 .ireturn 1 9 := xd_of (by decide +kernel)
def f_M_checkedPlace_b9 (w : xw) : Option (Int32 × xw) :=
  none
def f_M_checkedPlace (w : xw) (l0 : Nat) (l1 : Int32) : Option (Int32 × xw) :=
  if l1 < 0 then
  f_M_checkedPlace_b9 w
  else
  if l1 < (4 : Int32) then
    some (l1, w)
    else
    f_M_checkedPlace_b9 w
def f_M_load_s32 (r32 : (xw → Nat → Int64 → Int32 → Int32 → Int32 → Option (Int32 × xw))) (w : xw) (l0 : Nat) (l1 : Int64) (l3 : Int32) (l4 : Int32) (l5 : Int32) : Option (Int32 × xw) :=
  if l3 ≤ l5 then
  some (l4, w)
  else
  (xfR w l0 3 1).bind fun a1 =>
    (xfR w a1 4 0).bind fun a2 =>
    (xaI w a2 (l1.toInt32 + l5)).bind fun x3 =>
    (some (l4 ||| (x3 <<< (((8 : Int32) * l5) &&& 31)))).bind fun x4 =>
    (some (l5 + (1 : Int32))).bind fun x5 =>
    r32 w l0 l1 l3 x4 x5
def f_M_load_b32 (n : Nat) : xw → Nat → Int64 → Int32 → Int32 → Int32 → Option (Int32 × xw) := xfix (fun _ _ _ _ _ _ => none) (f_M_load_s32) n
def f_M_load (w : xw) (l0 : Nat) (l1 : Int64) (l3 : Int32) : Option (Int32 × xw) :=
  (xfR w l0 3 1).bind fun a1 =>
  (xfI w a1 4 1).bind fun x2 =>
  if (l1 + l3.toInt64) ≤ x2.toInt64 then
  (some (0 : Int32)).bind fun x3 =>
    (some (0 : Int32)).bind fun x4 =>
    f_M_load_b32 4000 w l0 l1 l3 x3 x4
  else
  none
def f_M_checkedDivisor (w : xw) (l0 : Int32) : Option (Int64 × xw) :=
  if ¬ l0 = 0 then
  (f_G_unsigned l0).bind fun q1 =>
    some (q1, w)
  else
  none
def f_M_compute (w : xw) (l0 : Int32) (l1 : Int32) (l2 : Int32) : Option (Int32 × xw) :=
  if l0 = (1 : Int32) then
  some (l1 + l2, w)
  else if l0 = (2 : Int32) then
  some (l1 - l2, w)
  else if l0 = (3 : Int32) then
  some (l1 * l2, w)
  else if l0 = (4 : Int32) then
  some (l1 &&& l2, w)
  else if l0 = (5 : Int32) then
  some (l1 ||| l2, w)
  else if l0 = (6 : Int32) then
  some (l1 ^^^ l2, w)
  else if l0 = (7 : Int32) then
  some (l1 <<< ((l2 &&& (31 : Int32)) &&& 31), w)
  else if l0 = (8 : Int32) then
  some ((l1.toUInt32 >>> ((l2 &&& (31 : Int32)).toUInt32 &&& Int32.toUInt32 31)).toInt32, w)
  else if l0 = (9 : Int32) then
  some (l1 >>> ((l2 &&& (31 : Int32)) &&& 31), w)
  else if l0 = (10 : Int32) then
  (f_G_unsigned l1).bind fun q1 =>
    (f_M_checkedDivisor w l2).bind fun q2 =>
    if q2.1 = 0 then none else
    some ((q1 / q2.1).toInt32, q2.2)
  else if l0 = (11 : Int32) then
  (f_G_unsigned l1).bind fun q3 =>
    (f_M_checkedDivisor w l2).bind fun q4 =>
    if q4.1 = 0 then none else
    some ((q3 - q3 / q4.1 * q4.1).toInt32, q4.2)
  else some (l2, w)
def f_M_make_b227 (w : xw) : Option (Int32 × xw) :=
  xrZ (0 : Int32) w
def f_M_make_b99 (w : xw) (s0 : Int32) : Option (Int32 × xw) :=
  xrZ s0 w
def f_M_make_b24 (w : xw) (l0 : Nat) (l1 : Nat) (s0 : Int32) : Option (Int32 × xw) :=
  (xfI w l1 1 0).bind fun x1 =>
  if ¬ x1 = (22 : Int32) then
  (xfI w l1 1 0).bind fun x2 =>
    if x2 < (16 : Int32) then
    (xfI w l1 1 0).bind fun x3 =>
      if ¬ x3 = (15 : Int32) then
      (xfI w l1 1 0).bind fun x4 =>
        if ¬ x4 = (13 : Int32) then
        (xfI w l1 1 0).bind fun x5 =>
          if ¬ x5 = (12 : Int32) then
          (xfI w l1 1 0).bind fun x6 =>
            if ¬ x6 = (14 : Int32) then
            (xfR w l0 3 2).bind fun a7 =>
              (xfI w l1 1 1).bind fun x8 =>
              (xfI w l1 1 0).bind fun x9 =>
              (xfR w l0 3 2).bind fun a10 =>
              (xfI w l1 1 1).bind fun x11 =>
              (xaI w a10 x11).bind fun x12 =>
              (f_M_compute w x9 x12 s0).bind fun q13 =>
              (xsI q13.2 a7 x8 q13.1).bind fun w14 =>
              f_M_make_b227 w14
            else
            (xfR w l0 3 2).bind fun a15 =>
              (xfI w l1 1 1).bind fun x16 =>
              (f_G_unsigned s0).bind fun q17 =>
              (xfI w l1 1 3).bind fun x18 =>
              (xfI w l1 1 4).bind fun x19 =>
              (xck w l0 3).bind fun _ =>
              (f_M_load w l0 (q17 + x18.toInt64) x19).bind fun q20 =>
              (xsI q20.2 a15 x16 q20.1).bind fun w21 =>
              f_M_make_b227 w21
          else
          (xfR w l0 3 2).bind fun a22 =>
            (xfI w l1 1 1).bind fun x23 =>
            (xfR w l0 3 3).bind fun a24 =>
            (xck w l0 3).bind fun _ =>
            (f_M_checkedPlace w l0 s0).bind fun q25 =>
            (xaI q25.2 a24 q25.1).bind fun x26 =>
            (xsI q25.2 a22 x23 x26).bind fun w27 =>
            f_M_make_b227 w27
        else
        (xfR w l0 3 3).bind fun a28 =>
          (xck w l0 3).bind fun _ =>
          (f_M_checkedPlace w l0 s0).bind fun q29 =>
          (xfR q29.2 l0 3 2).bind fun a30 =>
          (xfI q29.2 l1 1 1).bind fun x31 =>
          (xaI q29.2 a30 x31).bind fun x32 =>
          (xsI q29.2 a28 q29.1 x32).bind fun w33 =>
          f_M_make_b227 w33
      else
      (f_G_unsigned s0).bind fun q34 =>
        (xfI w l1 1 3).bind fun x35 =>
        (xfR w l0 3 1).bind fun a36 =>
        (xfI w a36 4 1).bind fun x37 =>
        if (q34 + x35.toInt64) ≤ x37.toInt64 then
        f_M_make_b99 w ((0 : Int32))
        else
        f_M_make_b99 w ((1 : Int32))
    else
    (xfI w l1 1 0).bind fun x38 =>
      (xfR w l0 3 2).bind fun a39 =>
      (xfI w l1 1 1).bind fun x40 =>
      (xaI w a39 x40).bind fun x41 =>
      (f_M_holds x38 x41 s0).bind fun q42 =>
      xrZ q42 w
  else
  xrZ (1 : Int32) w
def f_M_make (w : xw) (l0 : Nat) (l1 : Nat) : Option (Int32 × xw) :=
  (xfI w l1 1 2).bind fun x1 =>
  if ¬ x1 = (-1 : Int32) then
  (xfR w l0 3 2).bind fun a2 =>
    (xfI w l1 1 2).bind fun x3 =>
    (xaI w a2 x3).bind fun x4 =>
    f_M_make_b24 w l0 l1 x4
  else
  (xfI w l1 1 3).bind fun x5 =>
    f_M_make_b24 w l0 l1 x5
def f_M_answer_b92 (w : xw) : Option (Int32 × xw) :=
  none
def f_M_answer_b84 (r10 : (xw → Nat → Int32 → Int32 → Option (Int32 × xw))) (w : xw) (l0 : Nat) (l3 : Int32) (s0 : Int32) (s1 : Int32) : Option (Int32 × xw) :=
  (some (s0 + s1)).bind fun x1 =>
  (some (l3 + (-1 : Int32))).bind fun x2 =>
  r10 w l0 x1 x2
def f_M_answer_s10 (r10 : (xw → Nat → Int32 → Int32 → Option (Int32 × xw))) (w : xw) (l0 : Nat) (l2 : Int32) (l3 : Int32) : Option (Int32 × xw) :=
  if l3 ≤ 0 then
  f_M_answer_b92 w
  else
  (xfR w l0 3 0).bind fun a1 =>
    (xfI w a1 5 1).bind fun x2 =>
    if x2 ≤ l2 then
    f_M_answer_b92 w
    else
    (xfR w l0 3 0).bind fun a3 =>
      (xfR w a3 5 0).bind fun a4 =>
      (xaR w a4 l2).bind fun a5 =>
      (xfI w l0 3 4).bind fun x6 =>
      (xpI w l0 3 4 (x6 + (1 : Int32))).bind fun w7 =>
      (xfI w7 a5 1 0).bind fun x8 =>
      if ¬ x8 = (23 : Int32) then
      (xck w7 l0 3).bind fun _ =>
        (f_M_make w7 l0 a5).bind fun q9 =>
        if q9.1 = 0 then
        f_M_answer_b84 r10 q9.2 l0 l3 l2 ((1 : Int32))
        else
        (xfI q9.2 a5 1 4).bind fun x10 =>
          f_M_answer_b84 r10 q9.2 l0 l3 l2 ((1 : Int32) + x10)
      else
      (xfR w7 l0 3 2).bind fun a11 =>
        (xaI w7 a11 (0 : Int32)).bind fun x12 =>
        some (x12, w7)
def f_M_answer_b10 (n : Nat) : xw → Nat → Int32 → Int32 → Option (Int32 × xw) := xfix (fun _ _ _ _ => none) (f_M_answer_s10) n
def f_M_answer (w : xw) (l0 : Nat) (l1 : Int32) : Option (Int32 × xw) :=
  (xck w l0 3).bind fun _ =>
  (f_M_begin w l0 l1).bind fun q1 =>
  (some (0 : Int32)).bind fun x2 =>
  (some (24 : Int32)).bind fun x3 =>
  f_M_answer_b10 4000 q1.2 l0 x2 x3
def f_G_run (w : xw) (l0 : Nat) (l1 : Int32) : Option (Int32 × xw) :=
  (xfR w l0 0 3).bind fun a1 =>
  (xck w a1 3).bind fun _ =>
  (f_M_answer w a1 l1).bind fun q2 =>
  some (q2.1, q2.2)
theorem kb_M_checkedPlace_9 (X : xX) (sz : Nat) (ro : Int32 × xw) (w : xw) (h : f_M_checkedPlace_b9 w = some ro) : k_M_checkedPlace X [] [] w sz 0 0 9 (some (.int ro.1), ro.2, sz) := by
  unfold f_M_checkedPlace_b9 at h
  cases h
theorem kb_M_checkedPlace_0 (X : xX) (sz : Nat) (ro : Int32 × xw) (w : xw) (l0 : Nat) (l1 : Int32) (h : f_M_checkedPlace w l0 l1 = some ro) : k_M_checkedPlace X [(0, .ref l0), (1, .int l1)] [] w sz 0 0 0 (some (.int ro.1), ro.2, sz) := by
  unfold f_M_checkedPlace at h
  refine xo_iload_n 1 d_M_checkedPlace_0 rfl rfl ?_
  refine xo_if_lt d_M_checkedPlace_1 h (fun h => ?_) (fun h => ?_)
  · exact xo_sub [] [] rfl (kb_M_checkedPlace_9 X sz ro _ h)
  · refine xo_iload_n 1 d_M_checkedPlace_4 rfl rfl ?_
    refine xo_iconst d_M_checkedPlace_5 xic_4 ?_
    refine xo_icmp_lt d_M_checkedPlace_6 h (fun h => ?_) (fun h => ?_)
    · refine xo_iload_n 1 d_M_checkedPlace_19 rfl rfl ?_
      exact xo_retIH d_M_checkedPlace_20 rfl rfl rfl h
    · exact xo_sub [] [] rfl (kb_M_checkedPlace_9 X sz ro _ h)
theorem c_M_checkedPlace (l : Launch) (D : va_G) (cT : Nat → ClassId) (sz : Nat) (w : xw) (l0 : Nat) (l1 : Int32) (ro : Int32 × xw) (h : f_M_checkedPlace w l0 l1 = some ro) : xM l y_M_checkedPlace b_M_checkedPlace 2 t_M_checkedPlace R_M_checkedPlace D cT [.ref l0, .int l1] w sz (some (.int ro.1), ro.2, sz) :=
  xm_of bl_M_checkedPlace rfl rfl (kb_M_checkedPlace_0 (l, D, cT, [.ref l0, .int l1], w, sz) sz ro w l0 l1 h)
theorem ks_M_load_32 (X : xX) (sz : Nat) (ro : Int32 × xw) (r32 : xw → Nat → Int64 → Int32 → Int32 → Int32 → Option (Int32 × xw)) (R32 : ∀ (w : xw) (l0 : Nat) (l1 : Int64) (l3 : Int32) (l4 : Int32) (l5 : Int32), r32 w l0 l1 l3 l4 l5 = some ro → k_M_load X [(0, .ref l0), (1, .long l1), (3, .int l3), (4, .int l4), (5, .int l5)] [] w sz 0 0 32 (some (.int ro.1), ro.2, sz)) (w : xw) (l0 : Nat) (l1 : Int64) (l3 : Int32) (l4 : Int32) (l5 : Int32) (h : f_M_load_s32 r32 w l0 l1 l3 l4 l5 = some ro) : k_M_load X [(0, .ref l0), (1, .long l1), (3, .int l3), (4, .int l4), (5, .int l5)] [] w sz 0 0 32 (some (.int ro.1), ro.2, sz) := by
  unfold f_M_load_s32 at h
  refine xo_iload 4 d_M_load_32 rfl ?_
  refine xo_iload_n 2 d_M_load_34 rfl rfl ?_
  refine xo_icmp_ge d_M_load_35 h (fun h => ?_) (fun h => ?_)
  · refine xo_iload 3 d_M_load_68 rfl ?_
    exact xo_retIH d_M_load_70 rfl rfl rfl h
  · refine xo_iload 3 d_M_load_38 rfl ?_
    refine xo_aload_n 0 d_M_load_40 rfl rfl ?_
    refine xo_getR 1 d_M_load_41 xc_3 rfl tw_208 rfl h (fun a1 h => ?_)
    refine xo_getR 0 d_M_load_44 xc_4 rfl tw_86 rfl h (fun a2 h => ?_)
    refine xo_lload_n 1 d_M_load_47 rfl rfl ?_
    refine xo_l2i d_M_load_48 ?_
    refine xo_iload 4 d_M_load_49 rfl ?_
    refine xo_iadd d_M_load_51 ?_
    refine xo_aldI d_M_load_52 h (fun x3 h => ?_)
    refine xo_bipush d_M_load_53 xbp_8 ?_
    refine xo_iload 4 d_M_load_55 rfl ?_
    refine xo_imul d_M_load_57 ?_
    refine xo_ishl d_M_load_58 ?_
    refine xo_ior d_M_load_59 ?_
    refine xo_nmI h (fun x4 h => ?_)
    refine xo_istore [(4, .int x4), (0, .ref l0), (1, .long l1), (3, .int l3), (5, .int l5)] d_M_load_60 rfl rfl ?_
    refine xo_iinc 4 (fun x5 => [(5, .int x5), (4, .int x4), (0, .ref l0), (1, .long l1), (3, .int l3)]) d_M_load_62 rfl rfl xic_1 (fun _ => rfl) h (fun x5 h => ?_)
    refine xo_goto d_M_load_65 ?_
    exact xo_sub [2, 3, 4, 1, 0] [(0, .ref l0), (1, .long l1), (3, .int l3), (4, .int x4), (5, .int x5)] rfl (R32 _ _ _ _ _ _ h)
theorem kb_M_load_32 (X : xX) (sz : Nat) (ro : Int32 × xw) (n : Nat) : ∀ (w : xw) (l0 : Nat) (l1 : Int64) (l3 : Int32) (l4 : Int32) (l5 : Int32), f_M_load_b32 n w l0 l1 l3 l4 l5 = some ro → k_M_load X [(0, .ref l0), (1, .long l1), (3, .int l3), (4, .int l4), (5, .int l5)] [] w sz 0 0 32 (some (.int ro.1), ro.2, sz) := by
  unfold f_M_load_b32
  refine xfix_ind (P := fun (r32 : xw → Nat → Int64 → Int32 → Int32 → Int32 → Option (Int32 × xw)) => ∀ (w : xw) (l0 : Nat) (l1 : Int64) (l3 : Int32) (l4 : Int32) (l5 : Int32), r32 w l0 l1 l3 l4 l5 = some ro → k_M_load X [(0, .ref l0), (1, .long l1), (3, .int l3), (4, .int l4), (5, .int l5)] [] w sz 0 0 32 (some (.int ro.1), ro.2, sz)) ?_ ?_ n
  · intro _ _ _ _ _ _ h
    cases h
  · intro r R w l0 l1 l3 l4 l5 h
    exact ks_M_load_32 X sz ro r R _ _ _ _ _ _ h
theorem kb_M_load_0 (X : xX) (sz : Nat) (ro : Int32 × xw) (w : xw) (l0 : Nat) (l1 : Int64) (l3 : Int32) (h : f_M_load w l0 l1 l3 = some ro) : k_M_load X [(0, .ref l0), (1, .long l1), (3, .int l3)] [] w sz 0 0 0 (some (.int ro.1), ro.2, sz) := by
  unfold f_M_load at h
  refine xo_lload_n 1 d_M_load_0 rfl rfl ?_
  refine xo_iload_n 2 d_M_load_1 rfl rfl ?_
  refine xo_i2l d_M_load_2 ?_
  refine xo_ladd d_M_load_3 ?_
  refine xo_aload_n 0 d_M_load_4 rfl rfl ?_
  refine xo_getR 1 d_M_load_5 xc_3 rfl tw_208 rfl h (fun a1 h => ?_)
  refine xo_getI 1 d_M_load_8 xc_4 rfl tw_88 rfl h (fun x2 h => ?_)
  refine xo_i2l d_M_load_11 ?_
  refine xo_lcle d_M_load_12 d_M_load_13 h (fun h => ?_) (fun h => ?_)
  · refine xo_iconst d_M_load_26 xic_0 ?_
    refine xo_nmI h (fun x3 h => ?_)
    refine xo_istore [(4, .int x3), (0, .ref l0), (1, .long l1), (3, .int l3)] d_M_load_27 rfl rfl ?_
    refine xo_iconst d_M_load_29 xic_0 ?_
    refine xo_nmI h (fun x4 h => ?_)
    refine xo_istore [(5, .int x4), (4, .int x3), (0, .ref l0), (1, .long l1), (3, .int l3)] d_M_load_30 rfl rfl ?_
    exact xo_sub [2, 3, 4, 1, 0] [(0, .ref l0), (1, .long l1), (3, .int l3), (4, .int x3), (5, .int x4)] rfl (kb_M_load_32 X sz ro _ _ _ _ _ _ _ h)
  · cases h
theorem c_M_load (l : Launch) (D : va_G) (cT : Nat → ClassId) (sz : Nat) (w : xw) (l0 : Nat) (l1 : Int64) (l3 : Int32) (ro : Int32 × xw) (h : f_M_load w l0 l1 l3 = some ro) : xM l y_M_load b_M_load 6 t_M_load R_M_load D cT [.ref l0, .long l1, .int l3] w sz (some (.int ro.1), ro.2, sz) :=
  xm_of bl_M_load rfl rfl (kb_M_load_0 (l, D, cT, [.ref l0, .long l1, .int l3], w, sz) sz ro w l0 l1 l3 h)
theorem kb_M_checkedDivisor_0 (X : xX) (sz : Nat) (ro : Int64 × xw) (w : xw) (l0 : Int32) (h : f_M_checkedDivisor w l0 = some ro) : k_M_checkedDivisor X [(0, .int l0)] [] w sz 0 0 0 (some (.long ro.1), ro.2, sz) := by
  unfold f_M_checkedDivisor at h
  refine xo_iload_n 0 d_M_checkedDivisor_0 rfl rfl ?_
  refine xo_if_ne d_M_checkedDivisor_1 h (fun h => ?_) (fun h => ?_)
  · refine xo_iload_n 0 d_M_checkedDivisor_14 rfl rfl ?_
    refine xo_SN_L0 (rest := []) [.int l0] d_M_checkedDivisor_15 nw_6 yw_G_unsigned h (fun z e => c_G_unsigned _ _ _ _ _ _ z e) rfl ⟨rfl, rfl⟩ rfl rfl rfl (fun q1 h => ?_)
    exact xo_retLH d_M_checkedDivisor_18 rfl rfl rfl h
  · cases h
theorem c_M_checkedDivisor (l : Launch) (D : va_G) (cT : Nat → ClassId) (sz : Nat) (w : xw) (l0 : Int32) (ro : Int64 × xw) (h : f_M_checkedDivisor w l0 = some ro) : xM l y_M_checkedDivisor b_M_checkedDivisor 1 t_M_checkedDivisor R_M_checkedDivisor D cT [.int l0] w sz (some (.long ro.1), ro.2, sz) :=
  xm_of bl_M_checkedDivisor rfl rfl (kb_M_checkedDivisor_0 (l, D, cT, [.int l0], w, sz) sz ro w l0 h)
theorem kb_M_compute_0 (X : xX) (sz : Nat) (ro : Int32 × xw) (w : xw) (l0 : Int32) (l1 : Int32) (l2 : Int32) (h : f_M_compute w l0 l1 l2 = some ro) : k_M_compute X [(0, .int l0), (1, .int l1), (2, .int l2)] [] w sz 0 0 0 (some (.int ro.1), ro.2, sz) := by
  unfold f_M_compute at h
  refine xo_iload_n 0 d_M_compute_0 rfl rfl ?_
  rcases xif h with ⟨hc0, h⟩ | ⟨hc0, h⟩
  · refine xo_tableIn 59 60 d_M_compute_1 (by rw [hc0]; decide) (by rw [hc0]; decide) (by rw [hc0]; decide) (by decide) ?_
    refine xo_iload_n 1 d_M_compute_60 rfl rfl ?_
    refine xo_iload_n 2 d_M_compute_61 rfl rfl ?_
    refine xo_iadd d_M_compute_62 ?_
    exact xo_retIH d_M_compute_63 rfl rfl rfl h
  rcases xif h with ⟨hc1, h⟩ | ⟨hc1, h⟩
  · refine xo_tableIn 63 64 d_M_compute_1 (by rw [hc1]; decide) (by rw [hc1]; decide) (by rw [hc1]; decide) (by decide) ?_
    refine xo_iload_n 1 d_M_compute_64 rfl rfl ?_
    refine xo_iload_n 2 d_M_compute_65 rfl rfl ?_
    refine xo_isub d_M_compute_66 ?_
    exact xo_retIH d_M_compute_67 rfl rfl rfl h
  rcases xif h with ⟨hc2, h⟩ | ⟨hc2, h⟩
  · refine xo_tableIn 67 68 d_M_compute_1 (by rw [hc2]; decide) (by rw [hc2]; decide) (by rw [hc2]; decide) (by decide) ?_
    refine xo_iload_n 1 d_M_compute_68 rfl rfl ?_
    refine xo_iload_n 2 d_M_compute_69 rfl rfl ?_
    refine xo_imul d_M_compute_70 ?_
    exact xo_retIH d_M_compute_71 rfl rfl rfl h
  rcases xif h with ⟨hc3, h⟩ | ⟨hc3, h⟩
  · refine xo_tableIn 71 72 d_M_compute_1 (by rw [hc3]; decide) (by rw [hc3]; decide) (by rw [hc3]; decide) (by decide) ?_
    refine xo_iload_n 1 d_M_compute_72 rfl rfl ?_
    refine xo_iload_n 2 d_M_compute_73 rfl rfl ?_
    refine xo_iand d_M_compute_74 ?_
    exact xo_retIH d_M_compute_75 rfl rfl rfl h
  rcases xif h with ⟨hc4, h⟩ | ⟨hc4, h⟩
  · refine xo_tableIn 75 76 d_M_compute_1 (by rw [hc4]; decide) (by rw [hc4]; decide) (by rw [hc4]; decide) (by decide) ?_
    refine xo_iload_n 1 d_M_compute_76 rfl rfl ?_
    refine xo_iload_n 2 d_M_compute_77 rfl rfl ?_
    refine xo_ior d_M_compute_78 ?_
    exact xo_retIH d_M_compute_79 rfl rfl rfl h
  rcases xif h with ⟨hc5, h⟩ | ⟨hc5, h⟩
  · refine xo_tableIn 79 80 d_M_compute_1 (by rw [hc5]; decide) (by rw [hc5]; decide) (by rw [hc5]; decide) (by decide) ?_
    refine xo_iload_n 1 d_M_compute_80 rfl rfl ?_
    refine xo_iload_n 2 d_M_compute_81 rfl rfl ?_
    refine xo_ixor d_M_compute_82 ?_
    exact xo_retIH d_M_compute_83 rfl rfl rfl h
  rcases xif h with ⟨hc6, h⟩ | ⟨hc6, h⟩
  · refine xo_tableIn 83 84 d_M_compute_1 (by rw [hc6]; decide) (by rw [hc6]; decide) (by rw [hc6]; decide) (by decide) ?_
    refine xo_iload_n 1 d_M_compute_84 rfl rfl ?_
    refine xo_iload_n 2 d_M_compute_85 rfl rfl ?_
    refine xo_bipush d_M_compute_86 xbp_31 ?_
    refine xo_iand d_M_compute_88 ?_
    refine xo_ishl d_M_compute_89 ?_
    exact xo_retIH d_M_compute_90 rfl rfl rfl h
  rcases xif h with ⟨hc7, h⟩ | ⟨hc7, h⟩
  · refine xo_tableIn 90 91 d_M_compute_1 (by rw [hc7]; decide) (by rw [hc7]; decide) (by rw [hc7]; decide) (by decide) ?_
    refine xo_iload_n 1 d_M_compute_91 rfl rfl ?_
    refine xo_iload_n 2 d_M_compute_92 rfl rfl ?_
    refine xo_bipush d_M_compute_93 xbp_31 ?_
    refine xo_iand d_M_compute_95 ?_
    refine xo_iushr d_M_compute_96 ?_
    exact xo_retIH d_M_compute_97 rfl rfl rfl h
  rcases xif h with ⟨hc8, h⟩ | ⟨hc8, h⟩
  · refine xo_tableIn 97 98 d_M_compute_1 (by rw [hc8]; decide) (by rw [hc8]; decide) (by rw [hc8]; decide) (by decide) ?_
    refine xo_iload_n 1 d_M_compute_98 rfl rfl ?_
    refine xo_iload_n 2 d_M_compute_99 rfl rfl ?_
    refine xo_bipush d_M_compute_100 xbp_31 ?_
    refine xo_iand d_M_compute_102 ?_
    refine xo_ishr d_M_compute_103 ?_
    exact xo_retIH d_M_compute_104 rfl rfl rfl h
  rcases xif h with ⟨hc9, h⟩ | ⟨hc9, h⟩
  · refine xo_tableIn 104 105 d_M_compute_1 (by rw [hc9]; decide) (by rw [hc9]; decide) (by rw [hc9]; decide) (by decide) ?_
    refine xo_iload_n 1 d_M_compute_105 rfl rfl ?_
    refine xo_SN_L0 (rest := []) [.int l1] d_M_compute_106 nw_6 yw_G_unsigned h (fun z e => c_G_unsigned _ _ _ _ _ _ z e) rfl ⟨rfl, rfl⟩ rfl rfl rfl (fun q1 h => ?_)
    refine xo_iload_n 2 d_M_compute_109 rfl rfl ?_
    refine xo_S_LH (rest := [.long q1]) [.int l2] d_M_compute_110 tw_602 yw_M_checkedDivisor h (fun z e => c_M_checkedDivisor _ _ _ _ _ _ z e) rfl ⟨rfl, rfl⟩ rfl rfl rfl (fun q2 h => ?_)
    refine xo_ldiv d_M_compute_113 h (fun h => ?_)
    refine xo_l2i d_M_compute_114 ?_
    exact xo_retIH d_M_compute_115 rfl rfl rfl h
  rcases xif h with ⟨hc10, h⟩ | ⟨hc10, h⟩
  · refine xo_tableIn 115 116 d_M_compute_1 (by rw [hc10]; decide) (by rw [hc10]; decide) (by rw [hc10]; decide) (by decide) ?_
    refine xo_iload_n 1 d_M_compute_116 rfl rfl ?_
    refine xo_SN_L0 (rest := []) [.int l1] d_M_compute_117 nw_6 yw_G_unsigned h (fun z e => c_G_unsigned _ _ _ _ _ _ z e) rfl ⟨rfl, rfl⟩ rfl rfl rfl (fun q3 h => ?_)
    refine xo_iload_n 2 d_M_compute_120 rfl rfl ?_
    refine xo_S_LH (rest := [.long q3]) [.int l2] d_M_compute_121 tw_602 yw_M_checkedDivisor h (fun z e => c_M_checkedDivisor _ _ _ _ _ _ z e) rfl ⟨rfl, rfl⟩ rfl rfl rfl (fun q4 h => ?_)
    refine xo_lrem d_M_compute_124 h (fun h => ?_)
    refine xo_l2i d_M_compute_125 ?_
    exact xo_retIH d_M_compute_126 rfl rfl rfl h
  refine xo_tableOut 127 d_M_compute_1 (by have n0 := lv_neT hc0 (a := 1) (by decide); have n1 := lv_neT hc1 (a := 2) (by decide); have n2 := lv_neT hc2 (a := 3) (by decide); have n3 := lv_neT hc3 (a := 4) (by decide); have n4 := lv_neT hc4 (a := 5) (by decide); have n5 := lv_neT hc5 (a := 6) (by decide); have n6 := lv_neT hc6 (a := 7) (by decide); have n7 := lv_neT hc7 (a := 8) (by decide); have n8 := lv_neT hc8 (a := 9) (by decide); have n9 := lv_neT hc9 (a := 10) (by decide); have n10 := lv_neT hc10 (a := 11) (by decide); omega) (by decide) ?_
  refine xo_iload_n 2 d_M_compute_127 rfl rfl ?_
  exact xo_retIH d_M_compute_128 rfl rfl rfl h
theorem c_M_compute (l : Launch) (D : va_G) (cT : Nat → ClassId) (sz : Nat) (w : xw) (l0 : Int32) (l1 : Int32) (l2 : Int32) (ro : Int32 × xw) (h : f_M_compute w l0 l1 l2 = some ro) : xM l y_M_compute b_M_compute 3 t_M_compute R_M_compute D cT [.int l0, .int l1, .int l2] w sz (some (.int ro.1), ro.2, sz) :=
  xm_of bl_M_compute rfl rfl (kb_M_compute_0 (l, D, cT, [.int l0, .int l1, .int l2], w, sz) sz ro w l0 l1 l2 h)
theorem kb_M_make_227 (X : xX) (sz : Nat) (ro : Int32 × xw) (w : xw) (h : f_M_make_b227 w = some ro) : k_M_make X [] [] w sz 0 0 227 (some (.int ro.1), ro.2, sz) := by
  unfold f_M_make_b227 at h
  refine xo_iconst d_M_make_227 xic_0 ?_
  exact xo_retZH d_M_make_228 rfl rfl rfl h
theorem kb_M_make_99 (X : xX) (sz : Nat) (ro : Int32 × xw) (w : xw) (s0 : Int32) (h : f_M_make_b99 w s0 = some ro) : k_M_make X [] [.int s0] w sz 0 0 99 (some (.int ro.1), ro.2, sz) := by
  unfold f_M_make_b99 at h
  exact xo_retZH d_M_make_99 rfl rfl rfl h
theorem kb_M_make_24 (X : xX) (sz : Nat) (ro : Int32 × xw) (w : xw) (l0 : Nat) (l1 : Nat) (s0 : Int32) (h : f_M_make_b24 w l0 l1 s0 = some ro) : k_M_make X [(0, .ref l0), (1, .ref l1)] [.int s0] w sz 0 0 24 (some (.int ro.1), ro.2, sz) := by
  unfold f_M_make_b24 at h
  refine xo_istore_n [(2, .int s0), (0, .ref l0), (1, .ref l1)] d_M_make_24 rfl rfl rfl ?_
  refine xo_aload_n 2 d_M_make_25 rfl rfl ?_
  refine xo_getI 0 d_M_make_26 xc_1 rfl tw_41 rfl h (fun x1 h => ?_)
  refine xo_bipush d_M_make_29 xbp_22 ?_
  refine xo_icmp_ne d_M_make_31 h (fun h => ?_) (fun h => ?_)
  · refine xo_aload_n 2 d_M_make_36 rfl rfl ?_
    refine xo_getI 0 d_M_make_37 xc_1 rfl tw_41 rfl h (fun x2 h => ?_)
    refine xo_bipush d_M_make_40 xbp_16 ?_
    refine xo_icmp_lt d_M_make_42 h (fun h => ?_) (fun h => ?_)
    · refine xo_aload_n 2 d_M_make_63 rfl rfl ?_
      refine xo_getI 0 d_M_make_64 xc_1 rfl tw_41 rfl h (fun x3 h => ?_)
      refine xo_bipush d_M_make_67 xbp_15 ?_
      refine xo_icmp_ne d_M_make_69 h (fun h => ?_) (fun h => ?_)
      · refine xo_aload_n 2 d_M_make_100 rfl rfl ?_
        refine xo_getI 0 d_M_make_101 xc_1 rfl tw_41 rfl h (fun x4 h => ?_)
        refine xo_bipush d_M_make_104 xbp_13 ?_
        refine xo_icmp_ne d_M_make_106 h (fun h => ?_) (fun h => ?_)
        · refine xo_aload_n 2 d_M_make_131 rfl rfl ?_
          refine xo_getI 0 d_M_make_132 xc_1 rfl tw_41 rfl h (fun x5 h => ?_)
          refine xo_bipush d_M_make_135 xbp_12 ?_
          refine xo_icmp_ne d_M_make_137 h (fun h => ?_) (fun h => ?_)
          · refine xo_aload_n 2 d_M_make_162 rfl rfl ?_
            refine xo_getI 0 d_M_make_163 xc_1 rfl tw_41 rfl h (fun x6 h => ?_)
            refine xo_bipush d_M_make_166 xbp_14 ?_
            refine xo_icmp_ne d_M_make_168 h (fun h => ?_) (fun h => ?_)
            · refine xo_aload_n 1 d_M_make_201 rfl rfl ?_
              refine xo_getR 2 d_M_make_202 xc_3 rfl tw_209 rfl h (fun a7 h => ?_)
              refine xo_aload_n 2 d_M_make_205 rfl rfl ?_
              refine xo_getI 1 d_M_make_206 xc_1 rfl tw_45 rfl h (fun x8 h => ?_)
              refine xo_aload_n 2 d_M_make_209 rfl rfl ?_
              refine xo_getI 0 d_M_make_210 xc_1 rfl tw_41 rfl h (fun x9 h => ?_)
              refine xo_aload_n 1 d_M_make_213 rfl rfl ?_
              refine xo_getR 2 d_M_make_214 xc_3 rfl tw_209 rfl h (fun a10 h => ?_)
              refine xo_aload_n 2 d_M_make_217 rfl rfl ?_
              refine xo_getI 1 d_M_make_218 xc_1 rfl tw_45 rfl h (fun x11 h => ?_)
              refine xo_aldI d_M_make_221 h (fun x12 h => ?_)
              refine xo_iload_n 0 d_M_make_222 rfl rfl ?_
              refine xo_S_IH (rest := [.int x8, .ref a7]) [.int x9, .int x12, .int s0] d_M_make_223 tw_599 yw_M_compute h (fun z e => c_M_compute _ _ _ _ _ _ _ _ z e) rfl ⟨rfl, rfl⟩ rfl rfl rfl (fun q13 h => ?_)
              refine xo_astI d_M_make_226 h (fun w14 h => ?_)
              exact xo_sub [] [] rfl (kb_M_make_227 X sz ro _ h)
            · refine xo_aload_n 1 d_M_make_171 rfl rfl ?_
              refine xo_getR 2 d_M_make_172 xc_3 rfl tw_209 rfl h (fun a15 h => ?_)
              refine xo_aload_n 2 d_M_make_175 rfl rfl ?_
              refine xo_getI 1 d_M_make_176 xc_1 rfl tw_45 rfl h (fun x16 h => ?_)
              refine xo_aload_n 1 d_M_make_179 rfl rfl ?_
              refine xo_iload_n 0 d_M_make_180 rfl rfl ?_
              refine xo_SN_L0 (rest := [.ref l0, .int x16, .ref a15]) [.int s0] d_M_make_181 nw_6 yw_G_unsigned h (fun z e => c_G_unsigned _ _ _ _ _ _ z e) rfl ⟨rfl, rfl⟩ rfl rfl rfl (fun q17 h => ?_)
              refine xo_aload_n 2 d_M_make_184 rfl rfl ?_
              refine xo_getI 3 d_M_make_185 xc_1 rfl tw_51 rfl h (fun x18 h => ?_)
              refine xo_i2l d_M_make_188 ?_
              refine xo_ladd d_M_make_189 ?_
              refine xo_aload_n 2 d_M_make_190 rfl rfl ?_
              refine xo_getI 4 d_M_make_191 xc_1 rfl tw_53 rfl h (fun x19 h => ?_)
              refine xo_V_IH (rest := [.int x16, .ref a15]) [.long (q17 + x18.toInt64), .int x19] d_M_make_194 tw_594 yw_M_load h xc_3 (fun z e => c_M_load _ _ _ _ _ _ _ _ z e) rfl ⟨rfl, rfl⟩ rfl rfl rfl (fun q20 h => ?_)
              refine xo_astI d_M_make_197 h (fun w21 h => ?_)
              refine xo_goto d_M_make_198 ?_
              exact xo_sub [] [] rfl (kb_M_make_227 X sz ro _ h)
          · refine xo_aload_n 1 d_M_make_140 rfl rfl ?_
            refine xo_getR 2 d_M_make_141 xc_3 rfl tw_209 rfl h (fun a22 h => ?_)
            refine xo_aload_n 2 d_M_make_144 rfl rfl ?_
            refine xo_getI 1 d_M_make_145 xc_1 rfl tw_45 rfl h (fun x23 h => ?_)
            refine xo_aload_n 1 d_M_make_148 rfl rfl ?_
            refine xo_getR 3 d_M_make_149 xc_3 rfl tw_210 rfl h (fun a24 h => ?_)
            refine xo_aload_n 1 d_M_make_152 rfl rfl ?_
            refine xo_iload_n 0 d_M_make_153 rfl rfl ?_
            refine xo_V_IH (rest := [.ref a24, .int x23, .ref a22]) [.int s0] d_M_make_154 tw_522 yw_M_checkedPlace h xc_3 (fun z e => c_M_checkedPlace _ _ _ _ _ _ _ z e) rfl ⟨rfl, rfl⟩ rfl rfl rfl (fun q25 h => ?_)
            refine xo_aldI d_M_make_157 h (fun x26 h => ?_)
            refine xo_astI d_M_make_158 h (fun w27 h => ?_)
            refine xo_goto d_M_make_159 ?_
            exact xo_sub [] [] rfl (kb_M_make_227 X sz ro _ h)
        · refine xo_aload_n 1 d_M_make_109 rfl rfl ?_
          refine xo_getR 3 d_M_make_110 xc_3 rfl tw_210 rfl h (fun a28 h => ?_)
          refine xo_aload_n 1 d_M_make_113 rfl rfl ?_
          refine xo_iload_n 0 d_M_make_114 rfl rfl ?_
          refine xo_V_IH (rest := [.ref a28]) [.int s0] d_M_make_115 tw_522 yw_M_checkedPlace h xc_3 (fun z e => c_M_checkedPlace _ _ _ _ _ _ _ z e) rfl ⟨rfl, rfl⟩ rfl rfl rfl (fun q29 h => ?_)
          refine xo_aload_n 1 d_M_make_118 rfl rfl ?_
          refine xo_getR 2 d_M_make_119 xc_3 rfl tw_209 rfl h (fun a30 h => ?_)
          refine xo_aload_n 2 d_M_make_122 rfl rfl ?_
          refine xo_getI 1 d_M_make_123 xc_1 rfl tw_45 rfl h (fun x31 h => ?_)
          refine xo_aldI d_M_make_126 h (fun x32 h => ?_)
          refine xo_astI d_M_make_127 h (fun w33 h => ?_)
          refine xo_goto d_M_make_128 ?_
          exact xo_sub [] [] rfl (kb_M_make_227 X sz ro _ h)
      · refine xo_iload_n 0 d_M_make_72 rfl rfl ?_
        refine xo_SN_L0 (rest := []) [.int s0] d_M_make_73 nw_6 yw_G_unsigned h (fun z e => c_G_unsigned _ _ _ _ _ _ z e) rfl ⟨rfl, rfl⟩ rfl rfl rfl (fun q34 h => ?_)
        refine xo_aload_n 2 d_M_make_76 rfl rfl ?_
        refine xo_getI 3 d_M_make_77 xc_1 rfl tw_51 rfl h (fun x35 h => ?_)
        refine xo_i2l d_M_make_80 ?_
        refine xo_ladd d_M_make_81 ?_
        refine xo_aload_n 1 d_M_make_82 rfl rfl ?_
        refine xo_getR 1 d_M_make_83 xc_3 rfl tw_208 rfl h (fun a36 h => ?_)
        refine xo_getI 1 d_M_make_86 xc_4 rfl tw_88 rfl h (fun x37 h => ?_)
        refine xo_i2l d_M_make_89 ?_
        refine xo_lcle d_M_make_90 d_M_make_91 h (fun h => ?_) (fun h => ?_)
        · refine xo_iconst d_M_make_98 xic_0 ?_
          exact xo_sub [] [] rfl (kb_M_make_99 X sz ro _ _ h)
        · refine xo_iconst d_M_make_94 xic_1 ?_
          refine xo_goto d_M_make_95 ?_
          exact xo_sub [] [] rfl (kb_M_make_99 X sz ro _ _ h)
    · refine xo_aload_n 2 d_M_make_45 rfl rfl ?_
      refine xo_getI 0 d_M_make_46 xc_1 rfl tw_41 rfl h (fun x38 h => ?_)
      refine xo_aload_n 1 d_M_make_49 rfl rfl ?_
      refine xo_getR 2 d_M_make_50 xc_3 rfl tw_209 rfl h (fun a39 h => ?_)
      refine xo_aload_n 2 d_M_make_53 rfl rfl ?_
      refine xo_getI 1 d_M_make_54 xc_1 rfl tw_45 rfl h (fun x40 h => ?_)
      refine xo_aldI d_M_make_57 h (fun x41 h => ?_)
      refine xo_iload_n 0 d_M_make_58 rfl rfl ?_
      refine xo_S_I0 (rest := []) [.int x38, .int x41, .int s0] d_M_make_59 tw_518 yw_M_holds h (fun z e => c_M_holds _ _ _ _ _ _ _ _ z e) rfl ⟨rfl, rfl⟩ rfl rfl rfl (fun q42 h => ?_)
      exact xo_retZH d_M_make_62 rfl rfl rfl h
  · refine xo_iconst d_M_make_34 xic_1 ?_
    exact xo_retZH d_M_make_35 rfl rfl rfl h
theorem kb_M_make_0 (X : xX) (sz : Nat) (ro : Int32 × xw) (w : xw) (l0 : Nat) (l1 : Nat) (h : f_M_make w l0 l1 = some ro) : k_M_make X [(0, .ref l0), (1, .ref l1)] [] w sz 0 0 0 (some (.int ro.1), ro.2, sz) := by
  unfold f_M_make at h
  refine xo_aload_n 1 d_M_make_0 rfl rfl ?_
  refine xo_getI 2 d_M_make_1 xc_1 rfl tw_48 rfl h (fun x1 h => ?_)
  refine xo_iconst d_M_make_4 xic_m1 ?_
  refine xo_icmp_ne d_M_make_5 h (fun h => ?_) (fun h => ?_)
  · refine xo_aload_n 0 d_M_make_15 rfl rfl ?_
    refine xo_getR 2 d_M_make_16 xc_3 rfl tw_209 rfl h (fun a2 h => ?_)
    refine xo_aload_n 1 d_M_make_19 rfl rfl ?_
    refine xo_getI 2 d_M_make_20 xc_1 rfl tw_48 rfl h (fun x3 h => ?_)
    refine xo_aldI d_M_make_23 h (fun x4 h => ?_)
    exact xo_sub [0, 1] [(0, .ref l0), (1, .ref l1)] rfl (kb_M_make_24 X sz ro _ _ _ _ h)
  · refine xo_aload_n 1 d_M_make_8 rfl rfl ?_
    refine xo_getI 3 d_M_make_9 xc_1 rfl tw_51 rfl h (fun x5 h => ?_)
    refine xo_goto d_M_make_12 ?_
    exact xo_sub [0, 1] [(0, .ref l0), (1, .ref l1)] rfl (kb_M_make_24 X sz ro _ _ _ _ h)
theorem c_M_make (l : Launch) (D : va_G) (cT : Nat → ClassId) (sz : Nat) (w : xw) (l0 : Nat) (l1 : Nat) (ro : Int32 × xw) (h : f_M_make w l0 l1 = some ro) : xM l y_M_make b_M_make 3 t_M_make R_M_make D cT [.ref l0, .ref l1] w sz (some (.int ro.1), ro.2, sz) :=
  xm_of bl_M_make rfl rfl (kb_M_make_0 (l, D, cT, [.ref l0, .ref l1], w, sz) sz ro w l0 l1 h)
theorem kb_M_answer_92 (X : xX) (sz : Nat) (ro : Int32 × xw) (w : xw) (h : f_M_answer_b92 w = some ro) : k_M_answer X [] [] w sz 0 0 92 (some (.int ro.1), ro.2, sz) := by
  unfold f_M_answer_b92 at h
  cases h
theorem kb_M_answer_84 (X : xX) (sz : Nat) (ro : Int32 × xw) (r10 : xw → Nat → Int32 → Int32 → Option (Int32 × xw)) (R10 : ∀ (w : xw) (l0 : Nat) (l2 : Int32) (l3 : Int32), r10 w l0 l2 l3 = some ro → k_M_answer X [(0, .ref l0), (2, .int l2), (3, .int l3)] [] w sz 0 0 10 (some (.int ro.1), ro.2, sz)) (w : xw) (l0 : Nat) (l3 : Int32) (s0 : Int32) (s1 : Int32) (h : f_M_answer_b84 r10 w l0 l3 s0 s1 = some ro) : k_M_answer X [(0, .ref l0), (3, .int l3)] [.int s1, .int s0] w sz 0 0 84 (some (.int ro.1), ro.2, sz) := by
  unfold f_M_answer_b84 at h
  refine xo_iadd d_M_answer_84 ?_
  refine xo_nmI h (fun x1 h => ?_)
  refine xo_istore_n [(2, .int x1), (0, .ref l0), (3, .int l3)] d_M_answer_85 rfl rfl rfl ?_
  refine xo_iinc 2 (fun x2 => [(3, .int x2), (2, .int x1), (0, .ref l0)]) d_M_answer_86 rfl rfl xic_m1 (fun _ => rfl) h (fun x2 h => ?_)
  refine xo_goto d_M_answer_89 ?_
  exact xo_sub [2, 1, 0] [(0, .ref l0), (2, .int x1), (3, .int x2)] rfl (R10 _ _ _ _ h)
theorem ks_M_answer_10 (X : xX) (sz : Nat) (ro : Int32 × xw) (r10 : xw → Nat → Int32 → Int32 → Option (Int32 × xw)) (R10 : ∀ (w : xw) (l0 : Nat) (l2 : Int32) (l3 : Int32), r10 w l0 l2 l3 = some ro → k_M_answer X [(0, .ref l0), (2, .int l2), (3, .int l3)] [] w sz 0 0 10 (some (.int ro.1), ro.2, sz)) (w : xw) (l0 : Nat) (l2 : Int32) (l3 : Int32) (h : f_M_answer_s10 r10 w l0 l2 l3 = some ro) : k_M_answer X [(0, .ref l0), (2, .int l2), (3, .int l3)] [] w sz 0 0 10 (some (.int ro.1), ro.2, sz) := by
  unfold f_M_answer_s10 at h
  refine xo_iload_n 2 d_M_answer_10 rfl rfl ?_
  refine xo_if_le d_M_answer_11 h (fun h => ?_) (fun h => ?_)
  · exact xo_sub [] [] rfl (kb_M_answer_92 X sz ro _ h)
  · refine xo_iload_n 1 d_M_answer_14 rfl rfl ?_
    refine xo_aload_n 0 d_M_answer_15 rfl rfl ?_
    refine xo_getR 0 d_M_answer_16 xc_3 rfl tw_207 rfl h (fun a1 h => ?_)
    refine xo_getI 1 d_M_answer_19 xc_5 rfl tw_72 rfl h (fun x2 h => ?_)
    refine xo_icmp_ge d_M_answer_22 h (fun h => ?_) (fun h => ?_)
    · exact xo_sub [] [] rfl (kb_M_answer_92 X sz ro _ h)
    · refine xo_aload_n 0 d_M_answer_25 rfl rfl ?_
      refine xo_getR 0 d_M_answer_26 xc_3 rfl tw_207 rfl h (fun a3 h => ?_)
      refine xo_getR 0 d_M_answer_29 xc_5 rfl tw_68 rfl h (fun a4 h => ?_)
      refine xo_iload_n 1 d_M_answer_32 rfl rfl ?_
      refine xo_aldR d_M_answer_33 h (fun a5 h => ?_)
      refine xo_astore [(4, .ref a5), (0, .ref l0), (2, .int l2), (3, .int l3)] d_M_answer_34 rfl rfl ?_
      refine xo_aload_n 1 d_M_answer_36 rfl rfl ?_
      refine xo_dup d_M_answer_37 rfl ?_
      refine xo_getI 4 d_M_answer_38 xc_3 rfl tw_211 rfl h (fun x6 h => ?_)
      refine xo_iconst d_M_answer_41 xic_1 ?_
      refine xo_iadd d_M_answer_42 ?_
      refine xo_putI 4 d_M_answer_43 xc_3 rfl tw_211 rfl rfl rfl rfl h (fun w7 h => ?_)
      refine xo_aload 0 d_M_answer_46 rfl ?_
      refine xo_getI 0 d_M_answer_48 xc_1 rfl tw_41 rfl h (fun x8 h => ?_)
      refine xo_bipush d_M_answer_51 xbp_23 ?_
      refine xo_icmp_ne d_M_answer_53 h (fun h => ?_) (fun h => ?_)
      · refine xo_iload_n 2 d_M_answer_63 rfl rfl ?_
        refine xo_aload_n 1 d_M_answer_64 rfl rfl ?_
        refine xo_aload 0 d_M_answer_65 rfl ?_
        refine xo_V_IH (rest := [.int l2]) [.ref a5] d_M_answer_67 tw_514 yw_M_make h xc_3 (fun z e => c_M_make _ _ _ _ _ _ _ z e) rfl ⟨rfl, rfl⟩ rfl rfl rfl (fun q9 h => ?_)
        refine xo_if_eq d_M_answer_70 h (fun h => ?_) (fun h => ?_)
        · refine xo_iconst d_M_answer_83 xic_1 ?_
          exact xo_sub [1, 3] [(0, .ref l0), (3, .int l3)] rfl (kb_M_answer_84 X sz ro _ R10 _ _ _ _ _ h)
        · refine xo_iconst d_M_answer_73 xic_1 ?_
          refine xo_aload 0 d_M_answer_74 rfl ?_
          refine xo_getI 4 d_M_answer_76 xc_1 rfl tw_53 rfl h (fun x10 h => ?_)
          refine xo_iadd d_M_answer_79 ?_
          refine xo_goto d_M_answer_80 ?_
          exact xo_sub [1, 3] [(0, .ref l0), (3, .int l3)] rfl (kb_M_answer_84 X sz ro _ R10 _ _ _ _ _ h)
      · refine xo_aload_n 1 d_M_answer_56 rfl rfl ?_
        refine xo_getR 2 d_M_answer_57 xc_3 rfl tw_209 rfl h (fun a11 h => ?_)
        refine xo_iconst d_M_answer_60 xic_0 ?_
        refine xo_aldI d_M_answer_61 h (fun x12 h => ?_)
        exact xo_retIH d_M_answer_62 rfl rfl rfl h
theorem kb_M_answer_10 (X : xX) (sz : Nat) (ro : Int32 × xw) (n : Nat) : ∀ (w : xw) (l0 : Nat) (l2 : Int32) (l3 : Int32), f_M_answer_b10 n w l0 l2 l3 = some ro → k_M_answer X [(0, .ref l0), (2, .int l2), (3, .int l3)] [] w sz 0 0 10 (some (.int ro.1), ro.2, sz) := by
  unfold f_M_answer_b10
  refine xfix_ind (P := fun (r10 : xw → Nat → Int32 → Int32 → Option (Int32 × xw)) => ∀ (w : xw) (l0 : Nat) (l2 : Int32) (l3 : Int32), r10 w l0 l2 l3 = some ro → k_M_answer X [(0, .ref l0), (2, .int l2), (3, .int l3)] [] w sz 0 0 10 (some (.int ro.1), ro.2, sz)) ?_ ?_ n
  · intro _ _ _ _ h
    cases h
  · intro r R w l0 l2 l3 h
    exact ks_M_answer_10 X sz ro r R _ _ _ _ h
theorem kb_M_answer_0 (X : xX) (sz : Nat) (ro : Int32 × xw) (w : xw) (l0 : Nat) (l1 : Int32) (h : f_M_answer w l0 l1 = some ro) : k_M_answer X [(0, .ref l0), (1, .int l1)] [] w sz 0 0 0 (some (.int ro.1), ro.2, sz) := by
  unfold f_M_answer at h
  refine xo_aload_n 0 d_M_answer_0 rfl rfl ?_
  refine xo_iload_n 1 d_M_answer_1 rfl rfl ?_
  refine xo_V_VH (rest := []) [.int l1] d_M_answer_2 tw_510 yw_M_begin h xc_3 (fun z e => c_M_begin _ _ _ _ _ _ _ z e) rfl ⟨rfl, rfl⟩ rfl rfl rfl (fun q1 h => ?_)
  refine xo_iconst d_M_answer_5 xic_0 ?_
  refine xo_nmI h (fun x2 h => ?_)
  refine xo_istore_n [(2, .int x2), (0, .ref l0), (1, .int l1)] d_M_answer_6 rfl rfl rfl ?_
  refine xo_bipush d_M_answer_7 xbp_24 ?_
  refine xo_nmI h (fun x3 h => ?_)
  refine xo_istore_n [(3, .int x3), (2, .int x2), (0, .ref l0), (1, .int l1)] d_M_answer_9 rfl rfl rfl ?_
  exact xo_sub [2, 1, 0] [(0, .ref l0), (2, .int x2), (3, .int x3)] rfl (kb_M_answer_10 X sz ro _ _ _ _ _ h)
theorem c_M_answer (l : Launch) (D : va_G) (cT : Nat → ClassId) (sz : Nat) (w : xw) (l0 : Nat) (l1 : Int32) (ro : Int32 × xw) (h : f_M_answer w l0 l1 = some ro) : xM l y_M_answer b_M_answer 5 t_M_answer R_M_answer D cT [.ref l0, .int l1] w sz (some (.int ro.1), ro.2, sz) :=
  xm_of bl_M_answer rfl rfl (kb_M_answer_0 (l, D, cT, [.ref l0, .int l1], w, sz) sz ro w l0 l1 h)
theorem kb_G_run_0 (X : xX) (sz : Nat) (ro : Int32 × xw) (w : xw) (l0 : Nat) (l1 : Int32) (h : f_G_run w l0 l1 = some ro) : k_G_run X [(0, .ref l0), (1, .int l1)] [] w sz 0 0 0 (some (.int ro.1), ro.2, sz) := by
  unfold f_G_run at h
  refine xo_aload_n 0 d_G_run_0 rfl rfl ?_
  refine xo_getR 3 d_G_run_1 xc_0 rfl tw_227 rfl h (fun a1 h => ?_)
  refine xo_iload_n 1 d_G_run_4 rfl rfl ?_
  refine xo_V_IH (rest := []) [.int l1] d_G_run_5 tw_506 yw_M_answer h xc_3 (fun z e => c_M_answer _ _ _ _ _ _ _ z e) rfl ⟨rfl, rfl⟩ rfl rfl rfl (fun q2 h => ?_)
  exact xo_retIH d_G_run_8 rfl rfl rfl h
theorem c_G_run (l : Launch) (D : va_G) (cT : Nat → ClassId) (sz : Nat) (w : xw) (l0 : Nat) (l1 : Int32) (ro : Int32 × xw) (h : f_G_run w l0 l1 = some ro) : xM l y_G_run b_G_run 2 t_G_run R_G_run D cT [.ref l0, .int l1] w sz (some (.int ro.1), ro.2, sz) :=
  xm_of bl_G_run rfl rfl (kb_G_run_0 (l, D, cT, [.ref l0, .int l1], w, sz) sz ro w l0 l1 h)
