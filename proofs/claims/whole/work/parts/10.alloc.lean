theorem tw_2 : Cond.initialized "ProgramGate$Program" ∈ xT := xin_1 (i := 2) rfl rfl
theorem tw_8 : Cond.initialized "ProgramGate$Machine" ∈ xT := xin_1 (i := 8) rfl rfl
theorem tw_25 : Cond.methodLink "ProgramGate" 1 (⟨"java/lang/Object", "<init>", "()V"⟩ : MethodName) ∈ xT := xin_1 (i := 25) rfl rfl
theorem tw_28 : Cond.classLink "ProgramGate" 7 "ProgramGate$Program" ∈ xT := xin_1 (i := 28) rfl rfl
theorem tw_29 : Cond.instantiable "ProgramGate$Program" 2 ∈ xT := xin_1 (i := 29) rfl rfl
theorem tw_30 : Cond.methodLink "ProgramGate" 9 (⟨"ProgramGate$Program", "<init>", "()V"⟩ : MethodName) ∈ xT := xin_1 (i := 30) rfl rfl
theorem tw_31 : Cond.instanceMethod (⟨"ProgramGate$Program", "<init>", "()V"⟩ : MethodName) ∈ xT := xin_1 (i := 31) rfl rfl
theorem tw_32 : Cond.code (⟨"ProgramGate$Program", "<init>", "()V"⟩ : MethodName) prog_7_method_1_code 2 none ∈ xT := xin_1 (i := 32) rfl rfl
theorem tw_33 : Cond.methodLink "ProgramGate$Program" 3 (⟨"java/lang/Object", "<init>", "()V"⟩ : MethodName) ∈ xT := xin_1 (i := 33) rfl rfl
theorem tw_34 : Cond.classLink "ProgramGate$Program" 9 "ProgramGate$Instruction" ∈ xT := xin_1 (i := 34) rfl rfl
theorem tw_36 : Cond.instantiable "ProgramGate$Instruction" 5 ∈ xT := xin_1 (i := 36) rfl rfl
theorem tw_38 : Cond.instanceMethod (⟨"ProgramGate$Instruction", "<init>", "()V"⟩ : MethodName) ∈ xT := xin_1 (i := 38) rfl rfl
theorem tw_39 : Cond.code (⟨"ProgramGate$Instruction", "<init>", "()V"⟩ : MethodName) prog_2_method_1_code 1 none ∈ xT := xin_1 (i := 39) rfl rfl
theorem tw_67 : Cond.fieldLink "ProgramGate$Program" 11 "ProgramGate$Program" "instructions" "[LProgramGate$Instruction;" ∈ xT := xin_1 (i := 67) rfl rfl
theorem tw_79 : Cond.classLink "ProgramGate" 16 "ProgramGate$Packet" ∈ xT := xin_1 (i := 79) rfl rfl
theorem tw_80 : Cond.instantiable "ProgramGate$Packet" 2 ∈ xT := xin_1 (i := 80) rfl rfl
theorem tw_82 : Cond.instanceMethod (⟨"ProgramGate$Packet", "<init>", "()V"⟩ : MethodName) ∈ xT := xin_1 (i := 82) rfl rfl
theorem tw_83 : Cond.code (⟨"ProgramGate$Packet", "<init>", "()V"⟩ : MethodName) prog_6_method_1_code 1 none ∈ xT := xin_1 (i := 83) rfl rfl
theorem tw_84 : Cond.methodLink "ProgramGate$Packet" 3 (⟨"java/lang/Object", "<init>", "()V"⟩ : MethodName) ∈ xT := xin_1 (i := 84) rfl rfl
theorem tw_94 : Cond.arrayClass .int ∈ xT := xin_1 (i := 94) rfl rfl
theorem tw_95 : Cond.classLink "ProgramGate" 23 "ProgramGate$Walker" ∈ xT := xin_1 (i := 95) rfl rfl
theorem tw_96 : Cond.instantiable "ProgramGate$Walker" 10 ∈ xT := xin_1 (i := 96) rfl rfl
theorem tw_97 : Cond.methodLink "ProgramGate" 25 (⟨"ProgramGate$Walker", "<init>", "(LProgramGate$Program;)V"⟩ : MethodName) ∈ xT := xin_1 (i := 97) rfl rfl
theorem tw_98 : Cond.instanceMethod (⟨"ProgramGate$Walker", "<init>", "(LProgramGate$Program;)V"⟩ : MethodName) ∈ xT := xin_1 (i := 98) rfl rfl
theorem tw_99 : Cond.code (⟨"ProgramGate$Walker", "<init>", "(LProgramGate$Program;)V"⟩ : MethodName) prog_9_method_1_code 3 none ∈ xT := xin_1 (i := 99) rfl rfl
theorem tw_100 : Cond.methodLink "ProgramGate$Walker" 3 (⟨"java/lang/Object", "<init>", "()V"⟩ : MethodName) ∈ xT := xin_1 (i := 100) rfl rfl
theorem tw_101 : Cond.classLink "ProgramGate$Walker" 9 "ProgramGate$State" ∈ xT := xin_1 (i := 101) rfl rfl
theorem tw_102 : Cond.instantiable "ProgramGate$State" 2 ∈ xT := xin_1 (i := 102) rfl rfl
theorem tw_103 : Cond.methodLink "ProgramGate$Walker" 11 (⟨"ProgramGate$State", "<init>", "()V"⟩ : MethodName) ∈ xT := xin_1 (i := 103) rfl rfl
theorem tw_104 : Cond.instanceMethod (⟨"ProgramGate$State", "<init>", "()V"⟩ : MethodName) ∈ xT := xin_1 (i := 104) rfl rfl
theorem tw_105 : Cond.code (⟨"ProgramGate$State", "<init>", "()V"⟩ : MethodName) prog_8_method_1_code 2 none ∈ xT := xin_1 (i := 105) rfl rfl
theorem tw_106 : Cond.methodLink "ProgramGate$State" 3 (⟨"java/lang/Object", "<init>", "()V"⟩ : MethodName) ∈ xT := xin_1 (i := 106) rfl rfl
theorem tw_107 : Cond.classLink "ProgramGate$State" 9 "ProgramGate$Known" ∈ xT := xin_1 (i := 107) rfl rfl
theorem tw_109 : Cond.instantiable "ProgramGate$Known" 8 ∈ xT := xin_1 (i := 109) rfl rfl
theorem tw_111 : Cond.instanceMethod (⟨"ProgramGate$Known", "<init>", "()V"⟩ : MethodName) ∈ xT := xin_1 (i := 111) rfl rfl
theorem tw_112 : Cond.code (⟨"ProgramGate$Known", "<init>", "()V"⟩ : MethodName) prog_3_method_1_code 1 none ∈ xT := xin_1 (i := 112) rfl rfl
theorem tw_164 : Cond.classLink "ProgramGate$Walker" 26 "ProgramGate$Known" ∈ xT := xin_1 (i := 164) rfl rfl
theorem tw_200 : Cond.arrayClass .boolean ∈ xT := xin_1 (i := 200) rfl rfl
theorem tw_201 : Cond.classLink "ProgramGate" 32 "ProgramGate$Machine" ∈ xT := xin_1 (i := 201) rfl rfl
theorem tw_202 : Cond.instantiable "ProgramGate$Machine" 5 ∈ xT := xin_1 (i := 202) rfl rfl
theorem tw_203 : Cond.methodLink "ProgramGate" 34 (⟨"ProgramGate$Machine", "<init>", "(LProgramGate$Program;LProgramGate$Packet;)V"⟩ : MethodName) ∈ xT := xin_1 (i := 203) rfl rfl
theorem tw_204 : Cond.instanceMethod (⟨"ProgramGate$Machine", "<init>", "(LProgramGate$Program;LProgramGate$Packet;)V"⟩ : MethodName) ∈ xT := xin_1 (i := 204) rfl rfl
theorem tw_205 : Cond.code (⟨"ProgramGate$Machine", "<init>", "(LProgramGate$Program;LProgramGate$Packet;)V"⟩ : MethodName) prog_4_method_1_code 3 none ∈ xT := xin_1 (i := 205) rfl rfl
theorem tw_206 : Cond.methodLink "ProgramGate$Machine" 3 (⟨"java/lang/Object", "<init>", "()V"⟩ : MethodName) ∈ xT := xin_1 (i := 206) rfl rfl
theorem tw_207 : Cond.fieldLink "ProgramGate$Machine" 18 "ProgramGate$Machine" "program" "LProgramGate$Program;" ∈ xT := xin_1 (i := 207) rfl rfl
theorem tw_642 : Cond.methodLink "ProgramGateModel" 1 (⟨"java/lang/Object", "<init>", "()V"⟩ : MethodName) ∈ xT := xin_3 (i := 162) rfl rfl
theorem tw_719 : Cond.arrayClass .long ∈ xT := xin_3 (i := 239) rfl rfl
theorem yw_I_init : xYI y_I_init b_I_init 1 0 := ⟨tw_39, tw_38, tw_3, ⟨by decide +kernel, by decide +kernel, by decide +kernel⟩, rfl⟩
theorem yw_Q_init : xYI y_Q_init b_Q_init 2 0 := ⟨tw_32, tw_31, tw_2, ⟨by decide +kernel, by decide +kernel, by decide +kernel⟩, rfl⟩
theorem yw_P_init : xYI y_P_init b_P_init 1 0 := ⟨tw_83, tw_82, tw_4, ⟨by decide +kernel, by decide +kernel, by decide +kernel⟩, rfl⟩
theorem yw_K_init : xYI y_K_init b_K_init 1 0 := ⟨tw_112, tw_111, tw_7, ⟨by decide +kernel, by decide +kernel, by decide +kernel⟩, rfl⟩
theorem yw_S_init : xYI y_S_init b_S_init 2 0 := ⟨tw_105, tw_104, tw_6, ⟨by decide +kernel, by decide +kernel, by decide +kernel⟩, rfl⟩
theorem yw_W_init : xYI y_W_init b_W_init 3 1 := ⟨tw_99, tw_98, tw_5, ⟨by decide +kernel, by decide +kernel, by decide +kernel⟩, rfl⟩
theorem yw_M_init : xYI y_M_init b_M_init 3 2 := ⟨tw_205, tw_204, tw_8, ⟨by decide +kernel, by decide +kernel, by decide +kernel⟩, rfl⟩
theorem xbp_25 : (Int8.ofInt 25).toInt32 = (25 : Int32) := by decide
theorem xsp_260 : (Int16.ofInt 260).toInt32 = (260 : Int32) := by decide
abbrev R_Q_init : Room := { frames := 2, cells := 25, slots := 144, locals := 40 }
abbrev k_Q_init : xX → List (Nat × Value) → List Value → xw → Nat → Nat → Nat → Nat → xR → Prop := xK lb_Q_init 2 "ProgramGate$Program" "<init>" t_Q_init R_Q_init
abbrev R_P_init : Room := { frames := 1, cells := 1, slots := 16, locals := 20 }
abbrev k_P_init : xX → List (Nat × Value) → List Value → xw → Nat → Nat → Nat → Nat → xR → Prop := xK lb_P_init 1 "ProgramGate$Packet" "<init>" t_P_init R_P_init
abbrev R_S_init : Room := { frames := 2, cells := 12, slots := 90, locals := 40 }
abbrev k_S_init : xX → List (Nat × Value) → List Value → xw → Nat → Nat → Nat → Nat → xR → Prop := xK lb_S_init 2 "ProgramGate$State" "<init>" t_S_init R_S_init
abbrev R_W_init : Room := { frames := 3, cells := 343, slots := 2464, locals := 61 }
abbrev k_W_init : xX → List (Nat × Value) → List Value → xw → Nat → Nat → Nat → Nat → xR → Prop := xK lb_W_init 3 "ProgramGate$Walker" "<init>" t_W_init R_W_init
abbrev R_M_init : Room := { frames := 1, cells := 2, slots := 10, locals := 20 }
abbrev k_M_init : xX → List (Nat × Value) → List Value → xw → Nat → Nat → Nat → Nat → xR → Prop := xK lb_M_init 3 "ProgramGate$Machine" "<init>" t_M_init R_M_init
abbrev R_G_init : Room := { frames := 4, cells := 375, slots := 2653, locals := 83 }
abbrev k_G_init : xX → List (Nat × Value) → List Value → xw → Nat → Nat → Nat → Nat → xR → Prop := xK lb_G_init 1 "ProgramGate" "<init>" t_G_init R_G_init
abbrev R_R_init : Room := { frames := 1, cells := 17, slots := 2251, locals := 20 }
abbrev k_R_init : xX → List (Nat × Value) → List Value → xw → Nat → Nat → Nat → Nat → xR → Prop := xK lb_R_init 1 "ProgramGateModel" "<init>" t_R_init R_R_init
theorem d_Q_init_0 : xD lb_Q_init 0 (.aload_n 0) 1 1 := xd_of (by decide +kernel)
theorem d_Q_init_1 : xD lb_Q_init 1 (.invokespecial 3) 3 4 := xd_of (by decide +kernel)
theorem d_Q_init_4 : xD lb_Q_init 4 (.aload_n 0) 1 5 := xd_of (by decide +kernel)
theorem d_Q_init_5 : xD lb_Q_init 5 (.bipush 24) 2 7 := xd_of (by decide +kernel)
theorem d_Q_init_7 : xD lb_Q_init 7 (.anewarray 9) 3 10 := xd_of (by decide +kernel)
theorem d_Q_init_10 : xD lb_Q_init 10 (.putfield 11) 3 13 := xd_of (by decide +kernel)
theorem d_Q_init_13 : xD lb_Q_init 13 (.iconst 0) 1 14 := xd_of (by decide +kernel)
theorem d_Q_init_14 : xD lb_Q_init 14 (.istore_n 1) 1 15 := xd_of (by decide +kernel)
theorem d_Q_init_15 : xD lb_Q_init 15 (.iload_n 1) 1 16 := xd_of (by decide +kernel)
theorem d_Q_init_16 : xD lb_Q_init 16 (.bipush 24) 2 18 := xd_of (by decide +kernel)
theorem d_Q_init_18 : xDJ lb_Q_init 18 (.if_icmp .ge 22) 22 40 21 := xdj_of (by decide +kernel)
theorem d_Q_init_21 : xD lb_Q_init 21 (.aload_n 0) 1 22 := xd_of (by decide +kernel)
theorem d_Q_init_22 : xD lb_Q_init 22 (.getfield 11) 3 25 := xd_of (by decide +kernel)
theorem d_Q_init_25 : xD lb_Q_init 25 (.iload_n 1) 1 26 := xd_of (by decide +kernel)
theorem d_Q_init_26 : xD lb_Q_init 26 (.new 9) 3 29 := xd_of (by decide +kernel)
theorem d_Q_init_29 : xD lb_Q_init 29 .dup 1 30 := xd_of (by decide +kernel)
theorem d_Q_init_30 : xD lb_Q_init 30 (.invokespecial 17) 3 33 := xd_of (by decide +kernel)
theorem d_Q_init_33 : xD lb_Q_init 33 .aastore 1 34 := xd_of (by decide +kernel)
theorem d_Q_init_34 : xD lb_Q_init 34 (.iinc 1 1) 3 37 := xd_of (by decide +kernel)
theorem d_Q_init_37 : xDJ lb_Q_init 37 (.goto (-22)) (-22) 15 40 := xdj_of (by decide +kernel)
theorem d_Q_init_40 : xD lb_Q_init 40 .return_ 1 41 := xd_of (by decide +kernel)
theorem d_P_init_0 : xD lb_P_init 0 (.aload_n 0) 1 1 := xd_of (by decide +kernel)
theorem d_P_init_1 : xD lb_P_init 1 (.invokespecial 3) 3 4 := xd_of (by decide +kernel)
theorem d_P_init_4 : xD lb_P_init 4 (.aload_n 0) 1 5 := xd_of (by decide +kernel)
theorem d_P_init_5 : xD lb_P_init 5 (.bipush 16) 2 7 := xd_of (by decide +kernel)
theorem d_P_init_7 : xD lb_P_init 7 (.newarray .int) 2 9 := xd_of (by decide +kernel)
theorem d_P_init_9 : xD lb_P_init 9 (.putfield 9) 3 12 := xd_of (by decide +kernel)
theorem d_P_init_12 : xD lb_P_init 12 .return_ 1 13 := xd_of (by decide +kernel)
theorem d_S_init_0 : xD lb_S_init 0 (.aload_n 0) 1 1 := xd_of (by decide +kernel)
theorem d_S_init_1 : xD lb_S_init 1 (.invokespecial 3) 3 4 := xd_of (by decide +kernel)
theorem d_S_init_4 : xD lb_S_init 4 (.aload_n 0) 1 5 := xd_of (by decide +kernel)
theorem d_S_init_5 : xD lb_S_init 5 (.bipush 6) 2 7 := xd_of (by decide +kernel)
theorem d_S_init_7 : xD lb_S_init 7 (.anewarray 9) 3 10 := xd_of (by decide +kernel)
theorem d_S_init_10 : xD lb_S_init 10 (.putfield 11) 3 13 := xd_of (by decide +kernel)
theorem d_S_init_13 : xD lb_S_init 13 (.aload_n 0) 1 14 := xd_of (by decide +kernel)
theorem d_S_init_14 : xD lb_S_init 14 (.iconst 4) 1 15 := xd_of (by decide +kernel)
theorem d_S_init_15 : xD lb_S_init 15 (.anewarray 9) 3 18 := xd_of (by decide +kernel)
theorem d_S_init_18 : xD lb_S_init 18 (.putfield 17) 3 21 := xd_of (by decide +kernel)
theorem d_S_init_21 : xD lb_S_init 21 (.iconst 0) 1 22 := xd_of (by decide +kernel)
theorem d_S_init_22 : xD lb_S_init 22 (.istore_n 1) 1 23 := xd_of (by decide +kernel)
theorem d_S_init_23 : xD lb_S_init 23 (.iload_n 1) 1 24 := xd_of (by decide +kernel)
theorem d_S_init_24 : xD lb_S_init 24 (.bipush 6) 2 26 := xd_of (by decide +kernel)
theorem d_S_init_26 : xDJ lb_S_init 26 (.if_icmp .ge 22) 22 48 29 := xdj_of (by decide +kernel)
theorem d_S_init_29 : xD lb_S_init 29 (.aload_n 0) 1 30 := xd_of (by decide +kernel)
theorem d_S_init_30 : xD lb_S_init 30 (.getfield 11) 3 33 := xd_of (by decide +kernel)
theorem d_S_init_33 : xD lb_S_init 33 (.iload_n 1) 1 34 := xd_of (by decide +kernel)
theorem d_S_init_34 : xD lb_S_init 34 (.new 9) 3 37 := xd_of (by decide +kernel)
theorem d_S_init_37 : xD lb_S_init 37 .dup 1 38 := xd_of (by decide +kernel)
theorem d_S_init_38 : xD lb_S_init 38 (.invokespecial 20) 3 41 := xd_of (by decide +kernel)
theorem d_S_init_41 : xD lb_S_init 41 .aastore 1 42 := xd_of (by decide +kernel)
theorem d_S_init_42 : xD lb_S_init 42 (.iinc 1 1) 3 45 := xd_of (by decide +kernel)
theorem d_S_init_45 : xDJ lb_S_init 45 (.goto (-22)) (-22) 23 48 := xdj_of (by decide +kernel)
theorem d_S_init_48 : xD lb_S_init 48 (.iconst 0) 1 49 := xd_of (by decide +kernel)
theorem d_S_init_49 : xD lb_S_init 49 (.istore_n 1) 1 50 := xd_of (by decide +kernel)
theorem d_S_init_50 : xD lb_S_init 50 (.iload_n 1) 1 51 := xd_of (by decide +kernel)
theorem d_S_init_51 : xD lb_S_init 51 (.iconst 4) 1 52 := xd_of (by decide +kernel)
theorem d_S_init_52 : xDJ lb_S_init 52 (.if_icmp .ge 22) 22 74 55 := xdj_of (by decide +kernel)
theorem d_S_init_55 : xD lb_S_init 55 (.aload_n 0) 1 56 := xd_of (by decide +kernel)
theorem d_S_init_56 : xD lb_S_init 56 (.getfield 17) 3 59 := xd_of (by decide +kernel)
theorem d_S_init_59 : xD lb_S_init 59 (.iload_n 1) 1 60 := xd_of (by decide +kernel)
theorem d_S_init_60 : xD lb_S_init 60 (.new 9) 3 63 := xd_of (by decide +kernel)
theorem d_S_init_63 : xD lb_S_init 63 .dup 1 64 := xd_of (by decide +kernel)
theorem d_S_init_64 : xD lb_S_init 64 (.invokespecial 20) 3 67 := xd_of (by decide +kernel)
theorem d_S_init_67 : xD lb_S_init 67 .aastore 1 68 := xd_of (by decide +kernel)
theorem d_S_init_68 : xD lb_S_init 68 (.iinc 1 1) 3 71 := xd_of (by decide +kernel)
theorem d_S_init_71 : xDJ lb_S_init 71 (.goto (-21)) (-21) 50 74 := xdj_of (by decide +kernel)
theorem d_S_init_74 : xD lb_S_init 74 .return_ 1 75 := xd_of (by decide +kernel)
theorem d_W_init_0 : xD lb_W_init 0 (.aload_n 0) 1 1 := xd_of (by decide +kernel)
theorem d_W_init_1 : xD lb_W_init 1 (.invokespecial 3) 3 4 := xd_of (by decide +kernel)
theorem d_W_init_4 : xD lb_W_init 4 (.aload_n 0) 1 5 := xd_of (by decide +kernel)
theorem d_W_init_5 : xD lb_W_init 5 (.new 9) 3 8 := xd_of (by decide +kernel)
theorem d_W_init_8 : xD lb_W_init 8 .dup 1 9 := xd_of (by decide +kernel)
theorem d_W_init_9 : xD lb_W_init 9 (.invokespecial 11) 3 12 := xd_of (by decide +kernel)
theorem d_W_init_12 : xD lb_W_init 12 (.putfield 12) 3 15 := xd_of (by decide +kernel)
theorem d_W_init_15 : xD lb_W_init 15 (.aload_n 0) 1 16 := xd_of (by decide +kernel)
theorem d_W_init_16 : xD lb_W_init 16 (.bipush 24) 2 18 := xd_of (by decide +kernel)
theorem d_W_init_18 : xD lb_W_init 18 (.anewarray 9) 3 21 := xd_of (by decide +kernel)
theorem d_W_init_21 : xD lb_W_init 21 (.putfield 18) 3 24 := xd_of (by decide +kernel)
theorem d_W_init_24 : xD lb_W_init 24 (.aload_n 0) 1 25 := xd_of (by decide +kernel)
theorem d_W_init_25 : xD lb_W_init 25 (.bipush 24) 2 27 := xd_of (by decide +kernel)
theorem d_W_init_27 : xD lb_W_init 27 (.newarray .boolean) 2 29 := xd_of (by decide +kernel)
theorem d_W_init_29 : xD lb_W_init 29 (.putfield 22) 3 32 := xd_of (by decide +kernel)
theorem d_W_init_32 : xD lb_W_init 32 (.aload_n 0) 1 33 := xd_of (by decide +kernel)
theorem d_W_init_33 : xD lb_W_init 33 (.new 26) 3 36 := xd_of (by decide +kernel)
theorem d_W_init_36 : xD lb_W_init 36 .dup 1 37 := xd_of (by decide +kernel)
theorem d_W_init_37 : xD lb_W_init 37 (.invokespecial 28) 3 40 := xd_of (by decide +kernel)
theorem d_W_init_40 : xD lb_W_init 40 (.putfield 29) 3 43 := xd_of (by decide +kernel)
theorem d_W_init_43 : xD lb_W_init 43 (.aload_n 0) 1 44 := xd_of (by decide +kernel)
theorem d_W_init_44 : xD lb_W_init 44 (.new 26) 3 47 := xd_of (by decide +kernel)
theorem d_W_init_47 : xD lb_W_init 47 .dup 1 48 := xd_of (by decide +kernel)
theorem d_W_init_48 : xD lb_W_init 48 (.invokespecial 28) 3 51 := xd_of (by decide +kernel)
theorem d_W_init_51 : xD lb_W_init 51 (.putfield 33) 3 54 := xd_of (by decide +kernel)
theorem d_W_init_54 : xD lb_W_init 54 (.aload_n 0) 1 55 := xd_of (by decide +kernel)
theorem d_W_init_55 : xD lb_W_init 55 (.new 26) 3 58 := xd_of (by decide +kernel)
theorem d_W_init_58 : xD lb_W_init 58 .dup 1 59 := xd_of (by decide +kernel)
theorem d_W_init_59 : xD lb_W_init 59 (.invokespecial 28) 3 62 := xd_of (by decide +kernel)
theorem d_W_init_62 : xD lb_W_init 62 (.putfield 36) 3 65 := xd_of (by decide +kernel)
theorem d_W_init_65 : xD lb_W_init 65 (.aload_n 0) 1 66 := xd_of (by decide +kernel)
theorem d_W_init_66 : xD lb_W_init 66 (.new 9) 3 69 := xd_of (by decide +kernel)
theorem d_W_init_69 : xD lb_W_init 69 .dup 1 70 := xd_of (by decide +kernel)
theorem d_W_init_70 : xD lb_W_init 70 (.invokespecial 11) 3 73 := xd_of (by decide +kernel)
theorem d_W_init_73 : xD lb_W_init 73 (.putfield 39) 3 76 := xd_of (by decide +kernel)
theorem d_W_init_76 : xD lb_W_init 76 (.aload_n 0) 1 77 := xd_of (by decide +kernel)
theorem d_W_init_77 : xD lb_W_init 77 (.aload_n 1) 1 78 := xd_of (by decide +kernel)
theorem d_W_init_78 : xD lb_W_init 78 (.putfield 42) 3 81 := xd_of (by decide +kernel)
theorem d_W_init_81 : xD lb_W_init 81 (.iconst 0) 1 82 := xd_of (by decide +kernel)
theorem d_W_init_82 : xD lb_W_init 82 (.istore_n 2) 1 83 := xd_of (by decide +kernel)
theorem d_W_init_83 : xD lb_W_init 83 (.iload_n 2) 1 84 := xd_of (by decide +kernel)
theorem d_W_init_84 : xD lb_W_init 84 (.bipush 24) 2 86 := xd_of (by decide +kernel)
theorem d_W_init_86 : xDJ lb_W_init 86 (.if_icmp .ge 22) 22 108 89 := xdj_of (by decide +kernel)
theorem d_W_init_89 : xD lb_W_init 89 (.aload_n 0) 1 90 := xd_of (by decide +kernel)
theorem d_W_init_90 : xD lb_W_init 90 (.getfield 18) 3 93 := xd_of (by decide +kernel)
theorem d_W_init_93 : xD lb_W_init 93 (.iload_n 2) 1 94 := xd_of (by decide +kernel)
theorem d_W_init_94 : xD lb_W_init 94 (.new 9) 3 97 := xd_of (by decide +kernel)
theorem d_W_init_97 : xD lb_W_init 97 .dup 1 98 := xd_of (by decide +kernel)
theorem d_W_init_98 : xD lb_W_init 98 (.invokespecial 11) 3 101 := xd_of (by decide +kernel)
theorem d_W_init_101 : xD lb_W_init 101 .aastore 1 102 := xd_of (by decide +kernel)
theorem d_W_init_102 : xD lb_W_init 102 (.iinc 2 1) 3 105 := xd_of (by decide +kernel)
theorem d_W_init_105 : xDJ lb_W_init 105 (.goto (-22)) (-22) 83 108 := xdj_of (by decide +kernel)
theorem d_W_init_108 : xD lb_W_init 108 .return_ 1 109 := xd_of (by decide +kernel)
theorem d_M_init_0 : xD lb_M_init 0 (.aload_n 0) 1 1 := xd_of (by decide +kernel)
theorem d_M_init_1 : xD lb_M_init 1 (.invokespecial 3) 3 4 := xd_of (by decide +kernel)
theorem d_M_init_4 : xD lb_M_init 4 (.aload_n 0) 1 5 := xd_of (by decide +kernel)
theorem d_M_init_5 : xD lb_M_init 5 (.bipush 6) 2 7 := xd_of (by decide +kernel)
theorem d_M_init_7 : xD lb_M_init 7 (.newarray .int) 2 9 := xd_of (by decide +kernel)
theorem d_M_init_9 : xD lb_M_init 9 (.putfield 9) 3 12 := xd_of (by decide +kernel)
theorem d_M_init_12 : xD lb_M_init 12 (.aload_n 0) 1 13 := xd_of (by decide +kernel)
theorem d_M_init_13 : xD lb_M_init 13 (.iconst 4) 1 14 := xd_of (by decide +kernel)
theorem d_M_init_14 : xD lb_M_init 14 (.newarray .int) 2 16 := xd_of (by decide +kernel)
theorem d_M_init_16 : xD lb_M_init 16 (.putfield 15) 3 19 := xd_of (by decide +kernel)
theorem d_M_init_19 : xD lb_M_init 19 (.aload_n 0) 1 20 := xd_of (by decide +kernel)
theorem d_M_init_20 : xD lb_M_init 20 (.aload_n 1) 1 21 := xd_of (by decide +kernel)
theorem d_M_init_21 : xD lb_M_init 21 (.putfield 18) 3 24 := xd_of (by decide +kernel)
theorem d_M_init_24 : xD lb_M_init 24 (.aload_n 0) 1 25 := xd_of (by decide +kernel)
theorem d_M_init_25 : xD lb_M_init 25 (.aload_n 2) 1 26 := xd_of (by decide +kernel)
theorem d_M_init_26 : xD lb_M_init 26 (.putfield 22) 3 29 := xd_of (by decide +kernel)
theorem d_M_init_29 : xD lb_M_init 29 .return_ 1 30 := xd_of (by decide +kernel)
theorem d_G_init_0 : xD lb_G_init 0 (.aload_n 0) 1 1 := xd_of (by decide +kernel)
theorem d_G_init_1 : xD lb_G_init 1 (.invokespecial 1) 3 4 := xd_of (by decide +kernel)
theorem d_G_init_4 : xD lb_G_init 4 (.aload_n 0) 1 5 := xd_of (by decide +kernel)
theorem d_G_init_5 : xD lb_G_init 5 (.new 7) 3 8 := xd_of (by decide +kernel)
theorem d_G_init_8 : xD lb_G_init 8 .dup 1 9 := xd_of (by decide +kernel)
theorem d_G_init_9 : xD lb_G_init 9 (.invokespecial 9) 3 12 := xd_of (by decide +kernel)
theorem d_G_init_12 : xD lb_G_init 12 (.putfield 10) 3 15 := xd_of (by decide +kernel)
theorem d_G_init_15 : xD lb_G_init 15 (.aload_n 0) 1 16 := xd_of (by decide +kernel)
theorem d_G_init_16 : xD lb_G_init 16 (.new 16) 3 19 := xd_of (by decide +kernel)
theorem d_G_init_19 : xD lb_G_init 19 .dup 1 20 := xd_of (by decide +kernel)
theorem d_G_init_20 : xD lb_G_init 20 (.invokespecial 18) 3 23 := xd_of (by decide +kernel)
theorem d_G_init_23 : xD lb_G_init 23 (.putfield 19) 3 26 := xd_of (by decide +kernel)
theorem d_G_init_26 : xD lb_G_init 26 (.aload_n 0) 1 27 := xd_of (by decide +kernel)
theorem d_G_init_27 : xD lb_G_init 27 (.new 23) 3 30 := xd_of (by decide +kernel)
theorem d_G_init_30 : xD lb_G_init 30 .dup 1 31 := xd_of (by decide +kernel)
theorem d_G_init_31 : xD lb_G_init 31 (.aload_n 0) 1 32 := xd_of (by decide +kernel)
theorem d_G_init_32 : xD lb_G_init 32 (.getfield 10) 3 35 := xd_of (by decide +kernel)
theorem d_G_init_35 : xD lb_G_init 35 (.invokespecial 25) 3 38 := xd_of (by decide +kernel)
theorem d_G_init_38 : xD lb_G_init 38 (.putfield 28) 3 41 := xd_of (by decide +kernel)
theorem d_G_init_41 : xD lb_G_init 41 (.aload_n 0) 1 42 := xd_of (by decide +kernel)
theorem d_G_init_42 : xD lb_G_init 42 (.new 32) 3 45 := xd_of (by decide +kernel)
theorem d_G_init_45 : xD lb_G_init 45 .dup 1 46 := xd_of (by decide +kernel)
theorem d_G_init_46 : xD lb_G_init 46 (.aload_n 0) 1 47 := xd_of (by decide +kernel)
theorem d_G_init_47 : xD lb_G_init 47 (.getfield 10) 3 50 := xd_of (by decide +kernel)
theorem d_G_init_50 : xD lb_G_init 50 (.aload_n 0) 1 51 := xd_of (by decide +kernel)
theorem d_G_init_51 : xD lb_G_init 51 (.getfield 19) 3 54 := xd_of (by decide +kernel)
theorem d_G_init_54 : xD lb_G_init 54 (.invokespecial 34) 3 57 := xd_of (by decide +kernel)
theorem d_G_init_57 : xD lb_G_init 57 (.putfield 37) 3 60 := xd_of (by decide +kernel)
theorem d_G_init_60 : xD lb_G_init 60 .return_ 1 61 := xd_of (by decide +kernel)
theorem d_R_init_0 : xD lb_R_init 0 (.aload_n 0) 1 1 := xd_of (by decide +kernel)
theorem d_R_init_1 : xD lb_R_init 1 (.invokespecial 1) 3 4 := xd_of (by decide +kernel)
theorem d_R_init_4 : xD lb_R_init 4 (.aload_n 0) 1 5 := xd_of (by decide +kernel)
theorem d_R_init_5 : xD lb_R_init 5 (.bipush 24) 2 7 := xd_of (by decide +kernel)
theorem d_R_init_7 : xD lb_R_init 7 (.newarray .int) 2 9 := xd_of (by decide +kernel)
theorem d_R_init_9 : xD lb_R_init 9 (.putfield 7) 3 12 := xd_of (by decide +kernel)
theorem d_R_init_12 : xD lb_R_init 12 (.aload_n 0) 1 13 := xd_of (by decide +kernel)
theorem d_R_init_13 : xD lb_R_init 13 (.bipush 24) 2 15 := xd_of (by decide +kernel)
theorem d_R_init_15 : xD lb_R_init 15 (.newarray .int) 2 17 := xd_of (by decide +kernel)
theorem d_R_init_17 : xD lb_R_init 17 (.putfield 13) 3 20 := xd_of (by decide +kernel)
theorem d_R_init_20 : xD lb_R_init 20 (.aload_n 0) 1 21 := xd_of (by decide +kernel)
theorem d_R_init_21 : xD lb_R_init 21 (.bipush 24) 2 23 := xd_of (by decide +kernel)
theorem d_R_init_23 : xD lb_R_init 23 (.newarray .int) 2 25 := xd_of (by decide +kernel)
theorem d_R_init_25 : xD lb_R_init 25 (.putfield 16) 3 28 := xd_of (by decide +kernel)
theorem d_R_init_28 : xD lb_R_init 28 (.aload_n 0) 1 29 := xd_of (by decide +kernel)
theorem d_R_init_29 : xD lb_R_init 29 (.bipush 24) 2 31 := xd_of (by decide +kernel)
theorem d_R_init_31 : xD lb_R_init 31 (.newarray .int) 2 33 := xd_of (by decide +kernel)
theorem d_R_init_33 : xD lb_R_init 33 (.putfield 19) 3 36 := xd_of (by decide +kernel)
theorem d_R_init_36 : xD lb_R_init 36 (.aload_n 0) 1 37 := xd_of (by decide +kernel)
theorem d_R_init_37 : xD lb_R_init 37 (.bipush 24) 2 39 := xd_of (by decide +kernel)
theorem d_R_init_39 : xD lb_R_init 39 (.newarray .int) 2 41 := xd_of (by decide +kernel)
theorem d_R_init_41 : xD lb_R_init 41 (.putfield 22) 3 44 := xd_of (by decide +kernel)
theorem d_R_init_44 : xD lb_R_init 44 (.aload_n 0) 1 45 := xd_of (by decide +kernel)
theorem d_R_init_45 : xD lb_R_init 45 (.bipush 16) 2 47 := xd_of (by decide +kernel)
theorem d_R_init_47 : xD lb_R_init 47 (.newarray .int) 2 49 := xd_of (by decide +kernel)
theorem d_R_init_49 : xD lb_R_init 49 (.putfield 25) 3 52 := xd_of (by decide +kernel)
theorem d_R_init_52 : xD lb_R_init 52 (.aload_n 0) 1 53 := xd_of (by decide +kernel)
theorem d_R_init_53 : xD lb_R_init 53 (.sipush 260) 3 56 := xd_of (by decide +kernel)
theorem d_R_init_56 : xD lb_R_init 56 (.newarray .boolean) 2 58 := xd_of (by decide +kernel)
theorem d_R_init_58 : xD lb_R_init 58 (.putfield 28) 3 61 := xd_of (by decide +kernel)
theorem d_R_init_61 : xD lb_R_init 61 (.aload_n 0) 1 62 := xd_of (by decide +kernel)
theorem d_R_init_62 : xD lb_R_init 62 (.sipush 260) 3 65 := xd_of (by decide +kernel)
theorem d_R_init_65 : xD lb_R_init 65 (.newarray .int) 2 67 := xd_of (by decide +kernel)
theorem d_R_init_67 : xD lb_R_init 67 (.putfield 32) 3 70 := xd_of (by decide +kernel)
theorem d_R_init_70 : xD lb_R_init 70 (.aload_n 0) 1 71 := xd_of (by decide +kernel)
theorem d_R_init_71 : xD lb_R_init 71 (.sipush 260) 3 74 := xd_of (by decide +kernel)
theorem d_R_init_74 : xD lb_R_init 74 (.newarray .int) 2 76 := xd_of (by decide +kernel)
theorem d_R_init_76 : xD lb_R_init 76 (.putfield 35) 3 79 := xd_of (by decide +kernel)
theorem d_R_init_79 : xD lb_R_init 79 (.aload_n 0) 1 80 := xd_of (by decide +kernel)
theorem d_R_init_80 : xD lb_R_init 80 (.sipush 260) 3 83 := xd_of (by decide +kernel)
theorem d_R_init_83 : xD lb_R_init 83 (.newarray .long) 2 85 := xd_of (by decide +kernel)
theorem d_R_init_85 : xD lb_R_init 85 (.putfield 38) 3 88 := xd_of (by decide +kernel)
theorem d_R_init_88 : xD lb_R_init 88 (.aload_n 0) 1 89 := xd_of (by decide +kernel)
theorem d_R_init_89 : xD lb_R_init 89 (.sipush 260) 3 92 := xd_of (by decide +kernel)
theorem d_R_init_92 : xD lb_R_init 92 (.newarray .long) 2 94 := xd_of (by decide +kernel)
theorem d_R_init_94 : xD lb_R_init 94 (.putfield 42) 3 97 := xd_of (by decide +kernel)
theorem d_R_init_97 : xD lb_R_init 97 (.aload_n 0) 1 98 := xd_of (by decide +kernel)
theorem d_R_init_98 : xD lb_R_init 98 (.sipush 260) 3 101 := xd_of (by decide +kernel)
theorem d_R_init_101 : xD lb_R_init 101 (.newarray .long) 2 103 := xd_of (by decide +kernel)
theorem d_R_init_103 : xD lb_R_init 103 (.putfield 45) 3 106 := xd_of (by decide +kernel)
theorem d_R_init_106 : xD lb_R_init 106 (.aload_n 0) 1 107 := xd_of (by decide +kernel)
theorem d_R_init_107 : xD lb_R_init 107 (.sipush 260) 3 110 := xd_of (by decide +kernel)
theorem d_R_init_110 : xD lb_R_init 110 (.newarray .long) 2 112 := xd_of (by decide +kernel)
theorem d_R_init_112 : xD lb_R_init 112 (.putfield 48) 3 115 := xd_of (by decide +kernel)
theorem d_R_init_115 : xD lb_R_init 115 (.aload_n 0) 1 116 := xd_of (by decide +kernel)
theorem d_R_init_116 : xD lb_R_init 116 (.sipush 260) 3 119 := xd_of (by decide +kernel)
theorem d_R_init_119 : xD lb_R_init 119 (.newarray .int) 2 121 := xd_of (by decide +kernel)
theorem d_R_init_121 : xD lb_R_init 121 (.putfield 51) 3 124 := xd_of (by decide +kernel)
theorem d_R_init_124 : xD lb_R_init 124 (.aload_n 0) 1 125 := xd_of (by decide +kernel)
theorem d_R_init_125 : xD lb_R_init 125 (.bipush 25) 2 127 := xd_of (by decide +kernel)
theorem d_R_init_127 : xD lb_R_init 127 (.newarray .int) 2 129 := xd_of (by decide +kernel)
theorem d_R_init_129 : xD lb_R_init 129 (.putfield 54) 3 132 := xd_of (by decide +kernel)
theorem d_R_init_132 : xD lb_R_init 132 (.aload_n 0) 1 133 := xd_of (by decide +kernel)
theorem d_R_init_133 : xD lb_R_init 133 (.bipush 6) 2 135 := xd_of (by decide +kernel)
theorem d_R_init_135 : xD lb_R_init 135 (.newarray .int) 2 137 := xd_of (by decide +kernel)
theorem d_R_init_137 : xD lb_R_init 137 (.putfield 57) 3 140 := xd_of (by decide +kernel)
theorem d_R_init_140 : xD lb_R_init 140 (.aload_n 0) 1 141 := xd_of (by decide +kernel)
theorem d_R_init_141 : xD lb_R_init 141 (.iconst 4) 1 142 := xd_of (by decide +kernel)
theorem d_R_init_142 : xD lb_R_init 142 (.newarray .int) 2 144 := xd_of (by decide +kernel)
theorem d_R_init_144 : xD lb_R_init 144 (.putfield 60) 3 147 := xd_of (by decide +kernel)
theorem d_R_init_147 : xD lb_R_init 147 .return_ 1 148 := xd_of (by decide +kernel)
def f_Q_init_s15 (r15 : (xw → Nat → Nat → Nat → Nat → Int32 → Option (Unit × xw × Nat))) (w : xw) (sz : Nat) (bc : Nat) (bs : Nat) (l0 : Nat) (l1 : Int32) : Option (Unit × xw × Nat) :=
  if (24 : Int32) ≤ l1 then
  some ((), (w, sz))
  else
  (xfR w l0 5 0).bind fun a1 =>
    (xn w sz bc bs 1).bind fun q2 =>
    (f_I_init sz).bind fun q3 =>
    (xsR q2.1 a1 l1 sz).bind fun w4 =>
    (some (l1 + (1 : Int32))).bind fun x5 =>
    r15 w4 q2.2.1 q2.2.2.1 q2.2.2.2 l0 x5
def f_Q_init_b15 (n : Nat) : xw → Nat → Nat → Nat → Nat → Int32 → Option (Unit × xw × Nat) := xfix (fun _ _ _ _ _ _ => none) (f_Q_init_s15) n
def f_Q_init (w : xw) (sz : Nat) (bc : Nat) (bs : Nat) (l0 : Nat) : Option (Unit × xw × Nat) :=
  (xnaR w sz bc bs 5 (24 : Int32)).bind fun q1 =>
  (xpR q1.1 l0 5 0 sz).bind fun w2 =>
  (some (0 : Int32)).bind fun x3 =>
  f_Q_init_b15 4000 w2 q1.2.1 q1.2.2.1 q1.2.2.2 l0 x3
def f_P_init (w : xw) (sz : Nat) (bc : Nat) (bs : Nat) (l0 : Nat) : Option (Unit × xw × Nat) :=
  (xnaI w sz bc bs (16 : Int32)).bind fun q1 =>
  (xpR q1.1 l0 4 0 sz).bind fun w2 =>
  some ((), (w2, q1.2.1))
def f_S_init_s50 (r50 : (xw → Nat → Nat → Nat → Nat → Int32 → Option (Unit × xw × Nat))) (w : xw) (sz : Nat) (bc : Nat) (bs : Nat) (l0 : Nat) (l1 : Int32) : Option (Unit × xw × Nat) :=
  if (4 : Int32) ≤ l1 then
  some ((), (w, sz))
  else
  (xfR w l0 6 1).bind fun a1 =>
    (xn w sz bc bs 2).bind fun q2 =>
    (f_K_init sz).bind fun q3 =>
    (xsR q2.1 a1 l1 sz).bind fun w4 =>
    (some (l1 + (1 : Int32))).bind fun x5 =>
    r50 w4 q2.2.1 q2.2.2.1 q2.2.2.2 l0 x5
def f_S_init_b50 (n : Nat) : xw → Nat → Nat → Nat → Nat → Int32 → Option (Unit × xw × Nat) := xfix (fun _ _ _ _ _ _ => none) (f_S_init_s50) n
def f_S_init_s23 (r23 : (xw → Nat → Nat → Nat → Nat → Int32 → Option (Unit × xw × Nat))) (w : xw) (sz : Nat) (bc : Nat) (bs : Nat) (l0 : Nat) (l1 : Int32) : Option (Unit × xw × Nat) :=
  if (6 : Int32) ≤ l1 then
  (some (0 : Int32)).bind fun x1 =>
    f_S_init_b50 4000 w sz bc bs l0 x1
  else
  (xfR w l0 6 0).bind fun a2 =>
    (xn w sz bc bs 2).bind fun q3 =>
    (f_K_init sz).bind fun q4 =>
    (xsR q3.1 a2 l1 sz).bind fun w5 =>
    (some (l1 + (1 : Int32))).bind fun x6 =>
    r23 w5 q3.2.1 q3.2.2.1 q3.2.2.2 l0 x6
def f_S_init_b23 (n : Nat) : xw → Nat → Nat → Nat → Nat → Int32 → Option (Unit × xw × Nat) := xfix (fun _ _ _ _ _ _ => none) (f_S_init_s23) n
def f_S_init (w : xw) (sz : Nat) (bc : Nat) (bs : Nat) (l0 : Nat) : Option (Unit × xw × Nat) :=
  (xnaR w sz bc bs 3 (6 : Int32)).bind fun q1 =>
  (xpR q1.1 l0 6 0 sz).bind fun w2 =>
  (xnaR w2 q1.2.1 q1.2.2.1 q1.2.2.2 3 (4 : Int32)).bind fun q3 =>
  (xpR q3.1 l0 6 1 q1.2.1).bind fun w4 =>
  (some (0 : Int32)).bind fun x5 =>
  f_S_init_b23 4000 w4 q3.2.1 q3.2.2.1 q3.2.2.2 l0 x5
def f_W_init_s83 (r83 : (xw → Nat → Nat → Nat → Nat → Int32 → Option (Unit × xw × Nat))) (w : xw) (sz : Nat) (bc : Nat) (bs : Nat) (l0 : Nat) (l2 : Int32) : Option (Unit × xw × Nat) :=
  if (24 : Int32) ≤ l2 then
  some ((), (w, sz))
  else
  (xfR w l0 7 2).bind fun a1 =>
    (xn w sz bc bs 6).bind fun q2 =>
    (xbud q2.2.2.1 q2.2.2.2 12 90).bind fun b3 =>
    (f_S_init q2.1 q2.2.1 12 90 sz).bind fun q4 =>
    (xsR q4.2.1 a1 l2 sz).bind fun w5 =>
    (some (l2 + (1 : Int32))).bind fun x6 =>
    r83 w5 q4.2.2 b3.1 b3.2 l0 x6
def f_W_init_b83 (n : Nat) : xw → Nat → Nat → Nat → Nat → Int32 → Option (Unit × xw × Nat) := xfix (fun _ _ _ _ _ _ => none) (f_W_init_s83) n
def f_W_init (w : xw) (sz : Nat) (bc : Nat) (bs : Nat) (l0 : Nat) (l1 : Nat) : Option (Unit × xw × Nat) :=
  (xn w sz bc bs 6).bind fun q1 =>
  (xbud q1.2.2.1 q1.2.2.2 12 90).bind fun b2 =>
  (f_S_init q1.1 q1.2.1 12 90 sz).bind fun q3 =>
  (xpR q3.2.1 l0 7 1 sz).bind fun w4 =>
  (xnaR w4 q3.2.2 b2.1 b2.2 4 (24 : Int32)).bind fun q5 =>
  (xpR q5.1 l0 7 2 q3.2.2).bind fun w6 =>
  (xnaZ w6 q5.2.1 q5.2.2.1 q5.2.2.2 (24 : Int32)).bind fun q7 =>
  (xpR q7.1 l0 7 3 q5.2.1).bind fun w8 =>
  (xn w8 q7.2.1 q7.2.2.1 q7.2.2.2 2).bind fun q9 =>
  (f_K_init q7.2.1).bind fun q10 =>
  (xpR q9.1 l0 7 4 q7.2.1).bind fun w11 =>
  (xn w11 q9.2.1 q9.2.2.1 q9.2.2.2 2).bind fun q12 =>
  (f_K_init q9.2.1).bind fun q13 =>
  (xpR q12.1 l0 7 5 q9.2.1).bind fun w14 =>
  (xn w14 q12.2.1 q12.2.2.1 q12.2.2.2 2).bind fun q15 =>
  (f_K_init q12.2.1).bind fun q16 =>
  (xpR q15.1 l0 7 6 q12.2.1).bind fun w17 =>
  (xn w17 q15.2.1 q15.2.2.1 q15.2.2.2 6).bind fun q18 =>
  (xbud q18.2.2.1 q18.2.2.2 12 90).bind fun b19 =>
  (f_S_init q18.1 q18.2.1 12 90 q15.2.1).bind fun q20 =>
  (xpR q20.2.1 l0 7 7 q15.2.1).bind fun w21 =>
  (xpR w21 l0 7 0 l1).bind fun w22 =>
  (some (0 : Int32)).bind fun x23 =>
  f_W_init_b83 4000 w22 q20.2.2 b19.1 b19.2 l0 x23
def f_M_init (w : xw) (sz : Nat) (bc : Nat) (bs : Nat) (l0 : Nat) (l1 : Nat) (l2 : Nat) : Option (Unit × xw × Nat) :=
  (xnaI w sz bc bs (6 : Int32)).bind fun q1 =>
  (xpR q1.1 l0 3 2 sz).bind fun w2 =>
  (xnaI w2 q1.2.1 q1.2.2.1 q1.2.2.2 (4 : Int32)).bind fun q3 =>
  (xpR q3.1 l0 3 3 q1.2.1).bind fun w4 =>
  (xpR w4 l0 3 0 l1).bind fun w5 =>
  (xpR w5 l0 3 1 l2).bind fun w6 =>
  some ((), (w6, q3.2.1))
def f_G_init (w : xw) (sz : Nat) (bc : Nat) (bs : Nat) (l0 : Nat) : Option (Unit × xw × Nat) :=
  (xn w sz bc bs 5).bind fun q1 =>
  (xbud q1.2.2.1 q1.2.2.2 25 144).bind fun b2 =>
  (f_Q_init q1.1 q1.2.1 25 144 sz).bind fun q3 =>
  (xpR q3.2.1 l0 0 0 sz).bind fun w4 =>
  (xn w4 q3.2.2 b2.1 b2.2 4).bind fun q5 =>
  (xbud q5.2.2.1 q5.2.2.2 1 16).bind fun b6 =>
  (f_P_init q5.1 q5.2.1 1 16 q3.2.2).bind fun q7 =>
  (xpR q7.2.1 l0 0 1 q3.2.2).bind fun w8 =>
  (xn w8 q7.2.2 b6.1 b6.2 7).bind fun q9 =>
  (xfR q9.1 l0 0 0).bind fun a10 =>
  (xbud q9.2.2.1 q9.2.2.2 343 2464).bind fun b11 =>
  (f_W_init q9.1 q9.2.1 343 2464 q7.2.2 a10).bind fun q12 =>
  (xpR q12.2.1 l0 0 2 q7.2.2).bind fun w13 =>
  (xn w13 q12.2.2 b11.1 b11.2 3).bind fun q14 =>
  (xfR q14.1 l0 0 0).bind fun a15 =>
  (xfR q14.1 l0 0 1).bind fun a16 =>
  (xbud q14.2.2.1 q14.2.2.2 2 10).bind fun b17 =>
  (f_M_init q14.1 q14.2.1 2 10 q12.2.2 a15 a16).bind fun q18 =>
  (xpR q18.2.1 l0 0 3 q12.2.2).bind fun w19 =>
  some ((), (w19, q18.2.2))
def f_R_init (w : xw) (sz : Nat) (bc : Nat) (bs : Nat) (l0 : Nat) : Option (Unit × xw × Nat) :=
  (xnaI w sz bc bs (24 : Int32)).bind fun q1 =>
  (xpR q1.1 l0 8 2 sz).bind fun w2 =>
  (xnaI w2 q1.2.1 q1.2.2.1 q1.2.2.2 (24 : Int32)).bind fun q3 =>
  (xpR q3.1 l0 8 3 q1.2.1).bind fun w4 =>
  (xnaI w4 q3.2.1 q3.2.2.1 q3.2.2.2 (24 : Int32)).bind fun q5 =>
  (xpR q5.1 l0 8 4 q3.2.1).bind fun w6 =>
  (xnaI w6 q5.2.1 q5.2.2.1 q5.2.2.2 (24 : Int32)).bind fun q7 =>
  (xpR q7.1 l0 8 5 q5.2.1).bind fun w8 =>
  (xnaI w8 q7.2.1 q7.2.2.1 q7.2.2.2 (24 : Int32)).bind fun q9 =>
  (xpR q9.1 l0 8 6 q7.2.1).bind fun w10 =>
  (xnaI w10 q9.2.1 q9.2.2.1 q9.2.2.2 (16 : Int32)).bind fun q11 =>
  (xpR q11.1 l0 8 8 q9.2.1).bind fun w12 =>
  (xnaZ w12 q11.2.1 q11.2.2.1 q11.2.2.2 (260 : Int32)).bind fun q13 =>
  (xpR q13.1 l0 8 9 q11.2.1).bind fun w14 =>
  (xnaI w14 q13.2.1 q13.2.2.1 q13.2.2.2 (260 : Int32)).bind fun q15 =>
  (xpR q15.1 l0 8 10 q13.2.1).bind fun w16 =>
  (xnaI w16 q15.2.1 q15.2.2.1 q15.2.2.2 (260 : Int32)).bind fun q17 =>
  (xpR q17.1 l0 8 11 q15.2.1).bind fun w18 =>
  (xnaL w18 q17.2.1 q17.2.2.1 q17.2.2.2 (260 : Int32)).bind fun q19 =>
  (xpR q19.1 l0 8 12 q17.2.1).bind fun w20 =>
  (xnaL w20 q19.2.1 q19.2.2.1 q19.2.2.2 (260 : Int32)).bind fun q21 =>
  (xpR q21.1 l0 8 13 q19.2.1).bind fun w22 =>
  (xnaL w22 q21.2.1 q21.2.2.1 q21.2.2.2 (260 : Int32)).bind fun q23 =>
  (xpR q23.1 l0 8 14 q21.2.1).bind fun w24 =>
  (xnaL w24 q23.2.1 q23.2.2.1 q23.2.2.2 (260 : Int32)).bind fun q25 =>
  (xpR q25.1 l0 8 15 q23.2.1).bind fun w26 =>
  (xnaI w26 q25.2.1 q25.2.2.1 q25.2.2.2 (260 : Int32)).bind fun q27 =>
  (xpR q27.1 l0 8 16 q25.2.1).bind fun w28 =>
  (xnaI w28 q27.2.1 q27.2.2.1 q27.2.2.2 (25 : Int32)).bind fun q29 =>
  (xpR q29.1 l0 8 21 q27.2.1).bind fun w30 =>
  (xnaI w30 q29.2.1 q29.2.2.1 q29.2.2.2 (6 : Int32)).bind fun q31 =>
  (xpR q31.1 l0 8 23 q29.2.1).bind fun w32 =>
  (xnaI w32 q31.2.1 q31.2.2.1 q31.2.2.2 (4 : Int32)).bind fun q33 =>
  (xpR q33.1 l0 8 24 q31.2.1).bind fun w34 =>
  some ((), (w34, q33.2.1))
theorem ks_Q_init_15 (X : xX) (ro : Unit × xw × Nat) (r15 : xw → Nat → Nat → Nat → Nat → Int32 → Option (Unit × xw × Nat)) (R15 : ∀ (w : xw) (sz : Nat) (bc : Nat) (bs : Nat) (l0 : Nat) (l1 : Int32), r15 w sz bc bs l0 l1 = some ro → bc ≤ R_Q_init.cells ∧ bs ≤ R_Q_init.slots → k_Q_init X [(0, .ref l0), (1, .int l1)] [] w sz (R_Q_init.cells - bc) (R_Q_init.slots - bs) 15 (none, ro.2.1, ro.2.2)) (w : xw) (sz : Nat) (bc : Nat) (bs : Nat) (l0 : Nat) (l1 : Int32) (h : f_Q_init_s15 r15 w sz bc bs l0 l1 = some ro) : bc ≤ R_Q_init.cells ∧ bs ≤ R_Q_init.slots → k_Q_init X [(0, .ref l0), (1, .int l1)] [] w sz (R_Q_init.cells - bc) (R_Q_init.slots - bs) 15 (none, ro.2.1, ro.2.2) := by
  unfold f_Q_init_s15 at h
  intro hb
  refine xo_iload_n 1 d_Q_init_15 rfl rfl ?_
  refine xo_bipush d_Q_init_16 xbp_24 ?_
  refine xo_icmp_ge d_Q_init_18 h (fun h => ?_) (fun h => ?_)
  · exact xo_retVB d_Q_init_40 rfl hb h
  · refine xo_aload_n 0 d_Q_init_21 rfl rfl ?_
    refine xo_getR 0 d_Q_init_22 xc_5 rfl tw_67 rfl h (fun a1 h => ?_)
    refine xo_iload_n 1 d_Q_init_25 rfl rfl ?_
    refine xo_new d_Q_init_26 xc_1 tw_34 tw_36 tw_3 xdf_1 hb h (fun q2 h hb => ?_)
    refine xo_dup d_Q_init_29 rfl ?_
    refine xo_IBN (rest := [.ref sz, .int l1, .ref a1]) [] d_Q_init_30 nw_0 yw_I_init h (fun z e => c_I_init _ _ _ _ _ _ z e) rfl ⟨rfl, rfl⟩ rfl rfl rfl (fun q3 h => ?_)
    refine xo_astR d_Q_init_33 h (fun w4 h => ?_)
    refine xo_iinc 1 (fun x5 => [(1, .int x5), (0, .ref l0)]) d_Q_init_34 rfl rfl xic_1 (fun _ => rfl) h (fun x5 h => ?_)
    refine xo_goto d_Q_init_37 ?_
    exact xo_sub [1, 0] [(0, .ref l0), (1, .int x5)] rfl (R15 _ _ _ _ _ _ h hb)
theorem kb_Q_init_15 (X : xX) (ro : Unit × xw × Nat) (n : Nat) : ∀ (w : xw) (sz : Nat) (bc : Nat) (bs : Nat) (l0 : Nat) (l1 : Int32), f_Q_init_b15 n w sz bc bs l0 l1 = some ro → bc ≤ R_Q_init.cells ∧ bs ≤ R_Q_init.slots → k_Q_init X [(0, .ref l0), (1, .int l1)] [] w sz (R_Q_init.cells - bc) (R_Q_init.slots - bs) 15 (none, ro.2.1, ro.2.2) := by
  unfold f_Q_init_b15
  refine xfix_ind (P := fun (r15 : xw → Nat → Nat → Nat → Nat → Int32 → Option (Unit × xw × Nat)) => ∀ (w : xw) (sz : Nat) (bc : Nat) (bs : Nat) (l0 : Nat) (l1 : Int32), r15 w sz bc bs l0 l1 = some ro → bc ≤ R_Q_init.cells ∧ bs ≤ R_Q_init.slots → k_Q_init X [(0, .ref l0), (1, .int l1)] [] w sz (R_Q_init.cells - bc) (R_Q_init.slots - bs) 15 (none, ro.2.1, ro.2.2)) ?_ ?_ n
  · intro _ _ _ _ _ _ h
    cases h
  · intro r R w sz bc bs l0 l1 h
    exact ks_Q_init_15 X ro r R _ _ _ _ _ _ h
theorem kb_Q_init_0 (X : xX) (ro : Unit × xw × Nat) (w : xw) (sz : Nat) (bc : Nat) (bs : Nat) (l0 : Nat) (h : f_Q_init w sz bc bs l0 = some ro) : bc ≤ R_Q_init.cells ∧ bs ≤ R_Q_init.slots → k_Q_init X [(0, .ref l0)] [] w sz (R_Q_init.cells - bc) (R_Q_init.slots - bs) 0 (none, ro.2.1, ro.2.2) := by
  unfold f_Q_init at h
  intro hb
  refine xo_aload_n 0 d_Q_init_0 rfl rfl ?_
  refine xo_obj d_Q_init_1 tw_33 rfl rfl ?_
  refine xo_aload_n 0 d_Q_init_4 rfl rfl ?_
  refine xo_bipush d_Q_init_5 xbp_24 ?_
  refine xo_newaR (t := 5) d_Q_init_7 tw_34 (by decide) (fun _ => rfl) hb h (fun q1 h hb => ?_)
  refine xo_putRF 0 d_Q_init_10 xc_5 rfl tw_67 rfl rfl rfl rfl rfl rfl h (fun w2 h => ?_)
  refine xo_iconst d_Q_init_13 xic_0 ?_
  refine xo_nmI h (fun x3 h => ?_)
  refine xo_istore_n [(1, .int x3), (0, .ref l0)] d_Q_init_14 rfl rfl rfl ?_
  exact xo_sub [1, 0] [(0, .ref l0), (1, .int x3)] rfl (kb_Q_init_15 X ro _ _ _ _ _ _ _ h hb)
theorem c_Q_init (l : Launch) (D : va_G) (cT : Nat → ClassId) (sz : Nat) (w : xw) (l0 : Nat) (ro : Unit × xw × Nat) (h : f_Q_init w sz 25 144 l0 = some ro) : xM l y_Q_init b_Q_init 2 t_Q_init R_Q_init D cT [.ref l0] w sz (none, ro.2.1, ro.2.2) :=
  xm_of bl_Q_init rfl rfl (kb_Q_init_0 (l, D, cT, [.ref l0], w, sz) ro w sz 25 144 l0 h ⟨Nat.le_refl _, Nat.le_refl _⟩)
theorem kb_P_init_0 (X : xX) (ro : Unit × xw × Nat) (w : xw) (sz : Nat) (bc : Nat) (bs : Nat) (l0 : Nat) (h : f_P_init w sz bc bs l0 = some ro) : bc ≤ R_P_init.cells ∧ bs ≤ R_P_init.slots → k_P_init X [(0, .ref l0)] [] w sz (R_P_init.cells - bc) (R_P_init.slots - bs) 0 (none, ro.2.1, ro.2.2) := by
  unfold f_P_init at h
  intro hb
  refine xo_aload_n 0 d_P_init_0 rfl rfl ?_
  refine xo_obj d_P_init_1 tw_84 rfl rfl ?_
  refine xo_aload_n 0 d_P_init_4 rfl rfl ?_
  refine xo_bipush d_P_init_5 xbp_16 ?_
  refine xo_newaI d_P_init_7 tw_94 hb h (fun q1 h hb => ?_)
  refine xo_putRF 0 d_P_init_9 xc_4 rfl tw_85 rfl rfl rfl rfl rfl rfl h (fun w2 h => ?_)
  exact xo_retVB d_P_init_12 rfl hb h
theorem c_P_init (l : Launch) (D : va_G) (cT : Nat → ClassId) (sz : Nat) (w : xw) (l0 : Nat) (ro : Unit × xw × Nat) (h : f_P_init w sz 1 16 l0 = some ro) : xM l y_P_init b_P_init 1 t_P_init R_P_init D cT [.ref l0] w sz (none, ro.2.1, ro.2.2) :=
  xm_of bl_P_init rfl rfl (kb_P_init_0 (l, D, cT, [.ref l0], w, sz) ro w sz 1 16 l0 h ⟨Nat.le_refl _, Nat.le_refl _⟩)
theorem ks_S_init_50 (X : xX) (ro : Unit × xw × Nat) (r50 : xw → Nat → Nat → Nat → Nat → Int32 → Option (Unit × xw × Nat)) (R50 : ∀ (w : xw) (sz : Nat) (bc : Nat) (bs : Nat) (l0 : Nat) (l1 : Int32), r50 w sz bc bs l0 l1 = some ro → bc ≤ R_S_init.cells ∧ bs ≤ R_S_init.slots → k_S_init X [(0, .ref l0), (1, .int l1)] [] w sz (R_S_init.cells - bc) (R_S_init.slots - bs) 50 (none, ro.2.1, ro.2.2)) (w : xw) (sz : Nat) (bc : Nat) (bs : Nat) (l0 : Nat) (l1 : Int32) (h : f_S_init_s50 r50 w sz bc bs l0 l1 = some ro) : bc ≤ R_S_init.cells ∧ bs ≤ R_S_init.slots → k_S_init X [(0, .ref l0), (1, .int l1)] [] w sz (R_S_init.cells - bc) (R_S_init.slots - bs) 50 (none, ro.2.1, ro.2.2) := by
  unfold f_S_init_s50 at h
  intro hb
  refine xo_iload_n 1 d_S_init_50 rfl rfl ?_
  refine xo_iconst d_S_init_51 xic_4 ?_
  refine xo_icmp_ge d_S_init_52 h (fun h => ?_) (fun h => ?_)
  · exact xo_retVB d_S_init_74 rfl hb h
  · refine xo_aload_n 0 d_S_init_55 rfl rfl ?_
    refine xo_getR 1 d_S_init_56 xc_6 rfl tw_156 rfl h (fun a1 h => ?_)
    refine xo_iload_n 1 d_S_init_59 rfl rfl ?_
    refine xo_new d_S_init_60 xc_2 tw_107 tw_109 tw_7 xdf_2 hb h (fun q2 h hb => ?_)
    refine xo_dup d_S_init_63 rfl ?_
    refine xo_IBN (rest := [.ref sz, .int l1, .ref a1]) [] d_S_init_64 nw_2 yw_K_init h (fun z e => c_K_init _ _ _ _ _ _ z e) rfl ⟨rfl, rfl⟩ rfl rfl rfl (fun q3 h => ?_)
    refine xo_astR d_S_init_67 h (fun w4 h => ?_)
    refine xo_iinc 1 (fun x5 => [(1, .int x5), (0, .ref l0)]) d_S_init_68 rfl rfl xic_1 (fun _ => rfl) h (fun x5 h => ?_)
    refine xo_goto d_S_init_71 ?_
    exact xo_sub [1, 0] [(0, .ref l0), (1, .int x5)] rfl (R50 _ _ _ _ _ _ h hb)
theorem kb_S_init_50 (X : xX) (ro : Unit × xw × Nat) (n : Nat) : ∀ (w : xw) (sz : Nat) (bc : Nat) (bs : Nat) (l0 : Nat) (l1 : Int32), f_S_init_b50 n w sz bc bs l0 l1 = some ro → bc ≤ R_S_init.cells ∧ bs ≤ R_S_init.slots → k_S_init X [(0, .ref l0), (1, .int l1)] [] w sz (R_S_init.cells - bc) (R_S_init.slots - bs) 50 (none, ro.2.1, ro.2.2) := by
  unfold f_S_init_b50
  refine xfix_ind (P := fun (r50 : xw → Nat → Nat → Nat → Nat → Int32 → Option (Unit × xw × Nat)) => ∀ (w : xw) (sz : Nat) (bc : Nat) (bs : Nat) (l0 : Nat) (l1 : Int32), r50 w sz bc bs l0 l1 = some ro → bc ≤ R_S_init.cells ∧ bs ≤ R_S_init.slots → k_S_init X [(0, .ref l0), (1, .int l1)] [] w sz (R_S_init.cells - bc) (R_S_init.slots - bs) 50 (none, ro.2.1, ro.2.2)) ?_ ?_ n
  · intro _ _ _ _ _ _ h
    cases h
  · intro r R w sz bc bs l0 l1 h
    exact ks_S_init_50 X ro r R _ _ _ _ _ _ h
theorem ks_S_init_23 (X : xX) (ro : Unit × xw × Nat) (r23 : xw → Nat → Nat → Nat → Nat → Int32 → Option (Unit × xw × Nat)) (R23 : ∀ (w : xw) (sz : Nat) (bc : Nat) (bs : Nat) (l0 : Nat) (l1 : Int32), r23 w sz bc bs l0 l1 = some ro → bc ≤ R_S_init.cells ∧ bs ≤ R_S_init.slots → k_S_init X [(0, .ref l0), (1, .int l1)] [] w sz (R_S_init.cells - bc) (R_S_init.slots - bs) 23 (none, ro.2.1, ro.2.2)) (w : xw) (sz : Nat) (bc : Nat) (bs : Nat) (l0 : Nat) (l1 : Int32) (h : f_S_init_s23 r23 w sz bc bs l0 l1 = some ro) : bc ≤ R_S_init.cells ∧ bs ≤ R_S_init.slots → k_S_init X [(0, .ref l0), (1, .int l1)] [] w sz (R_S_init.cells - bc) (R_S_init.slots - bs) 23 (none, ro.2.1, ro.2.2) := by
  unfold f_S_init_s23 at h
  intro hb
  refine xo_iload_n 1 d_S_init_23 rfl rfl ?_
  refine xo_bipush d_S_init_24 xbp_6 ?_
  refine xo_icmp_ge d_S_init_26 h (fun h => ?_) (fun h => ?_)
  · refine xo_iconst d_S_init_48 xic_0 ?_
    refine xo_nmI h (fun x1 h => ?_)
    refine xo_istore_n [(1, .int x1), (0, .ref l0)] d_S_init_49 rfl rfl rfl ?_
    exact xo_sub [1, 0] [(0, .ref l0), (1, .int x1)] rfl (kb_S_init_50 X ro _ _ _ _ _ _ _ h hb)
  · refine xo_aload_n 0 d_S_init_29 rfl rfl ?_
    refine xo_getR 0 d_S_init_30 xc_6 rfl tw_153 rfl h (fun a2 h => ?_)
    refine xo_iload_n 1 d_S_init_33 rfl rfl ?_
    refine xo_new d_S_init_34 xc_2 tw_107 tw_109 tw_7 xdf_2 hb h (fun q3 h hb => ?_)
    refine xo_dup d_S_init_37 rfl ?_
    refine xo_IBN (rest := [.ref sz, .int l1, .ref a2]) [] d_S_init_38 nw_2 yw_K_init h (fun z e => c_K_init _ _ _ _ _ _ z e) rfl ⟨rfl, rfl⟩ rfl rfl rfl (fun q4 h => ?_)
    refine xo_astR d_S_init_41 h (fun w5 h => ?_)
    refine xo_iinc 1 (fun x6 => [(1, .int x6), (0, .ref l0)]) d_S_init_42 rfl rfl xic_1 (fun _ => rfl) h (fun x6 h => ?_)
    refine xo_goto d_S_init_45 ?_
    exact xo_sub [1, 0] [(0, .ref l0), (1, .int x6)] rfl (R23 _ _ _ _ _ _ h hb)
theorem kb_S_init_23 (X : xX) (ro : Unit × xw × Nat) (n : Nat) : ∀ (w : xw) (sz : Nat) (bc : Nat) (bs : Nat) (l0 : Nat) (l1 : Int32), f_S_init_b23 n w sz bc bs l0 l1 = some ro → bc ≤ R_S_init.cells ∧ bs ≤ R_S_init.slots → k_S_init X [(0, .ref l0), (1, .int l1)] [] w sz (R_S_init.cells - bc) (R_S_init.slots - bs) 23 (none, ro.2.1, ro.2.2) := by
  unfold f_S_init_b23
  refine xfix_ind (P := fun (r23 : xw → Nat → Nat → Nat → Nat → Int32 → Option (Unit × xw × Nat)) => ∀ (w : xw) (sz : Nat) (bc : Nat) (bs : Nat) (l0 : Nat) (l1 : Int32), r23 w sz bc bs l0 l1 = some ro → bc ≤ R_S_init.cells ∧ bs ≤ R_S_init.slots → k_S_init X [(0, .ref l0), (1, .int l1)] [] w sz (R_S_init.cells - bc) (R_S_init.slots - bs) 23 (none, ro.2.1, ro.2.2)) ?_ ?_ n
  · intro _ _ _ _ _ _ h
    cases h
  · intro r R w sz bc bs l0 l1 h
    exact ks_S_init_23 X ro r R _ _ _ _ _ _ h
theorem kb_S_init_0 (X : xX) (ro : Unit × xw × Nat) (w : xw) (sz : Nat) (bc : Nat) (bs : Nat) (l0 : Nat) (h : f_S_init w sz bc bs l0 = some ro) : bc ≤ R_S_init.cells ∧ bs ≤ R_S_init.slots → k_S_init X [(0, .ref l0)] [] w sz (R_S_init.cells - bc) (R_S_init.slots - bs) 0 (none, ro.2.1, ro.2.2) := by
  unfold f_S_init at h
  intro hb
  refine xo_aload_n 0 d_S_init_0 rfl rfl ?_
  refine xo_obj d_S_init_1 tw_106 rfl rfl ?_
  refine xo_aload_n 0 d_S_init_4 rfl rfl ?_
  refine xo_bipush d_S_init_5 xbp_6 ?_
  refine xo_newaR (t := 3) d_S_init_7 tw_107 (by decide) (fun _ => rfl) hb h (fun q1 h hb => ?_)
  refine xo_putRF 0 d_S_init_10 xc_6 rfl tw_153 rfl rfl rfl rfl rfl rfl h (fun w2 h => ?_)
  refine xo_aload_n 0 d_S_init_13 rfl rfl ?_
  refine xo_iconst d_S_init_14 xic_4 ?_
  refine xo_newaR (t := 3) d_S_init_15 tw_107 (by decide) (fun _ => rfl) hb h (fun q3 h hb => ?_)
  refine xo_putRF 1 d_S_init_18 xc_6 rfl tw_156 rfl rfl rfl rfl rfl rfl h (fun w4 h => ?_)
  refine xo_iconst d_S_init_21 xic_0 ?_
  refine xo_nmI h (fun x5 h => ?_)
  refine xo_istore_n [(1, .int x5), (0, .ref l0)] d_S_init_22 rfl rfl rfl ?_
  exact xo_sub [1, 0] [(0, .ref l0), (1, .int x5)] rfl (kb_S_init_23 X ro _ _ _ _ _ _ _ h hb)
theorem c_S_init (l : Launch) (D : va_G) (cT : Nat → ClassId) (sz : Nat) (w : xw) (l0 : Nat) (ro : Unit × xw × Nat) (h : f_S_init w sz 12 90 l0 = some ro) : xM l y_S_init b_S_init 2 t_S_init R_S_init D cT [.ref l0] w sz (none, ro.2.1, ro.2.2) :=
  xm_of bl_S_init rfl rfl (kb_S_init_0 (l, D, cT, [.ref l0], w, sz) ro w sz 12 90 l0 h ⟨Nat.le_refl _, Nat.le_refl _⟩)
theorem ks_W_init_83 (X : xX) (ro : Unit × xw × Nat) (r83 : xw → Nat → Nat → Nat → Nat → Int32 → Option (Unit × xw × Nat)) (R83 : ∀ (w : xw) (sz : Nat) (bc : Nat) (bs : Nat) (l0 : Nat) (l2 : Int32), r83 w sz bc bs l0 l2 = some ro → bc ≤ R_W_init.cells ∧ bs ≤ R_W_init.slots → k_W_init X [(0, .ref l0), (2, .int l2)] [] w sz (R_W_init.cells - bc) (R_W_init.slots - bs) 83 (none, ro.2.1, ro.2.2)) (w : xw) (sz : Nat) (bc : Nat) (bs : Nat) (l0 : Nat) (l2 : Int32) (h : f_W_init_s83 r83 w sz bc bs l0 l2 = some ro) : bc ≤ R_W_init.cells ∧ bs ≤ R_W_init.slots → k_W_init X [(0, .ref l0), (2, .int l2)] [] w sz (R_W_init.cells - bc) (R_W_init.slots - bs) 83 (none, ro.2.1, ro.2.2) := by
  unfold f_W_init_s83 at h
  intro hb
  refine xo_iload_n 1 d_W_init_83 rfl rfl ?_
  refine xo_bipush d_W_init_84 xbp_24 ?_
  refine xo_icmp_ge d_W_init_86 h (fun h => ?_) (fun h => ?_)
  · exact xo_retVB d_W_init_108 rfl hb h
  · refine xo_aload_n 0 d_W_init_89 rfl rfl ?_
    refine xo_getR 2 d_W_init_90 xc_7 rfl tw_168 rfl h (fun a1 h => ?_)
    refine xo_iload_n 1 d_W_init_93 rfl rfl ?_
    refine xo_new d_W_init_94 xc_6 tw_101 tw_102 tw_6 xdf_6 hb h (fun q2 h hb => ?_)
    refine xo_dup d_W_init_97 rfl ?_
    refine xo_IA (rest := [.ref sz, .int l2, .ref a1]) [] d_W_init_98 tw_103 yw_S_init hb h (fun z e => c_S_init _ _ _ _ _ _ z e) ⟨rfl, rfl⟩ rfl rfl rfl rfl (fun b3 q4 h hb => ?_)
    refine xo_astR d_W_init_101 h (fun w5 h => ?_)
    refine xo_iinc 1 (fun x6 => [(2, .int x6), (0, .ref l0)]) d_W_init_102 rfl rfl xic_1 (fun _ => rfl) h (fun x6 h => ?_)
    refine xo_goto d_W_init_105 ?_
    exact xo_sub [1, 0] [(0, .ref l0), (2, .int x6)] rfl (R83 _ _ _ _ _ _ h hb)
theorem kb_W_init_83 (X : xX) (ro : Unit × xw × Nat) (n : Nat) : ∀ (w : xw) (sz : Nat) (bc : Nat) (bs : Nat) (l0 : Nat) (l2 : Int32), f_W_init_b83 n w sz bc bs l0 l2 = some ro → bc ≤ R_W_init.cells ∧ bs ≤ R_W_init.slots → k_W_init X [(0, .ref l0), (2, .int l2)] [] w sz (R_W_init.cells - bc) (R_W_init.slots - bs) 83 (none, ro.2.1, ro.2.2) := by
  unfold f_W_init_b83
  refine xfix_ind (P := fun (r83 : xw → Nat → Nat → Nat → Nat → Int32 → Option (Unit × xw × Nat)) => ∀ (w : xw) (sz : Nat) (bc : Nat) (bs : Nat) (l0 : Nat) (l2 : Int32), r83 w sz bc bs l0 l2 = some ro → bc ≤ R_W_init.cells ∧ bs ≤ R_W_init.slots → k_W_init X [(0, .ref l0), (2, .int l2)] [] w sz (R_W_init.cells - bc) (R_W_init.slots - bs) 83 (none, ro.2.1, ro.2.2)) ?_ ?_ n
  · intro _ _ _ _ _ _ h
    cases h
  · intro r R w sz bc bs l0 l2 h
    exact ks_W_init_83 X ro r R _ _ _ _ _ _ h
theorem kb_W_init_0 (X : xX) (ro : Unit × xw × Nat) (w : xw) (sz : Nat) (bc : Nat) (bs : Nat) (l0 : Nat) (l1 : Nat) (h : f_W_init w sz bc bs l0 l1 = some ro) : bc ≤ R_W_init.cells ∧ bs ≤ R_W_init.slots → k_W_init X [(0, .ref l0), (1, .ref l1)] [] w sz (R_W_init.cells - bc) (R_W_init.slots - bs) 0 (none, ro.2.1, ro.2.2) := by
  unfold f_W_init at h
  intro hb
  refine xo_aload_n 0 d_W_init_0 rfl rfl ?_
  refine xo_obj d_W_init_1 tw_100 rfl rfl ?_
  refine xo_aload_n 0 d_W_init_4 rfl rfl ?_
  refine xo_new d_W_init_5 xc_6 tw_101 tw_102 tw_6 xdf_6 hb h (fun q1 h hb => ?_)
  refine xo_dup d_W_init_8 rfl ?_
  refine xo_IA (rest := [.ref sz, .ref l0]) [] d_W_init_9 tw_103 yw_S_init hb h (fun z e => c_S_init _ _ _ _ _ _ z e) ⟨rfl, rfl⟩ rfl rfl rfl rfl (fun b2 q3 h hb => ?_)
  refine xo_putRF 1 d_W_init_12 xc_7 rfl tw_167 rfl rfl rfl rfl rfl rfl h (fun w4 h => ?_)
  refine xo_aload_n 0 d_W_init_15 rfl rfl ?_
  refine xo_bipush d_W_init_16 xbp_24 ?_
  refine xo_newaR (t := 4) d_W_init_18 tw_101 (by decide) (fun _ => rfl) hb h (fun q5 h hb => ?_)
  refine xo_putRF 2 d_W_init_21 xc_7 rfl tw_168 rfl rfl rfl rfl rfl rfl h (fun w6 h => ?_)
  refine xo_aload_n 0 d_W_init_24 rfl rfl ?_
  refine xo_bipush d_W_init_25 xbp_24 ?_
  refine xo_newaZ d_W_init_27 tw_200 hb h (fun q7 h hb => ?_)
  refine xo_putRF 3 d_W_init_29 xc_7 rfl tw_169 rfl rfl rfl rfl rfl rfl h (fun w8 h => ?_)
  refine xo_aload_n 0 d_W_init_32 rfl rfl ?_
  refine xo_new d_W_init_33 xc_2 tw_164 tw_109 tw_7 xdf_2 hb h (fun q9 h hb => ?_)
  refine xo_dup d_W_init_36 rfl ?_
  refine xo_IBN (rest := [.ref q7.2.1, .ref l0]) [] d_W_init_37 nw_3 yw_K_init h (fun z e => c_K_init _ _ _ _ _ _ z e) rfl ⟨rfl, rfl⟩ rfl rfl rfl (fun q10 h => ?_)
  refine xo_putRF 4 d_W_init_40 xc_7 rfl tw_170 rfl rfl rfl rfl rfl rfl h (fun w11 h => ?_)
  refine xo_aload_n 0 d_W_init_43 rfl rfl ?_
  refine xo_new d_W_init_44 xc_2 tw_164 tw_109 tw_7 xdf_2 hb h (fun q12 h hb => ?_)
  refine xo_dup d_W_init_47 rfl ?_
  refine xo_IBN (rest := [.ref q9.2.1, .ref l0]) [] d_W_init_48 nw_3 yw_K_init h (fun z e => c_K_init _ _ _ _ _ _ z e) rfl ⟨rfl, rfl⟩ rfl rfl rfl (fun q13 h => ?_)
  refine xo_putRF 5 d_W_init_51 xc_7 rfl tw_171 rfl rfl rfl rfl rfl rfl h (fun w14 h => ?_)
  refine xo_aload_n 0 d_W_init_54 rfl rfl ?_
  refine xo_new d_W_init_55 xc_2 tw_164 tw_109 tw_7 xdf_2 hb h (fun q15 h hb => ?_)
  refine xo_dup d_W_init_58 rfl ?_
  refine xo_IBN (rest := [.ref q12.2.1, .ref l0]) [] d_W_init_59 nw_3 yw_K_init h (fun z e => c_K_init _ _ _ _ _ _ z e) rfl ⟨rfl, rfl⟩ rfl rfl rfl (fun q16 h => ?_)
  refine xo_putRF 6 d_W_init_62 xc_7 rfl tw_172 rfl rfl rfl rfl rfl rfl h (fun w17 h => ?_)
  refine xo_aload_n 0 d_W_init_65 rfl rfl ?_
  refine xo_new d_W_init_66 xc_6 tw_101 tw_102 tw_6 xdf_6 hb h (fun q18 h hb => ?_)
  refine xo_dup d_W_init_69 rfl ?_
  refine xo_IA (rest := [.ref q15.2.1, .ref l0]) [] d_W_init_70 tw_103 yw_S_init hb h (fun z e => c_S_init _ _ _ _ _ _ z e) ⟨rfl, rfl⟩ rfl rfl rfl rfl (fun b19 q20 h hb => ?_)
  refine xo_putRF 7 d_W_init_73 xc_7 rfl tw_173 rfl rfl rfl rfl rfl rfl h (fun w21 h => ?_)
  refine xo_aload_n 0 d_W_init_76 rfl rfl ?_
  refine xo_aload_n 1 d_W_init_77 rfl rfl ?_
  refine xo_putRF 0 d_W_init_78 xc_7 rfl tw_166 rfl rfl rfl rfl rfl rfl h (fun w22 h => ?_)
  refine xo_iconst d_W_init_81 xic_0 ?_
  refine xo_nmI h (fun x23 h => ?_)
  refine xo_istore_n [(2, .int x23), (0, .ref l0), (1, .ref l1)] d_W_init_82 rfl rfl rfl ?_
  exact xo_sub [1, 0] [(0, .ref l0), (2, .int x23)] rfl (kb_W_init_83 X ro _ _ _ _ _ _ _ h hb)
theorem c_W_init (l : Launch) (D : va_G) (cT : Nat → ClassId) (sz : Nat) (w : xw) (l0 : Nat) (l1 : Nat) (ro : Unit × xw × Nat) (h : f_W_init w sz 343 2464 l0 l1 = some ro) : xM l y_W_init b_W_init 3 t_W_init R_W_init D cT [.ref l0, .ref l1] w sz (none, ro.2.1, ro.2.2) :=
  xm_of bl_W_init rfl rfl (kb_W_init_0 (l, D, cT, [.ref l0, .ref l1], w, sz) ro w sz 343 2464 l0 l1 h ⟨Nat.le_refl _, Nat.le_refl _⟩)
theorem kb_M_init_0 (X : xX) (ro : Unit × xw × Nat) (w : xw) (sz : Nat) (bc : Nat) (bs : Nat) (l0 : Nat) (l1 : Nat) (l2 : Nat) (h : f_M_init w sz bc bs l0 l1 l2 = some ro) : bc ≤ R_M_init.cells ∧ bs ≤ R_M_init.slots → k_M_init X [(0, .ref l0), (1, .ref l1), (2, .ref l2)] [] w sz (R_M_init.cells - bc) (R_M_init.slots - bs) 0 (none, ro.2.1, ro.2.2) := by
  unfold f_M_init at h
  intro hb
  refine xo_aload_n 0 d_M_init_0 rfl rfl ?_
  refine xo_obj d_M_init_1 tw_206 rfl rfl ?_
  refine xo_aload_n 0 d_M_init_4 rfl rfl ?_
  refine xo_bipush d_M_init_5 xbp_6 ?_
  refine xo_newaI d_M_init_7 tw_94 hb h (fun q1 h hb => ?_)
  refine xo_putRF 2 d_M_init_9 xc_3 rfl tw_209 rfl rfl rfl rfl rfl rfl h (fun w2 h => ?_)
  refine xo_aload_n 0 d_M_init_12 rfl rfl ?_
  refine xo_iconst d_M_init_13 xic_4 ?_
  refine xo_newaI d_M_init_14 tw_94 hb h (fun q3 h hb => ?_)
  refine xo_putRF 3 d_M_init_16 xc_3 rfl tw_210 rfl rfl rfl rfl rfl rfl h (fun w4 h => ?_)
  refine xo_aload_n 0 d_M_init_19 rfl rfl ?_
  refine xo_aload_n 1 d_M_init_20 rfl rfl ?_
  refine xo_putRF 0 d_M_init_21 xc_3 rfl tw_207 rfl rfl rfl rfl rfl rfl h (fun w5 h => ?_)
  refine xo_aload_n 0 d_M_init_24 rfl rfl ?_
  refine xo_aload_n 2 d_M_init_25 rfl rfl ?_
  refine xo_putRF 1 d_M_init_26 xc_3 rfl tw_208 rfl rfl rfl rfl rfl rfl h (fun w6 h => ?_)
  exact xo_retVB d_M_init_29 rfl hb h
theorem c_M_init (l : Launch) (D : va_G) (cT : Nat → ClassId) (sz : Nat) (w : xw) (l0 : Nat) (l1 : Nat) (l2 : Nat) (ro : Unit × xw × Nat) (h : f_M_init w sz 2 10 l0 l1 l2 = some ro) : xM l y_M_init b_M_init 3 t_M_init R_M_init D cT [.ref l0, .ref l1, .ref l2] w sz (none, ro.2.1, ro.2.2) :=
  xm_of bl_M_init rfl rfl (kb_M_init_0 (l, D, cT, [.ref l0, .ref l1, .ref l2], w, sz) ro w sz 2 10 l0 l1 l2 h ⟨Nat.le_refl _, Nat.le_refl _⟩)
theorem kb_G_init_0 (X : xX) (ro : Unit × xw × Nat) (w : xw) (sz : Nat) (bc : Nat) (bs : Nat) (l0 : Nat) (h : f_G_init w sz bc bs l0 = some ro) : bc ≤ R_G_init.cells ∧ bs ≤ R_G_init.slots → k_G_init X [(0, .ref l0)] [] w sz (R_G_init.cells - bc) (R_G_init.slots - bs) 0 (none, ro.2.1, ro.2.2) := by
  unfold f_G_init at h
  intro hb
  refine xo_aload_n 0 d_G_init_0 rfl rfl ?_
  refine xo_obj d_G_init_1 tw_25 rfl rfl ?_
  refine xo_aload_n 0 d_G_init_4 rfl rfl ?_
  refine xo_new d_G_init_5 xc_5 tw_28 tw_29 tw_2 xdf_5 hb h (fun q1 h hb => ?_)
  refine xo_dup d_G_init_8 rfl ?_
  refine xo_IA (rest := [.ref sz, .ref l0]) [] d_G_init_9 tw_30 yw_Q_init hb h (fun z e => c_Q_init _ _ _ _ _ _ z e) ⟨rfl, rfl⟩ rfl rfl rfl rfl (fun b2 q3 h hb => ?_)
  refine xo_putRF 0 d_G_init_12 xc_0 rfl tw_224 rfl rfl rfl rfl rfl rfl h (fun w4 h => ?_)
  refine xo_aload_n 0 d_G_init_15 rfl rfl ?_
  refine xo_new d_G_init_16 xc_4 tw_79 tw_80 tw_4 xdf_4 hb h (fun q5 h hb => ?_)
  refine xo_dup d_G_init_19 rfl ?_
  refine xo_IAN (rest := [.ref q3.2.2, .ref l0]) [] d_G_init_20 nw_1 yw_P_init hb h (fun z e => c_P_init _ _ _ _ _ _ z e) ⟨rfl, rfl⟩ rfl rfl rfl rfl (fun b6 q7 h hb => ?_)
  refine xo_putRF 1 d_G_init_23 xc_0 rfl tw_225 rfl rfl rfl rfl rfl rfl h (fun w8 h => ?_)
  refine xo_aload_n 0 d_G_init_26 rfl rfl ?_
  refine xo_new d_G_init_27 xc_7 tw_95 tw_96 tw_5 xdf_7 hb h (fun q9 h hb => ?_)
  refine xo_dup d_G_init_30 rfl ?_
  refine xo_aload_n 0 d_G_init_31 rfl rfl ?_
  refine xo_getR 0 d_G_init_32 xc_0 rfl tw_224 rfl h (fun a10 h => ?_)
  refine xo_IA (rest := [.ref q7.2.2, .ref l0]) [.ref a10] d_G_init_35 tw_97 yw_W_init hb h (fun z e => c_W_init _ _ _ _ _ _ _ z e) ⟨rfl, rfl⟩ rfl rfl rfl rfl (fun b11 q12 h hb => ?_)
  refine xo_putRF 2 d_G_init_38 xc_0 rfl tw_226 rfl rfl rfl rfl rfl rfl h (fun w13 h => ?_)
  refine xo_aload_n 0 d_G_init_41 rfl rfl ?_
  refine xo_new d_G_init_42 xc_3 tw_201 tw_202 tw_8 xdf_3 hb h (fun q14 h hb => ?_)
  refine xo_dup d_G_init_45 rfl ?_
  refine xo_aload_n 0 d_G_init_46 rfl rfl ?_
  refine xo_getR 0 d_G_init_47 xc_0 rfl tw_224 rfl h (fun a15 h => ?_)
  refine xo_aload_n 0 d_G_init_50 rfl rfl ?_
  refine xo_getR 1 d_G_init_51 xc_0 rfl tw_225 rfl h (fun a16 h => ?_)
  refine xo_IA (rest := [.ref q12.2.2, .ref l0]) [.ref a15, .ref a16] d_G_init_54 tw_203 yw_M_init hb h (fun z e => c_M_init _ _ _ _ _ _ _ _ z e) ⟨rfl, rfl⟩ rfl rfl rfl rfl (fun b17 q18 h hb => ?_)
  refine xo_putRF 3 d_G_init_57 xc_0 rfl tw_227 rfl rfl rfl rfl rfl rfl h (fun w19 h => ?_)
  exact xo_retVB d_G_init_60 rfl hb h
theorem c_G_init (l : Launch) (D : va_G) (cT : Nat → ClassId) (sz : Nat) (w : xw) (l0 : Nat) (ro : Unit × xw × Nat) (h : f_G_init w sz 375 2653 l0 = some ro) : xM l y_G_init b_G_init 1 t_G_init R_G_init D cT [.ref l0] w sz (none, ro.2.1, ro.2.2) :=
  xm_of bl_G_init rfl rfl (kb_G_init_0 (l, D, cT, [.ref l0], w, sz) ro w sz 375 2653 l0 h ⟨Nat.le_refl _, Nat.le_refl _⟩)
theorem kb_R_init_0 (X : xX) (ro : Unit × xw × Nat) (w : xw) (sz : Nat) (bc : Nat) (bs : Nat) (l0 : Nat) (h : f_R_init w sz bc bs l0 = some ro) : bc ≤ R_R_init.cells ∧ bs ≤ R_R_init.slots → k_R_init X [(0, .ref l0)] [] w sz (R_R_init.cells - bc) (R_R_init.slots - bs) 0 (none, ro.2.1, ro.2.2) := by
  unfold f_R_init at h
  intro hb
  refine xo_aload_n 0 d_R_init_0 rfl rfl ?_
  refine xo_obj d_R_init_1 tw_642 rfl rfl ?_
  refine xo_aload_n 0 d_R_init_4 rfl rfl ?_
  refine xo_bipush d_R_init_5 xbp_24 ?_
  refine xo_newaI d_R_init_7 tw_94 hb h (fun q1 h hb => ?_)
  refine xo_putRF 2 d_R_init_9 xc_8 rfl tw_645 rfl rfl rfl rfl rfl rfl h (fun w2 h => ?_)
  refine xo_aload_n 0 d_R_init_12 rfl rfl ?_
  refine xo_bipush d_R_init_13 xbp_24 ?_
  refine xo_newaI d_R_init_15 tw_94 hb h (fun q3 h hb => ?_)
  refine xo_putRF 3 d_R_init_17 xc_8 rfl tw_646 rfl rfl rfl rfl rfl rfl h (fun w4 h => ?_)
  refine xo_aload_n 0 d_R_init_20 rfl rfl ?_
  refine xo_bipush d_R_init_21 xbp_24 ?_
  refine xo_newaI d_R_init_23 tw_94 hb h (fun q5 h hb => ?_)
  refine xo_putRF 4 d_R_init_25 xc_8 rfl tw_647 rfl rfl rfl rfl rfl rfl h (fun w6 h => ?_)
  refine xo_aload_n 0 d_R_init_28 rfl rfl ?_
  refine xo_bipush d_R_init_29 xbp_24 ?_
  refine xo_newaI d_R_init_31 tw_94 hb h (fun q7 h hb => ?_)
  refine xo_putRF 5 d_R_init_33 xc_8 rfl tw_648 rfl rfl rfl rfl rfl rfl h (fun w8 h => ?_)
  refine xo_aload_n 0 d_R_init_36 rfl rfl ?_
  refine xo_bipush d_R_init_37 xbp_24 ?_
  refine xo_newaI d_R_init_39 tw_94 hb h (fun q9 h hb => ?_)
  refine xo_putRF 6 d_R_init_41 xc_8 rfl tw_649 rfl rfl rfl rfl rfl rfl h (fun w10 h => ?_)
  refine xo_aload_n 0 d_R_init_44 rfl rfl ?_
  refine xo_bipush d_R_init_45 xbp_16 ?_
  refine xo_newaI d_R_init_47 tw_94 hb h (fun q11 h hb => ?_)
  refine xo_putRF 8 d_R_init_49 xc_8 rfl tw_651 rfl rfl rfl rfl rfl rfl h (fun w12 h => ?_)
  refine xo_aload_n 0 d_R_init_52 rfl rfl ?_
  refine xo_sipush d_R_init_53 xsp_260 ?_
  refine xo_newaZ d_R_init_56 tw_200 hb h (fun q13 h hb => ?_)
  refine xo_putRF 9 d_R_init_58 xc_8 rfl tw_652 rfl rfl rfl rfl rfl rfl h (fun w14 h => ?_)
  refine xo_aload_n 0 d_R_init_61 rfl rfl ?_
  refine xo_sipush d_R_init_62 xsp_260 ?_
  refine xo_newaI d_R_init_65 tw_94 hb h (fun q15 h hb => ?_)
  refine xo_putRF 10 d_R_init_67 xc_8 rfl tw_653 rfl rfl rfl rfl rfl rfl h (fun w16 h => ?_)
  refine xo_aload_n 0 d_R_init_70 rfl rfl ?_
  refine xo_sipush d_R_init_71 xsp_260 ?_
  refine xo_newaI d_R_init_74 tw_94 hb h (fun q17 h hb => ?_)
  refine xo_putRF 11 d_R_init_76 xc_8 rfl tw_654 rfl rfl rfl rfl rfl rfl h (fun w18 h => ?_)
  refine xo_aload_n 0 d_R_init_79 rfl rfl ?_
  refine xo_sipush d_R_init_80 xsp_260 ?_
  refine xo_newaL d_R_init_83 tw_719 hb h (fun q19 h hb => ?_)
  refine xo_putRF 12 d_R_init_85 xc_8 rfl tw_655 rfl rfl rfl rfl rfl rfl h (fun w20 h => ?_)
  refine xo_aload_n 0 d_R_init_88 rfl rfl ?_
  refine xo_sipush d_R_init_89 xsp_260 ?_
  refine xo_newaL d_R_init_92 tw_719 hb h (fun q21 h hb => ?_)
  refine xo_putRF 13 d_R_init_94 xc_8 rfl tw_656 rfl rfl rfl rfl rfl rfl h (fun w22 h => ?_)
  refine xo_aload_n 0 d_R_init_97 rfl rfl ?_
  refine xo_sipush d_R_init_98 xsp_260 ?_
  refine xo_newaL d_R_init_101 tw_719 hb h (fun q23 h hb => ?_)
  refine xo_putRF 14 d_R_init_103 xc_8 rfl tw_657 rfl rfl rfl rfl rfl rfl h (fun w24 h => ?_)
  refine xo_aload_n 0 d_R_init_106 rfl rfl ?_
  refine xo_sipush d_R_init_107 xsp_260 ?_
  refine xo_newaL d_R_init_110 tw_719 hb h (fun q25 h hb => ?_)
  refine xo_putRF 15 d_R_init_112 xc_8 rfl tw_658 rfl rfl rfl rfl rfl rfl h (fun w26 h => ?_)
  refine xo_aload_n 0 d_R_init_115 rfl rfl ?_
  refine xo_sipush d_R_init_116 xsp_260 ?_
  refine xo_newaI d_R_init_119 tw_94 hb h (fun q27 h hb => ?_)
  refine xo_putRF 16 d_R_init_121 xc_8 rfl tw_659 rfl rfl rfl rfl rfl rfl h (fun w28 h => ?_)
  refine xo_aload_n 0 d_R_init_124 rfl rfl ?_
  refine xo_bipush d_R_init_125 xbp_25 ?_
  refine xo_newaI d_R_init_127 tw_94 hb h (fun q29 h hb => ?_)
  refine xo_putRF 21 d_R_init_129 xc_8 rfl tw_664 rfl rfl rfl rfl rfl rfl h (fun w30 h => ?_)
  refine xo_aload_n 0 d_R_init_132 rfl rfl ?_
  refine xo_bipush d_R_init_133 xbp_6 ?_
  refine xo_newaI d_R_init_135 tw_94 hb h (fun q31 h hb => ?_)
  refine xo_putRF 23 d_R_init_137 xc_8 rfl tw_666 rfl rfl rfl rfl rfl rfl h (fun w32 h => ?_)
  refine xo_aload_n 0 d_R_init_140 rfl rfl ?_
  refine xo_iconst d_R_init_141 xic_4 ?_
  refine xo_newaI d_R_init_142 tw_94 hb h (fun q33 h hb => ?_)
  refine xo_putRF 24 d_R_init_144 xc_8 rfl tw_667 rfl rfl rfl rfl rfl rfl h (fun w34 h => ?_)
  exact xo_retVB d_R_init_147 rfl hb h
theorem c_R_init (l : Launch) (D : va_G) (cT : Nat → ClassId) (sz : Nat) (w : xw) (l0 : Nat) (ro : Unit × xw × Nat) (h : f_R_init w sz 17 2251 l0 = some ro) : xM l y_R_init b_R_init 1 t_R_init R_R_init D cT [.ref l0] w sz (none, ro.2.1, ro.2.2) :=
  xm_of bl_R_init rfl rfl (kb_R_init_0 (l, D, cT, [.ref l0], w, sz) ro w sz 17 2251 l0 h ⟨Nat.le_refl _, Nat.le_refl _⟩)
